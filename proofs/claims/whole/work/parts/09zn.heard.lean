/-! heard -/
def hcs (p : Nat) (c d : Nat → Int32) : Nat → Int32
  | 0 => 0
  | k + 1 => if k < p ∧ ¬ c k = -1000000005 ∧ c k = d k then hcs p c d k + 1 else hcs p c d k
theorem hcs_end (p : Nat) (c d : Nat → Int32) : ∀ k, hcs p c d (p + k) = hcs p c d p
  | 0 => rfl
  | k + 1 => by
    show (if p + k < p ∧ _ then _ else hcs p c d (p + k)) = _
    rw [if_neg (fun z => absurd z.1 (by omega)), hcs_end p c d k]
theorem to_loop {σ : hw_St} {N : Nat → Int32} {w h T : Nat} (H : hv_Sc σ 1 N w h T) {q p : Nat} (hq : q < 4) (p24 : p ≤ 24) (hp : σ (60 + q) 1 = nI p) {c : Nat → Int32} (hc : ∀ j, j < 24 → σ (64 + q) j = c j) {f : Nat → Int32} (hv : hv_W f) : ∀ (d j n : Nat) (g : Nat → Int32), j + d = 24 → d < n → ∃ g', L_X6_tonesOn_21 n (60 + q) (hcs p c (dT N T h f) j) (nI j) (nf σ 11 g (dF N T h f j)) = some (hcs p c (dT N T h f) 24, nf σ 11 g' (dF N T h f 24)) := by
  obtain ⟨l1, l2, l3, l4, l5⟩ := shF q hq
  intro d
  induction d with
  | zero =>
    intro j n g hj hn
    obtain ⟨n, rfl⟩ : ∃ q, n = q + 1 := ⟨n - 1, by omega⟩
    have : j = 24 := by omega
    subst this
    refine ⟨g, ?_⟩
    show S_X6_tonesOn_21 (L_X6_tonesOn_21 n) (60 + q) _ (nI 24) _ = _
    unfold S_X6_tonesOn_21
    rw [if_pos (by decide)]
  | succ d ih =>
    intro j n g hj hn
    obtain ⟨n, rfl⟩ : ∃ q, n = q + 1 := ⟨n - 1, by omega⟩
    obtain ⟨g1, e1⟩ := th6 (Or.inl rfl) (Sc_Lc H) (dF_W (N := N) (T := T) (h := h) hv j) (dW N h j) g
    obtain ⟨g2, e2⟩ := ih (j + 1) n g1 (by omega) (by omega)
    refine ⟨g2, ?_⟩
    rw [← e2]
    show S_X6_tonesOn_21 (L_X6_tonesOn_21 n) (60 + q) _ (nI j) _ = _
    unfold S_X6_tonesOn_21 B_X6_tonesOn_74
    have r60 : nf σ 11 g1 (tkR N T (dF N T h f j) (dW N h j)) (60 + q) = σ (60 + q) := nf_o _ _ _ (by omega) (by omega)
    have r64 : nf σ 11 g1 (tkR N T (dF N T h f j) (dW N h j)) (64 + q) = σ (64 + q) := nf_o _ _ _ (by omega) (by omega)
    rw [if_neg (show ¬ (24 : Int32) ≤ nI j from iNle.mpr (nI_lt (b := 24) (by omega) (by decide))), wind6 (Or.inl rfl) H (by omega), hw_bd_s, e1, hw_bd_s, X3_num hq (by rw [r60]; exact hp) p24 (by omega), hw_bd_s, l3, hw_gd_t l4, l5, hw_gd_t (inb_nI (by omega) (by decide)), nI_clamp (by omega), r64, hc j (by omega), show nI j + 1 = nI (j + 1) from nI_add j 1]
    have u : hcs p c (dT N T h f) (j + 1) = (if j < p ∧ ¬ c j = -1000000005 ∧ c j = dT N T h f j then hcs p c (dT N T h f) j + 1 else hcs p c (dT N T h f) j) := rfl
    rw [u]
    by_cases h1 : j < p ∧ ¬ c j = -1000000005
    · rw [if_pos h1, if_neg (by decide)]
      by_cases h2 : c j = dT N T h f j
      · rw [if_pos (show c j = tkT N T (dF N T h f j) (dW N h j) from h2), if_pos ⟨h1.1, h1.2, h2⟩]; rfl
      · rw [if_neg (show ¬ c j = tkT N T (dF N T h f j) (dW N h j) from h2), if_neg (fun z => h2 z.2.2)]; rfl
    · rw [if_neg h1, if_pos rfl, if_neg (fun z => h1 ⟨z.1, z.2.1⟩)]; rfl
theorem X6_tones {σ : hw_St} {N : Nat → Int32} {w h T : Nat} (H : hv_Sc σ 1 N w h T) (B : hv_Bo σ) {q p : Nat} (hq : q < 4) (p24 : p ≤ 24) (hp : σ (60 + q) 1 = nI p) {c : Nat → Int32} (hc : ∀ j, j < 24 → σ (64 + q) j = c j) {k : Nat} (hk : k < w) (g f : Nat → Int32) : ∃ g' f', F_X6_tonesOn (60 + q) (nI k) (nf σ 11 g f) = some (hcs p c (dT N T h (rw_ N k)) 24, nf σ 11 g' f') := by
  obtain ⟨l1, l2, l3, l4, l5⟩ := shF q hq
  have h6 : k < 6 := Nat.lt_of_lt_of_le hk H.bw
  obtain ⟨f1, e1, e2⟩ := bec11 (σ := σ) (elS' k h6).1.2 (by omega) g f (B _ (by omega) (by omega))
  have e3 : e7 f1 (rw_ N k) := fun j hj => by rw [e2 j hj]; exact W_rows H hk j hj
  obtain ⟨g', e4⟩ := to_loop H hq p24 hp hc (W_cg e3 (H.ww k hk)) 24 0 130 g (by omega) (by omega)
  refine ⟨g', dF N T h f1 24, ?_⟩
  unfold F_X6_tonesOn
  rw [hw_gd_t l2, hw_gd_t (inb_nI h6 (by decide)), nI_clamp (by omega), (elS' k h6).1.1, hw_gd_t (elS' k h6).1.2, e1, hw_bd_s]
  refine Eq.trans e4 ?_
  rw [show dT N T h f1 = dT N T h (rw_ N k) from funext (fun j => dT_cg e3 j)]
theorem ho_loop {q p : Nat} (hq : q < 4) (p24 : p ≤ 24) (w30 : Int32 → Int32 → Int32 → Int32 → hw_St → Option (Int32 × hw_St)) {τ : hw_St} (h5 : τ 215 q = nI p) {d5 : Nat → Int32} (hd : ∀ j, j < 24 → τ 205 j = d5 j) (l2 l3 l4 : Int32) : ∀ (d j n : Nat), j + d = p → d < n → L_X7_heard_53 w30 n (nI q) l2 l3 l4 (hcs p (fun j => τ 216 (24 * q + j)) d5 j) (nI j) τ = w30 (nI q) (if hcs p (fun j => τ 216 (24 * q + j)) d5 p ≤ l3 then l2 else l4) (if hcs p (fun j => τ 216 (24 * q + j)) d5 p ≤ l3 then l3 else hcs p (fun j => τ 216 (24 * q + j)) d5 p) (l4 + 1) τ := by
  intro d
  induction d with
  | zero =>
    intro j n hj hn
    obtain ⟨n, rfl⟩ : ∃ q, n = q + 1 := ⟨n - 1, by omega⟩
    have : j = p := by omega
    subst this
    show S_X7_heard_53 w30 (L_X7_heard_53 w30 n) (nI q) l2 l3 l4 _ (nI j) τ = _
    unfold S_X7_heard_53 B_X7_heard_125 B_X7_heard_138
    rw [hw_gd_t (inb_nI hq (by decide)), nI_clamp (by omega), h5, if_pos (Int32.le_refl _)]
    by_cases z : hcs j (fun j => τ 216 (24 * q + j)) d5 j ≤ l3
    · rw [if_pos z, if_pos z, if_pos z, if_pos z]
    · rw [if_neg z, if_neg z, if_neg z, if_neg z]
  | succ d ih =>
    intro j n hj hn
    obtain ⟨n, rfl⟩ : ∃ q, n = q + 1 := ⟨n - 1, by omega⟩
    refine Eq.trans ?_ (ih (j + 1) n (by omega) (by omega))
    show S_X7_heard_53 w30 (L_X7_heard_53 w30 n) (nI q) l2 l3 l4 _ (nI j) τ = _
    unfold S_X7_heard_53 B_X7_heard_103 B_X7_heard_104
    rw [hw_gd_t (inb_nI hq (by decide)), nI_clamp (by omega), h5, if_neg (iNle.mpr (nI_lt (by omega) (by omega))), ix24, hw_gd_t (inb_nI (by omega) (by decide)), nI_clamp (by omega), hw_nm_s, hw_nm_s, hw_nm_s, hw_gd_t (inb_nI (by omega) (by decide)), nI_clamp (by omega), hd j (by omega), show nI j + 1 = nI (j + 1) from nI_add j 1, Int32.add_zero]
    have u : hcs p (fun j => τ 216 (24 * q + j)) d5 (j + 1) = (if j < p ∧ ¬ τ 216 (24 * q + j) = -1000000005 ∧ τ 216 (24 * q + j) = d5 j then hcs p (fun j => τ 216 (24 * q + j)) d5 j + 1 else hcs p (fun j => τ 216 (24 * q + j)) d5 j) := rfl
    rw [u]
    by_cases h1 : τ 216 (24 * q + j) = -1000000005
    · rw [if_pos h1, if_neg (fun z => z.2.1 h1)]
    · rw [if_neg h1]
      by_cases h2 : τ 216 (24 * q + j) = d5 j
      · rw [if_pos h2, if_pos ⟨by omega, h1, h2⟩]
      · rw [if_neg h2, if_neg (fun z => h2 z.2.2)]
theorem he_loop {σ τ : hw_St} {w h T : Nat} (A : hv_Sc σ 1 (τ 201) w h T) (B : hv_Bo σ) {q p : Nat} (hq : q < 4) (p24 : p ≤ 24) (hp : σ (60 + q) 1 = nI p) (hp7 : τ 215 q = nI p) (hc : ∀ j, j < 24 → σ (64 + q) j = τ 216 (24 * q + j)) : ∀ (d k n : Nat) (g f : Nat → Int32) (τ' : hw_St) (l2 l3 : Int32), k + d = w → d < n → kq τ τ' → τ' 201 = τ 201 → ∃ r g' f' τ'', L_X6_heard_33 n (nI q) l2 l3 (nI k) (nf σ 11 g f) = some (r, nf σ 11 g' f') ∧ L_X7_heard_30 n (nI q) l2 l3 (nI k) τ' = some (r, τ'') ∧ kq τ τ'' ∧ τ'' 201 = τ 201 := by
  obtain ⟨l1, l2', l3', l4, l5⟩ := shF q hq
  have hb6 := A.bw
  intro d
  induction d with
  | zero =>
    intro k n g f τ' l2 l3 hk hn kk e
    obtain ⟨n, rfl⟩ : ∃ q, n = q + 1 := ⟨n - 1, by omega⟩
    have : k = w := by omega
    subst this
    refine ⟨l2, g, f, τ', ?_, ?_, kk, e⟩
    · show S_X6_heard_33 (L_X6_heard_33 n) (nI q) l2 l3 (nI k) _ = _
      unfold S_X6_heard_33
      rw [nf_o _ _ _ (by decide) (by decide), A.s6, if_pos (Int32.le_refl _)]
    · show S_X7_heard_30 (L_X7_heard_30 n) (nI q) l2 l3 (nI k) _ = _
      unfold S_X7_heard_30
      rw [hw_gd_t (by decide), show ((1 : Int32).toNatClampNeg) = 1 from rfl, e, A.n1, if_pos (Int32.le_refl _)]
  | succ d ih =>
    intro k n g f τ' l2 l3 hk hn kk e
    obtain ⟨n, rfl⟩ : ∃ q, n = q + 1 := ⟨n - 1, by omega⟩
    have hkw : k < w := by omega
    have h6 : k < 6 := by omega
    obtain ⟨g1, f1, e1⟩ := X6_tones A B hq p24 hp hc hkw g f
    obtain ⟨τ1, d1, d2, d3, -, -, -, d7⟩ := X7_day (i := k) (τ := τ') (T := T) (h := h) h6 (by rw [e]; exact Sc_Mc A) A.bh (by rw [e]; exact A.n2) (by rw [e]; exact A.ww k hkw)
    rw [e] at d3 d7
    have kk1 := kq_tr kk d2
    have q15 : τ1 215 = τ 215 := kk1.1 215 (by omega)
    have q16 : τ1 216 = τ 216 := kk1.1 216 (by omega)
    have o1 := ho_loop hq p24 (L_X7_heard_30 n) (τ := τ1) (by rw [q15]; exact hp7) d7 l2 l3 (nI k) p 0 130 (by omega) (by omega)
    rw [q16] at o1
    have eq24 : hcs p (fun j => τ 216 (24 * q + j)) (dT (τ 201) T h (rw_ (τ 201) k)) 24 = hcs p (fun j => τ 216 (24 * q + j)) (dT (τ 201) T h (rw_ (τ 201) k)) p := by
      have := hcs_end p (fun j => τ 216 (24 * q + j)) (dT (τ 201) T h (rw_ (τ 201) k)) (24 - p)
      rw [show p + (24 - p) = 24 by omega] at this
      exact this
    rw [eq24] at e1
    obtain ⟨r, g2, f2, τ2, t1, t2, t3, t4⟩ := ih (k + 1) n g1 f1 τ1 (if hcs p (fun j => τ 216 (24 * q + j)) (dT (τ 201) T h (rw_ (τ 201) k)) p ≤ l3 then l2 else nI k) (if hcs p (fun j => τ 216 (24 * q + j)) (dT (τ 201) T h (rw_ (τ 201) k)) p ≤ l3 then l3 else hcs p (fun j => τ 216 (24 * q + j)) (dT (τ 201) T h (rw_ (τ 201) k)) p) (by omega) (by omega) kk1 d3
    refine ⟨r, g2, f2, τ2, ?_, ?_, t3, t4⟩
    · rw [← t1]
      show S_X6_heard_33 (L_X6_heard_33 n) (nI q) l2 l3 (nI k) _ = _
      unfold S_X6_heard_33 B_X6_heard_71
      rw [nf_o _ _ _ (by decide) (by decide), A.s6, if_neg (iNle.mpr (nI_lt (by omega) (by omega))), hw_gd_t (inb_nI hq (by decide)), nI_clamp (by omega), l1, hw_gd_t l2', e1, hw_bd_s, show nI k + 1 = nI (k + 1) from nI_add k 1]
      by_cases z : hcs p (fun j => τ 216 (24 * q + j)) (dT (τ 201) T h (rw_ (τ 201) k)) p ≤ l3
      · rw [if_pos z, if_pos z, if_pos z]
      · rw [if_neg z, if_neg z, if_neg z]
    · rw [← t2]
      show S_X7_heard_30 (L_X7_heard_30 n) (nI q) l2 l3 (nI k) _ = _
      unfold S_X7_heard_30
      rw [hw_gd_t (by decide), show ((1 : Int32).toNatClampNeg) = 1 from rfl, e, A.n1, if_neg (iNle.mpr (nI_lt (by omega) (by omega))), d1, hw_bd_s]
      refine Eq.trans o1 ?_
      rw [show nI k + 1 = nI (k + 1) from nI_add k 1]
theorem sim_heard : hw_sim1 hv_R F_X6_heard F_X7_heard := by
  intro a σ τ HR
  have HR' := HR
  obtain ⟨w, h, T, A, I, B, E⟩ := HR
  have hb6 := A.bw
  by_cases ha : 0 ≤ a ∧ a ≤ 3
  · obtain ⟨q, hq', rfl⟩ := ix_to (m := 3) rfl ha.1 ha.2
    have hq : q < 4 := by omega
    obtain ⟨l1, l2, l3, l4, l5⟩ := shF q hq
    obtain ⟨e1, e2, ⟨p, p24, e3, e3'⟩, e4⟩ := E.sh q hq
    by_cases hm : 0 ≤ τ 214 q
    · have nm : ¬ τ 214 q = -1 := (ms_iff e2).mp hm
      obtain ⟨r, g', f', τ'', k1, k2, k3, k4⟩ := he_loop A B hq p24 e3 e3' e4 w 0 130 (σ 10) (σ 11) τ (-1000000005) (-1) (by omega) (by omega) (kq_rf τ) rfl
      refine ⟨r, nf σ 11 g' f', τ'', ?_, ?_, R_kq HR' k3 k4 (fun t h1 h2 => nf_o _ g' f' h2 h1)⟩
      · rw [← nf_s σ (by decide)] at k1
        unfold F_X6_heard
        rw [X6_isSheet, hw_bd_s, if_pos ha, if_neg (by decide), hw_gd_t (inb_nI hq (by decide)), nI_clamp (by omega), l1, hw_gd_t l2, X3_miss hq, hw_bd_s, e1, if_neg nm, if_pos rfl]
        exact k1
      · unfold F_X7_heard
        rw [X7_isSheet, hw_bd_s, if_pos ha, if_neg (by decide), hw_gd_t (inb_nI hq (by decide)), nI_clamp (by omega), if_pos hm]
        exact k2
    · have nm : τ 214 q = -1 := Decidable.byContradiction (fun g => hm ((ms_iff e2).mpr g))
      refine ⟨-1000000011, σ, τ, ?_, ?_, HR'⟩
      · unfold F_X6_heard
        rw [X6_isSheet, hw_bd_s, if_pos ha, if_neg (by decide), hw_gd_t (inb_nI hq (by decide)), nI_clamp (by omega), l1, hw_gd_t l2, X3_miss hq, hw_bd_s, e1, if_pos nm, if_neg (by decide)]
      · unfold F_X7_heard
        rw [X7_isSheet, hw_bd_s, if_pos ha, if_neg (by decide), hw_gd_t (inb_nI hq (by decide)), nI_clamp (by omega), if_neg hm]
  · refine ⟨-1000000001, σ, τ, ?_, ?_, HR'⟩
    · unfold F_X6_heard; rw [X6_isSheet, hw_bd_s, if_neg ha, if_pos rfl]
    · unfold F_X7_heard; rw [X7_isSheet, hw_bd_s, if_neg ha, if_pos rfl]
