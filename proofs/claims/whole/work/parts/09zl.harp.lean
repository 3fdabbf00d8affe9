/-! harp, lumps: a day with one part of the wire changed -/
theorem hq_uu (f : Nat → Int32) (k : Nat) (a b : Int32) : upd (upd f k a) k b = upd f k b := by
  funext j
  unfold upd
  by_cases e : j = k
  · rw [if_pos e, if_pos e]
  · rw [if_neg e, if_neg e, if_neg e]
theorem hq_ui (f : Nat → Int32) (k : Nat) : upd f k (f k) = f := by
  funext j
  unfold upd
  by_cases e : j = k
  · rw [if_pos e, e]
  · rw [if_neg e]
theorem W_own {f : Nat → Int32} (hv : hv_W f) {v : Int32} (h : 1 ≤ v ∧ v ≤ 999) : hv_W (upd f 2 v) := by
  obtain ⟨h0, h1, h2, h3, h4, h5⟩ := hv
  exact ⟨h0, h1, h, h3, h4, h5⟩
theorem W_loss {f : Nat → Int32} (hv : hv_W f) {v : Int32} (h : 0 ≤ v ∧ v ≤ 9) : hv_W (upd f 3 v) := by
  obtain ⟨h0, h1, h2, h3, h4, h5⟩ := hv
  exact ⟨h0, h1, h2, h, h4, h5⟩
theorem day7u {σ : hw_St} {N : Nat → Int32} {w h T : Nat} (A : hv_Sc σ 1 N w h T) {i : Nat} (hi : i < w) {k : Nat} (hk : k < 7) {v : Int32} (hv : hv_W (upd (rw_ N i) k v)) {τ : hw_St} (e : τ 201 = upd N (29 + 7 * i + k) v) : ∃ τ', F_X7_findDay (nI i) τ = some ((), τ') ∧ kq τ τ' ∧ τ' 201 = upd N (29 + 7 * i + k) v ∧ τ' 200 5 = nI (dC N T h (upd (rw_ N i) k v) 24) ∧ τ' 200 6 = dF N T h (upd (rw_ N i) k v) 24 6 := by
  have h6 : i < 6 := Nat.lt_of_lt_of_le hi A.bw
  have G : ag N (upd N (29 + 7 * i + k) v) := ag_upd h6 hk v
  obtain ⟨τ', f1, f2, f3, f4, f5, -, -⟩ := X7_day (τ := τ) (T := T) (h := h) h6 (by rw [e]; exact ag_Mc G (Sc_Mc A)) A.bh (by rw [e, G 2 (by omega)]; exact A.n2) (by rw [e, rw_upd]; exact hv)
  rw [e] at f3 f4 f5
  rw [rw_upd, dC_ag G] at f4
  rw [rw_upd, dF_ag G] at f5
  exact ⟨τ', f1, f2, f3, f4, f5⟩
theorem day6u {σ : hw_St} {N : Nat → Int32} {w h T : Nat} (A : hv_Sc σ 1 N w h T) (B : hv_Bo σ) {i : Nat} (hi : i < w) {k : Nat} {v : Int32} (hv : hv_W (upd (rw_ N i) k v)) (c : Int32) (g f : Nat → Int32) : ∃ f' g' f'', F_X5_become 11 (18 + i) (nf σ 11 g f) = some ((), nf σ 11 g f') ∧ F_X6_thinkDay c (hw_up (nf σ 11 g f') 11 k v) = some (dayv N T h (upd (rw_ N i) k v) c, nf σ 11 g' f'') := by
  have h6 : i < 6 := Nat.lt_of_lt_of_le hi A.bw
  obtain ⟨f', e1, e2⟩ := bec11 (σ := σ) (elS' i h6).1.2 (by omega) g f (B _ (by omega) (by omega))
  have e3 : e7 f' (rw_ N i) := fun k hk => by rw [e2 k hk]; exact W_rows A hi k hk
  have e4 : e7 (upd f' k v) (upd (rw_ N i) k v) := upd_e7 e3 rfl
  obtain ⟨g', e5⟩ := X6_day A (W_cg e4 hv) c g
  refine ⟨f', g', dF N T h (upd f' k v) 24, e1, ?_⟩
  rw [nf_up, e5, dayv_cg e4]
theorem dayv_0 (N : Nat → Int32) (T h : Nat) (f : Nat → Int32) : dayv N T h f 0 = nI (dC N T h f 24) := by unfold dayv; rw [if_pos rfl]
theorem dayv_1 (N : Nat → Int32) (T h : Nat) (f : Nat → Int32) : dayv N T h f 1 = dF N T h f 24 6 := by unfold dayv; rw [if_neg (by decide), if_pos rfl]
theorem hq_five {k : Nat} : nI (5 * k) + 5 = nI (5 * (k + 1)) := by
  rw [show (5 : Int32) = nI 5 from rfl, nI_add, show 5 * k + 5 = 5 * (k + 1) by omega]
theorem hp_step7 {σ : hw_St} {N : Nat → Int32} {w h T : Nat} (A : hv_Sc σ 1 N w h T) {i : Nat} (hi : i < w) {k : Nat} (hk1 : 1 ≤ k) (hk : k ≤ 100) (b x9 l5 l6 : Int32) (n : Nat) {τ : hw_St} {v : Int32} (e : τ 201 = upd N (29 + 7 * i + 2) v) : ∃ τ', L_X7_harp_47 (n + 1) (nI i) b (nI (29 + 7 * i + 2)) x9 l5 l6 (nI (5 * k)) τ = L_X7_harp_47 n (nI i) b (nI (29 + 7 * i + 2)) x9 (if nI (dC N T h (upd (rw_ N i) 2 (nI (5 * k))) 24) ≤ l6 then l5 else nI (5 * k)) (if nI (dC N T h (upd (rw_ N i) 2 (nI (5 * k))) 24) ≤ l6 then l6 else nI (dC N T h (upd (rw_ N i) 2 (nI (5 * k))) 24)) (nI (5 * (k + 1))) τ' ∧ kq τ τ' ∧ τ' 201 = upd N (29 + 7 * i + 2) (nI (5 * k)) := by
  have hb6 := A.bw
  have e1 : hw_up τ 201 (29 + 7 * i + 2) (nI (5 * k)) 201 = upd N (29 + 7 * i + 2) (nI (5 * k)) := by rw [up_self, e, hq_uu]
  obtain ⟨τ', f1, f2, f3, f4, -⟩ := day7u A hi (k := 2) (by decide) (W_own (A.ww i hi) ⟨nI_le (a := 1) (by omega) (by omega), nI_le (b := 999) (by omega) (by decide)⟩) e1
  refine ⟨τ', ?_, kq_tr (kq_upA _ _ (by omega)) f2, f3⟩
  show S_X7_harp_47 (L_X7_harp_47 n) (nI i) b (nI (29 + 7 * i + 2)) x9 l5 l6 (nI (5 * k)) τ = _
  unfold S_X7_harp_47
  rw [if_neg (show ¬ (500 : Int32) < nI (5 * k) from iNlt.mpr (nI_le (b := 500) (by omega) (by decide))), hw_gd_t (inb_nI (by omega) (by decide)), nI_clamp (by omega), hw_nm_s, f1, hw_bd_s]
  unfold B_X7_harp_84 B_X7_harp_104
  rw [f4, hq_five]
  by_cases q : nI (dC N T h (upd (rw_ N i) 2 (nI (5 * k))) 24) ≤ l6
  · rw [if_pos q, if_pos q, if_pos q, if_pos q]
  · rw [if_neg q, if_neg q, if_neg q, if_neg q]
theorem hp_end7 {N : Nat → Int32} {i : Nat} (hi : i < 6) (b l5 l6 : Int32) (n : Nat) {τ : hw_St} {v : Int32} (e : τ 201 = upd N (29 + 7 * i + 2) v) : L_X7_harp_47 (n + 1) (nI i) b (nI (29 + 7 * i + 2)) (N (29 + 7 * i + 2)) l5 l6 (nI 505) τ = some (if b = 0 then l5 else l6, hw_upA τ 201 N) := by
  show S_X7_harp_47 (L_X7_harp_47 n) (nI i) b (nI (29 + 7 * i + 2)) _ l5 l6 (nI 505) τ = _
  unfold S_X7_harp_47
  rw [if_pos (by decide), hw_gd_t (inb_nI (by omega) (by decide)), nI_clamp (by omega), hw_nm_s, up_upA, e, hq_uu, hq_ui]
  split <;> rfl
/-- once 24 hours are held nothing more is found -/
theorem hp_full {σ : hw_St} {N : Nat → Int32} {w h T : Nat} (A : hv_Sc σ 1 N w h T) {i : Nat} (hi : i < w) (b l5 : Int32) {l6 : Int32} (hl : 24 ≤ l6) : ∀ (d k n : Nat) (τ : hw_St) (v : Int32), 1 ≤ k → k + d = 101 → d < n → τ 201 = upd N (29 + 7 * i + 2) v → ∃ τ', L_X7_harp_47 n (nI i) b (nI (29 + 7 * i + 2)) (N (29 + 7 * i + 2)) l5 l6 (nI (5 * k)) τ = some (if b = 0 then l5 else l6, τ') ∧ kq τ τ' ∧ τ' 201 = N := by
  intro d
  induction d with
  | zero =>
    intro k n τ v h1 hk hn e
    obtain ⟨n, rfl⟩ : ∃ q, n = q + 1 := ⟨n - 1, by omega⟩
    have : k = 101 := by omega
    subst this
    exact ⟨_, hp_end7 (Nat.lt_of_lt_of_le hi A.bw) b l5 l6 n e, kq_upA _ _ (by omega), upA_self _ _ _⟩
  | succ d ih =>
    intro k n τ v h1 hk hn e
    obtain ⟨n, rfl⟩ : ∃ q, n = q + 1 := ⟨n - 1, by omega⟩
    obtain ⟨τ1, s1, s2, s3⟩ := hp_step7 A hi (k := k) h1 (by omega) b (N (29 + 7 * i + 2)) l5 l6 n e
    obtain ⟨τ2, t1, t2, t3⟩ := ih (k + 1) n τ1 _ (by omega) (by omega) (by omega) s3
    have le : nI (dC N T h (upd (rw_ N i) 2 (nI (5 * k))) 24) ≤ l6 := Int32.le_trans (nI_le (b := 24) (dC_le _ _ _ _ _) (by decide)) hl
    rw [if_pos le, if_pos le] at s1
    exact ⟨τ2, by rw [s1]; exact t1, kq_tr s2 t2, t3⟩
theorem hp_loop {σ τ : hw_St} {N : Nat → Int32} {w h T : Nat} (A : hv_Sc σ 1 N w h T) (B : hv_Bo σ) {i : Nat} (hi : i < w) (b : Int32) : ∀ (d k n : Nat) (g f : Nat → Int32) (τ' : hw_St) (v l4 l5 : Int32), 1 ≤ k → k + d = 101 → d < n → τ' 201 = upd N (29 + 7 * i + 2) v → kq τ τ' → ∃ r g' f' τ'', L_X6_harp_34 n b (18 + i) l4 l5 (nI (5 * k)) (nf σ 11 g f) = some (r, nf σ 11 g' f') ∧ L_X7_harp_47 n (nI i) b (nI (29 + 7 * i + 2)) (N (29 + 7 * i + 2)) l4 l5 (nI (5 * k)) τ' = some (r, τ'') ∧ kq τ τ'' ∧ τ'' 201 = N := by
  have hb6 := A.bw
  intro d
  induction d with
  | zero =>
    intro k n g f τ' v l4 l5 h1 hk hn e kk
    obtain ⟨n, rfl⟩ : ∃ q, n = q + 1 := ⟨n - 1, by omega⟩
    have : k = 101 := by omega
    subst this
    refine ⟨if b = 0 then l4 else l5, g, f, _, ?_, hp_end7 (by omega) b l4 l5 n e, kq_tr kk (kq_upA _ _ (by omega)), upA_self _ _ _⟩
    show S_X6_harp_34 (L_X6_harp_34 n) b (18 + i) l4 l5 (nI 505) _ = _
    unfold S_X6_harp_34 B_X6_harp_94
    rw [if_pos (by decide)]
    split <;> rfl
  | succ d ih =>
    intro k n g f τ' v l4 l5 h1 hk hn e kk
    obtain ⟨n, rfl⟩ : ∃ q, n = q + 1 := ⟨n - 1, by omega⟩
    have nl : ¬ (500 : Int32) < nI (5 * k) := iNlt.mpr (nI_le (b := 500) (by omega) (by decide))
    by_cases hl : 24 ≤ l5
    · obtain ⟨τ2, t1, t2, t3⟩ := hp_full A hi b l4 hl (d + 1) k (n + 1) τ' v h1 hk hn e
      refine ⟨if b = 0 then l4 else l5, g, f, τ2, ?_, t1, kq_tr kk t2, t3⟩
      show S_X6_harp_34 (L_X6_harp_34 n) b (18 + i) l4 l5 (nI (5 * k)) _ = _
      unfold S_X6_harp_34 B_X6_harp_94
      rw [if_neg nl, if_pos hl]
      split <;> rfl
    · obtain ⟨τ1, s1, s2, s3⟩ := hp_step7 A hi (k := k) h1 (by omega) b (N (29 + 7 * i + 2)) l4 l5 n e
      obtain ⟨f', g', f'', u1, u2⟩ := day6u A B hi (k := 2) (v := nI (5 * k)) (W_own (A.ww i hi) ⟨nI_le (a := 1) (by omega) (by omega), nI_le (b := 999) (by omega) (by decide)⟩) 0 g f
      have u2' : F_X6_thinkDay 0 (hw_up (nf σ 11 g f') 11 2 (nI (5 * k))) = some (nI (dC N T h (upd (rw_ N i) 2 (nI (5 * k))) 24), nf σ 11 g' f'') := by rw [← dayv_0]; exact u2
      obtain ⟨r, g2, f2, τ2, t1, t2, t3, t4⟩ := ih (k + 1) n g' f'' τ1 (nI (5 * k)) (if nI (dC N T h (upd (rw_ N i) 2 (nI (5 * k))) 24) ≤ l5 then l4 else nI (5 * k)) (if nI (dC N T h (upd (rw_ N i) 2 (nI (5 * k))) 24) ≤ l5 then l5 else nI (dC N T h (upd (rw_ N i) 2 (nI (5 * k))) 24)) (by omega) (by omega) (by omega) s3 (kq_tr kk s2)
      refine ⟨r, g2, f2, τ2, ?_, by rw [s1]; exact t2, t3, t4⟩
      rw [← t1]
      show S_X6_harp_34 (L_X6_harp_34 n) b (18 + i) l4 l5 (nI (5 * k)) _ = _
      unfold S_X6_harp_34 B_X6_harp_88
      rw [if_neg nl, if_neg hl, u1, hw_bd_s, hw_nm_s, u2', hw_bd_s, hq_five]
      by_cases q : nI (dC N T h (upd (rw_ N i) 2 (nI (5 * k))) 24) ≤ l5
      · rw [if_pos q, if_pos q, if_pos q]
      · rw [if_neg q, if_neg q, if_neg q]
theorem sim_harp : hw_sim2 hv_R F_X6_harp F_X7_harp := by
  intro a b σ τ HR
  have HR' := HR
  obtain ⟨w, h, T, A, I, B, E⟩ := HR
  have hb6 := A.bw
  by_cases ha : ∃ i, i < w ∧ a = nI i
  · obtain ⟨i, hi, rfl⟩ := ha
    have h6 : i < 6 := by omega
    by_cases hc : 0 ≤ b ∧ b ≤ 1
    · obtain ⟨r, g', f', τ'', k1, k2, k3, k4⟩ := hp_loop (τ := τ) A B hi b 100 1 130 (σ 10) (σ 11) τ (τ 201 (29 + 7 * i + 2)) 0 (-1) (by omega) (by omega) (by omega) (hq_ui _ _).symm (kq_rf τ)
      refine ⟨r, nf σ 11 g' f', τ'', ?_, ?_, R_kq HR' k3 k4 (fun t h1 h2 => nf_o _ g' f' h2 h1)⟩
      · rw [← nf_s σ (by decide)] at k1
        unfold F_X6_harp
        rw [wireAt_yes (Or.inl rfl) A hi, hw_bd_s, if_neg (by omega), X6_isWithin, hw_bd_s, if_pos hc, if_neg (by decide)]
        exact k1
      · unfold F_X7_harp
        rw [isWire_yes A hi, hw_bd_s, if_neg (by decide), X7_in, hw_bd_s, if_pos hc, if_neg (by decide), hw_nm_s, ixW0, show nI (29 + 7 * i) + 2 = nI (29 + 7 * i + 2) from nI_add _ 2, hw_gd_t (inb_nI (by omega) (by decide)), hw_nm_s, nI_clamp (by omega)]
        exact k2
    · refine ⟨-1000000001, σ, τ, ?_, ?_, HR'⟩
      · unfold F_X6_harp
        rw [wireAt_yes (Or.inl rfl) A hi, hw_bd_s, if_neg (by omega), X6_isWithin, hw_bd_s, if_neg hc, if_pos rfl]
      · unfold F_X7_harp
        rw [isWire_yes A hi, hw_bd_s, if_neg (by decide), X7_in, hw_bd_s, if_neg hc, if_pos rfl]
  · refine ⟨-1000000001, σ, τ, ?_, ?_, HR'⟩
    · unfold F_X6_harp; rw [wireAt_no (Or.inl rfl) A ha, hw_bd_s, if_pos rfl]
    · unfold F_X7_harp; rw [isWire_no A ha, hw_bd_s, if_pos rfl]
theorem lu_96 {N : Nat → Int32} {i : Nat} (hi : i < 6) (l5 : Int32) {τ : hw_St} {v : Int32} (e : τ 201 = upd N (29 + 7 * i + 3) v) : B_X7_lumps_96 (nI (29 + 7 * i + 3)) (N (29 + 7 * i + 3)) l5 τ = some (l5, hw_upA τ 201 N) := by
  unfold B_X7_lumps_96
  rw [hw_gd_t (inb_nI (by omega) (by decide)), nI_clamp (by omega), hw_nm_s, up_upA, e, hq_uu, hq_ui]
theorem lu_loop {σ τ : hw_St} {N : Nat → Int32} {w h T : Nat} (A : hv_Sc σ 1 N w h T) (B : hv_Bo σ) {i : Nat} (hi : i < w) (b : Int32) : ∀ (d k n : Nat) (g f : Nat → Int32) (τ' : hw_St) (v : Int32), k + d = 10 → d + 1 < n → τ' 201 = upd N (29 + 7 * i + 3) v → kq τ τ' → ∃ r g' f' τ'', L_X6_lumps_29 n b (18 + i) (nI k) (nf σ 11 g f) = some (r, nf σ 11 g' f') ∧ L_X7_lumps_46 n (nI i) b (nI (29 + 7 * i + 3)) (N (29 + 7 * i + 3)) (-1000000005) (nI k) τ' = some (r, τ'') ∧ kq τ τ'' ∧ τ'' 201 = N := by
  have hb6 := A.bw
  have h6 : i < 6 := by omega
  intro d
  induction d with
  | zero =>
    intro k n g f τ' v hk hn e kk
    obtain ⟨n, rfl⟩ : ∃ q, n = q + 1 := ⟨n - 1, by omega⟩
    have : k = 10 := by omega
    subst this
    refine ⟨-1000000005, g, f, hw_upA τ' 201 N, ?_, ?_, kq_tr kk (kq_upA _ _ (by omega)), upA_self _ _ _⟩
    · show S_X6_lumps_29 (L_X6_lumps_29 n) b (18 + i) (nI 10) _ = _
      unfold S_X6_lumps_29
      rw [if_pos (by decide)]
    · show S_X7_lumps_46 (L_X7_lumps_46 n) (nI i) b _ _ _ (nI 10) τ' = _
      unfold S_X7_lumps_46
      rw [if_pos (by decide), lu_96 h6 _ e]
  | succ d ih =>
    intro k n g f τ' v hk hn e kk
    obtain ⟨n, rfl⟩ : ∃ q, n = q + 1 + 1 := ⟨n - 2, by omega⟩
    have hvv : hv_W (upd (rw_ N i) 3 (nI k)) := W_loss (A.ww i hi) ⟨nI_pos' (by omega), nI_le (b := 9) (by omega) (by decide)⟩
    have e1 : hw_up τ' 201 (29 + 7 * i + 3) (nI k) 201 = upd N (29 + 7 * i + 3) (nI k) := by rw [up_self, e, hq_uu]
    obtain ⟨τ1, f1, f2, f3, -, f5⟩ := day7u A hi (k := 3) (by decide) hvv e1
    obtain ⟨f', g', f'', u1, u2⟩ := day6u A B hi (k := 3) (v := nI k) hvv 1 g f
    have u2' : F_X6_thinkDay 1 (hw_up (nf σ 11 g f') 11 3 (nI k)) = some (dF N T h (upd (rw_ N i) 3 (nI k)) 24 6, nf σ 11 g' f'') := by rw [← dayv_1]; exact u2
    have kk1 : kq τ τ1 := kq_tr (kq_tr kk (kq_upA _ _ (by omega))) f2
    have c6 : L_X6_lumps_29 (n + 1 + 1) b (18 + i) (nI k) (nf σ 11 g f) = (if b < dF N T h (upd (rw_ N i) 3 (nI k)) 24 6 then L_X6_lumps_29 (n + 1) b (18 + i) (nI (k + 1)) (nf σ 11 g' f'') else some (nI k, nf σ 11 g' f'')) := by
      show S_X6_lumps_29 (L_X6_lumps_29 (n + 1)) b (18 + i) (nI k) _ = _
      unfold S_X6_lumps_29
      rw [if_neg (show ¬ (9 : Int32) < nI k from iNlt.mpr (nI_le (b := 9) (by omega) (by decide))), u1, hw_bd_s, hw_nm_s, u2', hw_bd_s, show nI k + 1 = nI (k + 1) from nI_add k 1]
    have c7 : L_X7_lumps_46 (n + 1 + 1) (nI i) b (nI (29 + 7 * i + 3)) (N (29 + 7 * i + 3)) (-1000000005) (nI k) τ' = (if b < dF N T h (upd (rw_ N i) 3 (nI k)) 24 6 then L_X7_lumps_46 (n + 1) (nI i) b (nI (29 + 7 * i + 3)) (N (29 + 7 * i + 3)) (-1000000005) (nI (k + 1)) τ1 else L_X7_lumps_46 (n + 1) (nI i) b (nI (29 + 7 * i + 3)) (N (29 + 7 * i + 3)) (nI k) (nI (k + 1)) τ1) := by
      show S_X7_lumps_46 (L_X7_lumps_46 (n + 1)) (nI i) b _ _ _ (nI k) τ' = _
      unfold S_X7_lumps_46 B_X7_lumps_88
      rw [if_neg (show ¬ (10 : Int32) ≤ nI k from iNle.mpr (nI_lt (b := 10) (by omega) (by decide))), if_pos rfl, hw_gd_t (inb_nI (by omega) (by decide)), nI_clamp (by omega), hw_nm_s, f1, hw_bd_s, f5, show nI k + 1 = nI (k + 1) from nI_add k 1]
    rw [c6, c7]
    by_cases q : b < dF N T h (upd (rw_ N i) 3 (nI k)) 24 6
    · rw [if_pos q, if_pos q]
      exact ih (k + 1) (n + 1) g' f'' τ1 (nI k) (by omega) (by omega) f3 kk1
    · rw [if_neg q, if_neg q]
      refine ⟨nI k, g', f'', hw_upA τ1 201 N, rfl, ?_, kq_tr kk1 (kq_upA _ _ (by omega)), upA_self _ _ _⟩
      show S_X7_lumps_46 (L_X7_lumps_46 n) (nI i) b _ _ _ (nI (k + 1)) τ1 = _
      unfold S_X7_lumps_46
      have nx : ¬ nI k = -1000000005 := fun z => by
        have := nI_pos' (n := k) (by omega)
        rw [z] at this
        exact absurd this (by decide)
      rw [if_neg nx, lu_96 h6 _ f3]
      split <;> rfl
theorem sim_lumps : hw_sim2 hv_R F_X6_lumps F_X7_lumps := by
  intro a b σ τ HR
  have HR' := HR
  obtain ⟨w, h, T, A, I, B, E⟩ := HR
  have hb6 := A.bw
  by_cases ha : ∃ i, i < w ∧ a = nI i
  · obtain ⟨i, hi, rfl⟩ := ha
    have h6 : i < 6 := by omega
    by_cases hc : 0 ≤ b ∧ b ≤ 99999
    · obtain ⟨r, g', f', τ'', k1, k2, k3, k4⟩ := lu_loop (τ := τ) A B hi b 10 0 130 (σ 10) (σ 11) τ (τ 201 (29 + 7 * i + 3)) (by omega) (by omega) (hq_ui _ _).symm (kq_rf τ)
      refine ⟨r, nf σ 11 g' f', τ'', ?_, ?_, R_kq HR' k3 k4 (fun t h1 h2 => nf_o _ g' f' h2 h1)⟩
      · rw [← nf_s σ (by decide)] at k1
        unfold F_X6_lumps
        rw [wireAt_yes (Or.inl rfl) A hi, hw_bd_s, if_neg (by omega), X6_isWithin, hw_bd_s, if_pos hc, if_neg (by decide)]
        exact k1
      · unfold F_X7_lumps
        rw [isWire_yes A hi, hw_bd_s, if_neg (by decide), X7_in, hw_bd_s, if_pos hc, if_neg (by decide), hw_nm_s, ixW0, show nI (29 + 7 * i) + 3 = nI (29 + 7 * i + 3) from nI_add _ 3, hw_gd_t (inb_nI (by omega) (by decide)), hw_nm_s, nI_clamp (by omega)]
        exact k2
    · refine ⟨-1000000001, σ, τ, ?_, ?_, HR'⟩
      · unfold F_X6_lumps
        rw [wireAt_yes (Or.inl rfl) A hi, hw_bd_s, if_neg (by omega), X6_isWithin, hw_bd_s, if_neg hc, if_pos rfl]
      · unfold F_X7_lumps
        rw [isWire_yes A hi, hw_bd_s, if_neg (by decide), X7_in, hw_bd_s, if_neg hc, if_pos rfl]
  · refine ⟨-1000000001, σ, τ, ?_, ?_, HR'⟩
    · unfold F_X6_lumps; rw [wireAt_no (Or.inl rfl) A ha, hw_bd_s, if_pos rfl]
    · unfold F_X7_lumps; rw [isWire_no A ha, hw_bd_s, if_pos rfl]
