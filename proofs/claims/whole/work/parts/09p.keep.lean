/-! scenes copied: the reference -/
theorem up_A (σ : hw_St) (x : Nat) (f : Nat → Int32) (k : Nat) (v : Int32) : hw_up (hw_upA σ x f) x k v = hw_upA σ x (upd f k v) := by
  rw [up_upA, upA_self, upA_upA]
def cpI (i : Nat) (f g : Nat → Int32) : Nat → Int32 := fun k => if i ≤ k ∧ k < 1443 then f k else g k
theorem cp_loop {t0 t1 : Nat} (hne : t0 ≠ t1) (l0 : hw_ln t0 = 1443) (l1 : hw_ln t1 = 1443) : ∀ (d i n : Nat) (τ : hw_St), i + d = 1443 → d < n → L_X7_copyAll_2 n t0 t1 (nI i) τ = some ((), hw_upA τ t1 (cpI i (τ t0) (τ t1))) := by
  intro d
  induction d with
  | zero =>
    intro i n τ hi hn
    obtain ⟨n, rfl⟩ : ∃ q, n = q + 1 := ⟨n - 1, by omega⟩
    have : i = 1443 := by omega
    subst this
    show S_X7_copyAll_2 (L_X7_copyAll_2 n) t0 t1 (nI 1443) τ = _
    unfold S_X7_copyAll_2
    rw [if_pos (by decide), show cpI 1443 (τ t0) (τ t1) = τ t1 from funext (fun k => by unfold cpI; rw [if_neg (by omega)]), upA_id]
  | succ d ih =>
    intro i n τ hi hn
    obtain ⟨n, rfl⟩ : ∃ q, n = q + 1 := ⟨n - 1, by omega⟩
    show S_X7_copyAll_2 (L_X7_copyAll_2 n) t0 t1 (nI i) τ = _
    unfold S_X7_copyAll_2
    rw [if_neg (show ¬ (1443 : Int32) ≤ nI i from iNle.mpr (nI_lt (b := 1443) (by omega) (by decide))), l0, l1, hw_gd_t (inb_nI (by omega) (by decide)), hw_gd_t (inb_nI (by omega) (by decide)), hw_nm_s, nI_clamp (by omega), show nI i + 1 = nI (i + 1) from nI_add i 1, ih (i + 1) n _ (by omega) (by omega), up_row _ _ _ _ hne, up_self, up_upA, upA_upA]
    congr 3
    funext k
    unfold cpI upd
    by_cases e : k = i
    · subst e; rw [if_neg (by omega), if_pos rfl, if_pos ⟨Nat.le_refl _, by omega⟩]
    · rw [if_neg e]
      by_cases e2 : i + 1 ≤ k ∧ k < 1443
      · rw [if_pos e2, if_pos ⟨by omega, e2.2⟩]
      · rw [if_neg e2, if_neg (by omega)]
theorem copy7 {t0 t1 : Nat} (h0 : t0 = 201 ∨ t0 = 202 ∨ t0 = 203) (h1 : t1 = 201 ∨ t1 = 202 ∨ t1 = 203) (hne : t0 ≠ t1) (τ : hw_St) : F_X7_copyAll t0 t1 τ = some ((), hw_upA τ t1 (cpI 0 (τ t0) (τ t1))) := by
  unfold F_X7_copyAll
  rw [hw_gd_t (by rcases h0 with rfl | rfl | rfl <;> decide), hw_gd_t (by rcases h1 with rfl | rfl | rfl <;> decide)]
  exact cp_loop hne (by rcases h0 with rfl | rfl | rfl <;> decide) (by rcases h1 with rfl | rfl | rfl <;> decide) 1443 0 1500 τ (by omega) (by omega)
/-! a row counts only below 1443 -/
theorem wfn_cg {nm : Int32} {tok tok' : Nat → Int32} : ∀ (r k d : Nat), (∀ j, k ≤ j → j < k + r → tok' j = tok j) → wfn nm tok r k d → wfn nm tok' r k d
  | 0, _, _, _, h => h
  | r + 1, k, d, e, h => by
    have e0 := e k (Nat.le_refl _) (by omega)
    have er : ∀ j, k + 1 ≤ j → j < k + 1 + r → tok' j = tok j := fun j h1 h2 => e j (by omega) (by omega)
    unfold wfn at h ⊢
    rw [e0]
    rcases h with ⟨h1, h2, h3⟩ | ⟨h1, h2, h3⟩ | ⟨h1, h2, h3⟩
    · exact Or.inl ⟨h1, h2, wfn_cg r _ _ er h3⟩
    · exact Or.inr (Or.inl ⟨h1, h2, wfn_cg r _ _ er h3⟩)
    · exact Or.inr (Or.inr ⟨h1, h2, wfn_cg r _ _ er h3⟩)
theorem cn_cg {N N' : Nat → Int32} (h : ∀ j, j < 1443 → N' j = N j) (k : Nat) : ∀ T, T ≤ 14 → cn N' k T = cn N k T
  | 0, _ => rfl
  | T + 1, hT => by
    unfold cn
    rw [h _ (by omega), cn_cg h k T (by omega)]
theorem Txt_cg {σ : hw_St} {N N' : Nat → Int32} {T : Nat} (h : ∀ j, j < 1443 → N' j = N j) (hT : T ≤ 14) (g : hv_Txt σ N T) : hv_Txt σ N' T := by
  intro t ht
  obtain ⟨key, len, ⟨m1, m2, m3, m4⟩, g2, g3, g4, g5⟩ := g t ht
  refine ⟨key, len, ⟨m1, m2, by rw [h _ (by omega)]; exact m3, ?_⟩, g2, by rw [h _ (by omega)]; exact g3, g4, fun j hj => by rw [h _ (by omega)]; exact g5 j hj⟩
  exact wfn_cg len 0 0 (fun j _ hj => h _ (by omega)) m4
theorem Sc_cg {σ : hw_St} {S : Nat} {N N' : Nat → Int32} {w h T : Nat} (H : hv_Sc σ S N w h T) (g : ∀ j, j < 1443 → N' j = N j) : hv_Sc σ S N' w h T := by
  have hb := H.bw
  have r : ∀ i, i < 6 → e7 (rw_ N' i) (rw_ N i) := fun i hi k hk => g _ (by omega)
  refine ⟨H.bw, H.bh, H.bT, ?_, ?_, ?_, ?_, ?_, H.s6, H.s7, ?_, H.s5, ?_, ?_, ?_, ?_, ?_, ?_⟩
  · rw [g _ (by omega)]; exact H.n1
  · rw [g _ (by omega)]; exact H.n2
  · rw [g _ (by omega)]; exact H.n4
  · rw [g _ (by omega)]; exact H.n3
  · rw [g _ (by omega)]; exact H.s9
  · rw [g _ (by omega)]; exact H.s8
  · intro k hk; rw [g _ (by omega)]; exact H.wd k hk
  · intro k hk; rw [g _ (by omega)]; exact H.wr k hk
  · intro i hi; exact W_cg (r i (by omega)) (H.ww i hi)
  · intro i hi k hk; rw [r i (by omega) k hk]; exact H.wi i hi k hk
  · intro k hk; rw [cn_cg g k T H.bT]; exact H.nw k hk
  · exact Txt_cg g H.bT H.tx
theorem cpI_lt (f g : Nat → Int32) : ∀ j, j < 1443 → cpI 0 f g j = f j := fun j hj => by unfold cpI; rw [if_pos ⟨by omega, hj⟩]
/-! scenes copied: the class -/
theorem X5_bec {x y : Nat} (hx : hw_gH x 5 = true) (hy : hw_gH y 5 = true) (hne : y ≠ x) (σ : hw_St) (hb : σ y 5 = 0 ∨ σ y 5 = 1) : ∃ f, F_X5_become x y σ = some ((), hw_upA σ x f) ∧ e7 f (σ y) := by
  have r : ∀ (f : Nat → Int32), hw_upA σ x f y = σ y := fun f => upA_row _ _ _ hne
  have hi : hw_isb (σ y 5) = true := by rcases hb with e | e <;> rw [e] <;> decide
  refine ⟨upd (upd (upd (upd (upd (upd (upd (σ x) 0 (σ y 0)) 1 (σ y 1)) 2 (σ y 2)) 3 (σ y 3)) 4 (σ y 4)) 5 (σ y 5)) 6 (σ y 6), ?_, ?_⟩
  · unfold F_X5_become
    rw [hw_gd_t hx, hw_gd_t hy, hw_nm_s, up_upA σ x 0 (σ y 0), hw_nm_s, r, up_A, hw_nm_s, r, up_A, hw_nm_s, r, up_A, hw_nm_s, r, up_A, r, hw_gd_t hi, hw_nm_s, up_A, hw_nm_s, r, up_A]
  · intro k hk
    have c : k = 0 ∨ k = 1 ∨ k = 2 ∨ k = 3 ∨ k = 4 ∨ k = 5 ∨ k = 6 := by omega
    rcases c with rfl | rfl | rfl | rfl | rfl | rfl | rfl <;> rfl
theorem bec_loop {S' S : Nat} (hS' : S' = 1 ∨ S' = 2) (hS : S = 1 ∨ S = 2) (hne : S ≠ S') : ∀ (d i n : Nat) (σ : hw_St), i + d = 6 → d < n → (∀ q, q < 6 → (σ (12 + 6 * S + q) 5 = 0 ∨ σ (12 + 6 * S + q) 5 = 1)) → ∃ σ', L_X2_become_17 n S' S (nI i) σ = some ((), σ') ∧ (∀ q, i ≤ q → q < 6 → e7 (σ' (12 + 6 * S' + q)) (σ (12 + 6 * S + q))) ∧ (∀ t, t ≠ S' → t ≠ S' + 6 → (t < 12 + 6 * S' + i ∨ 18 + 6 * S' ≤ t) → σ' t = σ t) ∧ (∀ k, k < 3 → σ' (S' + 6) k = σ (S + 6) k) ∧ (∀ k, 5 ≤ k → k ≤ 9 → σ' S' k = σ S k) := by
  obtain ⟨s1, s2, s3, s4, s5, s6, s7, s8, s9, s10, s11, s12⟩ := scS hS
  obtain ⟨p1, p2, p3, p4, p5, p6, p7, p8, p9, p10, p11, p12⟩ := scS hS'
  intro d
  induction d with
  | zero =>
    intro i n σ hi hn B
    obtain ⟨n, rfl⟩ : ∃ q, n = q + 1 := ⟨n - 1, by omega⟩
    have : i = 6 := by omega
    subst this
    have r : ∀ (τ : hw_St) (f : Nat → Int32), hw_upA τ S' f S = τ S := fun τ f => upA_row _ _ _ hne
    refine ⟨hw_upA (hw_upA σ (S' + 6) (va_cpy (σ (S + 6)) (σ (S' + 6)) 0 0 3)) S' (upd (upd (upd (upd (upd (σ S') 5 (σ S 5)) 6 (σ S 6)) 7 (σ S 7)) 8 (σ S 8)) 9 (σ S 9)), ?_, fun q h1 h2 => by omega, fun t h1 h2 _ => by rw [upA_row _ _ _ h1, upA_row _ _ _ h2], fun k hk => ?_, fun k h1 h2 => ?_⟩
    · show S_X2_become_17 (L_X2_become_17 n) S' S (nI 6) σ = _
      unfold S_X2_become_17
      have c5 : hw_upA σ (S' + 6) (va_cpy (σ (S + 6)) (σ (S' + 6)) 0 0 3) S = σ S := upA_row _ _ _ (by omega)
      have c6 : hw_upA σ (S' + 6) (va_cpy (σ (S + 6)) (σ (S' + 6)) 0 0 3) S' = σ S' := upA_row _ _ _ (by omega)
      rw [if_pos (by decide), s6, p6, hw_gd_t s11, hw_gd_t p11, s12, p12, hw_gd_t (by decide), hw_nm_s, show (0 : Int32).toNatClampNeg = 0 from rfl, show (3 : Int32).toNatClampNeg = 3 from rfl, hw_nm_s, c5, up_upA _ S' 5 (σ S 5), c6, hw_nm_s, r, c5, up_A, hw_nm_s, r, c5, up_A, hw_nm_s, r, c5, up_A, hw_nm_s, r, c5, up_A]
    · rw [upA_row _ _ _ (by omega), upA_self]
      unfold va_cpy
      rw [if_pos (by omega), show 0 + (k - 0) = k by omega]
    · rw [upA_self]
      have c : k = 5 ∨ k = 6 ∨ k = 7 ∨ k = 8 ∨ k = 9 := by omega
      rcases c with rfl | rfl | rfl | rfl | rfl <;> rfl
  | succ d ih =>
    intro i n σ hi hn B
    obtain ⟨n, rfl⟩ : ∃ q, n = q + 1 := ⟨n - 1, by omega⟩
    have h6 : i < 6 := by omega
    obtain ⟨f, e1, e2⟩ := X5_bec (elS hS' h6).2 (elS hS h6).2 (by omega) σ (B i h6)
    have r : ∀ t, t ≠ 12 + 6 * S' + i → hw_upA σ (12 + 6 * S' + i) f t = σ t := fun t ht => upA_row _ _ _ ht
    obtain ⟨σ', f1, f2, f3, f4, f5⟩ := ih (i + 1) n (hw_upA σ (12 + 6 * S' + i) f) (by omega) (by omega) (fun q hq => by rw [r _ (by omega)]; exact B q hq)
    refine ⟨σ', ?_, fun q h1 h2 => ?_, fun t h1 h2 h3 => ?_, fun k hk => ?_, fun k h1 h2 => ?_⟩
    · show S_X2_become_17 (L_X2_become_17 n) S' S (nI i) σ = _
      unfold S_X2_become_17
      rw [if_neg (show ¬ (6 : Int32) ≤ nI i from iNle.mpr (nI_lt (b := 6) (by omega) (by decide))), p5, hw_gd_t p9, p10, hw_gd_t (inb_nI h6 (by decide)), nI_clamp (by omega), (elS hS' h6).1, hw_gd_t (elS hS' h6).2, s5, hw_gd_t s9, s10, hw_gd_t (inb_nI h6 (by decide)), (elS hS h6).1, hw_gd_t (elS hS h6).2, e1, hw_bd_s, show nI i + 1 = nI (i + 1) from nI_add i 1]
      exact f1
    · by_cases e : q = i
      · subst e
        rw [f3 _ (by omega) (by omega) (by omega), upA_self]; exact e2
      · have := f2 q (by omega) h2
        rw [r _ (by omega)] at this; exact this
    · rw [f3 t h1 h2 (by omega), r _ (by omega)]
    · rw [f4 k hk, r _ (by omega)]
    · rw [f5 k h1 h2, r _ (by omega)]
theorem become6 {S' S : Nat} (hS' : S' = 1 ∨ S' = 2) (hS : S = 1 ∨ S = 2) (hne : S ≠ S') {σ : hw_St} {N : Nat → Int32} {w h T : Nat} (H : hv_Sc σ S N w h T) (B : hv_Bo σ) : ∃ σ', F_X2_become S' S σ = some ((), σ') ∧ hv_Sc σ' S' N w h T ∧ hv_Bo σ' ∧ (∀ t, t ≠ S' → t ≠ S' + 2 → t ≠ S' + 6 → (t < 12 + 6 * S' ∨ 18 + 6 * S' ≤ t) → σ' t = σ t) := by
  obtain ⟨s1, s2, s3, s4, s5, s6, s7, s8, s9, s10, s11, s12⟩ := scS hS
  obtain ⟨p1, p2, p3, p4, p5, p6, p7, p8, p9, p10, p11, p12⟩ := scS hS'
  have hb := H.bw
  have r : ∀ t, t ≠ S' + 2 → hw_upA σ (S' + 2) (va_cpy (σ (S + 2)) (σ (S' + 2)) 0 0 24) t = σ t := fun t ht => upA_row _ _ _ ht
  obtain ⟨σ', f1, f2, f3, f4, f5⟩ := bec_loop hS' hS hne 6 0 130 (hw_upA σ (S' + 2) (va_cpy (σ (S + 2)) (σ (S' + 2)) 0 0 24)) (by omega) (by omega) (fun q hq => by rw [r _ (by omega)]; exact B _ (by omega) (by omega))
  have fr : ∀ t, t ≠ S' → t ≠ S' + 2 → t ≠ S' + 6 → (t < 12 + 6 * S' ∨ 18 + 6 * S' ≤ t) → σ' t = σ t := fun t h1 h2 h3 h4 => by rw [f3 t h1 h3 (by omega), r t h2]
  have fw : ∀ q, q < 6 → e7 (σ' (12 + 6 * S' + q)) (σ (12 + 6 * S + q)) := fun q hq => by
    have := f2 q (by omega) hq
    rw [r _ (by omega)] at this; exact this
  have ff : ∀ k, 5 ≤ k → k ≤ 9 → σ' S' k = σ S k := fun k h1 h2 => by rw [f5 k h1 h2, r _ (by omega)]
  refine ⟨σ', ?_, ?_, ?_, fr⟩
  · unfold F_X2_become
    rw [hw_gd_t p1, hw_gd_t s1, s4, p4, hw_gd_t s7, hw_gd_t p7, s8, p8, hw_gd_t (by decide), hw_nm_s]
    exact f1
  · refine ⟨H.bw, H.bh, H.bT, H.n1, H.n2, H.n4, H.n3, ?_, ?_, ?_, ?_, ?_, ?_, H.wr, H.ww, ?_, ?_, Txt_keep H.bT H.tx (fun t h1 h2 => fr t (by omega) (by omega) (by omega) (by omega))⟩
    · rw [ff 9 (by omega) (by omega)]; exact H.s9
    · rw [ff 6 (by omega) (by omega)]; exact H.s6
    · rw [ff 7 (by omega) (by omega)]; exact H.s7
    · rw [ff 8 (by omega) (by omega)]; exact H.s8
    · rw [ff 5 (by omega) (by omega)]; exact H.s5
    · intro k hk
      rw [f3 _ (by omega) (by omega) (by omega), upA_self]
      unfold va_cpy
      rw [if_pos (by omega), show 0 + (k - 0) = k by omega]; exact H.wd k hk
    · intro i hi k hk
      rw [fw i (by omega) k hk]; exact H.wi i hi k hk
    · intro k hk
      rw [f4 k hk, r _ (by omega)]; exact H.nw k hk
  · intro x h1 h2
    by_cases e : 12 + 6 * S' ≤ x ∧ x < 18 + 6 * S'
    · obtain ⟨q, rfl⟩ : ∃ q, x = 12 + 6 * S' + q := ⟨x - (12 + 6 * S'), by omega⟩
      rw [fw q (by omega) 5 (by decide)]; exact B _ (by omega) (by omega)
    · rw [fr x (by omega) (by omega) (by omega) (by omega)]; exact B x h1 h2
theorem sim_keep : hw_sim0 hv_R F_X6_keep F_X7_keep := by
  intro σ τ HR
  obtain ⟨w, h, T, A, I, B, E⟩ := HR
  obtain ⟨σ1, e1, A2, B1, fr⟩ := become6 (S' := 2) (S := 1) (Or.inr rfl) (Or.inl rfl) (by decide) A B
  have q : ∀ t, t ≠ 0 → hw_up σ1 0 3 1 t = σ1 t := fun t ht => up_row _ _ _ _ ht
  have q0 : ∀ k, k ≠ 3 → hw_up σ1 0 3 1 0 k = σ 0 k := fun k hk => by rw [up_self, upd_n _ _ hk, fr 0 (by omega) (by omega) (by omega) (by omega)]
  have p : ∀ t, t ≠ 200 → t ≠ 202 → hw_up (hw_upA τ 202 (cpI 0 (τ 201) (τ 202))) 200 3 1 t = τ t := fun t h1 h2 => by rw [up_row _ _ _ _ h1, upA_row _ _ _ h2]
  have p0 : ∀ k, k ≠ 3 → hw_up (hw_upA τ 202 (cpI 0 (τ 201) (τ 202))) 200 3 1 200 k = τ 200 k := fun k hk => by rw [up_self, upd_n _ _ hk, upA_row _ _ _ (by decide)]
  refine ⟨nI w, hw_up σ1 0 3 1, hw_up (hw_upA τ 202 (cpI 0 (τ 201) (τ 202))) 200 3 1, ?_, ?_, w, h, T, ?_, Or.inr ⟨?_, ?_, w, h, T, Nat.le_refl _, ?_⟩, ?_, ?_⟩
  · unfold F_X6_keep
    rw [e1, hw_bd_s, hw_gd_t isb_1, hw_nm_s, q 2 (by decide), A2.s6]
  · unfold F_X7_keep
    rw [copy7 (by omega) (by omega) (by decide), hw_bd_s, hw_gd_t isb_1, hw_nm_s, hw_gd_t (by decide), p 201 (by decide) (by decide), show ((1 : Int32).toNatClampNeg) = 1 from rfl, A.n1]
  · rw [p 201 (by decide) (by decide)]
    exact Sc_keep A (by rw [q _ (by omega), fr _ (by omega) (by omega) (by omega) (by omega)]) (by rw [q _ (by omega), fr _ (by omega) (by omega) (by omega) (by omega)]) (by rw [q _ (by omega), fr _ (by omega) (by omega) (by omega) (by omega)]) (fun i hi => by rw [q _ (by omega), fr _ (by omega) (by omega) (by omega) (by omega)]) (fun t h1 h2 => by rw [q _ (by omega), fr _ (by omega) (by omega) (by omega) (by omega)])
  · rw [up_self, upd_s]
  · rw [up_self, upd_s]
  · rw [up_row _ _ _ _ (by decide), upA_self]
    exact Sc_keep (Sc_cg A2 (cpI_lt _ _)) (q _ (by omega)) (q _ (by omega)) (q _ (by omega)) (fun i hi => q _ (by omega)) (fun t h1 h2 => q _ (by omega))
  · intro x h1 h2; rw [q x (by omega)]; exact B1 x h1 h2
  · exact Re_keep E (fun t ht => by rw [q t (by omega), fr t (by omega) (by omega) (by omega) (by omega)]) (q0 6 (by decide)) (q0 11 (by decide)) (fun t ht => p t (by omega) (by omega)) (p0 10 (by decide)) (p0 36 (by decide))
theorem sim_back : hw_sim0 hv_R F_X6_back F_X7_back := by
  intro σ τ HR
  have HR' := HR
  obtain ⟨w, h, T, A, I, B, E⟩ := HR
  rcases I with ⟨i1, i2⟩ | ⟨i1, i2, w2, h2, T2, hT2, A2⟩
  · refine ⟨-1000000002, σ, τ, ?_, ?_, HR'⟩
    · unfold F_X6_back; rw [if_pos i1]
    · unfold F_X7_back; rw [if_pos i2]
  · obtain ⟨σ1, e1, A1, B1, fr⟩ := become6 (S' := 1) (S := 2) (Or.inl rfl) (Or.inr rfl) (by decide) A2 B
    have p : ∀ t, t ≠ 201 → hw_upA τ 201 (cpI 0 (τ 202) (τ 201)) t = τ t := fun t h1 => upA_row _ _ _ h1
    refine ⟨nI w2, σ1, hw_upA τ 201 (cpI 0 (τ 202) (τ 201)), ?_, ?_, w2, h2, T2, ?_, Or.inr ⟨?_, ?_, w2, h2, T2, Nat.le_refl _, ?_⟩, B1, ?_⟩
    · unfold F_X6_back
      rw [if_neg (by rw [i1]; decide), e1, hw_bd_s, A1.s6]
    · unfold F_X7_back
      rw [if_neg (by rw [i2]; decide), copy7 (by omega) (by omega) (by decide), hw_bd_s, hw_gd_t (by decide), upA_self, show ((1 : Int32).toNatClampNeg) = 1 from rfl, cpI_lt _ _ 1 (by decide), A2.n1]
    · rw [upA_self]; exact Sc_cg A1 (cpI_lt _ _)
    · rw [fr 0 (by omega) (by omega) (by omega) (by omega)]; exact i1
    · rw [p 200 (by decide)]; exact i2
    · rw [p 202 (by decide)]
      exact Sc_keep A2 (fr _ (by omega) (by omega) (by omega) (by omega)) (fr _ (by omega) (by omega) (by omega) (by omega)) (fr _ (by omega) (by omega) (by omega) (by omega)) (fun i hi => fr _ (by omega) (by omega) (by omega) (by omega)) (fun t h1 h2 => fr _ (by omega) (by omega) (by omega) (by omega))
    · exact Re_keep E (fun t ht => fr t (by omega) (by omega) (by omega) (by omega)) (by rw [fr 0 (by omega) (by omega) (by omega) (by omega)]) (by rw [fr 0 (by omega) (by omega) (by omega) (by omega)]) (fun t ht => p t (by omega)) (by rw [p 200 (by decide)]) (by rw [p 200 (by decide)])
