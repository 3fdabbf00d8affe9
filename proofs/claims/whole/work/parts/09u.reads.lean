/-! reads, pour -/
theorem nI_inj' {a b : Nat} (ha : a < 2 ^ 31) (hb : b < 2 ^ 31) (h : nI a = nI b) : a = b := by
  have := (iEq _ _).mp h
  rw [nI_toInt ha, nI_toInt hb] at this
  omega
theorem rd_tail {σ : hw_St} {i p x : Nat} (hi : i < 4) (hp : σ (60 + i) 1 = nI p) (p24 : p ≤ 24) : ∀ (d j n : Nat), j + d = 24 → p ≤ j → d < n → L_X6_reads_45 n x (60 + i) (nI j) σ = some (-1000000005, σ) := by
  intro d
  induction d with
  | zero =>
    intro j n hj hpj hn
    obtain ⟨n, rfl⟩ : ∃ q, n = q + 1 := ⟨n - 1, by omega⟩
    have : j = 24 := by omega
    subst this
    show S_X6_reads_45 (L_X6_reads_45 n) x (60 + i) (nI 24) σ = _
    unfold S_X6_reads_45
    rw [if_pos (by decide)]
  | succ d ih =>
    intro j n hj hpj hn
    obtain ⟨n, rfl⟩ : ∃ q, n = q + 1 := ⟨n - 1, by omega⟩
    show S_X6_reads_45 (L_X6_reads_45 n) x (60 + i) (nI j) σ = _
    unfold S_X6_reads_45
    rw [if_neg (show ¬ (24 : Int32) ≤ nI j from iNle.mpr (nI_lt (b := 24) (by omega) (by decide))), X3_num hi hp p24 (by omega), hw_bd_s, if_neg (show ¬ (j < p ∧ ¬ σ (64 + i) j = -1000000005) from fun g => by omega), if_pos rfl]
    unfold B_X6_reads_90
    rw [show nI j + 1 = nI (j + 1) from nI_add j 1]
    exact ih (j + 1) n (by omega) (by omega) (by omega)
theorem rd_loop {σ τ : hw_St} {w h T i p q : Nat} (A : hv_Sc σ 1 (τ 201) w h T) (hq : q < w) (hi : i < 4) (hp : σ (60 + i) 1 = nI p) (hp' : τ 215 i = nI p) (p24 : p ≤ 24) (e4 : ∀ j, j < 24 → σ (64 + i) j = τ 216 (24 * i + j)) : ∀ (d j n : Nat), j + d = p → 24 - j < n → ∃ r, L_X6_reads_45 n (18 + q) (60 + i) (nI j) σ = some (r, σ) ∧ L_X7_reads_32 n (nI i) (nI q) (nI j) τ = some (r, τ) := by
  have hw6 := A.bw
  obtain ⟨k1, k2, k3, k4, k5⟩ := shF i hi
  have hg := (elS' q (by omega)).1.2
  have hr : e7 (σ (18 + q)) (rw_ (τ 201) q) := A.wi q hq
  have hv := W_cg hr (A.ww q hq)
  have gi : hw_inb (nI i) 4 = true := inb_nI (by omega) (by decide)
  have ci : (nI i).toNatClampNeg = i := nI_clamp (by omega)
  intro d
  induction d with
  | zero =>
    intro j n hj hn
    have : j = p := by omega
    subst this
    refine ⟨-1000000005, rd_tail hi hp p24 (24 - j) j n (by omega) (Nat.le_refl _) (by omega), ?_⟩
    obtain ⟨n, rfl⟩ : ∃ q, n = q + 1 := ⟨n - 1, by omega⟩
    show S_X7_reads_32 (L_X7_reads_32 n) (nI i) (nI q) (nI j) τ = _
    unfold S_X7_reads_32
    rw [hw_gd_t gi, ci, hp', if_pos (Int32.le_refl _)]
  | succ d ih =>
    intro j n hj hn
    obtain ⟨n, rfl⟩ : ∃ q, n = q + 1 := ⟨n - 1, by omega⟩
    obtain ⟨r, f1, f2⟩ := ih (j + 1) n (by omega) (by omega)
    have ej : nI j + 1 = nI (j + 1) := nI_add j 1
    have gj : hw_inb (nI j) 24 = true := inb_nI (by omega) (by decide)
    have cj : (nI j).toNatClampNeg = j := nI_clamp (by omega)
    have e5 : (5 : Int32) + nI j = nI (5 + j) := nI_add 5 j
    have s6 : L_X6_reads_45 (n + 1) (18 + q) (60 + i) (nI j) σ = if τ 216 (24 * i + j) = -1000000005 then some (r, σ) else (if τ 216 (24 * i + j) = wEd (rw_ (τ 201) q) (τ 201 (5 + j)) then some (r, σ) else some (nI j, σ)) := by
      show S_X6_reads_45 (L_X6_reads_45 n) (18 + q) (60 + i) (nI j) σ = _
      unfold S_X6_reads_45 B_X6_reads_90
      rw [if_neg (show ¬ (24 : Int32) ≤ nI j from iNle.mpr (nI_lt (b := 24) (by omega) (by decide))), X3_num hi hp p24 (by omega), hw_bd_s, e4 j (by omega), ej, f1]
      by_cases hz : τ 216 (24 * i + j) = -1000000005
      · rw [if_neg (show ¬ (j < p ∧ ¬ τ 216 (24 * i + j) = -1000000005) from fun g => g.2 hz), if_pos rfl, if_pos hz]
      · rw [if_pos (show j < p ∧ ¬ τ 216 (24 * i + j) = -1000000005 from ⟨by omega, hz⟩), if_neg (by decide), if_neg hz, k3, hw_gd_t k4, k5, hw_gd_t gj, hw_gd_t gj, hw_gd_t hg, cj, show σ 3 j = _ from A.wd j (by omega), X5_eddy hg σ hv.2.1.1, hw_bd_s, f1, e4 j (by omega), ed_cg hr]
    have s7 : L_X7_reads_32 (n + 1) (nI i) (nI q) (nI j) τ = if τ 216 (24 * i + j) = -1000000005 then some (r, τ) else (if τ 216 (24 * i + j) = wEd (rw_ (τ 201) q) (τ 201 (5 + j)) then some (r, τ) else some (nI j, τ)) := by
      show S_X7_reads_32 (L_X7_reads_32 n) (nI i) (nI q) (nI j) τ = _
      unfold S_X7_reads_32 B_X7_reads_82
      rw [hw_gd_t gi, ci, hp', if_neg (iNle.mpr (nI_lt (by omega) (by omega))), ix24, hw_gd_t (inb_nI (i := 24 * i + j) (by omega) (by decide)), hw_nm_s, nI_clamp (by omega), ej, f2, e5, hw_gd_t (inb_nI (i := 5 + j) (by omega) (by decide)), nI_clamp (by omega), X7_eddy (by omega) τ (A.ww q hq).2.1.1, hw_bd_s, f2]
    rw [s6, s7]
    by_cases hz : τ 216 (24 * i + j) = -1000000005
    · rw [if_pos hz, if_pos hz]; exact ⟨_, rfl, rfl⟩
    · rw [if_neg hz, if_neg hz]
      split
      · exact ⟨_, rfl, rfl⟩
      · exact ⟨_, rfl, rfl⟩
theorem sim_reads : hw_sim2 hv_R F_X6_reads F_X7_reads := by
  intro a b σ τ HR
  have HR' := HR
  obtain ⟨w, h, T, A, I, B, E⟩ := HR
  have hw6 := A.bw
  by_cases ha : 0 ≤ a ∧ a ≤ 3
  · obtain ⟨i, hi, rfl⟩ := ix_to (m := 3) rfl ha.1 ha.2
    obtain ⟨k1, k2, k3, k4, k5⟩ := shF i (by omega)
    obtain ⟨e1, e2, ⟨p, p24, e3, e3'⟩, e4⟩ := E.sh i (by omega)
    have gi : hw_inb (nI i) 4 = true := inb_nI (by omega) (by decide)
    have ci : (nI i).toNatClampNeg = i := nI_clamp (by omega)
    by_cases hb : ∃ q, q < w ∧ b = nI q
    · obtain ⟨q, hq, rfl⟩ := hb
      by_cases hm : 0 ≤ τ 214 i
      · have nm : ¬ τ 214 i = -1 := (ms_iff e2).mp hm
        obtain ⟨r, f1, f2⟩ := rd_loop A hq (by omega) e3 e3' p24 e4 p 0 130 (by omega) (by omega)
        refine ⟨r, σ, τ, ?_, ?_, HR'⟩
        · unfold F_X6_reads
          rw [wireAt_yes (Or.inl rfl) A hq, hw_bd_s, X6_isSheet, hw_bd_s, if_pos ha, if_neg (by decide), if_neg (by omega), hw_gd_t gi, ci, k1, hw_gd_t k2, X3_miss (by omega), hw_bd_s, e1, if_neg nm, if_pos rfl]
          exact f1
        · unfold F_X7_reads
          rw [X7_isSheet, hw_bd_s, if_pos ha, if_neg (by decide), isWire_yes A hq, hw_bd_s, if_neg (by decide), hw_gd_t gi, ci, if_pos hm]
          exact f2
      · have nm : τ 214 i = -1 := Decidable.byContradiction (fun g => hm ((ms_iff e2).mpr g))
        refine ⟨-1000000011, σ, τ, ?_, ?_, HR'⟩
        · unfold F_X6_reads
          rw [wireAt_yes (Or.inl rfl) A hq, hw_bd_s, X6_isSheet, hw_bd_s, if_pos ha, if_neg (by decide), if_neg (by omega), hw_gd_t gi, ci, k1, hw_gd_t k2, X3_miss (by omega), hw_bd_s, e1, if_pos nm, if_neg (by decide)]
        · unfold F_X7_reads
          rw [X7_isSheet, hw_bd_s, if_pos ha, if_neg (by decide), isWire_yes A hq, hw_bd_s, if_neg (by decide), hw_gd_t gi, ci, if_neg hm]
    · refine ⟨-1000000001, σ, τ, ?_, ?_, HR'⟩
      · unfold F_X6_reads; rw [wireAt_no (Or.inl rfl) A hb, hw_bd_s, X6_isSheet, hw_bd_s, if_pos ha, if_neg (by decide), if_pos rfl]
      · unfold F_X7_reads; rw [X7_isSheet, hw_bd_s, if_pos ha, if_neg (by decide), isWire_no A hb, hw_bd_s, if_pos rfl]
  · refine ⟨-1000000001, σ, τ, ?_, ?_, HR'⟩
    · by_cases hb : ∃ q, q < w ∧ b = nI q
      · obtain ⟨q, hq, rfl⟩ := hb
        unfold F_X6_reads; rw [wireAt_yes (Or.inl rfl) A hq, hw_bd_s, X6_isSheet, hw_bd_s, if_neg ha, if_pos rfl]
      · unfold F_X6_reads; rw [wireAt_no (Or.inl rfl) A hb, hw_bd_s, X6_isSheet, hw_bd_s, if_neg ha, if_pos rfl]
    · unfold F_X7_reads; rw [X7_isSheet, hw_bd_s, if_neg ha, if_pos rfl]
