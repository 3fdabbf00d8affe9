/-! wires looked up, both sides -/
theorem elS' : ∀ i, i < 6 → (hw_el 5 i = 18 + i ∧ hw_gH (18 + i) 5 = true) ∧ (hw_el 6 i = 24 + i ∧ hw_gH (24 + i) 5 = true) := by decide
theorem elS {S i : Nat} (hS : S = 1 ∨ S = 2) (hi : i < 6) : hw_el (S + 4) i = 12 + 6 * S + i ∧ hw_gH (12 + 6 * S + i) 5 = true := by
  rcases hS with rfl | rfl
  · exact (elS' i hi).1
  · exact (elS' i hi).2
theorem wireAt_no {σ : hw_St} {S : Nat} {N : Nat → Int32} {w h T : Nat} (hS : S = 1 ∨ S = 2) (H : hv_Sc σ S N w h T) {a : Int32} (ha : ¬ ∃ i, i < w ∧ a = nI i) : F_X2_wireAt S a σ = some (999, σ) := by
  have hb := H.bw
  unfold F_X2_wireAt
  rw [hw_gd_t (scS hS).1, X6_isWithin, hw_bd_s, H.s6, if_pos (if01_0.mpr (fun g => ha ((ix_of (by omega)).mp g)))]
theorem wireAt_yes {σ : hw_St} {S : Nat} {N : Nat → Int32} {w h T : Nat} (hS : S = 1 ∨ S = 2) (H : hv_Sc σ S N w h T) {i : Nat} (hi : i < w) : F_X2_wireAt S (nI i) σ = some (12 + 6 * S + i, σ) := by
  have hb := H.bw
  obtain ⟨s1, s2, s3, s4, s5, s6, s7, s8, s9, s10, s11, s12⟩ := scS hS
  unfold F_X2_wireAt
  rw [hw_gd_t s1, X6_isWithin, hw_bd_s, H.s6, if_pos ((ix_of (by omega)).mpr ⟨i, hi, rfl⟩), if_neg (by decide), s5, hw_gd_t s9, s10, hw_gd_t (inb_nI (by omega) (by decide)), nI_clamp (by omega), (elS hS (by omega : i < 6)).1, hw_gd_t (elS hS (by omega : i < 6)).2]
theorem isWire_no {σ τ : hw_St} {w h T : Nat} (H : hv_Sc σ 1 (τ 201) w h T) {a : Int32} (ha : ¬ ∃ i, i < w ∧ a = nI i) : F_X7_isWire a τ = some (0, τ) := by
  have hb := H.bw
  rw [X7_isWire, H.n1, if_neg (fun g => ha ((ix_of (by omega)).mp g))]
theorem isWire_yes {σ τ : hw_St} {w h T : Nat} (H : hv_Sc σ 1 (τ 201) w h T) {i : Nat} (hi : i < w) : F_X7_isWire (nI i) τ = some (1, τ) := by
  have hb := H.bw
  rw [X7_isWire, H.n1, if_pos ((ix_of (by omega)).mpr ⟨i, hi, rfl⟩)]
theorem X7_becomes {k : Nat} (hk : k < 1443) (v : Int32) (τ : hw_St) : F_X7_becomes (nI k) v τ = some (τ 201 k, hw_up τ 201 k v) := by
  unfold F_X7_becomes
  rw [hw_gd_t (inb_nI hk (by decide)), hw_nm_s, hw_gd_t (inb_nI hk (by decide)), hw_nm_s, nI_clamp (by omega)]
theorem W_rows {σ : hw_St} {N : Nat → Int32} {w h T : Nat} (H : hv_Sc σ 1 N w h T) {i : Nat} (hi : i < w) : ∀ k, k < 7 → σ (18 + i) k = rw_ N i k := H.wi i hi
theorem W_cg {f g : Nat → Int32} (h : ∀ k, k < 7 → f k = g k) (hv : hv_W g) : hv_W f := by
  unfold hv_W at *
  rw [h 0 (by decide), h 1 (by decide), h 2 (by decide), h 3 (by decide), h 4 (by decide), h 5 (by decide)]; exact hv
theorem lose_cg {f g : Nat → Int32} (h : ∀ k, k < 7 → f k = g k) : wLose f = wLose g := by
  unfold wLose; rw [h 0 (by decide), h 3 (by decide)]
theorem worth_cg {f g : Nat → Int32} (h : ∀ k, k < 7 → f k = g k) : wWorth f = wWorth g := by
  unfold wWorth; rw [h 0 (by decide), h 1 (by decide), h 2 (by decide), h 3 (by decide)]
/-! told, as -/
def tdv (f : Nat → Int32) (b : Int32) : Int32 := if 0 ≤ b ∧ b ≤ 8 then (if 7 ≤ b then (if b = 7 then wLose f else wWorth f) else f b.toNatClampNeg) else -1000000001
theorem td_7 {σ τ : hw_St} {w h T : Nat} (A : hv_Sc σ 1 (τ 201) w h T) {i : Nat} (hi : i < w) (b : Int32) : F_X7_told (nI i) b τ = some (tdv (rw_ (τ 201) i) b, τ) := by
  have h6 : i < 6 := Nat.lt_of_lt_of_le hi A.bw
  unfold F_X7_told tdv
  rw [isWire_yes A hi, hw_bd_s, if_neg (by decide), X7_in, hw_bd_s]
  by_cases hb : 0 ≤ b ∧ b ≤ 8
  · rw [if_pos hb, if_pos hb, if_neg (by decide)]
    by_cases h7 : 7 ≤ b
    · rw [if_pos h7, if_pos h7, X7_lose h6, X7_worth h6 τ (A.ww i hi).2.1.1, hw_bd_s, hw_bd_s]
      split <;> rfl
    · obtain ⟨k, hk, rfl⟩ := ix_to (m := 8) rfl hb.1 hb.2
      have hk7 : k < 7 := by
        rcases Nat.lt_or_ge k 7 with g | g
        · exact g
        · exact absurd (nI_le (a := 7) (b := k) g (by omega)) h7
      rw [if_neg h7, if_neg h7, X7_of h6 hk7, hw_bd_s, nI_clamp (by omega)]
  · rw [if_neg hb, if_neg hb, if_pos rfl]
theorem td_6 {σ τ : hw_St} {w h T : Nat} (A : hv_Sc σ 1 (τ 201) w h T) {i : Nat} (hi : i < w) (b : Int32) : F_X6_told (nI i) b σ = some (tdv (rw_ (τ 201) i) b, σ) := by
  have h6 : i < 6 := Nat.lt_of_lt_of_le hi A.bw
  have hg := (elS (Or.inl rfl) h6).2
  have hr := W_rows A hi
  have hv := A.ww i hi
  have e1 : 1 ≤ σ (12 + 6 * 1 + i) 1 := by rw [show 12 + 6 * 1 + i = 18 + i from rfl, hr 1 (by decide)]; exact hv.2.1.1
  unfold F_X6_told
  rw [wireAt_yes (Or.inl rfl) A hi, hw_bd_s, if_neg (by omega)]
  simp only [hw_gd_t hg, X5_loses hg, X5_worth hg σ e1, hw_bd_s]
  by_cases hb : 0 ≤ b ∧ b ≤ 8
  · obtain ⟨k, hk, rfl⟩ := ix_to (m := 8) rfl hb.1 hb.2
    have c : k = 0 ∨ k = 1 ∨ k = 2 ∨ k = 3 ∨ k = 4 ∨ k = 5 ∨ k = 6 ∨ k = 7 ∨ k = 8 := by omega
    rcases c with rfl | rfl | rfl | rfl | rfl | rfl | rfl | rfl | rfl
    · rw [if_pos (by decide), show tdv (rw_ (τ 201) i) (nI 0) = rw_ (τ 201) i 0 from rfl, show 12 + 6 * 1 + i = 18 + i from rfl, ← hr 0 (by decide)]
    · rw [if_neg (by decide), if_pos (by decide), show tdv (rw_ (τ 201) i) (nI 1) = rw_ (τ 201) i 1 from rfl, show 12 + 6 * 1 + i = 18 + i from rfl, ← hr 1 (by decide)]
    · rw [if_neg (by decide), if_neg (by decide), if_pos (by decide), show tdv (rw_ (τ 201) i) (nI 2) = rw_ (τ 201) i 2 from rfl, show 12 + 6 * 1 + i = 18 + i from rfl, ← hr 2 (by decide)]
    · rw [if_neg (by decide), if_neg (by decide), if_neg (by decide), if_pos (by decide), show tdv (rw_ (τ 201) i) (nI 3) = rw_ (τ 201) i 3 from rfl, show 12 + 6 * 1 + i = 18 + i from rfl, ← hr 3 (by decide)]
    · rw [if_neg (by decide), if_neg (by decide), if_neg (by decide), if_neg (by decide), if_pos (by decide), show tdv (rw_ (τ 201) i) (nI 4) = rw_ (τ 201) i 4 from rfl, show 12 + 6 * 1 + i = 18 + i from rfl, ← hr 4 (by decide)]
    · rw [if_neg (by decide), if_neg (by decide), if_neg (by decide), if_neg (by decide), if_neg (by decide), if_pos (by decide), show tdv (rw_ (τ 201) i) (nI 5) = rw_ (τ 201) i 5 from rfl, show 12 + 6 * 1 + i = 18 + i from rfl, hr 5 (by decide)]
      rcases hv.2.2.2.2.2 with e | e
      · rw [if_pos e, e]
      · rw [if_neg (by rw [e]; decide), e]
    · rw [if_neg (by decide), if_neg (by decide), if_neg (by decide), if_neg (by decide), if_neg (by decide), if_neg (by decide), if_pos (by decide), show tdv (rw_ (τ 201) i) (nI 6) = rw_ (τ 201) i 6 from rfl, show 12 + 6 * 1 + i = 18 + i from rfl, ← hr 6 (by decide)]
    · rw [if_neg (by decide), if_neg (by decide), if_neg (by decide), if_neg (by decide), if_neg (by decide), if_neg (by decide), if_neg (by decide), if_pos (by decide), show tdv (rw_ (τ 201) i) (nI 7) = wLose (rw_ (τ 201) i) from rfl, ← lose_cg hr]
    · rw [if_neg (by decide), if_neg (by decide), if_neg (by decide), if_neg (by decide), if_neg (by decide), if_neg (by decide), if_neg (by decide), if_neg (by decide), if_pos (by decide), show tdv (rw_ (τ 201) i) (nI 8) = wWorth (rw_ (τ 201) i) from rfl, ← worth_cg hr]
  · have nb : ∀ k : Int32, (0 ≤ k ∧ k ≤ 8) → ¬ b = k := fun k hk e => hb (e ▸ hk)
    unfold tdv
    rw [if_neg hb, if_neg (nb 0 (by decide)), if_neg (nb 1 (by decide)), if_neg (nb 2 (by decide)), if_neg (nb 3 (by decide)), if_neg (nb 4 (by decide)), if_neg (nb 5 (by decide)), if_neg (nb 6 (by decide)), if_neg (nb 7 (by decide)), if_neg (nb 8 (by decide))]
theorem sim_told : hw_sim2 hv_R F_X6_told F_X7_told := by
  intro a b σ τ HR
  have HR' := HR
  obtain ⟨w, h, T, A, I, B, E⟩ := HR
  by_cases ha : ∃ i, i < w ∧ a = nI i
  · obtain ⟨i, hi, rfl⟩ := ha
    exact ⟨_, σ, τ, td_6 A hi b, td_7 A hi b, HR'⟩
  · refine ⟨-1000000001, σ, τ, ?_, ?_, HR'⟩
    · unfold F_X6_told; rw [wireAt_no (Or.inl rfl) A ha, hw_bd_s, if_pos rfl]
    · unfold F_X7_told; rw [isWire_no A ha, hw_bd_s, if_pos rfl]
theorem sim_as : hw_sim2 hv_R F_X6_as F_X7_as := by
  intro a b σ τ HR
  have HR' := HR
  obtain ⟨w, h, T, A, I, B, E⟩ := HR
  by_cases ha : ∃ i, i < w ∧ a = nI i
  · obtain ⟨i, hi, rfl⟩ := ha
    have h6 : i < 6 := Nat.lt_of_lt_of_le hi A.bw
    have hg := (elS (Or.inl rfl) h6).2
    have hr := W_rows A hi
    have hv := A.ww i hi
    obtain ⟨r1, e1, f1⟩ := X6_isOfKind hv.1 b σ
    obtain ⟨r2, e2, f2⟩ := X7_isUnder (rw_ (τ 201) i 0) b τ
    by_cases hb : 0 ≤ b ∧ b ≤ 5
    · by_cases hu : undr (rw_ (τ 201) i 0) b
      · refine ⟨rw_ (τ 201) i 2, σ, τ, ?_, ?_, HR'⟩
        · unfold F_X6_as
          rw [wireAt_yes (Or.inl rfl) A hi, hw_bd_s, if_neg (by omega), X6_isKind, hw_bd_s, if_pos hb, if_neg (by decide), hw_gd_t hg, show 12 + 6 * 1 + i = 18 + i from rfl, hr 0 (by decide), e1, hw_bd_s, if_neg (fun e => f1.mp e hu), hr 2 (by decide)]
        · unfold F_X7_as
          rw [isWire_yes A hi, hw_bd_s, if_neg (by decide), X7_in, hw_bd_s, if_pos hb, if_neg (by decide), show F_X7_of (nI i) 0 τ = _ from X7_of h6 (k := 0) (by decide) τ, hw_bd_s, e2, hw_bd_s, if_neg (fun e => f2.mp e hu), show F_X7_of (nI i) 2 τ = _ from X7_of h6 (k := 2) (by decide) τ, hw_bd_s]
      · refine ⟨-1000000012, σ, τ, ?_, ?_, HR'⟩
        · unfold F_X6_as
          rw [wireAt_yes (Or.inl rfl) A hi, hw_bd_s, if_neg (by omega), X6_isKind, hw_bd_s, if_pos hb, if_neg (by decide), hw_gd_t hg, show 12 + 6 * 1 + i = 18 + i from rfl, hr 0 (by decide), e1, hw_bd_s, if_pos (f1.mpr hu)]
        · unfold F_X7_as
          rw [isWire_yes A hi, hw_bd_s, if_neg (by decide), X7_in, hw_bd_s, if_pos hb, if_neg (by decide), show F_X7_of (nI i) 0 τ = _ from X7_of h6 (k := 0) (by decide) τ, hw_bd_s, e2, hw_bd_s, if_pos (f2.mpr hu)]
    · refine ⟨-1000000001, σ, τ, ?_, ?_, HR'⟩
      · unfold F_X6_as
        rw [wireAt_yes (Or.inl rfl) A hi, hw_bd_s, if_neg (by omega), X6_isKind, hw_bd_s, if_neg hb, if_pos rfl]
      · unfold F_X7_as
        rw [isWire_yes A hi, hw_bd_s, if_neg (by decide), X7_in, hw_bd_s, if_neg hb, if_pos rfl]
  · refine ⟨-1000000001, σ, τ, ?_, ?_, HR'⟩
    · unfold F_X6_as; rw [wireAt_no (Or.inl rfl) A ha, hw_bd_s, if_pos rfl]
    · unfold F_X7_as; rw [isWire_no A ha, hw_bd_s, if_pos rfl]
