/-! slots -/
theorem slF : ∀ i, i < 5 → hw_el 15 i = 68 + i ∧ hw_gH (68 + i) 4 = true ∧ hw_fl (68 + i) 2 = 73 + i ∧ hw_fl (68 + i) 3 = 78 + i ∧ hw_gH (73 + i) 5 = true ∧ hw_gH (78 + i) 3 = true ∧ hw_fl (78 + i) 2 = 83 + i ∧ hw_gH (83 + i) 10 = true ∧ hw_ln (83 + i) = 24 := by decide
theorem X4_find {i : Nat} (hi : i < 5) (v : Int32) (s : hw_St) : F_X4_findingFor (68 + i) v s = some (if s (68 + i) 0 = 0 then -1000000011 else if s (68 + i) 0 = v then 0 else -1000000012, s) := by
  unfold F_X4_findingFor
  rw [hw_gd_t (slF i hi).2.1]
  split
  · rfl
  · split <;> rfl
theorem sim_ask : hw_sim2 hv_R F_X6_ask F_X7_ask := by
  intro a b σ τ HR
  have HR' := HR
  obtain ⟨w, h, T, A, I, B, E⟩ := HR
  by_cases ha : 0 ≤ a ∧ a ≤ 4
  · by_cases hb : 0 ≤ b ∧ b ≤ 5
    · obtain ⟨i, hi, rfl⟩ := ix_to (m := 4) rfl ha.1 ha.2
      obtain ⟨k1, k2, k3, k4, k5, k6, k7, k8, k9⟩ := slF i (by omega)
      obtain ⟨t1, t2, t3, t4, t5⟩ := E.sl i (by omega)
      have c6 : F_X6_ask (nI i) b σ = hw_bd (some ((if τ 217 i = 0 then (-1000000011 : Int32) else if τ 217 i = 1 then 0 else -1000000012), σ)) (fun r8 s9 => if r8 = 0 then (hw_gd (hw_gH (73 + i) 5) (hw_bd (F_X6_isOfKind (s9 (73 + i) 0) b s9) (fun r13 s14 => if r13 = 0 then (some (-1000000012, s14)) else (hw_bd (F_X5_worth (73 + i) s14) (fun r16 s17 => some (r16, s17)))))) else (some (r8, s9))) := by
        unfold F_X6_ask
        rw [X6_isSlot, hw_bd_s, if_pos ha, if_neg (by decide), X6_isKind, hw_bd_s, if_pos hb, if_neg (by decide), hw_gd_t (inb_nI (by omega) (by decide)), nI_clamp (by omega), k1, hw_gd_t k2, X4_find (by omega), k3, t1]
      have c7 : F_X7_ask (nI i) b τ = if τ 217 i = 0 then some (-1000000011, τ) else (if τ 217 i = 1 then (hw_bd (F_X7_isUnder (τ 218 i) b τ) (fun r12 s13 => if r12 = 0 then (some (-1000000012, s13)) else (some ((s13 219 i), s13)))) else some (-1000000012, τ)) := by
        unfold F_X7_ask
        rw [X7_isSlot, hw_bd_s, if_pos ha, if_neg (by decide), X7_in, hw_bd_s, if_pos hb, if_neg (by decide), hw_gd_t (inb_nI (by omega) (by decide)), nI_clamp (by omega), hw_gd_t (inb_nI (by omega) (by decide)), hw_gd_t (inb_nI (by omega) (by decide))]
        have hz : ∀ s13 : hw_St, hw_gd (hw_inb (nI i) 5) (some (s13 219 i, s13)) = some (s13 219 i, s13) := fun s13 => hw_gd_t (inb_nI (by omega) (by decide))
        simp only [hz]
      rw [c6, c7, hw_bd_s]
      by_cases h0 : τ 217 i = 0
      · rw [if_pos h0, if_pos h0, if_neg (by decide)]
        exact ⟨_, σ, τ, rfl, rfl, HR'⟩
      · rw [if_neg h0, if_neg h0]
        by_cases h1 : τ 217 i = 1
        · rw [if_pos h1, if_pos h1, if_pos rfl, hw_gd_t k5]
          obtain ⟨v1, v2, v3⟩ := t3 h1
          obtain ⟨r1, e1, f1⟩ := X6_isOfKind v1.1 b σ
          obtain ⟨r2, e2, f2⟩ := X7_isUnder (τ 218 i) b τ
          rw [e1, e2, hw_bd_s, hw_bd_s]
          by_cases hu : undr (σ (73 + i) 0) b
          · rw [if_neg (fun e => f1.mp e hu), if_neg (fun e => f2.mp e (by rw [v2]; exact hu)), X5_worth k5 σ v1.2.1.1, hw_bd_s, v3]
            exact ⟨_, σ, τ, rfl, rfl, HR'⟩
          · rw [if_pos (f1.mpr hu), if_pos (f2.mpr (by rw [v2]; exact hu))]
            exact ⟨_, σ, τ, rfl, rfl, HR'⟩
        · rw [if_neg h1, if_neg h1, if_neg (by decide)]
          exact ⟨_, σ, τ, rfl, rfl, HR'⟩
    · refine ⟨-1000000001, σ, τ, ?_, ?_, HR'⟩
      · unfold F_X6_ask; rw [X6_isSlot, hw_bd_s, if_pos ha, if_neg (by decide), X6_isKind, hw_bd_s, if_neg hb, if_pos rfl]
      · unfold F_X7_ask; rw [X7_isSlot, hw_bd_s, if_pos ha, if_neg (by decide), X7_in, hw_bd_s, if_neg hb, if_pos rfl]
  · refine ⟨-1000000001, σ, τ, ?_, ?_, HR'⟩
    · unfold F_X6_ask; rw [X6_isSlot, hw_bd_s, if_neg ha, if_pos rfl]
    · unfold F_X7_ask; rw [X7_isSlot, hw_bd_s, if_neg ha, if_pos rfl]
theorem rem_m1 (x : Int32) : hw_rem x (-1) = 0 := by
  have e : x / (-1) = -x := by
    rw [iEq, Int32.toInt_div, show (-1 : Int32).toInt = -1 from rfl, Int32.toInt_neg, Int.tdiv_neg, Int.tdiv_one]
  unfold hw_rem
  rw [e, Int32.neg_mul, Int32.mul_neg, Int32.mul_one, Int32.neg_neg, Int32.sub_self]
theorem sim_rest : hw_sim2 hv_R F_X6_rest F_X7_rest := by
  intro a b σ τ HR
  have HR' := HR
  obtain ⟨w, h, T, A, I, B, E⟩ := HR
  by_cases ha : 0 ≤ a ∧ a ≤ 4
  · obtain ⟨i, hi, rfl⟩ := ix_to (m := 4) rfl ha.1 ha.2
    obtain ⟨k1, k2, k3, k4, k5, k6, k7, k8, k9⟩ := slF i (by omega)
    obtain ⟨t1, t2, t3, t4, t5⟩ := E.sl i (by omega)
    have c6 : F_X6_rest (nI i) b σ = hw_bd (some ((if τ 217 i = 0 then (-1000000011 : Int32) else if τ 217 i = 3 then 0 else -1000000012), σ)) (fun r5 s6 => if r5 = 0 then (if b = 0 then (some (-1000000002, s6)) else (hw_gd (hw_nz b) (some ((hw_rem (s6 (68 + i) 1) b), s6)))) else (some (r5, s6))) := by
      unfold F_X6_rest
      rw [X6_isSlot, hw_bd_s, if_pos ha, if_neg (by decide), hw_gd_t (inb_nI (by omega) (by decide)), nI_clamp (by omega), k1, hw_gd_t k2, X4_find (by omega), t1]
    have c7 : F_X7_rest (nI i) b τ = if τ 217 i = 0 then some (-1000000011, τ) else (if τ 217 i = 3 then (if b = 0 then some (-1000000002, τ) else (if b = -1 then some (0, τ) else hw_gd (hw_nz b) (some (hw_rem (τ 218 i) b, τ)))) else some (-1000000012, τ)) := by
      unfold F_X7_rest
      rw [X7_isSlot, hw_bd_s, if_pos ha, if_neg (by decide), hw_gd_t (inb_nI (by omega) (by decide)), nI_clamp (by omega), hw_gd_t (inb_nI (by omega) (by decide)), hw_gd_t (inb_nI (by omega) (by decide))]
    rw [c6, c7, hw_bd_s]
    by_cases h0 : τ 217 i = 0
    · rw [if_pos h0, if_pos h0, if_neg (by decide)]
      exact ⟨_, σ, τ, rfl, rfl, HR'⟩
    · rw [if_neg h0, if_neg h0]
      by_cases h3 : τ 217 i = 3
      · rw [if_pos h3, if_pos h3, if_pos rfl, t5 h3]
        by_cases hb : b = 0
        · rw [if_pos hb, if_pos hb]; exact ⟨_, σ, τ, rfl, rfl, HR'⟩
        · have hz : hw_nz b = true := decide_eq_true hb
          rw [if_neg hb, if_neg hb, hw_gd_t hz, hw_gd_t hz]
          by_cases hm : b = -1
          · rw [if_pos hm, hm, rem_m1]; exact ⟨_, σ, τ, rfl, rfl, HR'⟩
          · rw [if_neg hm]; exact ⟨_, σ, τ, rfl, rfl, HR'⟩
      · rw [if_neg h3, if_neg h3, if_neg (by decide)]
        exact ⟨_, σ, τ, rfl, rfl, HR'⟩
  · refine ⟨-1000000001, σ, τ, ?_, ?_, HR'⟩
    · unfold F_X6_rest; rw [X6_isSlot, hw_bd_s, if_neg ha, if_pos rfl]
    · unfold F_X7_rest; rw [X7_isSlot, hw_bd_s, if_neg ha, if_pos rfl]
theorem sim_item : hw_sim2 hv_R F_X6_item F_X7_item := by
  intro a b σ τ HR
  have HR' := HR
  obtain ⟨w, h, T, A, I, B, E⟩ := HR
  by_cases ha : 0 ≤ a ∧ a ≤ 4
  · obtain ⟨i, hi, rfl⟩ := ix_to (m := 4) rfl ha.1 ha.2
    obtain ⟨k1, k2, k3, k4, k5, k6, k7, k8, k9⟩ := slF i (by omega)
    obtain ⟨t1, t2, t3, t4, t5⟩ := E.sl i (by omega)
    have c6 : F_X6_item (nI i) b σ = hw_bd (some ((if τ 217 i = 0 then (-1000000011 : Int32) else if τ 217 i = 2 then 0 else -1000000012), σ)) (fun r5 s6 => if r5 = 0 then (hw_gd (hw_gH (78 + i) 3) (hw_bd (F_X3_hasPlace (78 + i) b s6) (fun r10 s11 => if r10 = 0 then (some (-1000000013, s11)) else (hw_bd (F_X3_hasNumber (78 + i) b s11) (fun r13 s14 => if r13 = 0 then (some (-1000000012, s14)) else (hw_gd (hw_gH (83 + i) 10) (hw_gd (hw_inb b 24) (some ((s14 (83 + i) b.toNatClampNeg), s14))))))))) else (some (r5, s6))) := by
      unfold F_X6_item
      rw [X6_isSlot, hw_bd_s, if_pos ha, if_neg (by decide), hw_gd_t (inb_nI (by omega) (by decide)), nI_clamp (by omega), k1, hw_gd_t k2, X4_find (by omega), t1, k4, k7, k9]
    have c7 : F_X7_item (nI i) b τ = if τ 217 i = 0 then some (-1000000011, τ) else (if τ 217 i = 2 then (hw_bd (F_X7_in b 0 ((τ 218 i) - 1) τ) (fun r9 s10 => if r9 = 0 then (some (-1000000013, s10)) else (hw_gd (hw_inb ((24 * nI i) + b) 120) (hw_nm (s10 220 ((24 * nI i) + b).toNatClampNeg) (fun x13 => if x13 = -1000000005 then (some (-1000000012, s10)) else (some (x13, s10))))))) else some (-1000000012, τ)) := by
      unfold F_X7_item
      rw [X7_isSlot, hw_bd_s, if_pos ha, if_neg (by decide), hw_gd_t (inb_nI (by omega) (by decide)), nI_clamp (by omega), hw_gd_t (inb_nI (by omega) (by decide)), hw_gd_t (inb_nI (by omega) (by decide))]
    rw [c6, c7, hw_bd_s]
    by_cases h0 : τ 217 i = 0
    · rw [if_pos h0, if_pos h0, if_neg (by decide)]
      exact ⟨_, σ, τ, rfl, rfl, HR'⟩
    · rw [if_neg h0, if_neg h0]
      by_cases h2 : τ 217 i = 2
      · obtain ⟨⟨p, hp, p1, p2⟩, cc⟩ := t4 h2
        have hpl : ∀ s : hw_St, s (78 + i) 1 = nI p → F_X3_hasPlace (78 + i) b s = some (if 0 ≤ b ∧ b ≤ nI p - 1 then 1 else 0, s) := fun s es => by
          unfold F_X3_hasPlace
          rw [hw_gd_t k6, X6_isWithin, hw_bd_s, es, isbI]
        rw [if_pos h2, if_pos h2, if_pos rfl, hw_gd_t k6, hpl σ p1, hw_bd_s, X7_in, hw_bd_s, p2]
        by_cases hb : 0 ≤ b ∧ b ≤ nI p - 1
        · obtain ⟨j, hj, rfl⟩ := (ix_of (by omega)).mp hb
          have ej : (24 : Int32) * nI i + nI j = nI (24 * i + j) := by rw [show (24 : Int32) = nI 24 from rfl, pk_mul, nI_add]
          have hnu : F_X3_hasNumber (78 + i) (nI j) σ = some (if σ (83 + i) j = -1000000005 then 0 else 1, σ) := by
            unfold F_X3_hasNumber
            rw [hw_gd_t k6, hpl σ p1, hw_bd_s, if_pos hb, if_neg (by decide), k7, hw_gd_t k8, k9, hw_gd_t (inb_nI (by omega) (by decide)), nI_clamp (by omega)]
            split <;> rfl
          rw [if_pos hb, if_neg (by decide), if_neg (by decide), hnu, hw_bd_s, ej, hw_gd_t (inb_nI (i := 24 * i + j) (by omega) (by decide)), hw_nm_s, nI_clamp (by omega), nI_clamp (by omega), cc j (by omega)]
          by_cases hz : τ 220 (24 * i + j) = -1000000005
          · rw [if_pos hz, if_pos hz, if_pos rfl]
            exact ⟨_, σ, τ, rfl, rfl, HR'⟩
          · rw [if_neg hz, if_neg hz, if_neg (by decide), hw_gd_t k8, hw_gd_t (inb_nI (by omega) (by decide))]
            exact ⟨_, σ, τ, rfl, rfl, HR'⟩
        · rw [if_neg hb, if_pos rfl, if_pos rfl]
          exact ⟨_, σ, τ, rfl, rfl, HR'⟩
      · rw [if_neg h2, if_neg h2, if_neg (by decide)]
        exact ⟨_, σ, τ, rfl, rfl, HR'⟩
  · refine ⟨-1000000001, σ, τ, ?_, ?_, HR'⟩
    · unfold F_X6_item; rw [X6_isSlot, hw_bd_s, if_neg ha, if_pos rfl]
    · unfold F_X7_item; rw [X7_isSlot, hw_bd_s, if_neg ha, if_pos rfl]
