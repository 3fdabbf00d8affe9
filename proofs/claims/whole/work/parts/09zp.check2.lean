/-! check -/
theorem R_te0 {σ τ : hw_St} (H : hv_R σ τ) : hv_R (hw_up σ 0 11 0) (hw_up τ 200 36 0) := by
  obtain ⟨w, h, T, A, I, B, E⟩ := H
  have r : ∀ t, t ≠ 0 → hw_up σ 0 11 0 t = σ t := fun t ht => up_row _ _ _ _ ht
  have r0 : ∀ k, k ≠ 11 → hw_up σ 0 11 0 0 k = σ 0 k := fun k hk => by rw [up_self, upd_n _ _ hk]
  have s : ∀ t, t ≠ 200 → hw_up τ 200 36 0 t = τ t := fun t ht => up_row _ _ _ _ ht
  have s0 : ∀ k, k ≠ 36 → hw_up τ 200 36 0 200 k = τ 200 k := fun k hk => by rw [up_self, upd_n _ _ hk]
  refine ⟨w, h, T, ?_, ?_, ?_, ?_, ?_, fun i hi => ?_, fun i hi => ?_, ?_⟩
  · rw [s 201 (by decide)]
    exact Sc_keep A (r _ (by omega)) (r _ (by omega)) (r _ (by omega)) (fun i hi => r _ (by omega)) (fun t g1 g2 => r t (by omega))
  · exact Im_keep I (r0 3 (by decide)) (s0 3 (by decide)) (s 202 (by decide)) (fun t ht => r t (by omega))
  · intro x g1 g2; rw [r x (by omega)]; exact B x g1 g2
  · obtain ⟨n, h1, h2, h3, h4⟩ := E.ta
    exact ⟨n, h1, by rw [r0 6 (by decide)]; exact h2, by rw [s0 10 (by decide)]; exact h3, by rw [r 12 (by decide), s 206 (by decide)]; exact h4⟩
  · exact ⟨0, by omega, by rw [up_self, upd_s]; rfl, by rw [up_self, upd_s]; rfl, fun j hj => absurd hj (by omega)⟩
  · obtain ⟨e1, e2, e3, e4⟩ := E.sh i hi
    refine ⟨?_, ?_, ?_, ?_⟩
    · rw [r _ (by omega), s _ (by omega)]; exact e1
    · rw [s _ (by omega)]; exact e2
    · rw [r _ (by omega), s _ (by omega)]; exact e3
    · rw [r _ (by omega), s _ (by omega)]; exact e4
  · obtain ⟨e1, e2, e3, e4, e5⟩ := E.sl i hi
    refine ⟨?_, ?_, ?_, ?_, ?_⟩
    · rw [r _ (by omega), s _ (by omega)]; exact e1
    · rw [s _ (by omega)]; exact e2
    · rw [r _ (by omega), s 217 (by omega), s 218 (by omega), s 219 (by omega)]; exact e3
    · rw [r (78 + i) (by omega), r (83 + i) (by omega), s 217 (by omega), s 218 (by omega), s 220 (by omega)]; exact e4
    · rw [r _ (by omega), s 217 (by omega), s 218 (by omega)]; exact e5
  · exact ⟨by rw [s 207 (by decide)]; exact E.co.1, by rw [s 208 (by decide)]; exact E.co.2⟩
theorem R_kc {σ τ σ' τ' : hw_St} (H : hv_R σ τ) (k : kq τ τ') (e : ∀ j, j < 1443 → τ' 201 j = τ 201 j) (ks : ∀ t, t ≠ 10 → t ≠ 11 → σ' t = σ t) : hv_R σ' τ' := by
  obtain ⟨w, h, T, A, I, B, E⟩ := H
  refine R_now (T' := T) (w' := w) (h' := h) (w := w) (h := h) (Nat.le_refl _) ?_ I B E ?_ (fun t ht => ks t (by omega) (by omega)) (fun t ht => k.1 t (by omega)) (k.2 3 (by omega)) (k.2 10 (by omega)) (k.2 36 (by omega))
  · exact Sc_keep (Sc_cg A e) (ks _ (by omega) (by omega)) (ks _ (by omega) (by omega)) (ks _ (by omega) (by omega)) (fun i hi => ks _ (by omega) (by omega)) (fun t h1 h2 => ks t (by omega) (by omega))
  · intro x h1 h2
    rw [ks x (by omega) (by omega)]; exact B x h1 (by omega)
theorem kq_203 (τ : hw_St) (f : Nat → Int32) : kq τ (hw_upA τ 203 f) := ⟨fun t' h => upA_row _ _ _ (by omega), fun k _ => by rw [upA_row _ _ _ (by omega)]⟩
theorem sim_check : hw_sim2 hv_R F_X6_check F_X7_check := by
  intro a b σ0 τ0 HR0
  have HR := R_te0 HR0
  obtain ⟨n0, z1, z2, z3, z4⟩ := (show hv_Te σ0 τ0 by obtain ⟨w, h, T, A, I, B, E⟩ := HR0; exact E.te)
  have wt : ∀ j, j < n0 → hw_up σ0 0 11 0 16 j = hw_up τ0 200 36 0 222 j := fun j hj => by rw [up_row _ _ _ _ (by decide), up_row _ _ _ _ (by decide)]; exact z4 j hj
  have i6 : F_X6_check a b σ0 = (hw_bd (F_X6_isWithin b 1 30 (hw_up σ0 0 11 0)) (fun r3 s4 => if r3 = 0 then (some ((-1000000001), s4)) else (if (s4 0 3) = 0 then (some ((-1000000002), s4)) else (hw_bd (F_X2_wireAt 2 a s4) (fun r7 s8 => if r7 = 999 then (some ((-1000000001), s8)) else (hw_bd (F_X5_become 11 r7 s8) (fun _ s11 => hw_bd (F_X6_hoursToldRight b (nI n0) s11) (fun r12 s13 => if r12 = nI n0 then (if r12 = ((2) * b) then (some ((0), s13)) else (B_X6_check_87 r12 s13)) else (B_X6_check_87 r12 s13))))))))) := by
    unfold F_X6_check
    rw [hw_nm_s, hw_nm_s, z2]
  have i7 : F_X7_check a b τ0 = (hw_bd (F_X7_in b 1 30 (hw_up τ0 200 36 0)) (fun r3 s4 => if r3 = 0 then (some ((-1000000001), s4)) else (if (s4 200 3) = 0 then (some ((-1000000002), s4)) else (hw_gd (hw_inb (1) 1443) (hw_bd (F_X7_in a (0) ((s4 202 ((1 : Int32).toNatClampNeg)) - (1)) s4) (fun r8 s9 => if r8 = 0 then (some ((-1000000001), s9)) else (hw_bd (F_X7_copyAll 201 203 s9) (fun _ s12 => hw_bd (F_X7_copyAll 202 201 s12) (fun _ s14 => hw_bd (F_X7_rightHours a b (nI n0) s14) (fun r15 s16 => hw_bd (F_X7_copyAll 203 201 s16) (fun _ s18 => if r15 = nI n0 then (if r15 = ((2) * b) then (some ((0), s18)) else (B_X7_check_112 r15 s18)) else (B_X7_check_112 r15 s18)))))))))))) := by
    unfold F_X7_check
    rw [hw_nm_s, hw_nm_s, z3]
  rw [i6, i7]
  generalize hw_up σ0 0 11 0 = σ at HR wt ⊢
  generalize hw_up τ0 200 36 0 = τ at HR wt ⊢
  have HR' := HR
  obtain ⟨w, h, T, A, I, B, E⟩ := HR
  rw [X6_isWithin, hw_bd_s, X7_in, hw_bd_s]
  by_cases hb : 1 ≤ b ∧ b ≤ 30
  · obtain ⟨m, hm, rfl⟩ := ix_to (m := 30) rfl (Int32.le_trans (by decide) hb.1) hb.2
    have n10 : ¬ (1 : Int32) = 0 := by decide
    rw [if_pos hb, if_neg n10, if_neg n10]
    rcases I with ⟨i1, i2⟩ | ⟨i1, i2, w2, h2, T2, hT2, A2⟩
    · rw [if_pos i1, if_pos i2]; exact ⟨_, σ, τ, rfl, rfl, HR'⟩
    · have hb6 := A2.bw
      rw [if_neg (by rw [i1]; decide), if_neg (by rw [i2]; decide), hw_gd_t (by decide), show ((1 : Int32).toNatClampNeg) = 1 from rfl, A2.n1, X7_in, hw_bd_s]
      by_cases ha : ∃ i, i < w2 ∧ a = nI i
      · obtain ⟨i, hi, rfl⟩ := ha
        have h6 : i < 6 := by omega
        obtain ⟨f, e1, e2⟩ := bec11' (σ := σ) (y := 24 + i) (elS' i h6).2.2 (by omega) (B _ (by omega) (by omega))
        have p203 : hw_upA τ 203 (cpI 0 (τ 201) (τ 203)) 202 = τ 202 := upA_row _ _ _ (by decide)
        have p201 : hw_upA τ 203 (cpI 0 (τ 201) (τ 203)) 201 = τ 201 := upA_row _ _ _ (by decide)
        have AN : hv_Sc σ 2 (cpI 0 (τ 202) (τ 201)) w2 h2 T2 := Sc_cg A2 (cpI_lt _ _)
        have e3 : e7 f (rw_ (cpI 0 (τ 202) (τ 201)) i) := fun k hk => by rw [e2 k hk]; exact AN.wi i hi k hk
        generalize hN0 : cpI 0 (τ 202) (τ 201) = N at AN e3
        obtain ⟨r, g', f', M', a', b', k1, k2⟩ := rh_loop (τ := hw_upA (hw_upA τ 203 (cpI 0 (τ 201) (τ 203))) 201 N) AN hi e3 hm z1 (fun j hj => by rw [upA_row _ _ _ (by decide), upA_row _ _ _ (by decide)]; exact wt j hj) m 0 130 (σ 10) N ((hw_upA (hw_upA τ 203 (cpI 0 (τ 201) (τ 203))) 201 N) 212) ((hw_upA (hw_upA τ 203 (cpI 0 (τ 201) (τ 203))) 201 N) 213) (by omega) (by omega) ⟨rfl, rfl, fun _ _ => rfl⟩ AN.n1 (by rw [Nat.add_zero, Nat.mod_eq_of_lt AN.bh]; exact AN.n2) (fun _ _ => rfl) (fun _ _ => rfl) AN.ww
        have ms : mf (hw_upA (hw_upA τ 203 (cpI 0 (τ 201) (τ 203))) 201 N) N ((hw_upA (hw_upA τ 203 (cpI 0 (τ 201) (τ 203))) 201 N) 212) ((hw_upA (hw_upA τ 203 (cpI 0 (τ 201) (τ 203))) 201 N) 213) = hw_upA (hw_upA τ 203 (cpI 0 (τ 201) (τ 203))) 201 N := by
          have := mf_s (hw_upA (hw_upA τ 203 (cpI 0 (τ 201) (τ 203))) 201 N)
          rw [upA_self] at this
          exact this.symm
        rw [ms] at k2
        have c6 : F_X6_hoursToldRight (nI m) (nI n0) (nf σ 11 (σ 10) f) = some (r, nf σ 11 g' f') := k1
        have c7 : F_X7_rightHours (nI i) (nI m) (nI n0) (hw_upA (hw_upA τ 203 (cpI 0 (τ 201) (τ 203))) 201 N) = some (r, mf (hw_upA (hw_upA τ 203 (cpI 0 (τ 201) (τ 203))) 201 N) M' a' b') := k2
        generalize hX : mf (hw_upA (hw_upA τ 203 (cpI 0 (τ 201) (τ 203))) 201 N) M' a' b' = X at c7
        have x203 : X 203 = cpI 0 (τ 201) (τ 203) := by rw [← hX, mf_o _ _ _ _ (by decide) (by decide) (by decide), upA_row _ _ _ (by decide), upA_self]
        have kX : kq τ X := by rw [← hX]; exact kq_tr (kq_tr (kq_203 _ _) (kq_upA _ _ (by omega))) (kq_mf _ _ _ _)
        have fin : hv_R (nf σ 11 g' f') (hw_upA X 201 (cpI 0 (X 203) (X 201))) := R_kc HR' (kq_tr kX (kq_upA _ _ (by omega))) (fun j hj => by rw [upA_self, cpI_lt _ _ j hj, x203, cpI_lt _ _ j hj]) (fun t h1 h2 => nf_o _ _ _ h2 h1)
        rw [wireAt_yes (Or.inr rfl) A2 hi, hw_bd_s, if_neg (by omega), show 12 + 6 * 2 + i = 24 + i from rfl, e1, hw_bd_s, c6, hw_bd_s, if_pos ((ix_of (by omega)).mpr ⟨i, hi, rfl⟩), if_neg n10, copy7 (by omega) (by omega) (by decide), hw_bd_s, copy7 (t0 := 202) (t1 := 201) (by omega) (by omega) (by decide), hw_bd_s, p203, p201, hN0, c7, hw_bd_s, copy7 (by omega) (by omega) (by decide), hw_bd_s]
        unfold B_X6_check_87 B_X7_check_112
        by_cases q1 : r = nI n0
        · rw [if_pos q1, if_pos q1]
          by_cases q2 : r = 2 * nI m
          · rw [if_pos q2, if_pos q2]; exact ⟨_, _, _, rfl, rfl, fin⟩
          · rw [if_neg q2, if_neg q2]; exact ⟨_, _, _, rfl, rfl, fin⟩
        · rw [if_neg q1, if_neg q1]; exact ⟨_, _, _, rfl, rfl, fin⟩
      · rw [wireAt_no (Or.inr rfl) A2 ha, hw_bd_s, if_pos rfl, if_neg (fun g => ha ((ix_of (by omega)).mp g)), if_pos rfl]
        exact ⟨_, σ, τ, rfl, rfl, HR'⟩
  · rw [if_neg hb, if_pos rfl, if_pos rfl]
    exact ⟨_, σ, τ, rfl, rfl, HR'⟩
