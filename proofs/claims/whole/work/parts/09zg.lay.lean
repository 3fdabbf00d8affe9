/-! lay -/
theorem lay_sl {σ σ' τ τ' : hw_St} (H : ∀ i, i < 5 → hv_Sl σ τ i) {i : Nat} (hi : i < 5) (me : hv_Sl σ' τ' i) (ks : ∀ t, 68 ≤ t → t ≠ 68 + i → t ≠ 73 + i → t ≠ 78 + i → t ≠ 83 + i → σ' t = σ t) (k7 : ∀ q, q ≠ i → τ' 217 q = τ 217 q) (k8 : ∀ q, q ≠ i → τ' 218 q = τ 218 q) (k9 : ∀ q, q ≠ i → τ' 219 q = τ 219 q) (k0 : ∀ q, (q < 24 * i ∨ 24 * i + 24 ≤ q) → τ' 220 q = τ 220 q) : ∀ i', i' < 5 → hv_Sl σ' τ' i' := by
  intro i' hi'
  by_cases e : i' = i
  · subst e; exact me
  · exact sl_oth (H i' hi') (ks _ (by omega) (by omega) (by omega) (by omega) (by omega)) (ks _ (by omega) (by omega) (by omega) (by omega) (by omega)) (ks _ (by omega) (by omega) (by omega) (by omega) (by omega)) (ks _ (by omega) (by omega) (by omega) (by omega) (by omega)) (k7 i' e) (k8 i' e) (k9 i' e) (fun j hj => k0 _ (by omega))
def ly7 (τ : hw_St) (i : Nat) (v a b : Int32) : hw_St := hw_up (hw_up (hw_up τ 217 i v) 218 i a) 219 i b
theorem ly7_r (τ : hw_St) (i : Nat) (v a b : Int32) {t : Nat} (h1 : t ≠ 217) (h2 : t ≠ 218) (h3 : t ≠ 219) : ly7 τ i v a b t = τ t := by
  unfold ly7; rw [up_row _ _ _ _ h3, up_row _ _ _ _ h2, up_row _ _ _ _ h1]
theorem ly7_7 (τ : hw_St) (i : Nat) (v a b : Int32) : ly7 τ i v a b 217 = upd (τ 217) i v := by
  unfold ly7; rw [up_row _ _ _ _ (by decide), up_row _ _ _ _ (by decide), up_self]
theorem ly7_8 (τ : hw_St) (i : Nat) (v a b : Int32) : ly7 τ i v a b 218 = upd (τ 218) i a := by
  unfold ly7; rw [up_row _ _ _ _ (by decide), up_self, up_row _ _ _ _ (by decide)]
theorem ly7_9 (τ : hw_St) (i : Nat) (v a b : Int32) : ly7 τ i v a b 219 = upd (τ 219) i b := by
  unfold ly7; rw [up_self, up_row _ _ _ _ (by decide), up_row _ _ _ _ (by decide)]
theorem lay7_1 {σ τ : hw_St} {w h T : Nat} (A : hv_Sc σ 1 (τ 201) w h T) {i q : Nat} (hi : i < 5) (hq : q < w) : B_X7_lay_61 (nI i) 1 (nI q) τ = some (τ 217 i, ly7 τ i 1 (rw_ (τ 201) q 0) (wWorth (rw_ (τ 201) q))) := by
  have h6 : q < 6 := Nat.lt_of_lt_of_le hq A.bw
  have gi : hw_inb (nI i) 5 = true := inb_nI hi (by decide)
  have ci : (nI i).toNatClampNeg = i := nI_clamp (by omega)
  have r1 : hw_up τ 217 i 1 201 = τ 201 := up_row _ _ _ _ (by decide)
  have r2 : ∀ v, hw_up (hw_up τ 217 i 1) 218 i v 201 = τ 201 := fun v => by rw [up_row _ _ _ _ (by decide), r1]
  unfold B_X7_lay_61
  rw [hw_gd_t gi, hw_nm_s, hw_gd_t gi, hw_nm_s, if_pos rfl, ci, show F_X7_of (nI q) 0 (hw_up τ 217 i 1) = _ from X7_of h6 (k := 0) (by decide) _, hw_bd_s, r1]
  unfold B_X7_lay_110
  rw [hw_gd_t gi, hw_nm_s, if_pos rfl, ci, X7_worth h6 _ (by rw [r2]; exact (A.ww q hq).2.1.1), hw_bd_s, r2]
  unfold B_X7_lay_130
  rw [hw_gd_t gi, hw_nm_s, ci]
  exact ly_no (by decide) 129 _ _
theorem lay7_2 {τ : hw_St} {i q : Nat} (hi : i < 5) (hq : q < 4) : B_X7_lay_61 (nI i) 2 (nI q) τ = some (τ 217 i, hw_upA (ly7 τ i 2 (τ 215 q) 0) 220 (fun k => if 24 * i + 0 ≤ k ∧ k < 24 * i + 24 then τ 216 (24 * q + (k - 24 * i)) else τ 220 k)) := by
  have gi : hw_inb (nI i) 5 = true := inb_nI hi (by decide)
  have ci : (nI i).toNatClampNeg = i := nI_clamp (by omega)
  unfold B_X7_lay_61
  rw [hw_gd_t gi, hw_nm_s, hw_gd_t gi, hw_nm_s, if_neg (by decide), if_pos rfl, ci, hw_gd_t (inb_nI hq (by decide)), nI_clamp (by omega), up_row _ _ _ _ (by decide)]
  unfold B_X7_lay_110
  rw [hw_gd_t gi, hw_nm_s, if_neg (by decide), ci]
  unfold B_X7_lay_130
  rw [hw_gd_t gi, hw_nm_s, ci]
  have := ly_two hi hq (τ 217 i) 24 0 130 (ly7 τ i 2 (τ 215 q) 0) (by omega) (by omega)
  rw [ly7_r _ _ _ _ _ (show 216 ≠ 217 by decide) (by decide) (by decide), ly7_r _ _ _ _ _ (show 220 ≠ 217 by decide) (by decide) (by decide)] at this
  exact this
theorem lay7_o {τ : hw_St} {i : Nat} (hi : i < 5) {v c : Int32} (h1 : ¬ v = 1) (h2 : ¬ v = 2) : B_X7_lay_61 (nI i) v c τ = some (τ 217 i, ly7 τ i v c 0) := by
  have gi : hw_inb (nI i) 5 = true := inb_nI hi (by decide)
  have ci : (nI i).toNatClampNeg = i := nI_clamp (by omega)
  unfold B_X7_lay_61
  rw [hw_gd_t gi, hw_nm_s, hw_gd_t gi, hw_nm_s, if_neg h1, if_neg h2, ci]
  unfold B_X7_lay_110
  rw [hw_gd_t gi, hw_nm_s, if_neg h1, ci]
  unfold B_X7_lay_130
  rw [hw_gd_t gi, hw_nm_s, ci]
  exact ly_no h2 129 _ _
theorem sim_lay : hw_sim3 hv_R F_X6_lay F_X7_lay := by
  intro a v c σ τ HR
  have HR' := HR
  obtain ⟨w, h, T, A, I, B, E⟩ := HR
  by_cases ha : 0 ≤ a ∧ a ≤ 4
  · obtain ⟨i, hi, rfl⟩ := ix_to (m := 4) rfl ha.1 ha.2
    have hi5 : i < 5 := by omega
    obtain ⟨k1, k2, k3, k4, k5, k6, k7, k8, k9⟩ := slF i hi5
    obtain ⟨t1, t2, t3, t4, t5⟩ := E.sl i hi5
    have gi : hw_inb (nI i) 5 = true := inb_nI hi5 (by decide)
    have ci : (nI i).toNatClampNeg = i := nI_clamp (by omega)
    by_cases hv : 0 ≤ v ∧ v ≤ 3
    · obtain ⟨u, hu, rfl⟩ := ix_to (m := 3) rfl hv.1 hv.2
      have cs : u = 0 ∨ u = 1 ∨ u = 2 ∨ u = 3 := by omega
      rcases cs with rfl | rfl | rfl | rfl
      · refine ⟨τ 217 i, hw_up σ (68 + i) 0 0, ly7 τ i 0 c 0, ?_, ?_, ?_⟩
        · unfold F_X6_lay
          rw [X6_isSlot, hw_bd_s, if_pos ha, if_neg (by decide), X6_isWithin, hw_bd_s, if_pos hv, if_neg (by decide), if_neg (by decide)]
          unfold B_X6_lay_35
          rw [if_neg (by decide)]
          unfold B_X6_lay_50
          rw [if_neg (by decide)]
          unfold B_X6_lay_70
          rw [hw_gd_t gi, ci, k1, hw_gd_t k2, hw_nm_s, hw_nm_s, if_neg (by decide), if_neg (by decide), if_neg (by decide), t1]
          rfl
        · unfold F_X7_lay
          rw [X7_isSlot, hw_bd_s, if_pos ha, if_neg (by decide), X7_in, hw_bd_s, if_pos hv, if_neg (by decide), if_neg (by decide)]
          unfold B_X7_lay_29
          rw [if_neg (by decide)]
          unfold B_X7_lay_44
          rw [if_neg (by decide)]
          exact lay7_o hi5 (by decide) (by decide)
        · refine R_sl HR' (lay_sl E.sl hi5 ⟨?_, ?_, ?_, ?_, ?_⟩ (fun t _ g _ _ _ => up_row _ _ _ _ g) (fun q g => by rw [ly7_7, upd_n _ _ g]) (fun q g => by rw [ly7_8, upd_n _ _ g]) (fun q g => by rw [ly7_9, upd_n _ _ g]) (fun q _ => by rw [ly7_r _ _ _ _ _ (by decide) (by decide) (by decide)])) (fun t ht => up_row _ _ _ _ (by omega)) (fun t ht => ly7_r _ _ _ _ _ (by omega) (by omega) (by omega))
          · rw [ly7_7, upd_s, up_self, upd_s]
          · rw [ly7_7, upd_s]; decide
          · rw [ly7_7, upd_s]; exact fun e => absurd e (by decide)
          · rw [ly7_7, upd_s]; exact fun e => absurd e (by decide)
          · rw [ly7_7, upd_s]; exact fun e => absurd e (by decide)
      · by_cases hc : ∃ q, q < w ∧ c = nI q
        · obtain ⟨q, hq, rfl⟩ := hc
          have h6 : q < 6 := Nat.lt_of_lt_of_le hq A.bw
          obtain ⟨f, e1, e2⟩ := X5_bec k5 (elS' q h6).1.2 (show 18 + q ≠ 73 + i by omega) (hw_up σ (68 + i) 0 1) (by rw [up_row _ _ _ _ (by omega)]; exact B _ (by omega) (by omega))
          rw [up_row _ _ _ _ (by omega)] at e2
          have e3 : e7 f (rw_ (τ 201) q) := fun k hk => by rw [e2 k hk]; exact W_rows A hq k hk
          refine ⟨τ 217 i, hw_upA (hw_up σ (68 + i) 0 1) (73 + i) f, ly7 τ i 1 (rw_ (τ 201) q 0) (wWorth (rw_ (τ 201) q)), ?_, ?_, ?_⟩
          · unfold F_X6_lay
            rw [X6_isSlot, hw_bd_s, if_pos ha, if_neg (by decide), X6_isWithin, hw_bd_s, if_pos hv, if_neg (by decide), if_pos (by decide), wireAt_yes (Or.inl rfl) A hq, hw_bd_s, if_neg (by omega)]
            unfold B_X6_lay_35
            rw [if_neg (by decide)]
            unfold B_X6_lay_50
            rw [if_neg (by decide)]
            unfold B_X6_lay_70
            rw [hw_gd_t gi, ci, k1, hw_gd_t k2, hw_nm_s, hw_nm_s, if_pos (by decide), hw_gd_t (inb_nI h6 (by decide)), nI_clamp (by omega), (elS' q h6).1.1, hw_gd_t (elS' q h6).1.2, k3, hw_gd_t k5, show (nI 1 : Int32) = 1 from rfl, e1, hw_bd_s, t1]
          · unfold F_X7_lay
            rw [X7_isSlot, hw_bd_s, if_pos ha, if_neg (by decide), X7_in, hw_bd_s, if_pos hv, if_neg (by decide), if_pos (by decide), isWire_yes A hq, hw_bd_s, if_neg (by decide)]
            unfold B_X7_lay_29
            rw [if_neg (by decide)]
            unfold B_X7_lay_44
            rw [if_neg (by decide)]
            exact lay7_1 A hi5 hq
          · refine R_sl HR' (lay_sl E.sl hi5 ⟨?_, ?_, ?_, ?_, ?_⟩ (fun t _ g g2 _ _ => by rw [upA_row _ _ _ g2, up_row _ _ _ _ g]) (fun q g => by rw [ly7_7, upd_n _ _ g]) (fun q g => by rw [ly7_8, upd_n _ _ g]) (fun q g => by rw [ly7_9, upd_n _ _ g]) (fun q _ => by rw [ly7_r _ _ _ _ _ (by decide) (by decide) (by decide)])) (fun t ht => by rw [upA_row _ _ _ (by omega), up_row _ _ _ _ (by omega)]) (fun t ht => ly7_r _ _ _ _ _ (by omega) (by omega) (by omega))
            · rw [ly7_7, upd_s, upA_row _ _ _ (by omega), up_self, upd_s]
            · rw [ly7_7, upd_s]; decide
            · intro _
              rw [upA_self, ly7_8, upd_s, ly7_9, upd_s]
              exact ⟨W_cg e3 (A.ww q hq), (e3 0 (by decide)).symm, (worth_cg e3).symm⟩
            · rw [ly7_7, upd_s]; exact fun e => absurd e (by decide)
            · rw [ly7_7, upd_s]; exact fun e => absurd e (by decide)
        · refine ⟨-1000000001, σ, τ, ?_, ?_, HR'⟩
          · unfold F_X6_lay
            rw [X6_isSlot, hw_bd_s, if_pos ha, if_neg (by decide), X6_isWithin, hw_bd_s, if_pos hv, if_neg (by decide), if_pos (by decide), wireAt_no (Or.inl rfl) A hc, hw_bd_s, if_pos rfl]
          · unfold F_X7_lay
            rw [X7_isSlot, hw_bd_s, if_pos ha, if_neg (by decide), X7_in, hw_bd_s, if_pos hv, if_neg (by decide), if_pos (by decide), isWire_no A hc, hw_bd_s, if_pos rfl]
      · by_cases hc : 0 ≤ c ∧ c ≤ 3
        · obtain ⟨q, hq', rfl⟩ := ix_to (m := 3) rfl hc.1 hc.2
          have hq : q < 4 := by omega
          obtain ⟨l1, l2, l3, l4, l5⟩ := shF q hq
          obtain ⟨f1, f2, ⟨p, p24, f3, f3'⟩, f4⟩ := E.sh q hq
          have gq : hw_inb (nI q) 4 = true := inb_nI hq (by decide)
          have cq : (nI q).toNatClampNeg = q := nI_clamp (by omega)
          by_cases hm : 0 ≤ τ 214 q
          · have nm : ¬ τ 214 q = -1 := (ms_iff f2).mp hm
            refine ⟨τ 217 i, hw_upA (hw_upA (hw_up σ (68 + i) 0 2) (78 + i) (upd (upd (σ (78 + i)) 0 (σ (60 + q) 0)) 1 (σ (60 + q) 1))) (83 + i) (va_cpy (σ (64 + q)) (σ (83 + i)) 0 0 24), hw_upA (ly7 τ i 2 (τ 215 q) 0) 220 (fun k => if 24 * i + 0 ≤ k ∧ k < 24 * i + 24 then τ 216 (24 * q + (k - 24 * i)) else τ 220 k), ?_, ?_, ?_⟩
            · unfold F_X6_lay
              rw [X6_isSlot, hw_bd_s, if_pos ha, if_neg (by decide), X6_isWithin, hw_bd_s, if_pos hv, if_neg (by decide), if_neg (by decide)]
              unfold B_X6_lay_35
              rw [if_pos (by decide), X6_isSheet, hw_bd_s, if_pos hc, if_neg (by decide)]
              unfold B_X6_lay_50
              rw [if_pos (by decide), hw_gd_t gq, cq, l1, hw_gd_t l2, X3_miss hq, hw_bd_s, f1, if_neg nm, if_pos rfl]
              unfold B_X6_lay_70
              rw [hw_gd_t gi, ci, k1, hw_gd_t k2, hw_nm_s, hw_nm_s, if_neg (by decide), if_pos (by decide), hw_gd_t gq, cq, l1, hw_gd_t l2, k4, hw_gd_t k6, show (nI 2 : Int32) = 2 from rfl, X3_bec hi5 hq, hw_bd_s, t1, up_row _ _ _ _ (show 78 + i ≠ 68 + i by omega), up_row _ _ _ _ (show 60 + q ≠ 68 + i by omega), up_row _ _ _ _ (show 64 + q ≠ 68 + i by omega), up_row _ _ _ _ (show 83 + i ≠ 68 + i by omega), f1]
            · unfold F_X7_lay
              rw [X7_isSlot, hw_bd_s, if_pos ha, if_neg (by decide), X7_in, hw_bd_s, if_pos hv, if_neg (by decide), if_neg (by decide)]
              unfold B_X7_lay_29
              rw [if_pos (by decide), X7_isSheet, hw_bd_s, if_pos hc, if_neg (by decide)]
              unfold B_X7_lay_44
              rw [if_pos (by decide), hw_gd_t gq, cq, if_pos hm]
              exact lay7_2 hi5 hq
            · have sr : ∀ t, t ≠ 68 + i → t ≠ 78 + i → t ≠ 83 + i → hw_upA (hw_upA (hw_up σ (68 + i) 0 2) (78 + i) (upd (upd (σ (78 + i)) 0 (σ (60 + q) 0)) 1 (σ (60 + q) 1))) (83 + i) (va_cpy (σ (64 + q)) (σ (83 + i)) 0 0 24) t = σ t := fun t g1 g2 g3 => by rw [upA_row _ _ _ g3, upA_row _ _ _ g2, up_row _ _ _ _ g1]
              have s7 : ∀ g : Nat → Int32, hw_upA (ly7 τ i 2 (τ 215 q) 0) 220 g 217 = upd (τ 217) i 2 := fun g => by rw [upA_row _ _ _ (by decide), ly7_7]
              refine R_sl HR' (lay_sl E.sl hi5 ⟨?_, ?_, ?_, ?_, ?_⟩ (fun t _ g g2 g3 g4 => sr t g g3 g4) (fun q g => by rw [s7, upd_n _ _ g]) (fun q g => by rw [upA_row _ _ _ (by decide), ly7_8, upd_n _ _ g]) (fun q g => by rw [upA_row _ _ _ (by decide), ly7_9, upd_n _ _ g]) (fun q g => by rw [upA_self, if_neg (by omega)])) (fun t ht => sr t (by omega) (by omega) (by omega)) (fun t ht => by rw [upA_row _ _ _ (by omega), ly7_r _ _ _ _ _ (by omega) (by omega) (by omega)])
              · rw [s7, upd_s, upA_row _ _ _ (by omega), upA_row _ _ _ (by omega), up_self, upd_s]
              · rw [s7, upd_s]; decide
              · rw [s7, upd_s]; exact fun e => absurd e (by decide)
              · intro _
                refine ⟨⟨p, p24, ?_, ?_⟩, fun j hj => ?_⟩
                · rw [upA_row _ _ _ (by omega), upA_self, upd_s]; exact f3
                · rw [upA_row _ _ _ (by decide), ly7_8, upd_s]; exact f3'
                · rw [upA_self, upA_self, if_pos (by omega)]
                  unfold va_cpy
                  rw [if_pos (by omega), f4 _ (by omega), show 0 + (j - 0) = 24 * i + j - 24 * i by omega]
              · rw [s7, upd_s]; exact fun e => absurd e (by decide)
          · have nm : τ 214 q = -1 := Decidable.byContradiction (fun g => hm ((ms_iff f2).mpr g))
            refine ⟨-1000000011, σ, τ, ?_, ?_, HR'⟩
            · unfold F_X6_lay
              rw [X6_isSlot, hw_bd_s, if_pos ha, if_neg (by decide), X6_isWithin, hw_bd_s, if_pos hv, if_neg (by decide), if_neg (by decide)]
              unfold B_X6_lay_35
              rw [if_pos (by decide), X6_isSheet, hw_bd_s, if_pos hc, if_neg (by decide)]
              unfold B_X6_lay_50
              rw [if_pos (by decide), hw_gd_t gq, cq, l1, hw_gd_t l2, X3_miss hq, hw_bd_s, f1, if_pos nm, if_neg (by decide)]
            · unfold F_X7_lay
              rw [X7_isSlot, hw_bd_s, if_pos ha, if_neg (by decide), X7_in, hw_bd_s, if_pos hv, if_neg (by decide), if_neg (by decide)]
              unfold B_X7_lay_29
              rw [if_pos (by decide), X7_isSheet, hw_bd_s, if_pos hc, if_neg (by decide)]
              unfold B_X7_lay_44
              rw [if_pos (by decide), hw_gd_t gq, cq, if_neg hm]
        · refine ⟨-1000000001, σ, τ, ?_, ?_, HR'⟩
          · unfold F_X6_lay
            rw [X6_isSlot, hw_bd_s, if_pos ha, if_neg (by decide), X6_isWithin, hw_bd_s, if_pos hv, if_neg (by decide), if_neg (by decide)]
            unfold B_X6_lay_35
            rw [if_pos (by decide), X6_isSheet, hw_bd_s, if_neg hc, if_pos rfl]
          · unfold F_X7_lay
            rw [X7_isSlot, hw_bd_s, if_pos ha, if_neg (by decide), X7_in, hw_bd_s, if_pos hv, if_neg (by decide), if_neg (by decide)]
            unfold B_X7_lay_29
            rw [if_pos (by decide), X7_isSheet, hw_bd_s, if_neg hc, if_pos rfl]
      · refine ⟨τ 217 i, hw_up (hw_up σ (68 + i) 0 3) (68 + i) 1 c, ly7 τ i 3 c 0, ?_, ?_, ?_⟩
        · unfold F_X6_lay
          rw [X6_isSlot, hw_bd_s, if_pos ha, if_neg (by decide), X6_isWithin, hw_bd_s, if_pos hv, if_neg (by decide), if_neg (by decide)]
          unfold B_X6_lay_35
          rw [if_neg (by decide)]
          unfold B_X6_lay_50
          rw [if_neg (by decide)]
          unfold B_X6_lay_70
          rw [hw_gd_t gi, ci, k1, hw_gd_t k2, hw_nm_s, hw_nm_s, if_neg (by decide), if_neg (by decide), if_pos (by decide), hw_nm_s, t1]
          rfl
        · unfold F_X7_lay
          rw [X7_isSlot, hw_bd_s, if_pos ha, if_neg (by decide), X7_in, hw_bd_s, if_pos hv, if_neg (by decide), if_neg (by decide)]
          unfold B_X7_lay_29
          rw [if_neg (by decide)]
          unfold B_X7_lay_44
          rw [if_neg (by decide)]
          exact lay7_o hi5 (by decide) (by decide)
        · refine R_sl HR' (lay_sl E.sl hi5 ⟨?_, ?_, ?_, ?_, ?_⟩ (fun t _ g _ _ _ => by rw [up_row _ _ _ _ g, up_row _ _ _ _ g]) (fun q g => by rw [ly7_7, upd_n _ _ g]) (fun q g => by rw [ly7_8, upd_n _ _ g]) (fun q g => by rw [ly7_9, upd_n _ _ g]) (fun q _ => by rw [ly7_r _ _ _ _ _ (by decide) (by decide) (by decide)])) (fun t ht => by rw [up_row _ _ _ _ (by omega), up_row _ _ _ _ (by omega)]) (fun t ht => ly7_r _ _ _ _ _ (by omega) (by omega) (by omega))
          · rw [ly7_7, upd_s, up_self, upd_n _ _ (by decide), up_self, upd_s]
          · rw [ly7_7, upd_s]; decide
          · rw [ly7_7, upd_s]; exact fun e => absurd e (by decide)
          · rw [ly7_7, upd_s]; exact fun e => absurd e (by decide)
          · intro _
            rw [ly7_8, upd_s, up_self, upd_s]
    · refine ⟨-1000000001, σ, τ, ?_, ?_, HR'⟩
      · unfold F_X6_lay
        rw [X6_isSlot, hw_bd_s, if_pos ha, if_neg (by decide), X6_isWithin, hw_bd_s, if_neg hv, if_pos rfl]
      · unfold F_X7_lay
        rw [X7_isSlot, hw_bd_s, if_pos ha, if_neg (by decide), X7_in, hw_bd_s, if_neg hv, if_pos rfl]
  · refine ⟨-1000000001, σ, τ, ?_, ?_, HR'⟩
    · unfold F_X6_lay; rw [X6_isSlot, hw_bd_s, if_neg ha, if_pos rfl]
    · unfold F_X7_lay; rw [X7_isSlot, hw_bd_s, if_neg ha, if_pos rfl]
