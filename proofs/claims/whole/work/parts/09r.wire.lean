/-! the tape cut -/
theorem R_tape {σ σ' τ τ' : hw_St} (HR : hv_R σ τ) (ta : hv_Ta σ' τ') (ks : ∀ t, t ≠ 0 → t ≠ 12 → σ' t = σ t) (k0 : ∀ k, k ≠ 6 → σ' 0 k = σ 0 k) (kt : ∀ t, t ≠ 200 → t ≠ 206 → τ' t = τ t) (kt0 : ∀ k, k ≠ 10 → τ' 200 k = τ 200 k) : hv_R σ' τ' := by
  obtain ⟨w, h, T, A, I, B, E⟩ := HR
  refine ⟨w, h, T, ?_, ?_, ?_, ta, ?_, fun i hi => ?_, fun i hi => ?_, ?_⟩
  · rw [kt 201 (by decide) (by decide)]
    exact Sc_keep A (ks _ (by omega) (by omega)) (ks _ (by omega) (by omega)) (ks _ (by omega) (by omega)) (fun i hi => ks _ (by omega) (by omega)) (fun t g1 g2 => ks t (by omega) (by omega))
  · exact Im_keep I (k0 3 (by decide)) (kt0 3 (by decide)) (kt 202 (by decide) (by decide)) (fun t ht => ks t (by omega) (by omega))
  · intro x g1 g2; rw [ks x (by omega) (by omega)]; exact B x g1 g2
  · obtain ⟨n, h1, h2, h3, h4⟩ := E.te
    exact ⟨n, h1, by rw [k0 11 (by decide)]; exact h2, by rw [kt0 36 (by decide)]; exact h3, by rw [ks 16 (by decide) (by decide), kt 222 (by decide) (by decide)]; exact h4⟩
  · obtain ⟨e1, e2, e3, e4⟩ := E.sh i hi
    refine ⟨?_, ?_, ?_, ?_⟩
    · rw [ks _ (by omega) (by omega), kt _ (by omega) (by omega)]; exact e1
    · rw [kt _ (by omega) (by omega)]; exact e2
    · rw [ks _ (by omega) (by omega), kt _ (by omega) (by omega)]; exact e3
    · rw [ks _ (by omega) (by omega), kt _ (by omega) (by omega)]; exact e4
  · obtain ⟨e1, e2, e3, e4, e5⟩ := E.sl i hi
    refine ⟨?_, ?_, ?_, ?_, ?_⟩
    · rw [ks _ (by omega) (by omega), kt _ (by omega) (by omega)]; exact e1
    · rw [kt _ (by omega) (by omega)]; exact e2
    · rw [ks _ (by omega) (by omega), kt 217 (by omega) (by omega), kt 218 (by omega) (by omega), kt 219 (by omega) (by omega)]; exact e3
    · rw [ks (78 + i) (by omega) (by omega), ks (83 + i) (by omega) (by omega), kt 217 (by omega) (by omega), kt 218 (by omega) (by omega), kt 220 (by omega) (by omega)]; exact e4
    · rw [ks _ (by omega) (by omega), kt 217 (by omega) (by omega), kt 218 (by omega) (by omega)]; exact e5
  · exact ⟨by rw [kt 207 (by decide) (by decide)]; exact E.co.1, by rw [kt 208 (by decide) (by decide)]; exact E.co.2⟩
theorem sim_trim : hw_sim1 hv_R F_X6_trim F_X7_trim := by
  intro a σ τ HR
  have HR' := HR
  obtain ⟨w, h, T, A, I, B, E⟩ := HR
  obtain ⟨n, h1, h2, h3, h4⟩ := E.ta
  by_cases ha : 0 ≤ a ∧ a ≤ nI n
  · obtain ⟨q, hq, rfl⟩ := ix_to (m := n) (nI_toInt (by omega)) ha.1 ha.2
    refine ⟨nI q, hw_up σ 0 6 (nI q), hw_up τ 200 10 (nI q), ?_, ?_, ?_⟩
    · unfold F_X6_trim; rw [X6_isWithin, hw_bd_s, h2, if_pos ha, if_neg (by decide), hw_nm_s]
    · unfold F_X7_trim; rw [X7_in, hw_bd_s, h3, if_pos ha, if_neg (by decide), hw_nm_s]
    · refine R_tape HR' ⟨q, by omega, by rw [up_self, upd_s], by rw [up_self, upd_s], ?_⟩ (fun t g1 _ => up_row _ _ _ _ g1) (fun k hk => by rw [up_self, upd_n _ _ hk]) (fun t g1 _ => up_row _ _ _ _ g1) (fun k hk => by rw [up_self, upd_n _ _ hk])
      rw [up_row _ _ _ _ (by decide), up_row _ _ _ _ (by decide)]
      exact fun j hj => h4 j (by omega)
  · refine ⟨-1000000001, σ, τ, ?_, ?_, HR'⟩
    · unfold F_X6_trim; rw [X6_isWithin, hw_bd_s, h2, if_neg ha, if_pos rfl]
    · unfold F_X7_trim; rw [X7_in, hw_bd_s, h3, if_neg ha, if_pos rfl]
/-! a new wire -/
def nwf (f : Nat → Int32) (a b c : Int32) : Nat → Int32 := upd (upd (upd (upd (upd (upd (upd f 0 a) 1 b) 2 c) 3 2) 4 0) 5 0) 6 0
theorem X5_begin {x : Nat} (hx : hw_gH x 5 = true) (a b c : Int32) (σ : hw_St) : F_X5_begin x a b c σ = some ((), hw_upA σ x (nwf (σ x) a b c)) := by
  unfold F_X5_begin nwf
  rw [hw_gd_t hx, hw_nm_s, up_upA σ x 0 a, hw_nm_s, up_A, hw_nm_s, up_A, hw_nm_s, up_A, hw_nm_s, up_A, hw_gd_t isb_0, hw_nm_s, up_A, hw_nm_s, up_A]
def nwN (N : Nat → Int32) (w : Nat) (a b c : Int32) : Nat → Int32 := upd (upd (upd (upd (upd (upd (upd N (29 + 7 * w) a) (29 + 7 * w + 1) b) (29 + 7 * w + 2) c) (29 + 7 * w + 3) 2) (29 + 7 * w + 4) 0) (29 + 7 * w + 5) 0) (29 + 7 * w + 6) 0
theorem nwN_o (N : Nat → Int32) (w : Nat) (a b c : Int32) {j : Nat} (h : j < 29 + 7 * w ∨ 29 + 7 * w + 7 ≤ j) : nwN N w a b c j = N j := by
  unfold nwN
  rw [upd_n _ _ (by omega), upd_n _ _ (by omega), upd_n _ _ (by omega), upd_n _ _ (by omega), upd_n _ _ (by omega), upd_n _ _ (by omega), upd_n _ _ (by omega)]
theorem nwN_r (N f : Nat → Int32) (w : Nat) (a b c : Int32) : e7 (rw_ (nwN N w a b c) w) (nwf f a b c) := by
  intro k hk
  unfold rw_ nwN nwf
  have q : k = 0 ∨ k = 1 ∨ k = 2 ∨ k = 3 ∨ k = 4 ∨ k = 5 ∨ k = 6 := by omega
  rcases q with rfl | rfl | rfl | rfl | rfl | rfl | rfl
  · rw [upd_n _ _ (by omega), upd_n _ _ (by omega), upd_n _ _ (by omega), upd_n _ _ (by omega), upd_n _ _ (by omega), upd_n _ _ (by omega), show 29 + 7 * w + 0 = 29 + 7 * w from rfl, upd_s]; rfl
  · rw [upd_n _ _ (by omega), upd_n _ _ (by omega), upd_n _ _ (by omega), upd_n _ _ (by omega), upd_n _ _ (by omega), upd_s]; rfl
  · rw [upd_n _ _ (by omega), upd_n _ _ (by omega), upd_n _ _ (by omega), upd_n _ _ (by omega), upd_s]; rfl
  · rw [upd_n _ _ (by omega), upd_n _ _ (by omega), upd_n _ _ (by omega), upd_s]; rfl
  · rw [upd_n _ _ (by omega), upd_n _ _ (by omega), upd_s]; rfl
  · rw [upd_n _ _ (by omega), upd_s]; rfl
  · rw [upd_s]; rfl
theorem nwf_W (f : Nat → Int32) {a b c : Int32} (ha : 0 ≤ a ∧ a ≤ 5) (hb : 1 ≤ b ∧ b ≤ 9) (hc : 1 ≤ c ∧ c ≤ 999) : hv_W (nwf f a b c) := ⟨ha, hb, hc, (by decide : (0 : Int32) ≤ 2 ∧ (2 : Int32) ≤ 9), (by decide : (0 : Int32) ≤ 0 ∧ (0 : Int32) ≤ 9999), Or.inl rfl⟩
theorem Sc_new {σ : hw_St} {N : Nat → Int32} {w h T : Nat} (H : hv_Sc σ 1 N w h T) (hw : w < 6) {a b c : Int32} (ha : 0 ≤ a ∧ a ≤ 5) (hb : 1 ≤ b ∧ b ≤ 9) (hc : 1 ≤ c ∧ c ≤ 999) : hv_Sc (hw_up (hw_upA σ (18 + w) (nwf (σ (18 + w)) a b c)) 1 6 (nI (w + 1))) 1 (upd (nwN N w a b c) 1 (nI (w + 1))) (w + 1) h T := by
  have o : ∀ j, j ≠ 1 → (j < 29 + 7 * w ∨ 29 + 7 * w + 7 ≤ j) → upd (nwN N w a b c) 1 (nI (w + 1)) j = N j := fun j h1 h2 => by rw [upd_n _ _ h1, nwN_o _ _ _ _ _ h2]
  have r : ∀ t, t ≠ 1 → t ≠ 18 + w → hw_up (hw_upA σ (18 + w) (nwf (σ (18 + w)) a b c)) 1 6 (nI (w + 1)) t = σ t := fun t h1 h2 => by rw [up_row _ _ _ _ h1, upA_row _ _ _ h2]
  have s : ∀ k, k ≠ 6 → hw_up (hw_upA σ (18 + w) (nwf (σ (18 + w)) a b c)) 1 6 (nI (w + 1)) 1 k = σ 1 k := fun k hk => by rw [up_self, upd_n _ _ hk, upA_row _ _ _ (by omega)]
  have ro : ∀ i, i < w → e7 (rw_ (upd (nwN N w a b c) 1 (nI (w + 1))) i) (rw_ N i) := fun i hi k hk => o _ (by omega) (by omega)
  have rn : e7 (rw_ (upd (nwN N w a b c) 1 (nI (w + 1))) w) (nwf (σ (18 + w)) a b c) := fun k hk => by
    rw [show rw_ (upd (nwN N w a b c) 1 (nI (w + 1))) w k = rw_ (nwN N w a b c) w k from upd_n _ _ (by omega)]
    exact nwN_r N (σ (18 + w)) w a b c k hk
  refine ⟨by omega, H.bh, H.bT, ?_, ?_, ?_, ?_, ?_, ?_, ?_, ?_, ?_, ?_, ?_, ?_, ?_, ?_, ?_⟩
  · rw [upd_s]
  · rw [o _ (by omega) (by omega)]; exact H.n2
  · rw [o _ (by omega) (by omega)]; exact H.n4
  · rw [o _ (by omega) (by omega)]; exact H.n3
  · rw [o _ (by omega) (by omega), s _ (by omega)]; exact H.s9
  · rw [up_self, upd_s]
  · rw [s _ (by omega)]; exact H.s7
  · rw [o _ (by omega) (by omega), s _ (by omega)]; exact H.s8
  · rw [s _ (by omega)]; exact H.s5
  · intro k hk; rw [o _ (by omega) (by omega), r _ (by omega) (by omega)]; exact H.wd k hk
  · intro k hk; rw [o _ (by omega) (by omega)]; exact H.wr k hk
  · intro i hi
    by_cases e : i = w
    · subst e; exact W_cg rn (nwf_W _ ha hb hc)
    · exact W_cg (ro i (by omega)) (H.ww i (by omega))
  · intro i hi k hk
    by_cases e : i = w
    · subst e
      rw [rn k hk, up_row _ _ _ _ (by omega), show 12 + 6 * 1 + i = 18 + i from rfl, upA_self]
    · rw [ro i (by omega) k hk, r _ (by omega) (by omega)]; exact H.wi i (by omega) k hk
  · intro k hk
    rw [r _ (by omega) (by omega), cn_at (fun j hj => o j (by omega) (by omega))]; exact H.nw k hk
  · exact Txt_at (fun j hj => o j (by omega) (by omega)) H.bT H.tx (fun t h1 h2 => r t (by omega) (by omega))
theorem sim_wire : hw_sim3 hv_R F_X6_wire F_X7_wire := by
  intro a b c σ τ HR
  have HR' := HR
  obtain ⟨w, h, T, A, I, B, E⟩ := HR
  have hw6 := A.bw
  have c1 : τ 201 (1 : Int32).toNatClampNeg = nI w := A.n1
  by_cases ha : 0 ≤ a ∧ a ≤ 5
  · by_cases hb : 1 ≤ b ∧ b ≤ 9
    · by_cases hc : 1 ≤ c ∧ c ≤ 999
      · by_cases hw : w = 6
        · subst hw
          refine ⟨-1000000003, σ, τ, ?_, ?_, HR'⟩
          · unfold F_X6_wire
            rw [X6_isKind, hw_bd_s, if_pos ha, if_neg (by decide), X6_isThick, hw_bd_s, if_pos hb, if_neg (by decide), X6_isOwn, hw_bd_s, if_pos hc, if_neg (by decide), A.s6, if_neg (by decide)]
          · unfold F_X7_wire
            rw [X7_in, hw_bd_s, if_pos ha, if_neg (by decide), X7_isPart1, hw_bd_s, if_pos hb, if_neg (by decide), X7_isPart2, hw_bd_s, if_pos hc, if_neg (by decide), hw_gd_t (by decide), c1, if_pos (by decide)]
        · have hlt : w < 6 := by omega
          have l6 : nI w < 6 := nI_lt (b := 6) hlt (by decide)
          have n6 : ¬ nI w = 6 := fun e => by rw [e] at l6; exact absurd l6 (by decide)
          have pr : nI (w + 1) - 1 = nI w := nI_pred w
          have hg := (elS' w hlt).1
          refine ⟨nI w, hw_up (hw_upA σ (18 + w) (nwf (σ (18 + w)) a b c)) 1 6 (nI (w + 1)), hw_upA τ 201 (upd (nwN (τ 201) w a b c) 1 (nI (w + 1))), ?_, ?_, ?_⟩
          · unfold F_X6_wire
            rw [X6_isKind, hw_bd_s, if_pos ha, if_neg (by decide), X6_isThick, hw_bd_s, if_pos hb, if_neg (by decide), X6_isOwn, hw_bd_s, if_pos hc, if_neg (by decide), A.s6, if_pos l6, hw_gd_t (inb_nI hlt (by decide)), nI_clamp (by omega), hg.1, hw_gd_t hg.2, X5_begin hg.2, hw_bd_s, hw_nm_s, upA_row _ _ _ (show 1 ≠ 18 + w by omega), A.s6, show nI w + 1 = nI (w + 1) from nI_add w 1, up_self, upd_s, pr]
          · have ix : ∀ k, nI (29 + 7 * w) + nI k = nI (29 + 7 * w + k) := fun k => nI_add _ k
            have cl : ∀ k, k < 7 → (nI (29 + 7 * w + k)).toNatClampNeg = 29 + 7 * w + k := fun k hk => nI_clamp (by omega)
            have gd : ∀ k, k < 7 → hw_inb (nI (29 + 7 * w + k)) 1443 = true := fun k hk => inb_nI (by omega) (by decide)
            unfold F_X7_wire
            rw [X7_in, hw_bd_s, if_pos ha, if_neg (by decide), X7_isPart1, hw_bd_s, if_pos hb, if_neg (by decide), X7_isPart2, hw_bd_s, if_pos hc, if_neg (by decide), hw_gd_t (by decide), c1, if_neg n6, hw_gd_t (by decide), ixW0, hw_nm_s, show nI (29 + 7 * w) + 1 = _ from ix 1, show nI (29 + 7 * w) + 2 = _ from ix 2, show nI (29 + 7 * w) + 3 = _ from ix 3, show nI (29 + 7 * w) + 4 = _ from ix 4, show nI (29 + 7 * w) + 5 = _ from ix 5, show nI (29 + 7 * w) + 6 = _ from ix 6, hw_gd_t (show hw_inb (nI (29 + 7 * w)) 1443 = true from gd 0 (by decide)), show (nI (29 + 7 * w)).toNatClampNeg = 29 + 7 * w from cl 0 (by decide), up_upA τ 201 (29 + 7 * w) a, hw_nm_s, hw_gd_t (gd 1 (by decide)), cl 1 (by decide), up_A, hw_nm_s, hw_gd_t (gd 2 (by decide)), cl 2 (by decide), up_A, hw_nm_s, hw_gd_t (gd 3 (by decide)), cl 3 (by decide), up_A, hw_nm_s, hw_gd_t (gd 4 (by decide)), cl 4 (by decide), up_A, hw_nm_s, hw_gd_t (gd 5 (by decide)), cl 5 (by decide), up_A, hw_nm_s, hw_gd_t (gd 6 (by decide)), cl 6 (by decide), up_A, hw_nm_s]
            show hw_gd (hw_inb 1 1443) (hw_gd (hw_inb 1 1443) (hw_nm (hw_up (hw_upA τ 201 (nwN (τ 201) w a b c)) 201 1 ((hw_upA τ 201 (nwN (τ 201) w a b c)) 201 1 + 1)) (fun s29 => hw_gd (hw_inb 1 1443) (some ((s29 201 1 - 1), s29))))) = _
            rw [hw_gd_t (by decide), hw_gd_t (by decide), hw_nm_s, hw_gd_t (by decide), up_A, upA_self, upA_self, nwN_o _ _ _ _ _ (by omega), A.n1, upd_s, show nI w + 1 = nI (w + 1) from nI_add w 1, pr]
          · refine R_now (w := w) (h := h) (Nat.le_refl T) (by rw [upA_self]; exact Sc_new A hlt ha hb hc) I B E ?_ (fun t ht => by rw [up_row _ _ _ _ (by omega), upA_row _ _ _ (by omega)]) (fun t ht => upA_row _ _ _ (by omega)) (by rw [upA_row _ _ _ (by decide)]) (by rw [upA_row _ _ _ (by decide)]) (by rw [upA_row _ _ _ (by decide)])
            intro x h1 h2
            rw [up_row _ _ _ _ (by omega)]
            by_cases e : x = 18 + w
            · subst e; rw [upA_self]; exact Or.inl rfl
            · rw [upA_row _ _ _ e]; exact B x h1 (by omega)
      · refine ⟨-1000000001, σ, τ, ?_, ?_, HR'⟩
        · unfold F_X6_wire; rw [X6_isKind, hw_bd_s, if_pos ha, if_neg (by decide), X6_isThick, hw_bd_s, if_pos hb, if_neg (by decide), X6_isOwn, hw_bd_s, if_neg hc, if_pos rfl]
        · unfold F_X7_wire; rw [X7_in, hw_bd_s, if_pos ha, if_neg (by decide), X7_isPart1, hw_bd_s, if_pos hb, if_neg (by decide), X7_isPart2, hw_bd_s, if_neg hc, if_pos rfl]
    · refine ⟨-1000000001, σ, τ, ?_, ?_, HR'⟩
      · unfold F_X6_wire; rw [X6_isKind, hw_bd_s, if_pos ha, if_neg (by decide), X6_isThick, hw_bd_s, if_neg hb, if_pos rfl]
      · unfold F_X7_wire; rw [X7_in, hw_bd_s, if_pos ha, if_neg (by decide), X7_isPart1, hw_bd_s, if_neg hb, if_pos rfl]
  · refine ⟨-1000000001, σ, τ, ?_, ?_, HR'⟩
    · unfold F_X6_wire; rw [X6_isKind, hw_bd_s, if_neg ha, if_pos rfl]
    · unfold F_X7_wire; rw [X7_in, hw_bd_s, if_neg ha, if_pos rfl]
