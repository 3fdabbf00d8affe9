/-! a sheet laid out -/
def flI (a b : Nat) (v : Int32) (f : Nat → Int32) : Nat → Int32 := fun k => if a ≤ k ∧ k < b then v else f k
theorem flI_step {a b : Nat} (v : Int32) (f : Nat → Int32) (h : a < b) : flI (a + 1) b v (upd f a v) = flI a b v f := by
  funext k
  unfold flI upd
  by_cases e : k = a
  · subst e; rw [if_neg (by omega), if_pos rfl, if_pos ⟨Nat.le_refl _, h⟩]
  · rw [if_neg e]
    by_cases e2 : a + 1 ≤ k ∧ k < b
    · rw [if_pos e2, if_pos ⟨by omega, e2.2⟩]
    · rw [if_neg e2, if_neg (by omega)]
theorem fil24 {x : Nat} (lx : hw_ln x = 24) (v : Int32) : ∀ (d j n : Nat) (σ : hw_St), j + d = 24 → d < n → L_J7_fill_53178_5 n x v (nI j) (nI 24) σ = some ((), hw_upA σ x (flI j 24 v (σ x))) := by
  intro d
  induction d with
  | zero =>
    intro j n σ hj hn
    obtain ⟨n, rfl⟩ : ∃ q, n = q + 1 := ⟨n - 1, by omega⟩
    have : j = 24 := by omega
    subst this
    show S_J7_fill_53178_5 (L_J7_fill_53178_5 n) x v (nI 24) (nI 24) σ = _
    unfold S_J7_fill_53178_5
    rw [if_pos (Int32.le_refl _), show flI 24 24 v (σ x) = σ x from funext (fun k => by unfold flI; rw [if_neg (by omega)]), upA_id]
  | succ d ih =>
    intro j n σ hj hn
    obtain ⟨n, rfl⟩ : ∃ q, n = q + 1 := ⟨n - 1, by omega⟩
    show S_J7_fill_53178_5 (L_J7_fill_53178_5 n) x v (nI j) (nI 24) σ = _
    unfold S_J7_fill_53178_5
    rw [if_neg (iNle.mpr (nI_lt (by omega) (by omega))), lx, hw_gd_t (inb_nI (by omega) (by decide)), hw_nm_s, nI_clamp (by omega), show nI j + 1 = nI (j + 1) from nI_add j 1, ih (j + 1) n _ (by omega) (by omega), up_self, up_upA, upA_upA, flI_step _ _ (by omega)]
theorem sh7_loop {i : Nat} (hi : i < 4) : ∀ (d j n : Nat) (τ : hw_St), j + d = 24 → d < n → L_X7_sheet_65 n (nI i) (nI j) τ = some (τ 215 i, hw_upA τ 216 (flI (24 * i + j) (24 * i + 24) 0 (τ 216))) := by
  have gi : hw_inb (nI i) 4 = true := inb_nI (by omega) (by decide)
  have ci : (nI i).toNatClampNeg = i := nI_clamp (by omega)
  intro d
  induction d with
  | zero =>
    intro j n τ hj hn
    obtain ⟨n, rfl⟩ : ∃ q, n = q + 1 := ⟨n - 1, by omega⟩
    have : j = 24 := by omega
    subst this
    show S_X7_sheet_65 (L_X7_sheet_65 n) (nI i) (nI 24) τ = _
    unfold S_X7_sheet_65
    rw [if_pos (by decide), hw_gd_t gi, ci, show flI (24 * i + 24) (24 * i + 24) 0 (τ 216) = τ 216 from funext (fun k => by unfold flI; rw [if_neg (by omega)]), upA_id]
  | succ d ih =>
    intro j n τ hj hn
    obtain ⟨n, rfl⟩ : ∃ q, n = q + 1 := ⟨n - 1, by omega⟩
    show S_X7_sheet_65 (L_X7_sheet_65 n) (nI i) (nI j) τ = _
    unfold S_X7_sheet_65
    rw [if_neg (show ¬ (24 : Int32) ≤ nI j from iNle.mpr (nI_lt (b := 24) (by omega) (by decide))), ix24, hw_gd_t (inb_nI (by omega) (by decide)), hw_nm_s, nI_clamp (by omega), show nI j + 1 = nI (j + 1) from nI_add j 1, ih (j + 1) n _ (by omega) (by omega), up_self, up_row _ _ _ _ (show 215 ≠ 216 by decide), up_upA, upA_upA, show 24 * i + (j + 1) = 24 * i + j + 1 from by omega, flI_step _ _ (by omega)]
theorem X3_beg {i : Nat} (hi : i < 4) (s p : Int32) (σ : hw_St) : F_X3_begin (60 + i) s p σ = some ((), hw_upA (hw_upA σ (60 + i) (upd (upd (σ (60 + i)) 0 s) 1 p)) (64 + i) (flI 0 24 0 (σ (64 + i)))) := by
  obtain ⟨k1, k2, k3, k4, k5⟩ := shF i hi
  unfold F_X3_begin F_J7_fill_53178
  rw [hw_gd_t k2, hw_nm_s, up_upA σ (60 + i) 0 s, hw_nm_s, up_A, k3, hw_gd_t k4, hw_nm_s, k5, show L_J7_fill_53178_5 130 (64 + i) 0 0 (nI 24) _ = _ from fil24 k5 0 24 0 130 _ (by omega) (by omega), hw_bd_s, upA_row _ _ _ (show 64 + i ≠ 60 + i by omega)]
theorem sh_lay {σ τ : hw_St} (H : ∀ i, i < 4 → hv_Sh σ τ i) {i q : Nat} (hi : i < 4) (hq : q ≤ 24) {s : Int32} (hs : -1 ≤ s ∧ s ≤ 1) : ∀ i', i' < 4 → hv_Sh (hw_upA (hw_upA σ (60 + i) (upd (upd (σ (60 + i)) 0 s) 1 (nI q))) (64 + i) (flI 0 24 0 (σ (64 + i)))) (hw_upA (hw_up (hw_up τ 214 i s) 215 i (nI q)) 216 (flI (24 * i + 0) (24 * i + 24) 0 (τ 216))) i' := by
  intro i' hi'
  obtain ⟨e1, e2, ⟨p, p24, e3, e3'⟩, e4⟩ := H i' hi'
  rw [show hv_Sh (hw_upA (hw_upA σ (60 + i) (upd (upd (σ (60 + i)) 0 s) 1 (nI q))) (64 + i) (flI 0 24 0 (σ (64 + i)))) (hw_upA (hw_up (hw_up τ 214 i s) 215 i (nI q)) 216 (flI (24 * i + 0) (24 * i + 24) 0 (τ 216))) i' = hv_Sh _ _ i' from rfl]
  have t4 : hw_upA (hw_up (hw_up τ 214 i s) 215 i (nI q)) 216 (flI (24 * i + 0) (24 * i + 24) 0 (τ 216)) 214 = upd (τ 214) i s := by rw [upA_row _ _ _ (by decide), up_row _ _ _ _ (by decide), up_self]
  have t5 : hw_upA (hw_up (hw_up τ 214 i s) 215 i (nI q)) 216 (flI (24 * i + 0) (24 * i + 24) 0 (τ 216)) 215 = upd (τ 215) i (nI q) := by rw [upA_row _ _ _ (by decide), up_self, up_row _ _ _ _ (by decide)]
  have t6 : hw_upA (hw_up (hw_up τ 214 i s) 215 i (nI q)) 216 (flI (24 * i + 0) (24 * i + 24) 0 (τ 216)) 216 = flI (24 * i + 0) (24 * i + 24) 0 (τ 216) := upA_self _ _ _
  by_cases e : i' = i
  · subst e
    have u0 : hw_upA (hw_upA σ (60 + i') (upd (upd (σ (60 + i')) 0 s) 1 (nI q))) (64 + i') (flI 0 24 0 (σ (64 + i'))) (60 + i') = upd (upd (σ (60 + i')) 0 s) 1 (nI q) := by rw [upA_row _ _ _ (by omega), upA_self]
    refine ⟨?_, ?_, ⟨q, hq, ?_, ?_⟩, fun j hj => ?_⟩
    · rw [u0, t4, upd_s, upd_n _ _ (by decide), upd_s]
    · rw [t4, upd_s]; exact hs
    · rw [u0, upd_s]
    · rw [t5, upd_s]
    · rw [t6, upA_self]
      unfold flI
      rw [if_pos (by omega), if_pos (by omega)]
  · have u : ∀ t, t ≠ 60 + i → t ≠ 64 + i → hw_upA (hw_upA σ (60 + i) (upd (upd (σ (60 + i)) 0 s) 1 (nI q))) (64 + i) (flI 0 24 0 (σ (64 + i))) t = σ t := fun t h1 h2 => by rw [upA_row _ _ _ h2, upA_row _ _ _ h1]
    refine ⟨?_, ?_, ⟨p, p24, ?_, ?_⟩, fun j hj => ?_⟩
    · rw [u _ (by omega) (by omega), t4, upd_n _ _ e]; exact e1
    · rw [t4, upd_n _ _ e]; exact e2
    · rw [u _ (by omega) (by omega)]; exact e3
    · rw [t5, upd_n _ _ e]; exact e3'
    · rw [u _ (by omega) (by omega), t6]
      unfold flI
      rw [if_neg (by omega)]; exact e4 j hj
theorem sim_sheet : hw_sim3 hv_R F_X6_sheet F_X7_sheet := by
  intro a b c σ τ HR
  have HR' := HR
  obtain ⟨w, h, T, A, I, B, E⟩ := HR
  by_cases ha : 0 ≤ a ∧ a ≤ 3
  · by_cases hb : -1 ≤ b ∧ b ≤ 1
    · obtain ⟨i, hi, rfl⟩ := ix_to (m := 3) rfl ha.1 ha.2
      obtain ⟨k1, k2, k3, k4, k5⟩ := shF i (by omega)
      have gi : hw_inb (nI i) 4 = true := inb_nI (by omega) (by decide)
      have ci : (nI i).toNatClampNeg = i := nI_clamp (by omega)
      have fin : ∀ q, q ≤ 24 → hv_R (hw_upA (hw_upA σ (60 + i) (upd (upd (σ (60 + i)) 0 b) 1 (nI q))) (64 + i) (flI 0 24 0 (σ (64 + i)))) (hw_upA (hw_up (hw_up τ 214 i b) 215 i (nI q)) 216 (flI (24 * i + 0) (24 * i + 24) 0 (τ 216))) := fun q hq =>
        R_sh HR' (sh_lay E.sh (by omega) hq hb) (fun t ht => by rw [upA_row _ _ _ (by omega), upA_row _ _ _ (by omega)]) (fun t g1 g2 g3 _ => by rw [upA_row _ _ _ g3, up_row _ _ _ _ g2, up_row _ _ _ _ g1])
      have m61 : ∀ (q : Int32) (s : hw_St), B_X7_sheet_61 (nI i) q (nI i) s = some (q, hw_upA (hw_up s 215 i q) 216 (flI (24 * i + 0) (24 * i + 24) 0 (s 216))) := fun q s => by
        unfold B_X7_sheet_61
        rw [hw_gd_t gi, ci, hw_nm_s, show L_X7_sheet_65 130 (nI i) 0 _ = _ from sh7_loop (by omega) 24 0 130 _ (by omega) (by omega), up_self, upd_s, up_row _ _ _ _ (show 216 ≠ 215 by decide)]
      by_cases hn : b = -1
      · have hlt : b < 0 := by rw [hn]; decide
        have hnl : ¬ 0 ≤ b := by rw [hn]; decide
        refine ⟨0, _, _, ?_, ?_, fin 0 (by omega)⟩
        · unfold F_X6_sheet
          rw [X6_isSheet, hw_bd_s, if_pos ha, if_neg (by decide), X6_isWithin, hw_bd_s, if_pos hb, if_neg (by decide), if_pos hn, hw_gd_t gi, ci, k1, hw_gd_t k2, X3_beg (by omega), hw_bd_s, hn]; rfl
        · unfold F_X7_sheet B_X7_sheet_29 B_X7_sheet_40
          rw [X7_isSheet, hw_bd_s, if_pos ha, if_neg (by decide), X7_in, hw_bd_s, if_pos hb, if_neg (by decide), if_pos hlt, if_pos hlt, hw_gd_t gi, hw_nm_s, if_neg hnl, m61, ci, up_row _ _ _ _ (show 216 ≠ 214 by decide)]; rfl
      · have h0 : 0 ≤ b := (ms_iff hb).mpr hn
        have hnl : ¬ b < 0 := iNlt.mpr h0
        by_cases hc : c ≤ 24
        · by_cases hc0 : 0 ≤ c
          · obtain ⟨q, hq, rfl⟩ := ix_to (m := 24) rfl hc0 hc
            refine ⟨nI q, _, _, ?_, ?_, fin q hq⟩
            · unfold F_X6_sheet
              rw [X6_isSheet, hw_bd_s, if_pos ha, if_neg (by decide), X6_isWithin, hw_bd_s, if_pos hb, if_neg (by decide), if_neg hn, if_pos hc, if_pos hc0, hw_gd_t gi, ci, k1, hw_gd_t k2, X3_beg (by omega), hw_bd_s]
            · unfold F_X7_sheet B_X7_sheet_29 B_X7_sheet_40
              rw [X7_isSheet, hw_bd_s, if_pos ha, if_neg (by decide), X7_in, hw_bd_s, if_pos hb, if_neg (by decide), if_neg hnl, if_pos hc, if_neg hnl, if_pos hc0, hw_gd_t gi, hw_nm_s, if_pos h0, m61, ci, up_row _ _ _ _ (show 216 ≠ 214 by decide)]
          · refine ⟨-1000000014, σ, τ, ?_, ?_, HR'⟩
            · unfold F_X6_sheet
              rw [X6_isSheet, hw_bd_s, if_pos ha, if_neg (by decide), X6_isWithin, hw_bd_s, if_pos hb, if_neg (by decide), if_neg hn, if_pos hc, if_neg hc0]
            · unfold F_X7_sheet B_X7_sheet_29
              rw [X7_isSheet, hw_bd_s, if_pos ha, if_neg (by decide), X7_in, hw_bd_s, if_pos hb, if_neg (by decide), if_neg hnl, if_pos hc, if_neg hnl, if_neg hc0]
        · refine ⟨-1000000001, σ, τ, ?_, ?_, HR'⟩
          · unfold F_X6_sheet
            rw [X6_isSheet, hw_bd_s, if_pos ha, if_neg (by decide), X6_isWithin, hw_bd_s, if_pos hb, if_neg (by decide), if_neg hn, if_neg hc]
          · unfold F_X7_sheet
            rw [X7_isSheet, hw_bd_s, if_pos ha, if_neg (by decide), X7_in, hw_bd_s, if_pos hb, if_neg (by decide), if_neg hnl, if_neg hc]
    · refine ⟨-1000000001, σ, τ, ?_, ?_, HR'⟩
      · unfold F_X6_sheet; rw [X6_isSheet, hw_bd_s, if_pos ha, if_neg (by decide), X6_isWithin, hw_bd_s, if_neg hb, if_pos rfl]
      · unfold F_X7_sheet; rw [X7_isSheet, hw_bd_s, if_pos ha, if_neg (by decide), X7_in, hw_bd_s, if_neg hb, if_pos rfl]
  · refine ⟨-1000000001, σ, τ, ?_, ?_, HR'⟩
    · unfold F_X6_sheet; rw [X6_isSheet, hw_bd_s, if_neg ha, if_pos rfl]
    · unfold F_X7_sheet; rw [X7_isSheet, hw_bd_s, if_neg ha, if_pos rfl]
