/-! the class's tick -/
theorem wire_tag' : ∀ x, x < 88 → hw_kd x = 5 → (x = 11 ∨ (18 ≤ x ∧ x ≤ 29) ∨ (73 ≤ x ∧ x ≤ 77)) := by decide
theorem wire_tag {x : Nat} (h : hw_gH x 5 = true) : x = 11 ∨ (18 ≤ x ∧ x ≤ 29) ∨ (73 ≤ x ∧ x ≤ 77) := by
  simp only [hw_gH, Bool.and_eq_true, decide_eq_true_eq] at h
  exact wire_tag' x h.1 h.2
/-- the state with scratch row 10 and the row of one wire changed -/
def nf (σ : hw_St) (x : Nat) (g f : Nat → Int32) : hw_St := hw_upA (hw_upA σ 10 g) x f
theorem nf_x (σ : hw_St) (x : Nat) (g f : Nat → Int32) : nf σ x g f x = f := upA_self _ _ _
theorem nf_o (σ : hw_St) {x : Nat} (g f : Nat → Int32) {t : Nat} (h1 : t ≠ x) (h2 : t ≠ 10) : nf σ x g f t = σ t := by
  unfold nf; rw [upA_row _ _ _ h1, upA_row _ _ _ h2]
theorem nf_up (σ : hw_St) (x : Nat) (g f : Nat → Int32) (k : Nat) (v : Int32) : hw_up (nf σ x g f) x k v = nf σ x g (upd f k v) := by
  rw [up_upA, nf_x]; unfold nf; rw [upA_upA]
theorem nf_10 (σ : hw_St) {x : Nat} (hx : x ≠ 10) (g f g2 : Nat → Int32) : hw_upA (nf σ x g f) 10 g2 = nf σ x g2 f := by
  funext a
  unfold nf hw_upA
  by_cases h : a = 10
  · subst h
    rw [if_pos rfl, if_neg (fun e => hx e.symm), if_pos rfl]
  · rw [if_neg h, if_neg h]
    split <;> rfl
theorem nf_0 (σ : hw_St) {x : Nat} (hx : x ≠ 10) (g : Nat → Int32) : hw_upA σ 10 g = nf σ x g (σ x) := by
  funext a
  unfold nf hw_upA
  by_cases h : a = x
  · subst h
    rw [if_pos rfl, if_neg hx]
  · rw [if_neg h]
theorem nf_s (σ : hw_St) {x : Nat} (hx : x ≠ 10) : σ = nf σ x (σ 10) (σ x) := by rw [← nf_0 σ hx, upA_id]
theorem Lc_keep {σ σ' : hw_St} {S : Nat} {N : Nat → Int32} {T : Nat} (h : hv_Lc σ S N T) (hk : ∀ t, (t = S ∨ t = S + 6 ∨ (30 ≤ t ∧ t < 60)) → σ' t = σ t) : hv_Lc σ' S N T := by
  obtain ⟨h1, h2, h3, h4, h5, h6, h7⟩ := h
  refine ⟨h1, h2, by rw [hk S (Or.inl rfl)]; exact h3, by rw [hk S (Or.inl rfl)]; exact h4, h5, fun k hk3 => by rw [hk (S + 6) (Or.inr (Or.inl rfl))]; exact h6 k hk3, fun t ht => ?_⟩
  obtain ⟨key, len, g1, g2, g3, g4, g5⟩ := h7 t ht
  refine ⟨key, len, g1, ?_, ?_, ?_, fun j hj => ?_⟩
  · rw [hk (30 + t) (Or.inr (Or.inr ⟨by omega, by omega⟩))]; exact g2
  · rw [hk (30 + t) (Or.inr (Or.inr ⟨by omega, by omega⟩))]; exact g3
  · rw [hk (30 + t) (Or.inr (Or.inr ⟨by omega, by omega⟩))]; exact g4
  · rw [hk (45 + t) (Or.inr (Or.inr ⟨by omega, by omega⟩))]; exact g5 j hj
theorem Lc_nf {σ : hw_St} {S : Nat} {N : Nat → Int32} {T x : Nat} (hS : S = 1 ∨ S = 2) (hx : hw_gH x 5 = true) (h : hv_Lc σ S N T) (g f : Nat → Int32) : hv_Lc (nf σ x g f) S N T := by
  have hw := wire_tag hx
  refine Lc_keep h (fun t ht => nf_o _ _ _ ?_ ?_)
  · rcases hS with rfl | rfl <;> omega
  · rcases hS with rfl | rfl <;> omega
theorem x_ne10 {x : Nat} (hx : hw_gH x 5 = true) : x ≠ 10 := by have := wire_tag hx; omega
theorem X2_holds {σ : hw_St} {S : Nat} {N : Nat → Int32} {T x : Nat} (hS : S = 1 ∨ S = 2) (h : hv_Lc σ S N T) (hx : hw_gH x 5 = true) (hv : hv_W (σ x)) (w : Int32) : ∃ g, F_X2_holds S x w σ = some (heldI N T (σ x) w, nf σ x g (σ x)) := by
  have s1 := (scS hS).1
  have hx10 := x_ne10 hx
  obtain ⟨g, hg⟩ := X2_band hS h hx hx10 hv w
  refine ⟨g, ?_⟩
  unfold F_X2_holds B_X2_holds_26 heldI heldN
  rw [hw_gd_t s1, hw_gd_t hx, hg, hw_bd_s, nf_0 σ hx10, X5_off hx _ (by rw [nf_x]; exact hv.2.1.1), hw_bd_s, nf_x]
  generalize bandN N T (σ x) w = p
  generalize wOff (σ x) w = q
  have key : ∀ r : Int32, (if r < q then (some ((0 : Int32), nf σ x g (σ x))) else some (1, nf σ x g (σ x))) = some ((if decide (q ≤ r) = true then 1 else 0), nf σ x g (σ x)) := by
    intro r
    by_cases hc : r < q
    · rw [if_pos hc, if_neg (by rw [decide_eq_true_eq]; exact iNle.mpr hc)]
    · rw [if_neg hc, if_pos (by rw [decide_eq_true_eq]; exact iNlt.mp hc)]
  by_cases h5 : σ x 5 = 0
  · rw [if_pos h5, if_pos h5]; exact key p
  · rw [if_neg h5, if_neg h5]; exact key (2 * p)
theorem heldI_b (N : Nat → Int32) (T : Nat) (f : Nat → Int32) (w : Int32) : hw_isb (heldI N T f w) = true := by unfold heldI; exact isb_if
theorem grow_5 (N : Nat → Int32) (T : Nat) (f : Nat → Int32) (w v : Int32) : growN N T (upd f 5 v) w = growN N T f w := by
  unfold growN wAir
  rw [upd_n f v (show (0 : Nat) ≠ 5 by decide), upd_n f v (show (4 : Nat) ≠ 5 by decide)]
theorem lose_5 (f : Nat → Int32) (v : Int32) : wLose (upd f 5 v) = wLose f := by
  unfold wLose
  rw [upd_n f v (show (0 : Nat) ≠ 5 by decide), upd_n f v (show (3 : Nat) ≠ 5 by decide)]
theorem ed_keep (f : Nat → Int32) (w : Int32) {k : Nat} (v : Int32) (h0 : k ≠ 0) (h1 : k ≠ 1) : wEd (upd f k v) w = wEd f w := by
  unfold wEd wAir
  rw [upd_n f v (fun e => h0 e.symm), upd_n f v (fun e => h1 e.symm)]
theorem tkM_4 (N : Nat → Int32) (T : Nat) (f : Nat → Int32) (w : Int32) : tkM N T f w 4 = swingN N T f w := upd_s _ _ _
theorem tkM_o (N : Nat → Int32) (T : Nat) (f : Nat → Int32) (w : Int32) {k : Nat} (h4 : k ≠ 4) (h5 : k ≠ 5) : tkM N T f w k = f k := by
  unfold tkM; rw [upd_n _ _ h4, upd_n _ _ h5]
theorem tkM_5 (N : Nat → Int32) (T : Nat) (f : Nat → Int32) (w : Int32) : tkM N T f w 5 = heldI N T f w := by
  unfold tkM; rw [upd_n _ _ (by decide), upd_s]
theorem tkR_o (N : Nat → Int32) (T : Nat) (f : Nat → Int32) (w : Int32) {k : Nat} (h4 : k ≠ 4) (h5 : k ≠ 5) (h6 : k ≠ 6) : tkR N T f w k = f k := by
  unfold tkR; rw [upd_n _ _ h6, tkM_o _ _ _ _ h4 h5]
theorem tkR_4 (N : Nat → Int32) (T : Nat) (f : Nat → Int32) (w : Int32) : tkR N T f w 4 = swingN N T f w := by unfold tkR; rw [upd_n _ _ (by decide), tkM_4]
theorem tkR_5 (N : Nat → Int32) (T : Nat) (f : Nat → Int32) (w : Int32) : tkR N T f w 5 = heldI N T f w := by unfold tkR; rw [upd_n _ _ (by decide), tkM_5]
theorem W_tk {N : Nat → Int32} {T : Nat} {f : Nat → Int32} (w : Int32) (h : hv_W f) : hv_W (tkR N T f w) := by
  unfold hv_W
  rw [tkR_o (k := 0) _ _ _ _ (by decide) (by decide) (by decide), tkR_o (k := 1) _ _ _ _ (by decide) (by decide) (by decide), tkR_o (k := 2) _ _ _ _ (by decide) (by decide) (by decide), tkR_o (k := 3) _ _ _ _ (by decide) (by decide) (by decide), tkR_4, tkR_5]
  refine ⟨h.1, h.2.1, h.2.2.1, h.2.2.2.1, cl_in _ (by decide), ?_⟩
  unfold heldI
  split
  · exact Or.inr rfl
  · exact Or.inl rfl
theorem X2_blow {σ : hw_St} {S : Nat} {N : Nat → Int32} {T x : Nat} (hS : S = 1 ∨ S = 2) (h : hv_Lc σ S N T) (hx : hw_gH x 5 = true) (hv : hv_W (σ x)) (w : Int32) : ∃ g, F_X2_blowOn S x w σ = some (tkT N T (σ x) w, nf σ x g (tkR N T (σ x) w)) := by
  have s1 := (scS hS).1
  have hx10 := x_ne10 hx
  obtain ⟨g1, e1⟩ := X2_holds hS h hx hv w
  have tail : ∀ (g : Nat → Int32), ∃ g', B_X2_blowOn_35 S x w (driven N T (σ x) w) (nf σ x g (upd (σ x) 5 (heldI N T (σ x) w))) = some (tkT N T (σ x) w, nf σ x g' (tkR N T (σ x) w)) := by
    intro g
    unfold B_X2_blowOn_35
    rw [X5_loses hx, hw_bd_s, nf_x, lose_5, X6_within (by decide), hw_bd_s, nf_up, hw_nm_s]
    obtain ⟨g2, e2⟩ := X2_tire (σ := nf σ x g (tkM N T (σ x) w)) hS (Lc_nf hS hx h _ _) hx (by rw [nf_x, tkM_4]; exact cl_in _ (by decide))
    refine ⟨g2, ?_⟩
    rw [show upd (upd (σ x) 5 (heldI N T (σ x) w)) 4 (cl (driven N T (σ x) w - driven N T (σ x) w * wLose (σ x) / 20) 0 9999) = tkM N T (σ x) w from rfl, e2, hw_bd_s, nf_10 σ hx10, nf_x, nf_up, hw_nm_s, tkM_o (k := 6) _ _ _ _ (by decide) (by decide), show upd (tkM N T (σ x) w) 6 (σ x 6 + tireN N T (tkM N T (σ x) w)) = tkR N T (σ x) w from rfl, nf_x, tkR_5]
    unfold tkT heldI
    by_cases hh : heldN N T (σ x) w = true
    · rw [if_pos hh, if_neg (by decide), if_pos hh, tkR_o (k := 2) _ _ _ _ (by decide) (by decide) (by decide)]
    · rw [if_neg hh, if_pos rfl, if_neg hh, X5_eddy hx _ (by rw [nf_x, tkR_o (k := 1) _ _ _ _ (by decide) (by decide) (by decide)]; exact hv.2.1.1), hw_bd_s, nf_x]
      have : wEd (tkR N T (σ x) w) w = wEd (σ x) w := by
        unfold tkR tkM
        rw [ed_keep _ _ _ (by decide) (by decide), ed_keep _ _ _ (by decide) (by decide), ed_keep _ _ _ (by decide) (by decide)]
      rw [this]
  unfold F_X2_blowOn
  rw [hw_gd_t s1, hw_gd_t hx, e1, hw_bd_s, hw_gd_t (heldI_b N T (σ x) w), nf_up, hw_nm_s, nf_x, upd_s, upd_n _ _ (show (4 : Nat) ≠ 5 by decide)]
  by_cases hh : heldN N T (σ x) w = true
  · have e3 : heldI N T (σ x) w = 1 := by unfold heldI; rw [if_pos hh]
    obtain ⟨g2, e2⟩ := X2_grow (σ := nf σ x g1 (upd (σ x) 5 (heldI N T (σ x) w))) hS (Lc_nf hS hx h _ _) hx w
    obtain ⟨g3, e4⟩ := tail g2
    refine ⟨g3, ?_⟩
    rw [if_neg (by rw [e3]; decide), e2, hw_bd_s, nf_10 σ hx10, nf_x, grow_5]
    rw [← e4]
    unfold driven
    rw [if_pos hh]
  · have e3 : heldI N T (σ x) w = 0 := by unfold heldI; rw [if_neg hh]
    obtain ⟨g3, e4⟩ := tail g1
    refine ⟨g3, ?_⟩
    rw [if_pos e3, ← e4]
    unfold driven
    rw [if_neg hh]
