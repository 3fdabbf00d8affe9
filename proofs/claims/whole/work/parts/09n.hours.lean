/-! a wire's row counts only in its seven parts -/
def e7 (f g : Nat → Int32) : Prop := ∀ k, k < 7 → f k = g k
theorem air_cg {f g : Nat → Int32} (h : e7 f g) (w : Int32) : wAir f w = wAir g w := by unfold wAir; rw [h 0 (by decide)]
theorem ed_cg {f g : Nat → Int32} (h : e7 f g) (w : Int32) : wEd f w = wEd g w := by unfold wEd; rw [air_cg h, h 1 (by decide)]
theorem off_cg {f g : Nat → Int32} (h : e7 f g) (w : Int32) : wOff f w = wOff g w := by unfold wOff; rw [ed_cg h, h 2 (by decide)]
theorem out_cg {f g : Nat → Int32} (h : e7 f g) (p : Int32) : wOut f p = wOut g p := by unfold wOut; rw [h 0 (by decide)]
theorem band_cg {f g : Nat → Int32} (h : e7 f g) (N : Nat → Int32) (T : Nat) (w : Int32) : bandN N T f w = bandN N T g w := by
  unfold bandN; rw [out_cg h, ed_cg h, h 2 (by decide), h 4 (by decide)]
theorem grow_cg {f g : Nat → Int32} (h : e7 f g) (N : Nat → Int32) (T : Nat) (w : Int32) : growN N T f w = growN N T g w := by
  unfold growN; rw [air_cg h, h 4 (by decide)]
theorem tire_cg {f g : Nat → Int32} (h : e7 f g) (N : Nat → Int32) (T : Nat) : tireN N T f = tireN N T g := by
  unfold tireN; rw [h 4 (by decide), h 5 (by decide)]
theorem held_cg {f g : Nat → Int32} (h : e7 f g) (N : Nat → Int32) (T : Nat) (w : Int32) : heldN N T f w = heldN N T g w := by
  unfold heldN; rw [off_cg h, band_cg h, h 5 (by decide)]
theorem heldI_cg {f g : Nat → Int32} (h : e7 f g) (N : Nat → Int32) (T : Nat) (w : Int32) : heldI N T f w = heldI N T g w := by
  unfold heldI; rw [held_cg h]
theorem driven_cg {f g : Nat → Int32} (h : e7 f g) (N : Nat → Int32) (T : Nat) (w : Int32) : driven N T f w = driven N T g w := by
  unfold driven; rw [held_cg h, grow_cg h, h 4 (by decide)]
theorem swing_cg {f g : Nat → Int32} (h : e7 f g) (N : Nat → Int32) (T : Nat) (w : Int32) : swingN N T f w = swingN N T g w := by
  unfold swingN; rw [driven_cg h, lose_cg h]
theorem upd_e7 {f g : Nat → Int32} (h : e7 f g) {j : Nat} {v v' : Int32} (hv : v = v') : e7 (upd f j v) (upd g j v') := by
  intro k hk
  unfold upd
  rw [h k hk, hv]
theorem tkM_cg {f g : Nat → Int32} (h : e7 f g) (N : Nat → Int32) (T : Nat) (w : Int32) : e7 (tkM N T f w) (tkM N T g w) := by
  unfold tkM
  exact upd_e7 (upd_e7 h (heldI_cg h N T w)) (swing_cg h N T w)
theorem tkR_cg {f g : Nat → Int32} (h : e7 f g) (N : Nat → Int32) (T : Nat) (w : Int32) : e7 (tkR N T f w) (tkR N T g w) := by
  unfold tkR
  exact upd_e7 (tkM_cg h N T w) (by rw [h 6 (by decide), tire_cg (tkM_cg h N T w)])
theorem tkT_cg {f g : Nat → Int32} (h : e7 f g) (N : Nat → Int32) (T : Nat) (w : Int32) : tkT N T f w = tkT N T g w := by
  unfold tkT; rw [held_cg h, ed_cg h, h 2 (by decide)]
theorem Sc_Lc {σ : hw_St} {S : Nat} {N : Nat → Int32} {w h T : Nat} (H : hv_Sc σ S N w h T) : hv_Lc σ S N T := ⟨H.n4, H.bT, H.s5, H.s8, H.n3, H.nw, H.tx⟩
theorem Sc_Mc {σ : hw_St} {S : Nat} {N : Nat → Int32} {w h T : Nat} (H : hv_Sc σ S N w h T) : hv_Mc N T := ⟨H.n4, H.bT, H.n3, fun t ht => by obtain ⟨key, len, g⟩ := H.tx t ht; exact ⟨key, len, g.1⟩⟩
/-- only wires change -/
theorem Sc_ag {σ σ' : hw_St} {S : Nat} {N N' : Nat → Int32} {w h T : Nat} (H : hv_Sc σ S N w h T) (g : ag N N') (k1 : σ' S = σ S) (k2 : σ' (S + 2) = σ (S + 2)) (k3 : σ' (S + 6) = σ (S + 6)) (k5 : ∀ t, 30 ≤ t → t < 60 → σ' t = σ t) (ww : ∀ i, i < w → hv_W (rw_ N' i)) (wi : ∀ i, i < w → ∀ k, k < 7 → σ' (12 + 6 * S + i) k = rw_ N' i k) : hv_Sc σ' S N' w h T := by
  refine ⟨H.bw, H.bh, H.bT, ?_, ?_, ?_, ?_, ?_, ?_, ?_, ?_, ?_, ?_, ?_, ww, wi, ?_, ?_⟩
  · rw [g _ (by omega)]; exact H.n1
  · rw [g _ (by omega)]; exact H.n2
  · rw [g _ (by omega)]; exact H.n4
  · rw [g _ (by omega)]; exact H.n3
  · rw [g _ (by omega), k1]; exact H.s9
  · rw [k1]; exact H.s6
  · rw [k1]; exact H.s7
  · rw [g _ (by omega), k1]; exact H.s8
  · rw [k1]; exact H.s5
  · intro k hk; rw [k2, g _ (by omega)]; exact H.wd k hk
  · intro k hk; rw [g _ (by omega)]; exact H.wr k hk
  · intro k hk; rw [k3, ag_cn g]; exact H.nw k hk
  · exact Txt_at (fun j hj => g j (Or.inr hj)) H.bT H.tx k5
theorem Sc_tick {σ : hw_St} {S : Nat} {N : Nat → Int32} {w h T i : Nat} (hS : S = 1 ∨ S = 2) (H : hv_Sc σ S N w h T) (hi : i < w) (wd : Int32) (g : Nat → Int32) : hv_Sc (nf σ (12 + 6 * S + i) g (tkR N T (σ (12 + 6 * S + i)) wd)) S (tkN N T i wd) w h T := by
  have hb := H.bw
  have o : ∀ t, t ≠ 12 + 6 * S + i → t ≠ 10 → nf σ (12 + 6 * S + i) g (tkR N T (σ (12 + 6 * S + i)) wd) t = σ t := fun t h1 h2 => nf_o _ _ _ h1 h2
  have r : e7 (σ (12 + 6 * S + i)) (rw_ N i) := H.wi i hi
  have hS' : S = 1 ∨ S = 2 := hS
  refine Sc_ag H (tkN_ag N T (by omega) wd) (o _ (by omega) (by omega)) (o _ (by omega) (by omega)) (o _ (by omega) (by omega)) (fun t h1 h2 => o t (by omega) (by omega)) ?_ ?_
  · intro q hq
    by_cases e : q = i
    · subst e; rw [tkN_row]; exact W_tk wd (H.ww q hq)
    · exact W_cg (fun k hk => tkN_oth N T wd e hk) (H.ww q hq)
  · intro q hq k hk
    by_cases e : q = i
    · subst e; rw [nf_x, tkN_row]; exact tkR_cg r N T wd k hk
    · rw [o _ (by omega) (by omega), tkN_oth N T wd e hk]; exact H.wi q hq k hk
theorem sim_tick : hw_sim2 hv_R F_X6_tick F_X7_tick := by
  intro a b σ τ HR
  have HR' := HR
  obtain ⟨w, h, T, A, I, B, E⟩ := HR
  by_cases ha : ∃ i, i < w ∧ a = nI i
  · obtain ⟨i, hi, rfl⟩ := ha
    have h6 : i < 6 := Nat.lt_of_lt_of_le hi A.bw
    have hg := (elS (Or.inl rfl) h6).2
    have hr : e7 (σ (12 + 6 * 1 + i)) (rw_ (τ 201) i) := A.wi i hi
    by_cases hb : 0 ≤ b ∧ b ≤ 99
    · obtain ⟨g, e1⟩ := X2_blow (Or.inl rfl) (Sc_Lc A) hg (W_cg hr (A.ww i hi)) b
      obtain ⟨a', b', e2⟩ := X7_ticks h6 (Sc_Mc A) (A.ww i hi) b τ (τ 212) (τ 213)
      rw [← mf_s] at e2
      refine ⟨tkT (τ 201) T (rw_ (τ 201) i) b, nf σ (12 + 6 * 1 + i) g (tkR (τ 201) T (σ (12 + 6 * 1 + i)) b), mf τ (tkN (τ 201) T i b) a' b', ?_, ?_, ?_⟩
      · unfold F_X6_tick
        rw [wireAt_yes (Or.inl rfl) A hi, hw_bd_s, if_neg (by omega), X6_isWind, hw_bd_s, if_pos hb, if_neg (by decide), e1, hw_bd_s, tkT_cg hr]
      · unfold F_X7_tick
        rw [isWire_yes A hi, hw_bd_s, if_neg (by decide), X7_isWind, hw_bd_s, if_pos hb, if_neg (by decide), e2, hw_bd_s]
      · refine R_now (w := w) (h := h) (w' := w) (h' := h) (Nat.le_refl T) ?_ I B E ?_ (fun t ht => nf_o _ _ _ (by omega) (by omega)) (fun t ht => mf_o _ _ _ _ (by omega) (by omega) (by omega)) (by rw [mf_o _ _ _ _ (by decide) (by decide) (by decide)]) (by rw [mf_o _ _ _ _ (by decide) (by decide) (by decide)]) (by rw [mf_o _ _ _ _ (by decide) (by decide) (by decide)])
        · rw [mf_201]; exact Sc_tick (Or.inl rfl) A hi b g
        · intro x h1 h2
          by_cases e : x = 12 + 6 * 1 + i
          · subst e; rw [nf_x]; exact (W_tk b (W_cg hr (A.ww i hi))).2.2.2.2.2
          · rw [nf_o _ _ _ e (by omega)]; exact B x h1 (by omega)
    · refine ⟨-1000000001, σ, τ, ?_, ?_, HR'⟩
      · unfold F_X6_tick
        rw [wireAt_yes (Or.inl rfl) A hi, hw_bd_s, if_neg (by omega), X6_isWind, hw_bd_s, if_neg hb, if_pos rfl]
      · unfold F_X7_tick
        rw [isWire_yes A hi, hw_bd_s, if_neg (by decide), X7_isWind, hw_bd_s, if_neg hb, if_pos rfl]
  · refine ⟨-1000000001, σ, τ, ?_, ?_, HR'⟩
    · unfold F_X6_tick; rw [wireAt_no (Or.inl rfl) A ha, hw_bd_s, if_pos rfl]
    · unfold F_X7_tick; rw [isWire_no A ha, hw_bd_s, if_pos rfl]
