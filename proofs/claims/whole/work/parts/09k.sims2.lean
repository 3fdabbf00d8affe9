/-! steps that change one place of the now-scene -/
theorem cn_at {N N' : Nat → Int32} (h : ∀ j, 71 ≤ j → N' j = N j) (k : Nat) : ∀ T, cn N' k T = cn N k T
  | 0 => rfl
  | T + 1 => by
    unfold cn
    rw [h _ (by omega), cn_at h k T]
theorem Txt_at {σ σ' : hw_St} {N N' : Nat → Int32} {T : Nat} (h : ∀ j, 71 ≤ j → N' j = N j) (hT : T ≤ 14) (g : hv_Txt σ N T) (hk : ∀ t, 30 ≤ t → t < 60 → σ' t = σ t) : hv_Txt σ' N' T := by
  intro t ht
  obtain ⟨key, len, ⟨m1, m2, m3, m4⟩, g2, g3, g4, g5⟩ := Txt_keep hT g hk t ht
  refine ⟨key, len, ⟨m1, m2, by rw [h _ (by omega)]; exact m3, ?_⟩, g2, by rw [h _ (by omega)]; exact g3, g4, fun j hj => by rw [h _ (by omega)]; exact g5 j hj⟩
  rw [show (fun j => N' (99 + 96 * t + j)) = fun j => N (99 + 96 * t + j) from funext (fun j => h _ (by omega))]
  exact m4
theorem R_up {σ τ : hw_St} {w h T w' h' T' x k k' : Nat} {v v' : Int32} (hT : T ≤ T') (I : hv_Im σ τ T) (B : hv_Bo σ) (E : hv_Re σ τ) (hx : x = 1 ∨ x = 3 ∨ x = 7 ∨ 18 ≤ x ∧ x < 24) (hb : x < 18 ∨ k ≠ 5) (H : hv_Sc (hw_up σ x k v) 1 (upd (τ 201) k' v') w' h' T') : hv_R (hw_up σ x k v) (hw_up τ 201 k' v') := by
  refine R_now (w := w) (h := h) hT (by rw [up_self]; exact H) I B E ?_ (fun t ht => up_row _ _ _ _ (by omega)) (fun t ht => up_row _ _ _ _ (by omega)) (by rw [up_row _ _ _ _ (by decide)]) (by rw [up_row _ _ _ _ (by decide)]) (by rw [up_row _ _ _ _ (by decide)])
  intro y h1 h2
  rw [up_at]
  by_cases e : y = x
  · rw [if_pos e, if_neg (by omega)]; exact B y h1 (by omega)
  · rw [if_neg e]; exact B y h1 (by omega)
/-- one part of one wire changed, both sides -/
theorem Sc_part {σ : hw_St} {N : Nat → Int32} {w h T i k : Nat} {v : Int32} (H : hv_Sc σ 1 N w h T) (hi : i < w) (hk : k < 7) (hv : hv_W (upd (rw_ N i) k v)) : hv_Sc (hw_up σ (18 + i) k v) 1 (upd N (29 + 7 * i + k) v) w h T := by
  have hb := H.bw
  have o : ∀ j, (j < 29 ∨ 71 ≤ j) → upd N (29 + 7 * i + k) v j = N j := fun j hj => upd_n _ _ (by omega)
  have r : ∀ t, t < 18 ∨ 24 ≤ t → hw_up σ (18 + i) k v t = σ t := fun t ht => up_row _ _ _ _ (by omega)
  refine ⟨H.bw, H.bh, H.bT, ?_, ?_, ?_, ?_, ?_, ?_, ?_, ?_, ?_, ?_, ?_, ?_, ?_, ?_, ?_⟩
  · rw [o _ (by omega)]; exact H.n1
  · rw [o _ (by omega)]; exact H.n2
  · rw [o _ (by omega)]; exact H.n4
  · rw [o _ (by omega)]; exact H.n3
  · rw [o _ (by omega), r _ (by omega)]; exact H.s9
  · rw [r _ (by omega)]; exact H.s6
  · rw [r _ (by omega)]; exact H.s7
  · rw [o _ (by omega), r _ (by omega)]; exact H.s8
  · rw [r _ (by omega)]; exact H.s5
  · intro q hq; rw [o _ (by omega), r _ (by omega)]; exact H.wd q hq
  · intro q hq; rw [o _ (by omega)]; exact H.wr q hq
  · intro q hq
    by_cases e : q = i
    · subst e; rw [rw_upd]; exact hv
    · exact W_cg (fun k2 hk2 => rw_oth N v e hk hk2) (H.ww q hq)
  · intro q hq k2 hk2
    by_cases e : q = i
    · subst e
      rw [rw_upd, show 12 + 6 * 1 + q = 18 + q from rfl, up_self]
      unfold upd
      by_cases e2 : k2 = k
      · rw [if_pos e2, if_pos e2]
      · rw [if_neg e2, if_neg e2]; exact H.wi q hq k2 hk2
    · rw [rw_oth N v e hk hk2, up_row _ _ _ _ (by omega)]; exact H.wi q hq k2 hk2
  · intro q hq
    rw [r _ (by omega), cn_at (fun j hj => o j (Or.inr hj))]; exact H.nw q hq
  · exact Txt_at (fun j hj => o j (Or.inr hj)) H.bT H.tx (fun t h1 h2 => r t (by omega))
theorem W_upd {f : Nat → Int32} (h : hv_W f) : (∀ v : Int32, (0 ≤ v ∧ v ≤ 5) → hv_W (upd f 0 v)) ∧ (∀ v : Int32, (1 ≤ v ∧ v ≤ 9) → hv_W (upd f 1 v)) ∧ (∀ v : Int32, (1 ≤ v ∧ v ≤ 999) → hv_W (upd f 2 v)) ∧ (∀ v : Int32, (0 ≤ v ∧ v ≤ 9) → hv_W (upd f 3 v)) ∧ (∀ v : Int32, (0 ≤ v ∧ v ≤ 9999) → hv_W (upd f 4 v)) := by
  obtain ⟨h0, h1, h2, h3, h4, h5⟩ := h
  exact ⟨fun v hv => ⟨hv, h1, h2, h3, h4, h5⟩, fun v hv => ⟨h0, hv, h2, h3, h4, h5⟩, fun v hv => ⟨h0, h1, hv, h3, h4, h5⟩, fun v hv => ⟨h0, h1, h2, hv, h4, h5⟩, fun v hv => ⟨h0, h1, h2, h3, hv, h5⟩⟩
theorem sim_turns : hw_sim2 hv_R F_X6_turns F_X7_turns := by
  intro a b σ τ HR
  have HR' := HR
  obtain ⟨w, h, T, A, I, B, E⟩ := HR
  by_cases ha : ∃ i, i < w ∧ a = nI i
  · obtain ⟨i, hi, rfl⟩ := ha
    have h6 : i < 6 := Nat.lt_of_lt_of_le hi A.bw
    have hg := (elS (Or.inl rfl) h6).2
    have hr := W_rows A hi
    by_cases hb : 0 ≤ b ∧ b ≤ 5
    · refine ⟨rw_ (τ 201) i 0, hw_up σ (18 + i) 0 b, hw_up τ 201 (29 + 7 * i) b, ?_, ?_, ?_⟩
      · unfold F_X6_turns
        rw [wireAt_yes (Or.inl rfl) A hi, hw_bd_s, if_neg (by omega), X6_isKind, hw_bd_s, if_pos hb, if_neg (by decide), hw_gd_t hg, show 12 + 6 * 1 + i = 18 + i from rfl, hr 0 (by decide), hw_nm_s, hw_nm_s]
      · unfold F_X7_turns
        rw [isWire_yes A hi, hw_bd_s, if_neg (by decide), X7_in, hw_bd_s, if_pos hb, if_neg (by decide), ixW0, X7_becomes (by omega), hw_bd_s]; rfl
      · exact R_up (w := w) (h := h) (Nat.le_refl _) I B E (by omega) (Or.inr (by decide)) (Sc_part A hi (by decide) ((W_upd (A.ww i hi)).1 b hb))
    · refine ⟨-1000000001, σ, τ, ?_, ?_, HR'⟩
      · unfold F_X6_turns
        rw [wireAt_yes (Or.inl rfl) A hi, hw_bd_s, if_neg (by omega), X6_isKind, hw_bd_s, if_neg hb, if_pos rfl]
      · unfold F_X7_turns
        rw [isWire_yes A hi, hw_bd_s, if_neg (by decide), X7_in, hw_bd_s, if_neg hb, if_pos rfl]
  · refine ⟨-1000000001, σ, τ, ?_, ?_, HR'⟩
    · unfold F_X6_turns; rw [wireAt_no (Or.inl rfl) A ha, hw_bd_s, if_pos rfl]
    · unfold F_X7_turns; rw [isWire_no A ha, hw_bd_s, if_pos rfl]
theorem X5_change {x k : Nat} (hx : hw_gH x 5 = true) (hk : k = 1 ∨ k = 2 ∨ k = 3 ∨ k = 4) (v : Int32) (s : hw_St) : F_X5_change x (nI k) v s = some (s x k, hw_up s x k v) := by
  unfold F_X5_change
  rw [hw_gd_t hx]
  rcases hk with rfl | rfl | rfl | rfl <;> rfl
theorem X7_isPart (k : Nat) (hk : k = 1 ∨ k = 2 ∨ k = 3 ∨ k = 4) (v : Int32) (s : hw_St) : ∃ r, F_X7_isPart (nI k) v s = some (r, s) ∧ (r = 0 ↔ ¬ canS (nI k) v) := by
  unfold canS
  rcases hk with rfl | rfl | rfl | rfl
  · refine ⟨_, X7_isPart1 v s, ?_⟩
    rw [if01_0, show nI 1 = (1 : Int32) from rfl]; simp
  · refine ⟨_, X7_isPart2 v s, ?_⟩
    rw [if01_0, show nI 2 = (2 : Int32) from rfl]; simp
  · refine ⟨_, X7_isPart3 v s, ?_⟩
    rw [if01_0, show nI 3 = (3 : Int32) from rfl]; simp
  · refine ⟨_, X7_isPart4 v s, ?_⟩
    rw [if01_0, show nI 4 = (4 : Int32) from rfl]; simp
theorem canS_in {b c : Int32} (h : canS b c) : ∃ k, (k = 1 ∨ k = 2 ∨ k = 3 ∨ k = 4) ∧ b = nI k := by
  rcases h with ⟨e, -⟩ | ⟨e, -⟩ | ⟨e, -⟩ | ⟨e, -⟩
  · exact ⟨1, by omega, e⟩
  · exact ⟨2, by omega, e⟩
  · exact ⟨3, by omega, e⟩
  · exact ⟨4, by omega, e⟩
theorem canS_W {k : Nat} {c : Int32} (hk : k = 1 ∨ k = 2 ∨ k = 3 ∨ k = 4) (h : canS (nI k) c) {f : Nat → Int32} (hf : hv_W f) : hv_W (upd f k c) := by
  rcases h with ⟨e, g⟩ | ⟨e, g⟩ | ⟨e, g⟩ | ⟨e, g⟩
  · rcases hk with rfl | rfl | rfl | rfl
    · exact (W_upd hf).2.1 c g
    all_goals exact absurd e (by decide)
  · rcases hk with rfl | rfl | rfl | rfl
    · exact absurd e (by decide)
    · exact (W_upd hf).2.2.1 c g
    all_goals exact absurd e (by decide)
  · rcases hk with rfl | rfl | rfl | rfl
    · exact absurd e (by decide)
    · exact absurd e (by decide)
    · exact (W_upd hf).2.2.2.1 c g
    · exact absurd e (by decide)
  · rcases hk with rfl | rfl | rfl | rfl
    · exact absurd e (by decide)
    · exact absurd e (by decide)
    · exact absurd e (by decide)
    · exact (W_upd hf).2.2.2.2 c g
theorem sim_set : hw_sim3 hv_R F_X6_set F_X7_set := by
  intro a b c σ τ HR
  have HR' := HR
  obtain ⟨w, h, T, A, I, B, E⟩ := HR
  by_cases ha : ∃ i, i < w ∧ a = nI i
  · obtain ⟨i, hi, rfl⟩ := ha
    have h6 : i < 6 := Nat.lt_of_lt_of_le hi A.bw
    have hg := (elS (Or.inl rfl) h6).2
    have hr := W_rows A hi
    obtain ⟨r1, e1, f1⟩ := X6_canBeSet b c σ
    by_cases hc : canS b c
    · obtain ⟨k, hk, rfl⟩ := canS_in hc
      obtain ⟨r2, e2, f2⟩ := X7_isPart k hk c τ
      have hin : (1 : Int32) ≤ nI k ∧ nI k ≤ 4 := by rcases hk with rfl | rfl | rfl | rfl <;> decide
      refine ⟨rw_ (τ 201) i k, hw_up σ (18 + i) k c, hw_up τ 201 (29 + 7 * i + k) c, ?_, ?_, ?_⟩
      · unfold F_X6_set
        rw [wireAt_yes (Or.inl rfl) A hi, hw_bd_s, if_neg (by omega), e1, hw_bd_s, if_neg (fun e => f1.mp e hc), hw_gd_t hg, X5_change hg hk, hw_bd_s, show 12 + 6 * 1 + i = 18 + i from rfl, hr k (by omega)]
      · unfold F_X7_set
        rw [isWire_yes A hi, hw_bd_s, if_neg (by decide), X7_in, hw_bd_s, if_pos hin, if_neg (by decide), e2, hw_bd_s, if_neg (fun e => f2.mp e hc), ixW, X7_becomes (by omega), hw_bd_s]; rfl
      · exact R_up (w := w) (h := h) (Nat.le_refl _) I B E (by omega) (Or.inr (by omega)) (Sc_part A hi (by omega) (canS_W hk hc (A.ww i hi)))
    · refine ⟨-1000000001, σ, τ, ?_, ?_, HR'⟩
      · unfold F_X6_set
        rw [wireAt_yes (Or.inl rfl) A hi, hw_bd_s, if_neg (by omega), e1, hw_bd_s, if_pos (f1.mpr hc)]
      · unfold F_X7_set
        rw [isWire_yes A hi, hw_bd_s, if_neg (by decide), X7_in, hw_bd_s]
        by_cases hb : 1 ≤ b ∧ b ≤ 4
        · obtain ⟨k, hk, rfl⟩ := ix_to (m := 4) rfl (Int32.le_trans (by decide) hb.1) hb.2
          have hk' : k = 1 ∨ k = 2 ∨ k = 3 ∨ k = 4 := by
            have : k ≠ 0 := fun e => by subst e; exact absurd hb.1 (by decide)
            omega
          obtain ⟨r2, e2, f2⟩ := X7_isPart k hk' c τ
          rw [if_pos hb, if_neg (by decide), e2, hw_bd_s, if_pos (f2.mpr hc)]
        · rw [if_neg hb, if_pos rfl]
  · refine ⟨-1000000001, σ, τ, ?_, ?_, HR'⟩
    · unfold F_X6_set; rw [wireAt_no (Or.inl rfl) A ha, hw_bd_s, if_pos rfl]
    · unfold F_X7_set; rw [isWire_no A ha, hw_bd_s, if_pos rfl]
