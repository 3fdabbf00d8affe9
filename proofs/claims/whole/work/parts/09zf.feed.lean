/-! feed -/
def pbv (x s : Int32) : Int32 := (hw_ushr x s).toInt8.toInt32.toInt8.toInt32
def fdf (g : Nat → Int32) (n : Nat) (v : Nat → Int32) (d : Nat) : Nat → Int32 := fun k => if n ≤ k ∧ k < n + d then v (k - n) else g k
theorem fdf_0 (g : Nat → Int32) (n : Nat) (v : Nat → Int32) : fdf g n v 0 = g := funext (fun k => if_neg (by omega))
theorem fdf_s (g : Nat → Int32) (n : Nat) (v : Nat → Int32) (d : Nat) : upd (fdf g n v d) (n + d) (v d) = fdf g n v (d + 1) := by
  funext k
  unfold upd fdf
  by_cases e : k = n + d
  · subst e
    rw [if_pos rfl, if_pos (by omega), show n + d - n = d by omega]
  · rw [if_neg e]
    by_cases e2 : n ≤ k ∧ k < n + d
    · rw [if_pos e2, if_pos (by omega)]
    · rw [if_neg e2, if_neg (by omega)]
def fsS (σ : hw_St) (n : Nat) (g : Nat → Int32) : hw_St := hw_upA (hw_upA σ 12 g) 0 (upd (σ 0) 6 (nI n))
theorem fsS_6 (σ : hw_St) (n : Nat) (g : Nat → Int32) : fsS σ n g 0 6 = nI n := by unfold fsS; rw [upA_self, upd_s]
theorem fsS_id {σ : hw_St} {n : Nat} (h : σ 0 6 = nI n) : fsS σ n (σ 12) = σ := by
  unfold fsS
  rw [upA_id, show upd (σ 0) 6 (nI n) = σ 0 from funext (fun k => by
    unfold upd
    by_cases e : k = 6
    · rw [if_pos e, e, h]
    · rw [if_neg e]), upA_id]
theorem fsS_s (σ : hw_St) (n : Nat) (g : Nat → Int32) (v : Int32) : hw_up (hw_up (fsS σ n g) 12 n v) 0 6 (nI (n + 1)) = fsS σ (n + 1) (upd g n v) := by
  funext t k
  rw [up_at, up_at]
  unfold fsS
  by_cases h0 : t = 0
  · subst h0
    rw [if_pos rfl, if_neg (show ¬ (0 : Nat) = 12 by decide), upA_self, upA_self]
    unfold upd
    by_cases e : k = 6
    · rw [if_pos e, if_pos e]
    · rw [if_neg e, if_neg e, if_neg e]
  · rw [if_neg h0, upA_row _ _ _ h0, upA_row _ _ _ h0]
    by_cases h2 : t = 12
    · subst h2
      rw [if_pos rfl, upA_self, upA_self]; rfl
    · rw [if_neg h2, upA_row _ _ _ h2, upA_row _ _ _ h2]
theorem pb_step {x s s' : Int32} (hs : ¬ s < 0) (e : s + -8 = s') {n : Nat} (hn : n < 96) (m : Nat) (σ : hw_St) (g : Nat → Int32) : L_X6_putBytes_3 (m + 1) x s (fsS σ n g) = L_X6_putBytes_3 m x s' (fsS σ (n + 1) (upd g n (pbv x s))) := by
  show S_X6_putBytes_3 (L_X6_putBytes_3 m) x s (fsS σ n g) = _
  unfold S_X6_putBytes_3
  rw [if_neg hs, fsS_6, if_neg (show ¬ (96 : Int32) ≤ nI n from iNle.mpr (nI_lt (b := 96) hn (by decide))), hw_gd_t (inb_nI hn (by decide)), hw_nm_s, hw_nm_s, up_row _ _ _ _ (show 0 ≠ 12 by decide), fsS_6, nI_clamp (by omega), show nI n + 1 = nI (n + 1) from nI_add n 1, fsS_s, e]
  rfl
theorem pb_end (x : Int32) (m : Nat) (σ : hw_St) : L_X6_putBytes_3 (m + 1) x (-8) σ = some ((), σ) := by
  show S_X6_putBytes_3 (L_X6_putBytes_3 m) x (-8) σ = _
  unfold S_X6_putBytes_3
  rw [if_pos (by decide)]
theorem pb_four {x : Int32} {v : Nat → Int32} {n c : Nat} (hn : n + c + 4 ≤ 96) (h0 : v c = pbv x 24) (h1 : v (c + 1) = pbv x 16) (h2 : v (c + 2) = pbv x 8) (h3 : v (c + 3) = pbv x 0) (σ : hw_St) (g : Nat → Int32) : F_X6_putBytes x (fsS σ (n + c) (fdf g n v c)) = some ((), fsS σ (n + (c + 4)) (fdf g n v (c + 4))) := by
  unfold F_X6_putBytes
  rw [show L_X6_putBytes_3 130 x 24 _ = _ from pb_step (s' := 16) (by decide) (by decide) (by omega) 129 σ _, ← h0, fdf_s, Nat.add_assoc n c 1, show L_X6_putBytes_3 129 x 16 _ = _ from pb_step (s' := 8) (n := n + (c + 1)) (by decide) (by decide) (by omega) 128 σ _, ← h1, fdf_s, Nat.add_assoc n (c + 1) 1, show L_X6_putBytes_3 128 x 8 _ = _ from pb_step (s' := 0) (n := n + (c + 2)) (by decide) (by decide) (by omega) 127 σ _, ← h2, fdf_s, Nat.add_assoc n (c + 2) 1, show L_X6_putBytes_3 127 x 0 _ = _ from pb_step (s' := -8) (n := n + (c + 3)) (by decide) (by decide) (by omega) 126 σ _, ← h3, fdf_s, Nat.add_assoc n (c + 3) 1]
  exact pb_end x 125 _
def fsel (a b c : Int32) (j : Nat) : Int32 := if 4 ≤ j then (if 8 ≤ j then c else b) else a
def frv (a b c : Int32) (j : Nat) : Int32 := (fsel a b c j >>> ((24 - 8 * hw_rem (nI j) 4) &&& 31)) &&& 255
def fcv (a b c : Int32) (j : Nat) : Int32 := pbv (fsel a b c j) (24 - 8 * hw_rem (nI j) 4)
theorem fcr (a b c : Int32) {j : Nat} (hj : j < 12) : fcv a b c j = (frv a b c j).toInt8.toInt32 := by
  unfold fcv frv pbv
  apply by8
  have q : (24 - 8 * hw_rem (nI j) 4 = 24 ∧ (24 - 8 * hw_rem (nI j) 4) &&& 31 = 24) ∨ (24 - 8 * hw_rem (nI j) 4 = 16 ∧ (24 - 8 * hw_rem (nI j) 4) &&& 31 = 16) ∨ (24 - 8 * hw_rem (nI j) 4 = 8 ∧ (24 - 8 * hw_rem (nI j) 4) &&& 31 = 8) ∨ (24 - 8 * hw_rem (nI j) 4 = 0 ∧ (24 - 8 * hw_rem (nI j) 4) &&& 31 = 0) := by
    have c : ∀ j, j < 12 → (24 - 8 * hw_rem (nI j) 4 = 24 ∧ (24 - 8 * hw_rem (nI j) 4) &&& 31 = 24) ∨ (24 - 8 * hw_rem (nI j) 4 = 16 ∧ (24 - 8 * hw_rem (nI j) 4) &&& 31 = 16) ∨ (24 - 8 * hw_rem (nI j) 4 = 8 ∧ (24 - 8 * hw_rem (nI j) 4) &&& 31 = 8) ∨ (24 - 8 * hw_rem (nI j) 4 = 0 ∧ (24 - 8 * hw_rem (nI j) 4) &&& 31 = 0) := by decide
    exact c j hj
  rcases q with ⟨e1, e2⟩ | ⟨e1, e2⟩ | ⟨e1, e2⟩ | ⟨e1, e2⟩
  · rw [e1, show ((24 : Int32) &&& 31) = 24 from by decide]; exact fun k hk => sh_lo24 _ k hk
  · rw [e1, show ((16 : Int32) &&& 31) = 16 from by decide]; exact fun k hk => sh_lo16 _ k hk
  · rw [e1, show ((8 : Int32) &&& 31) = 8 from by decide]; exact fun k hk => sh_lo8 _ k hk
  · rw [e1, show ((0 : Int32) &&& 31) = 0 from by decide]; exact fun k hk => sh_lo0 _ k hk
theorem fr_loop {a b c : Int32} {n : Nat} (hn : n + 12 ≤ 96) {τ : hw_St} (h : τ 200 10 = nI n) (g : Nat → Int32) : ∀ (d j m : Nat), j + d = 12 → d < m → L_X7_feed_18 m a b c (nI j) (hw_upA τ 206 (fdf g n (frv a b c) j)) = some (nI (n + 12), hw_up (hw_upA τ 206 (fdf g n (frv a b c) 12)) 200 10 (nI (n + 12))) := by
  intro d
  induction d with
  | zero =>
    intro j m hj hm
    obtain ⟨m, rfl⟩ : ∃ q, m = q + 1 := ⟨m - 1, by omega⟩
    have : j = 12 := by omega
    subst this
    show S_X7_feed_18 (L_X7_feed_18 m) a b c (nI 12) _ = _
    unfold S_X7_feed_18
    rw [if_pos (by decide), hw_nm_s, upA_row _ _ _ (show 200 ≠ 206 by decide), h, show nI n + 12 = nI (n + 12) from nI_add n 12, up_self, upd_s]
  | succ d ih =>
    intro j m hj hm
    obtain ⟨m, rfl⟩ : ∃ q, m = q + 1 := ⟨m - 1, by omega⟩
    have st : ∀ k0, k0 = fsel a b c j → B_X7_feed_47 (L_X7_feed_18 m) a b c (nI j) k0 (hw_upA τ 206 (fdf g n (frv a b c) j)) = some (nI (n + 12), hw_up (hw_upA τ 206 (fdf g n (frv a b c) 12)) 200 10 (nI (n + 12))) := fun k0 hk => by
      unfold B_X7_feed_47
      rw [upA_row _ _ _ (show 200 ≠ 206 by decide), h, show nI n + nI j = nI (n + j) from nI_add n j, hw_gd_t (inb_nI (by omega) (by decide)), hw_nm_s, nI_clamp (by omega), up_A, hk, show nI j + 1 = nI (j + 1) from nI_add j 1, show (fsel a b c j >>> ((24 - 8 * hw_rem (nI j) 4) &&& 31)) &&& 255 = frv a b c j from rfl, fdf_s]
      exact ih (j + 1) m (by omega) (by omega)
    show S_X7_feed_18 (L_X7_feed_18 m) a b c (nI j) _ = _
    unfold S_X7_feed_18
    rw [if_neg (show ¬ (12 : Int32) ≤ nI j from iNle.mpr (nI_lt (b := 12) (by omega) (by decide)))]
    by_cases h4 : 4 ≤ j
    · rw [if_pos (show (4 : Int32) ≤ nI j from nI_le (a := 4) h4 (by omega))]
      by_cases h8 : 8 ≤ j
      · rw [if_pos (show (8 : Int32) ≤ nI j from nI_le (a := 8) h8 (by omega))]
        exact st c (by unfold fsel; rw [if_pos h4, if_pos h8])
      · rw [if_neg (show ¬ (8 : Int32) ≤ nI j from iNle.mpr (nI_lt (b := 8) (by omega) (by decide)))]
        exact st b (by unfold fsel; rw [if_pos h4, if_neg h8])
    · rw [if_neg (show ¬ (4 : Int32) ≤ nI j from iNle.mpr (nI_lt (b := 4) (by omega) (by decide)))]
      exact st a (by unfold fsel; rw [if_neg h4])
theorem sim_feed : hw_sim3 hv_R F_X6_feed F_X7_feed := by
  intro a b c σ τ HR
  have HR' := HR
  obtain ⟨w, h, T, A, I, B, E⟩ := HR
  obtain ⟨n, h1, h2, h3, h4⟩ := E.ta
  by_cases hn : n + 12 ≤ 96
  · have le : nI n + 12 ≤ 96 := by
      rw [show nI n + 12 = nI (n + 12) from nI_add n 12]
      exact nI_le (b := 96) hn (by decide)
    refine ⟨nI (n + 12), fsS σ (n + 12) (fdf (σ 12) n (fcv a b c) 12), hw_up (hw_upA τ 206 (fdf (τ 206) n (frv a b c) 12)) 200 10 (nI (n + 12)), ?_, ?_, ?_⟩
    · unfold F_X6_feed
      rw [h2, if_pos le]
      have s0 : σ = fsS σ (n + 0) (fdf (σ 12) n (fcv a b c) 0) := by rw [fdf_0]; exact (fsS_id h2).symm
      have r1 : F_X6_putBytes a σ = some ((), fsS σ (n + 4) (fdf (σ 12) n (fcv a b c) 4)) := by
        have := pb_four (x := a) (v := fcv a b c) (n := n) (c := 0) (by omega) (by rfl) (by rfl) (by rfl) (by rfl) σ (σ 12)
        rw [← s0] at this
        exact this
      have r2 : F_X6_putBytes b (fsS σ (n + 4) (fdf (σ 12) n (fcv a b c) 4)) = some ((), fsS σ (n + 8) (fdf (σ 12) n (fcv a b c) 8)) := pb_four (x := b) (v := fcv a b c) (n := n) (c := 4) (by omega) (by rfl) (by rfl) (by rfl) (by rfl) σ (σ 12)
      have r3 : F_X6_putBytes c (fsS σ (n + 8) (fdf (σ 12) n (fcv a b c) 8)) = some ((), fsS σ (n + 12) (fdf (σ 12) n (fcv a b c) 12)) := pb_four (x := c) (v := fcv a b c) (n := n) (c := 8) (by omega) (by rfl) (by rfl) (by rfl) (by rfl) σ (σ 12)
      rw [r1, hw_bd_s, r2, hw_bd_s, r3, hw_bd_s, fsS_6]
    · unfold F_X7_feed
      rw [h3, if_pos le]
      have := fr_loop (a := a) (b := b) (c := c) hn h3 (τ 206) 12 0 130 (by omega) (by omega)
      rw [fdf_0, upA_id] at this
      exact this
    · refine R_tape HR' ⟨n + 12, by omega, fsS_6 _ _ _, by rw [up_self, upd_s], fun j hj => ?_⟩ (fun t g1 g2 => by unfold fsS; rw [upA_row _ _ _ g1, upA_row _ _ _ g2]) (fun k hk => by unfold fsS; rw [upA_self, upd_n _ _ hk]) (fun t g1 g2 => by rw [up_row _ _ _ _ g1, upA_row _ _ _ g2]) (fun k hk => by rw [up_self, upd_n _ _ hk, upA_row _ _ _ (by decide)])
      rw [up_row _ _ _ _ (show 206 ≠ 200 by decide), upA_self]
      have q : fsS σ (n + 12) (fdf (σ 12) n (fcv a b c) 12) 12 = fdf (σ 12) n (fcv a b c) 12 := by unfold fsS; rw [upA_row _ _ _ (by decide), upA_self]
      rw [q]
      unfold fdf
      by_cases e : n ≤ j ∧ j < n + 12
      · rw [if_pos e, if_pos e]
        exact ⟨fcr a b c (by omega), (and255 _).1, (and255 _).2⟩
      · rw [if_neg e, if_neg e]
        exact h4 j (by omega)
  · have gt : ¬ nI n + 12 ≤ 96 := by
      rw [show nI n + 12 = nI (n + 12) from nI_add n 12]
      exact iNle.mpr (nI_lt (a := 96) (by omega) (by omega))
    refine ⟨-1000000003, σ, τ, ?_, ?_, HR'⟩
    · unfold F_X6_feed; rw [h2, if_neg gt]
    · unfold F_X7_feed; rw [h3, if_neg gt]
