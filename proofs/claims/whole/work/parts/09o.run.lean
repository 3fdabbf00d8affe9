/-! by -/
def byv (N : Nat → Int32) (T : Nat) (f : Nat → Int32) (w c : Int32) : Int32 := if c = 0 then wAir f w else if c = 1 then wEd f w else if c = 2 then wOff f w else if c = 3 then bandN N T f w else if c = 4 then growN N T f w else if c = 5 then tkT N T f w else -1000000001
theorem heldI_0 (N : Nat → Int32) (T : Nat) (f : Nat → Int32) (w : Int32) : (heldI N T f w = 0) ↔ ¬ heldN N T f w = true := by unfold heldI; exact if01_0
theorem by_6 {σ : hw_St} {N : Nat → Int32} {w h T : Nat} (A : hv_Sc σ 1 N w h T) {i : Nat} (hi : i < w) {b : Int32} (hb : 0 ≤ b ∧ b ≤ 99) (c : Int32) : ∃ g, F_X6_by (nI i) b c σ = some (byv N T (rw_ N i) b c, hw_upA σ 10 g) := by
  have h6 : i < 6 := Nat.lt_of_lt_of_le hi A.bw
  have hg := (elS (Or.inl rfl) h6).2
  have hr : e7 (σ (12 + 6 * 1 + i)) (rw_ N i) := A.wi i hi
  have hv : hv_W (σ (12 + 6 * 1 + i)) := W_cg hr (A.ww i hi)
  unfold F_X6_by byv
  rw [wireAt_yes (Or.inl rfl) A hi, hw_bd_s, if_neg (by omega), X6_isWind, hw_bd_s, if_pos hb, if_neg (by decide)]
  by_cases h0 : c = 0
  · refine ⟨σ 10, ?_⟩
    rw [if_pos h0, if_pos h0, hw_gd_t hg, X5_air hg, hw_bd_s, air_cg hr, upA_id]
  rw [if_neg h0, if_neg h0]
  by_cases h0 : c = 1
  · refine ⟨σ 10, ?_⟩
    rw [if_pos h0, if_pos h0, hw_gd_t hg, X5_eddy hg σ hv.2.1.1, hw_bd_s, ed_cg hr, upA_id]
  rw [if_neg h0, if_neg h0]
  by_cases h0 : c = 2
  · refine ⟨σ 10, ?_⟩
    rw [if_pos h0, if_pos h0, hw_gd_t hg, X5_off hg σ hv.2.1.1, hw_bd_s, off_cg hr, upA_id]
  rw [if_neg h0, if_neg h0]
  by_cases h0 : c = 3
  · obtain ⟨g, e⟩ := X2_band (Or.inl rfl) (Sc_Lc A) hg (x_ne10 hg) hv b
    refine ⟨g, ?_⟩
    rw [if_pos h0, if_pos h0, e, hw_bd_s, band_cg hr]
  rw [if_neg h0, if_neg h0]
  by_cases h0 : c = 4
  · obtain ⟨g, e⟩ := X2_grow (Or.inl rfl) (Sc_Lc A) hg b
    refine ⟨g, ?_⟩
    rw [if_pos h0, if_pos h0, e, hw_bd_s, grow_cg hr]
  rw [if_neg h0, if_neg h0]
  by_cases h0 : c = 5
  · obtain ⟨g, e⟩ := X2_holds (Or.inl rfl) (Sc_Lc A) hg hv b
    refine ⟨g, ?_⟩
    rw [if_pos h0, if_pos h0, e, hw_bd_s, heldI_cg hr, ← nf_0 σ (x_ne10 hg)]
    unfold tkT
    by_cases q : heldN N T (rw_ N i) b = true
    · rw [if_neg (fun z => (heldI_0 _ _ _ _).mp z q), if_pos q, hw_gd_t hg, upA10 _ _ (x_ne10 hg), hr 2 (by decide)]
    · rw [if_pos ((heldI_0 _ _ _ _).mpr q), if_neg q, hw_gd_t hg, X5_eddy hg _ (by rw [upA10 _ _ (x_ne10 hg)]; exact hv.2.1.1), hw_bd_s, upA10 _ _ (x_ne10 hg), ed_cg hr]
  rw [if_neg h0, if_neg h0]
  exact ⟨σ 10, by rw [upA_id]⟩
theorem by_7 {σ τ : hw_St} {w h T : Nat} (A : hv_Sc σ 1 (τ 201) w h T) {i : Nat} (hi : i < w) {b : Int32} (hb : 0 ≤ b ∧ b ≤ 99) (c : Int32) : ∃ a' b', F_X7_by (nI i) b c τ = some (byv (τ 201) T (rw_ (τ 201) i) b c, mf τ (τ 201) a' b') := by
  have h6 : i < 6 := Nat.lt_of_lt_of_le hi A.bw
  have hv := A.ww i hi
  unfold F_X7_by byv
  rw [isWire_yes A hi, hw_bd_s, if_neg (by decide), X7_isWind, hw_bd_s, if_pos hb, if_neg (by decide)]
  by_cases h0 : c = 0
  · refine ⟨τ 212, τ 213, ?_⟩
    rw [if_pos h0, if_pos h0, X7_air h6, hw_bd_s, ← mf_s]
  rw [if_neg h0, if_neg h0]
  by_cases h0 : c = 1
  · refine ⟨τ 212, τ 213, ?_⟩
    rw [if_pos h0, if_pos h0, X7_eddy h6 τ hv.2.1.1, hw_bd_s, ← mf_s]
  rw [if_neg h0, if_neg h0]
  by_cases h0 : c = 2
  · refine ⟨τ 212, τ 213, ?_⟩
    rw [if_pos h0, if_pos h0, X7_off h6 τ hv.2.1.1, hw_bd_s, ← mf_s]
  rw [if_neg h0, if_neg h0]
  by_cases h0 : c = 3
  · obtain ⟨a', b', e⟩ := X7_band h6 (Sc_Mc A) hv.2.1.1 b τ (τ 212) (τ 213)
    rw [← mf_s] at e
    refine ⟨a', b', ?_⟩
    rw [if_pos h0, if_pos h0, e, hw_bd_s]
  rw [if_neg h0, if_neg h0]
  by_cases h0 : c = 4
  · obtain ⟨a', b', e⟩ := X7_grow h6 (Sc_Mc A) b τ (τ 212) (τ 213)
    rw [← mf_s] at e
    refine ⟨a', b', ?_⟩
    rw [if_pos h0, if_pos h0, e, hw_bd_s]
  rw [if_neg h0, if_neg h0]
  by_cases h0 : c = 5
  · obtain ⟨a', b', e⟩ := X7_held h6 (Sc_Mc A) hv b τ (τ 212) (τ 213)
    rw [← mf_s] at e
    refine ⟨a', b', ?_⟩
    rw [if_pos h0, if_pos h0, e, hw_bd_s]
    unfold tkT
    by_cases q : heldN (τ 201) T (rw_ (τ 201) i) b = true
    · rw [if_neg (fun z => (heldI_0 _ _ _ _).mp z q), if_pos q, show F_X7_of (nI i) 2 _ = _ from mf_of h6 (k := 2) (by decide) τ (τ 201) a' b', hw_bd_s]
    · rw [if_pos ((heldI_0 _ _ _ _).mpr q), if_neg q, X7_eddy h6 _ (by rw [mf_201]; exact hv.2.1.1), hw_bd_s, mf_201]
  rw [if_neg h0, if_neg h0]
  exact ⟨τ 212, τ 213, by rw [← mf_s]⟩
theorem R_scr {σ τ : hw_St} (H : hv_R σ τ) (g a b : Nat → Int32) : hv_R (hw_upA σ 10 g) (mf τ (τ 201) a b) := by
  refine R_same H (fun t ht => upA_row _ _ _ (by omega)) (fun t ht => ?_) (by rw [mf_o _ _ _ _ (by decide) (by decide) (by decide)]) (by rw [mf_o _ _ _ _ (by decide) (by decide) (by decide)]) (by rw [mf_o _ _ _ _ (by decide) (by decide) (by decide)])
  by_cases e : t = 201
  · subst e; rw [mf_201]
  · rw [mf_o _ _ _ _ e (by omega) (by omega)]
theorem sim_by : hw_sim3 hv_R F_X6_by F_X7_by := by
  intro a b c σ τ HR
  have HR' := HR
  obtain ⟨w, h, T, A, I, B, E⟩ := HR
  by_cases ha : ∃ i, i < w ∧ a = nI i
  · obtain ⟨i, hi, rfl⟩ := ha
    have h6 : i < 6 := Nat.lt_of_lt_of_le hi A.bw
    by_cases hb : 0 ≤ b ∧ b ≤ 99
    · obtain ⟨g, e1⟩ := by_6 A hi hb c
      obtain ⟨a', b', e2⟩ := by_7 A hi hb c
      exact ⟨_, _, _, e1, e2, R_scr HR' g a' b'⟩
    · refine ⟨-1000000001, σ, τ, ?_, ?_, HR'⟩
      · unfold F_X6_by
        rw [wireAt_yes (Or.inl rfl) A hi, hw_bd_s, if_neg (by omega), X6_isWind, hw_bd_s, if_neg hb, if_pos rfl]
      · unfold F_X7_by
        rw [isWire_yes A hi, hw_bd_s, if_neg (by decide), X7_isWind, hw_bd_s, if_neg hb, if_pos rfl]
  · refine ⟨-1000000001, σ, τ, ?_, ?_, HR'⟩
    · unfold F_X6_by; rw [wireAt_no (Or.inl rfl) A ha, hw_bd_s, if_pos rfl]
    · unfold F_X7_by; rw [isWire_no A ha, hw_bd_s, if_pos rfl]
/-! an hour -/
def hN (T : Nat) (wd : Int32) : Nat → Nat → (Nat → Int32) → (Nat → Int32)
  | 0, _, N => N
  | d + 1, i, N => hN T wd d (i + 1) (tkN N T i wd)
theorem Sc_hour {σ : hw_St} {S : Nat} {N : Nat → Int32} {w h T h' : Nat} (hS : S = 1 ∨ S = 2) (H : hv_Sc σ S N w h T) (hh : h' < 24) : hv_Sc (hw_up σ S 7 (nI h')) S (upd N 2 (nI h')) w h' T := by
  have hb := H.bw
  have o : ∀ j, j ≠ 2 → upd N 2 (nI h') j = N j := fun j hj => upd_n _ _ hj
  have r : ∀ t, t ≠ S → hw_up σ S 7 (nI h') t = σ t := fun t ht => up_row _ _ _ _ ht
  have s : ∀ k, k ≠ 7 → hw_up σ S 7 (nI h') S k = σ S k := fun k hk => by rw [up_self, upd_n _ _ hk]
  have ro : ∀ i, rw_ (upd N 2 (nI h')) i = rw_ N i := fun i => funext (fun k => o _ (by omega))
  refine ⟨H.bw, hh, H.bT, ?_, ?_, ?_, ?_, ?_, ?_, ?_, ?_, ?_, ?_, ?_, ?_, ?_, ?_, ?_⟩
  · rw [o _ (by omega)]; exact H.n1
  · rw [upd_s]
  · rw [o _ (by omega)]; exact H.n4
  · rw [o _ (by omega)]; exact H.n3
  · rw [o _ (by omega), s _ (by omega)]; exact H.s9
  · rw [s _ (by omega)]; exact H.s6
  · rw [up_self, upd_s]
  · rw [o _ (by omega), s _ (by omega)]; exact H.s8
  · rw [s _ (by omega)]; exact H.s5
  · intro k hk; rw [o _ (by omega), r _ (by omega)]; exact H.wd k hk
  · intro k hk; rw [o _ (by omega)]; exact H.wr k hk
  · intro i hi; rw [ro]; exact H.ww i hi
  · intro i hi k hk; rw [ro, r _ (by omega)]; exact H.wi i hi k hk
  · intro k hk
    rw [r _ (by omega), cn_at (fun j hj => o j (by omega))]; exact H.nw k hk
  · exact Txt_at (fun j hj => o j (by omega)) H.bT H.tx (fun t h1 h2 => r t (by omega))
theorem hr24 {h : Nat} (hh : h < 24) : hw_rem (nI h + 1) 24 = nI ((h + 1) % 24) := by
  rw [show nI h + 1 = nI (h + 1) from nI_add h 1, show (24 : Int32) = nI 24 from rfl, rem_nI (by omega) (by decide) (by decide)]
theorem pass6 {S w h T : Nat} (hS : S = 1 ∨ S = 2) (wd : Int32) : ∀ (d i n : Nat) (σ : hw_St) (N : Nat → Int32), hv_Sc σ S N w h T → i + d = w → N (5 + h) = wd → d < n → (∀ x, 12 + 6 * S ≤ x → x < 18 + 6 * S → (σ x 5 = 0 ∨ σ x 5 = 1)) → ∃ σ', L_X2_passHour_2 n S (nI i) σ = some ((), σ') ∧ hv_Sc σ' S (upd (hN T wd d i N) 2 (nI ((h + 1) % 24))) w ((h + 1) % 24) T ∧ (∀ x, 12 + 6 * S ≤ x → x < 18 + 6 * S → (σ' x 5 = 0 ∨ σ' x 5 = 1)) ∧ ∀ t, t ≠ 10 → t ≠ S → (t < 12 + 6 * S ∨ 18 + 6 * S ≤ t) → σ' t = σ t := by
  obtain ⟨s1, s2, s3, s4, s5, s6, s7, s8, s9, s10, s11, s12⟩ := scS hS
  intro d
  induction d with
  | zero =>
    intro i n σ N H hi hw hn B
    obtain ⟨n, rfl⟩ : ∃ m, n = m + 1 := ⟨n - 1, by omega⟩
    refine ⟨hw_up σ S 7 (nI ((h + 1) % 24)), ?_, Sc_hour hS H (by omega), ?_, ?_⟩
    · show S_X2_passHour_2 (L_X2_passHour_2 n) S (nI i) σ = _
      unfold S_X2_passHour_2
      have : i = w := by omega
      subst this
      rw [H.s6, if_pos (Int32.le_refl _), hw_nm_s, H.s7, hr24 H.bh]
    · intro x h1 h2; rw [up_row _ _ _ _ (by omega)]; exact B x h1 h2
    · intro t h1 h2 h3; exact up_row _ _ _ _ h2
  | succ d ih =>
    intro i n σ N H hi hw hn B
    have hb := H.bw
    have hbh := H.bh
    obtain ⟨n, rfl⟩ : ∃ m, n = m + 1 := ⟨n - 1, by omega⟩
    have h6 : i < 6 := by omega
    have hg := (elS hS h6).2
    have hr : e7 (σ (12 + 6 * S + i)) (rw_ N i) := H.wi i (by omega)
    have hv := W_cg hr (H.ww i (by omega))
    obtain ⟨g, e1⟩ := X2_blow hS (Sc_Lc H) hg hv wd
    obtain ⟨σ', f1, f2, f3, f4⟩ := ih (i + 1) n _ _ (Sc_tick hS H (show i < w by omega) wd g) (by omega) (by rw [tkN_ag N T h6 wd _ (by omega)]; exact hw) (by omega) (fun x h1 h2 => by
      by_cases e : x = 12 + 6 * S + i
      · subst e; rw [nf_x]; exact (W_tk wd hv).2.2.2.2.2
      · rw [nf_o _ _ _ e (by omega)]; exact B x h1 h2)
    refine ⟨σ', ?_, f2, f3, fun t h1 h2 h3 => ?_⟩
    · show S_X2_passHour_2 (L_X2_passHour_2 n) S (nI i) σ = _
      unfold S_X2_passHour_2
      rw [H.s6, if_neg (iNle.mpr (nI_lt (by omega) (by omega))), s5, hw_gd_t s9, s10, hw_gd_t (inb_nI h6 (by decide)), nI_clamp (by omega), (elS hS h6).1, hw_gd_t hg, s4, hw_gd_t s7, s8, H.s7, hw_gd_t (inb_nI H.bh (by decide)), nI_clamp (by omega), H.wd h H.bh, hw, e1, hw_bd_s, show nI i + 1 = nI (i + 1) from nI_add i 1]
      exact f1
    · rw [f4 t h1 h2 h3, nf_o _ _ _ (by omega) h1]
theorem pass7 {w h T : Nat} (hw6 : w ≤ 6) (hh : h < 24) (wd : Int32) (τ : hw_St) : ∀ (d i n : Nat) (N a b : Nat → Int32), hv_Mc N T → N 1 = nI w → N 2 = nI h → (∀ q, q < w → hv_W (rw_ N q)) → i + d = w → N (5 + h) = wd → d < n → ∃ a' b', L_X7_anHour_2 n (nI i) (mf τ N a b) = some ((), mf τ (upd (hN T wd d i N) 2 (nI ((h + 1) % 24))) a' b') := by
  intro d
  induction d with
  | zero =>
    intro i n N a b M n1 n2 ww hi hw hn
    obtain ⟨n, rfl⟩ : ∃ m, n = m + 1 := ⟨n - 1, by omega⟩
    refine ⟨a, b, ?_⟩
    show S_X7_anHour_2 (L_X7_anHour_2 n) (nI i) (mf τ N a b) = _
    unfold S_X7_anHour_2
    have : i = w := by omega
    subst this
    rw [hw_gd_t (by decide), mf_201, show ((1 : Int32).toNatClampNeg) = 1 from rfl, n1, if_pos (Int32.le_refl _), hw_gd_t (by decide), hw_gd_t (by decide), hw_nm_s, show ((2 : Int32).toNatClampNeg) = 2 from rfl, n2, hr24 hh, mf_up201]; rfl
  | succ d ih =>
    intro i n N a b M n1 n2 ww hi hw hn
    obtain ⟨n, rfl⟩ : ∃ m, n = m + 1 := ⟨n - 1, by omega⟩
    have h6 : i < 6 := by omega
    have G := tkN_ag N T h6 wd
    obtain ⟨a1, b1, e1⟩ := X7_ticks h6 M (ww i (by omega)) wd τ a b
    obtain ⟨a2, b2, e2⟩ := ih (i + 1) n (tkN N T i wd) a1 b1 (ag_Mc G M) (by rw [G _ (by omega)]; exact n1) (by rw [G _ (by omega)]; exact n2) (fun q hq => by
      by_cases e : q = i
      · subst e; rw [tkN_row]; exact W_tk wd (ww q hq)
      · exact W_cg (fun k hk => tkN_oth N T wd e hk) (ww q hq)) (by omega) (by rw [G _ (by omega)]; exact hw) (by omega)
    refine ⟨a2, b2, ?_⟩
    show S_X7_anHour_2 (L_X7_anHour_2 n) (nI i) (mf τ N a b) = _
    unfold S_X7_anHour_2
    rw [hw_gd_t (by decide), mf_201, show ((1 : Int32).toNatClampNeg) = 1 from rfl, n1, if_neg (iNle.mpr (nI_lt (by omega) (by omega))), hw_gd_t (by decide), show ((2 : Int32).toNatClampNeg) = 2 from rfl, n2, show (5 : Int32) + nI h = nI (5 + h) from nI_add 5 h, hw_gd_t (inb_nI (by omega) (by decide)), nI_clamp (by omega), hw, e1, hw_bd_s, show nI i + 1 = nI (i + 1) from nI_add i 1]
    exact e2
theorem hour_R {σ τ : hw_St} (HR : hv_R σ τ) : ∃ σ' τ', F_X2_passHour 1 σ = some ((), σ') ∧ F_X7_anHour τ = some ((), τ') ∧ hv_R σ' τ' := by
  obtain ⟨w, h, T, A, I, B, E⟩ := HR
  have hb := A.bw
  obtain ⟨σ', e1, f2, f3, f4⟩ := pass6 (Or.inl rfl) (τ 201 (5 + h)) w 0 130 σ (τ 201) A (by omega) rfl (by omega) (fun x h1 h2 => B x (by omega) (by omega))
  obtain ⟨a', b', e2⟩ := pass7 A.bw A.bh (τ 201 (5 + h)) τ w 0 130 (τ 201) (τ 212) (τ 213) (Sc_Mc A) A.n1 A.n2 A.ww (by omega) rfl (by omega)
  rw [← mf_s] at e2
  refine ⟨σ', _, ?_, e2, ?_⟩
  · unfold F_X2_passHour
    rw [hw_gd_t (scS (S := 1) (Or.inl rfl)).1]
    exact e1
  · refine R_now (w := w) (h := h) (Nat.le_refl T) (by rw [mf_201]; exact f2) I B E (fun x h1 h2 => f3 x (by omega) (by omega)) (fun t ht => f4 t (by omega) (by omega) (by omega)) (fun t ht => mf_o _ _ _ _ (by omega) (by omega) (by omega)) (by rw [mf_o _ _ _ _ (by decide) (by decide) (by decide)]) (by rw [mf_o _ _ _ _ (by decide) (by decide) (by decide)]) (by rw [mf_o _ _ _ _ (by decide) (by decide) (by decide)])
theorem run_loop {m : Nat} (hm : m ≤ 60) : ∀ (d j n : Nat) (σ τ : hw_St), hv_R σ τ → j + d = m → d < n → ∃ r σ' τ', L_X6_run_15 n (nI m) (nI j) σ = some (r, σ') ∧ L_X7_run_15 n (nI m) (nI j) τ = some (r, τ') ∧ hv_R σ' τ' := by
  intro d
  induction d with
  | zero =>
    intro j n σ τ HR hj hn
    obtain ⟨n, rfl⟩ : ∃ q, n = q + 1 := ⟨n - 1, by omega⟩
    have : j = m := by omega
    subst this
    have HR' := HR
    obtain ⟨w, h, T, A, I, B, E⟩ := HR
    refine ⟨nI h, σ, τ, ?_, ?_, HR'⟩
    · show S_X6_run_15 (L_X6_run_15 n) (nI j) (nI j) σ = _
      unfold S_X6_run_15
      rw [if_pos (Int32.le_refl _), A.s7]
    · show S_X7_run_15 (L_X7_run_15 n) (nI j) (nI j) τ = _
      unfold S_X7_run_15
      rw [if_pos (Int32.le_refl _), hw_gd_t (by decide), show ((2 : Int32).toNatClampNeg) = 2 from rfl, A.n2]
  | succ d ih =>
    intro j n σ τ HR hj hn
    obtain ⟨n, rfl⟩ : ∃ q, n = q + 1 := ⟨n - 1, by omega⟩
    obtain ⟨σ1, τ1, e1, e2, HR1⟩ := hour_R HR
    obtain ⟨r, σ', τ', f1, f2, f3⟩ := ih (j + 1) n σ1 τ1 HR1 (by omega) (by omega)
    refine ⟨r, σ', τ', ?_, ?_, f3⟩
    · show S_X6_run_15 (L_X6_run_15 n) (nI m) (nI j) σ = _
      unfold S_X6_run_15
      rw [if_neg (iNle.mpr (nI_lt (by omega) (by omega))), e1, hw_bd_s, show nI j + 1 = nI (j + 1) from nI_add j 1]
      exact f1
    · show S_X7_run_15 (L_X7_run_15 n) (nI m) (nI j) τ = _
      unfold S_X7_run_15
      rw [if_neg (iNle.mpr (nI_lt (by omega) (by omega))), e2, hw_bd_s, show nI j + 1 = nI (j + 1) from nI_add j 1]
      exact f2
theorem sim_run : hw_sim1 hv_R F_X6_run F_X7_run := by
  intro a σ τ HR
  by_cases ha : 1 ≤ a ∧ a ≤ 60
  · obtain ⟨m, hm, rfl⟩ := ix_to (m := 60) rfl (Int32.le_trans (by decide) ha.1) ha.2
    obtain ⟨r, σ', τ', f1, f2, f3⟩ := run_loop hm m 0 130 σ τ HR (by omega) (by omega)
    refine ⟨r, σ', τ', ?_, ?_, f3⟩
    · unfold F_X6_run
      rw [X6_isWithin, hw_bd_s, if_pos ha, if_neg (by decide)]
      exact f1
    · unfold F_X7_run
      rw [X7_in, hw_bd_s, if_pos ha, if_neg (by decide)]
      exact f2
  · refine ⟨-1000000001, σ, τ, ?_, ?_, HR⟩
    · unfold F_X6_run; rw [X6_isWithin, hw_bd_s, if_neg ha, if_pos rfl]
    · unfold F_X7_run; rw [X7_in, hw_bd_s, if_neg ha, if_pos rfl]
