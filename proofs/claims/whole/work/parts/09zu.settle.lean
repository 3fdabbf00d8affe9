/-! the reference's waiting signs -/
def cntN : List Int32 → Nat
  | [] => 0
  | x :: r => cntN r + (if x = -10 then 1 else 0)
def cgN (g : Nat → Int32) : Nat → Nat
  | 0 => 0
  | j + 1 => cgN g j + (if g j = -10 then 1 else 0)
theorem cg_stk {g : Nat → Int32} : ∀ {St : List Int32}, stk g St → cgN g St.length = cntN St
  | [], _ => rfl
  | x :: r, h => by
    show cgN g r.length + (if g r.length = -10 then 1 else 0) = cntN r + (if x = -10 then 1 else 0)
    rw [h.1, cg_stk h.2]
theorem no_loop {τ : hw_St} {L : Nat} (hL : L ≤ 96) (h23 : τ 200 23 = nI L) : ∀ (d j n : Nat), j + d = L → d < n → L_X7_notsOpen_4 n (nI (cgN (τ 210) j)) (nI j) τ = some (nI (cgN (τ 210) L), τ) := by
  intro d
  induction d with
  | zero =>
    intro j n hj hn
    obtain ⟨n, rfl⟩ : ∃ q, n = q + 1 := ⟨n - 1, by omega⟩
    have : j = L := by omega
    subst this
    show S_X7_notsOpen_4 (L_X7_notsOpen_4 n) _ (nI j) τ = _
    unfold S_X7_notsOpen_4
    rw [h23, if_pos (Int32.le_refl _)]
  | succ d ih =>
    intro j n hj hn
    obtain ⟨n, rfl⟩ : ∃ q, n = q + 1 := ⟨n - 1, by omega⟩
    refine Eq.trans ?_ (ih (j + 1) n (by omega) (by omega))
    show S_X7_notsOpen_4 (L_X7_notsOpen_4 n) _ (nI j) τ = _
    unfold S_X7_notsOpen_4 B_X7_notsOpen_29
    rw [h23, if_neg (iNle.mpr (nI_lt (by omega) (by omega))), hw_gd_t (inb_nI (by omega) (by decide)), nI_clamp (by omega), hw_nm_s, hw_nm_s, show nI j + 1 = nI (j + 1) from nI_add j 1, Int32.add_zero]
    show _ = L_X7_notsOpen_4 n (nI (cgN (τ 210) j + (if τ 210 j = -10 then 1 else 0))) (nI (j + 1)) τ
    by_cases q : τ 210 j = -10
    · rw [if_pos q, if_pos q, show nI (cgN (τ 210) j) + 1 = nI (cgN (τ 210) j + 1) from nI_add _ 1]
    · rw [if_neg q, if_neg q]; rfl
theorem X7_nots {τ : hw_St} {St : List Int32} (hL : St.length ≤ 96) (h23 : τ 200 23 = nI St.length) (hs : stk (τ 210) St) : F_X7_notsOpen τ = some (nI (cntN St), τ) := by
  unfold F_X7_notsOpen
  have := no_loop hL h23 St.length 0 130 (by omega) (by omega)
  rw [cg_stk hs] at this
  exact this
/-- nothing on top that a settling down to r would take -/
def cls (r : Nat) : List Int32 → Prop
  | [] => True
  | x :: _ => x = -11 ∨ rk x < r
theorem se_loop {r : Nat} (hr : r ≤ 6) {W : List Int32} (hW : cls r W) : ∀ (P RCr : List Int32) (n : Nat) (τ : hw_St), (∀ x, x ∈ P → ¬ x = -11 ∧ r ≤ rk x) → P.length < n → RCr.length + (P ++ W).length ≤ 96 → τ 200 20 = nI RCr.length → stk (τ 209) RCr → τ 200 23 = nI (P ++ W).length → stk (τ 210) (P ++ W) → ∃ τ', L_X7_settle_0 n (nI r) τ = some ((), τ') ∧ τ' 200 20 = nI (List.reverseAux P RCr).length ∧ stk (τ' 209) (List.reverseAux P RCr) ∧ τ' 200 23 = nI W.length ∧ stk (τ' 210) W ∧ (∀ k, k ≠ 20 → k ≠ 23 → τ' 200 k = τ 200 k) ∧ (∀ x, x ≠ 200 → x ≠ 209 → τ' x = τ x) := by
  intro P
  induction P with
  | nil =>
    intro RCr n τ hP hn hl h20 s9 h23 s10
    obtain ⟨n, rfl⟩ : ∃ q, n = q + 1 := ⟨n - 1, by simp at hn; omega⟩
    refine ⟨τ, ?_, h20, s9, h23, s10, fun _ _ _ => rfl, fun _ _ _ => rfl⟩
    show S_X7_settle_0 (L_X7_settle_0 n) (nI r) τ = _
    unfold S_X7_settle_0
    rw [h23]
    cases W with
    | nil => rw [if_pos (show nI ([] ++ [] : List Int32).length ≤ 0 from by decide)]
    | cons x W =>
      have s10' : τ 210 W.length = x := s10.1
      have hl' : W.length + 1 ≤ 96 := by simp at hl; omega
      rw [show ([] ++ x :: W : List Int32).length = W.length + 1 from rfl, if_neg (show ¬ nI (W.length + 1) ≤ 0 from iNle.mpr (nI_lt (a := 0) (by omega) (by omega))), nI_pred, hw_gd_t (inb_nI (by omega) (by decide)), nI_clamp (by omega), s10']
      by_cases q : x = -11
      · rw [if_pos q]
      · have hx : rk x < r := by rcases hW with e | e; exact absurd e q; exact e
        rw [if_neg q, hw_gd_t (inb_nI (by omega) (by decide)), X7_rank, hw_bd_s, if_pos (nI_lt hx (by omega))]
  | cons x P ih =>
    intro RCr n τ hP hn hl h20 s9 h23 s10
    obtain ⟨n, rfl⟩ : ∃ q, n = q + 1 := ⟨n - 1, by simp at hn; omega⟩
    have hx := hP x (List.mem_cons_self ..)
    have s10' : τ 210 (P ++ W).length = x := s10.1
    have hl' : RCr.length + ((P ++ W).length + 1) ≤ 96 := hl
    have rkx : rk x ≤ 6 := by unfold rk; repeat' split
                              all_goals decide
    generalize hρ : hw_up (hw_up (hw_up τ 200 23 (nI (P ++ W).length)) 209 RCr.length x) 200 20 (nI (RCr.length + 1)) = ρ
    have q20 : ρ 200 20 = nI (x :: RCr).length := by rw [← hρ, up_self, upd_s]; rfl
    have q23 : ρ 200 23 = nI (P ++ W).length := by rw [← hρ, up_self, upd_n _ _ (by decide), up_row _ _ _ _ (by decide), up_self, upd_s]
    have q9 : ρ 209 = upd (τ 209) RCr.length x := by rw [← hρ, up_row _ _ _ _ (by decide), up_self, up_row _ _ _ _ (by decide)]
    have q10 : ρ 210 = τ 210 := by rw [← hρ, up_row _ _ _ _ (by decide), up_row _ _ _ _ (by decide), up_row _ _ _ _ (by decide)]
    obtain ⟨τ', f1, f2, f3, f4, f5, f6, f7⟩ := ih (x :: RCr) n ρ (fun y hy => hP y (List.mem_cons_of_mem _ hy)) (by simp at hn; omega) (by simp only [List.length_cons]; omega) q20 (by rw [q9]; exact ⟨upd_s _ _ _, stk_upd (Nat.le_refl _) s9⟩) q23 (by rw [q10]; exact s10.2)
    refine ⟨τ', ?_, f2, f3, f4, f5, fun k g1 g2 => ?_, fun y g1 g2 => ?_⟩
    · refine Eq.trans ?_ f1
      show S_X7_settle_0 (L_X7_settle_0 n) (nI r) τ = _
      unfold S_X7_settle_0
      rw [h23, show (x :: P ++ W : List Int32).length = (P ++ W).length + 1 from rfl, if_neg (show ¬ nI ((P ++ W).length + 1) ≤ 0 from iNle.mpr (nI_lt (a := 0) (by omega) (by omega))), nI_pred, hw_gd_t (inb_nI (by omega) (by decide)), nI_clamp (by omega), s10', if_neg hx.1, hw_gd_t (inb_nI (by omega) (by decide)), X7_rank, hw_bd_s, if_neg (iNlt.mpr (nI_le hx.2 (by omega))), hw_nm_s, h23, show (x :: P ++ W : List Int32).length = (P ++ W).length + 1 from rfl, nI_pred]
      have a23 : hw_up τ 200 23 (nI (P ++ W).length) 200 23 = nI (P ++ W).length := by rw [up_self, upd_s]
      have a20 : hw_up τ 200 23 (nI (P ++ W).length) 200 20 = nI RCr.length := by rw [up_self, upd_n _ _ (by decide)]; exact h20
      have a10 : hw_up τ 200 23 (nI (P ++ W).length) 210 = τ 210 := up_row _ _ _ _ (by decide)
      rw [a23, hw_gd_t (inb_nI (by omega) (by decide)), a20, hw_gd_t (inb_nI (by omega) (by decide)), hw_nm_s, hw_nm_s, a10, nI_clamp (by omega), nI_clamp (by omega), s10', up_row _ _ _ _ (show 200 ≠ 209 by decide), a20, show nI RCr.length + 1 = nI (RCr.length + 1) from nI_add _ 1, hρ]
    · rw [f6 k g1 g2, ← hρ, up_self, upd_n _ _ g1, up_row _ _ _ _ (by decide), up_self, upd_n _ _ g2]
    · rw [f7 y g1 g2, ← hρ, up_row _ _ _ _ g1, up_row _ _ _ _ g2, up_row _ _ _ _ g1]
theorem X7_set {r : Nat} (hr : r ≤ 6) {W P RCr : List Int32} (hW : cls r W) {τ : hw_St} (hP : ∀ x, x ∈ P → ¬ x = -11 ∧ r ≤ rk x) (hl : RCr.length + (P ++ W).length ≤ 96) (h20 : τ 200 20 = nI RCr.length) (s9 : stk (τ 209) RCr) (h23 : τ 200 23 = nI (P ++ W).length) (s10 : stk (τ 210) (P ++ W)) : ∃ τ', F_X7_settle (nI r) τ = some ((), τ') ∧ τ' 200 20 = nI (List.reverseAux P RCr).length ∧ stk (τ' 209) (List.reverseAux P RCr) ∧ τ' 200 23 = nI W.length ∧ stk (τ' 210) W ∧ (∀ k, k ≠ 20 → k ≠ 23 → τ' 200 k = τ 200 k) ∧ (∀ x, x ≠ 200 → x ≠ 209 → τ' x = τ x) := by
  unfold F_X7_settle
  exact se_loop hr hW P RCr 130 τ hP (by simp only [List.length_append] at hl; omega) hl h20 s9 h23 s10
/-! lists -/
theorem rAux_app (x : Int32) : ∀ (P R : List Int32), List.reverseAux (P ++ [x]) R = x :: List.reverseAux P R
  | [], _ => rfl
  | y :: P, R => rAux_app x P (y :: R)
theorem rAux_len : ∀ (P R : List Int32), (List.reverseAux P R).length = P.length + R.length
  | [], R => by simp [List.reverseAux]
  | y :: P, R => by
    show (List.reverseAux P (y :: R)).length = _
    rw [rAux_len P (y :: R)]; simp only [List.length_cons]; omega
/-- a code in the order turned round holds up, and leaves d numbers -/
def wfr (nm : Int32) : List Int32 → Nat → Prop
  | [], d => d = 0
  | x :: R, d => (0 ≤ x ∧ x ≤ nm ∧ ∃ e, d = e + 1 ∧ wfr nm R e) ∨ (x = -10 ∧ 1 ≤ d ∧ wfr nm R d) ∨ ((-9 ≤ x ∧ x ≤ -1) ∧ 1 ≤ d ∧ wfr nm R (d + 1))
theorem wfr_n {nm : Int32} {g : Nat → Int32} : ∀ (RC : List Int32) (d r : Nat), wfr nm RC d → stk g RC → wfn nm g r RC.length d → wfn nm g (RC.length + r) 0 0
  | [], d, r, h, _, w => by
    have e : d = 0 := h
    subst e
    rw [show ([] : List Int32).length + r = r from Nat.zero_add r]; exact w
  | x :: R, d, r, h, s, w => by
    have gx : g R.length = x := s.1
    rw [show (x :: R : List Int32).length + r = R.length + (r + 1) by simp only [List.length_cons]; omega]
    rcases h with ⟨h1, h2, e, rfl, h4⟩ | ⟨h1, h2, h4⟩ | ⟨h1, h2, h4⟩
    · exact wfr_n R e (r + 1) h4 s.2 (Or.inl ⟨by rw [gx]; exact h1, by rw [gx]; exact h2, w⟩)
    · exact wfr_n R d (r + 1) h4 s.2 (Or.inr (Or.inl ⟨by rw [gx]; exact h1, h2, w⟩))
    · exact wfr_n R (d + 1) (r + 1) h4 s.2 (Or.inr (Or.inr ⟨by rw [gx]; exact h1, by omega, w⟩))
def nhd : List Int32 → List Int32
  | [] => []
  | x :: W => if x = -10 then x :: nhd W else []
def ntl : List Int32 → List Int32
  | [] => []
  | x :: W => if x = -10 then ntl W else x :: W
theorem nh_app : ∀ W, nhd W ++ ntl W = W
  | [] => rfl
  | x :: W => by
    unfold nhd ntl
    by_cases e : x = -10
    · rw [if_pos e, if_pos e, List.cons_append, nh_app W]
    · rw [if_neg e, if_neg e]; rfl
theorem nhd_all : ∀ W x, x ∈ nhd W → x = -10
  | [], x, h => by cases h
  | y :: W, x, h => by
    unfold nhd at h
    by_cases e : y = -10
    · rw [if_pos e] at h
      rcases List.mem_cons.mp h with g | g
      · rw [g]; exact e
      · exact nhd_all W x g
    · rw [if_neg e] at h; cases h
/-- what may wait -/
def vst (W : List Int32) : Prop := ∀ x, x ∈ W → x = -11 ∨ x = -10 ∨ rk x < 6
theorem ntl_cls : ∀ W, vst W → cls 6 (ntl W)
  | [], _ => trivial
  | x :: W, h => by
    unfold ntl
    by_cases e : x = -10
    · rw [if_pos e]; exact ntl_cls W (fun y hy => h y (List.mem_cons_of_mem _ hy))
    · rw [if_neg e]
      rcases h x (List.mem_cons_self ..) with g | g | g
      · exact Or.inl g
      · exact absurd g e
      · exact Or.inr g
theorem nhd_cls {r : Nat} (hr : r ≤ 6) : ∀ {W : List Int32}, cls r W → nhd W = [] ∧ ntl W = W
  | [], _ => ⟨rfl, rfl⟩
  | x :: W, h => by
    have e : ¬ x = -10 := fun z => by
      subst z
      rcases h with g | g
      · exact absurd g (by decide)
      · rw [show rk (-10) = 6 from by decide] at g; omega
    unfold nhd ntl
    rw [if_neg e, if_neg e]; exact ⟨rfl, rfl⟩
