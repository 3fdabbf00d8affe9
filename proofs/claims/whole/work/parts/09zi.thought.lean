/-! a wire thought of: the class -/
theorem nf_nf (σ : hw_St) (x : Nat) (g f g' f' : Nat → Int32) : nf (nf σ x g f) x g' f' = nf σ x g' f' := by
  funext t
  by_cases h : t = x
  · subst h; rw [nf_x, nf_x]
  · unfold nf
    rw [upA_row _ _ _ h, upA_row _ _ _ h]
    by_cases h2 : t = 10
    · subst h2; rw [upA_self, upA_self]
    · rw [upA_row _ _ _ h2, upA_row _ _ _ h2, upA_row _ _ _ h, upA_row _ _ _ h2]
theorem g11 : hw_gH 11 5 = true := by decide
theorem th6 {σ : hw_St} {S : Nat} {N : Nat → Int32} {T : Nat} (hS : S = 1 ∨ S = 2) (L : hv_Lc σ S N T) {f : Nat → Int32} (hv : hv_W f) (w : Int32) (g : Nat → Int32) : ∃ g', F_X2_blowOn S 11 w (nf σ 11 g f) = some (tkT N T f w, nf σ 11 g' (tkR N T f w)) := by
  obtain ⟨g', e⟩ := X2_blow hS (Lc_nf hS g11 L g f) g11 (by rw [nf_x]; exact hv) w
  rw [nf_x, nf_nf] at e
  exact ⟨g', e⟩
def dW (N : Nat → Int32) (h k : Nat) : Int32 := N (5 + (h + k) % 24)
theorem rem24 {h j : Nat} (hh : h < 24) (hj : j < 1000) : hw_rem (nI h + nI j) 24 = nI ((h + j) % 24) := by
  rw [nI_add, show (24 : Int32) = nI 24 from rfl, rem_nI (by omega) (by decide) (by decide)]
theorem wind6 {σ : hw_St} {S : Nat} {N : Nat → Int32} {w h T : Nat} (hS : S = 1 ∨ S = 2) (H : hv_Sc σ S N w h T) {j : Nat} (hj : j < 1000) (g f : Nat → Int32) : F_X2_windIn S (nI j) (nf σ 11 g f) = some (dW N h j, nf σ 11 g f) := by
  obtain ⟨s1, s2, s3, s4, s5, s6, s7, s8, s9, s10, s11, s12⟩ := scS hS
  unfold F_X2_windIn
  rw [hw_gd_t s1, s4, hw_gd_t s7, s8, nf_o σ g f (show S ≠ 11 by omega) (by omega), H.s7, rem24 H.bh hj, hw_gd_t (inb_nI (by omega) (by decide)), nI_clamp (by omega), nf_o σ g f (show S + 2 ≠ 11 by omega) (by omega), H.wd _ (by omega)]
  rfl
/-! days -/
def dF (N : Nat → Int32) (T h : Nat) (f : Nat → Int32) : Nat → Nat → Int32
  | 0 => f
  | k + 1 => tkR N T (dF N T h f k) (dW N h k)
def dT (N : Nat → Int32) (T h : Nat) (f : Nat → Int32) (k : Nat) : Int32 := tkT N T (dF N T h f k) (dW N h k)
def dC (N : Nat → Int32) (T h : Nat) (f : Nat → Int32) : Nat → Nat
  | 0 => 0
  | k + 1 => dC N T h f k + (if dF N T h f (k + 1) 5 = 0 then 0 else 1)
def dM (N : Nat → Int32) (T h : Nat) (f : Nat → Int32) : Nat → Int32
  | 0 => 0
  | k + 1 => if dF N T h f (k + 1) 4 ≤ dM N T h f k then dM N T h f k else dF N T h f (k + 1) 4
theorem dF_W {N : Nat → Int32} {T h : Nat} {f : Nat → Int32} (hv : hv_W f) : ∀ k, hv_W (dF N T h f k)
  | 0 => hv
  | k + 1 => W_tk _ (dF_W hv k)
theorem dF_cg {N : Nat → Int32} {T h : Nat} {f g : Nat → Int32} (e : e7 f g) : ∀ k, e7 (dF N T h f k) (dF N T h g k)
  | 0 => e
  | k + 1 => tkR_cg (dF_cg e k) N T _
theorem dT_cg {N : Nat → Int32} {T h : Nat} {f g : Nat → Int32} (e : e7 f g) (k : Nat) : dT N T h f k = dT N T h g k := tkT_cg (dF_cg e k) N T _
theorem dC_cg {N : Nat → Int32} {T h : Nat} {f g : Nat → Int32} (e : e7 f g) : ∀ k, dC N T h f k = dC N T h g k
  | 0 => rfl
  | k + 1 => by
    show dC N T h f k + (if dF N T h f (k + 1) 5 = 0 then 0 else 1) = dC N T h g k + (if dF N T h g (k + 1) 5 = 0 then 0 else 1)
    rw [dC_cg e k, dF_cg e (k + 1) 5 (by decide)]
theorem dM_cg {N : Nat → Int32} {T h : Nat} {f g : Nat → Int32} (e : e7 f g) : ∀ k, dM N T h f k = dM N T h g k
  | 0 => rfl
  | k + 1 => by
    show (if dF N T h f (k + 1) 4 ≤ dM N T h f k then dM N T h f k else dF N T h f (k + 1) 4) = (if dF N T h g (k + 1) 4 ≤ dM N T h g k then dM N T h g k else dF N T h g (k + 1) 4)
    rw [dM_cg e k, dF_cg e (k + 1) 4 (by decide)]
theorem dC_le (N : Nat → Int32) (T h : Nat) (f : Nat → Int32) : ∀ k, dC N T h f k ≤ k
  | 0 => Nat.le_refl _
  | k + 1 => by
    have := dC_le N T h f k
    show dC N T h f k + (if dF N T h f (k + 1) 5 = 0 then 0 else 1) ≤ k + 1
    split <;> omega
theorem dW_ag {N N' : Nat → Int32} (g : ag N N') (h k : Nat) : dW N' h k = dW N h k := g _ (Or.inl (by omega))
theorem dF_ag {N N' : Nat → Int32} (g : ag N N') (T h : Nat) (f : Nat → Int32) : ∀ k, dF N' T h f k = dF N T h f k
  | 0 => rfl
  | k + 1 => by
    show tkR N' T (dF N' T h f k) (dW N' h k) = tkR N T (dF N T h f k) (dW N h k)
    rw [dF_ag g T h f k, dW_ag g, ag_tkR g]
theorem dT_ag {N N' : Nat → Int32} (g : ag N N') (T h : Nat) (f : Nat → Int32) (k : Nat) : dT N' T h f k = dT N T h f k := by
  unfold dT; rw [dF_ag g, dW_ag g, ag_tkT g]
theorem dC_ag {N N' : Nat → Int32} (g : ag N N') (T h : Nat) (f : Nat → Int32) : ∀ k, dC N' T h f k = dC N T h f k
  | 0 => rfl
  | k + 1 => by
    show dC N' T h f k + (if dF N' T h f (k + 1) 5 = 0 then 0 else 1) = dC N T h f k + (if dF N T h f (k + 1) 5 = 0 then 0 else 1)
    rw [dC_ag g T h f k, dF_ag g]
theorem dM_ag {N N' : Nat → Int32} (g : ag N N') (T h : Nat) (f : Nat → Int32) : ∀ k, dM N' T h f k = dM N T h f k
  | 0 => rfl
  | k + 1 => by
    show (if dF N' T h f (k + 1) 4 ≤ dM N' T h f k then dM N' T h f k else dF N' T h f (k + 1) 4) = (if dF N T h f (k + 1) 4 ≤ dM N T h f k then dM N T h f k else dF N T h f (k + 1) 4)
    rw [dM_ag g T h f k, dF_ag g]
/-- the answer of a day thought through -/
def dayv (N : Nat → Int32) (T h : Nat) (f : Nat → Int32) (v : Int32) : Int32 := if v = 0 then nI (dC N T h f 24) else if v = 1 then dF N T h f 24 6 else dM N T h f 24
theorem td_loop {σ : hw_St} {N : Nat → Int32} {w h T : Nat} (H : hv_Sc σ 1 N w h T) {f : Nat → Int32} (hv : hv_W f) (v : Int32) : ∀ (d j n : Nat) (g : Nat → Int32), j + d = 24 → d < n → ∃ g', L_X6_thinkDay_7 n v (nI (dC N T h f j)) (dM N T h f j) (nI j) (nf σ 11 g (dF N T h f j)) = some (dayv N T h f v, nf σ 11 g' (dF N T h f 24)) := by
  intro d
  induction d with
  | zero =>
    intro j n g hj hn
    obtain ⟨n, rfl⟩ : ∃ q, n = q + 1 := ⟨n - 1, by omega⟩
    have : j = 24 := by omega
    subst this
    refine ⟨g, ?_⟩
    show S_X6_thinkDay_7 (L_X6_thinkDay_7 n) v _ _ (nI 24) _ = _
    unfold S_X6_thinkDay_7 dayv
    rw [if_pos (by decide), nf_x]
    split
    · rfl
    · split <;> rfl
  | succ d ih =>
    intro j n g hj hn
    obtain ⟨n, rfl⟩ : ∃ q, n = q + 1 := ⟨n - 1, by omega⟩
    obtain ⟨g1, e1⟩ := th6 (Or.inl rfl) (Sc_Lc H) (dF_W (N := N) (T := T) (h := h) hv j) (dW N h j) g
    obtain ⟨g2, e2⟩ := ih (j + 1) n g1 (by omega) (by omega)
    refine ⟨g2, ?_⟩
    show S_X6_thinkDay_7 (L_X6_thinkDay_7 n) v _ _ (nI j) _ = _
    unfold S_X6_thinkDay_7
    rw [if_neg (show ¬ (24 : Int32) ≤ nI j from iNle.mpr (nI_lt (b := 24) (by omega) (by decide))), wind6 (Or.inl rfl) H (by omega), hw_bd_s, e1, hw_bd_s, nf_x]
    have st : ∀ k0 : Int32, nI (dC N T h f j) + k0 = nI (dC N T h f (j + 1)) → B_X6_thinkDay_51 (L_X6_thinkDay_7 n) v (dM N T h f j) (nI j) k0 (nI (dC N T h f j)) (nf σ 11 g1 (tkR N T (dF N T h f j) (dW N h j))) = some (dayv N T h f v, nf σ 11 g2 (dF N T h f 24)) := fun k0 hk => by
      unfold B_X6_thinkDay_51
      rw [hw_nm_s, hw_nm_s, hk, nf_x, show nI j + 1 = nI (j + 1) from nI_add j 1]
      have em : hw_max (dM N T h f j) (tkR N T (dF N T h f j) (dW N h j) 4) = dM N T h f (j + 1) := by
        show _ = (if dF N T h f (j + 1) 4 ≤ dM N T h f j then dM N T h f j else dF N T h f (j + 1) 4)
        show hw_max (dM N T h f j) (dF N T h f (j + 1) 4) = _
        unfold hw_max
        by_cases q : dF N T h f (j + 1) 4 ≤ dM N T h f j
        · rw [if_pos q, if_neg (iNlt.mpr q)]
        · rw [if_neg q, if_pos (iNle.mp q)]
      rw [em]
      exact e2
    by_cases q : tkR N T (dF N T h f j) (dW N h j) 5 = 0
    · rw [if_pos q]
      exact st 0 (by
        show _ = nI (dC N T h f j + (if dF N T h f (j + 1) 5 = 0 then 0 else 1))
        rw [if_pos (show dF N T h f (j + 1) 5 = 0 from q), Int32.add_zero]; rfl)
    · rw [if_neg q]
      exact st 1 (by
        show _ = nI (dC N T h f j + (if dF N T h f (j + 1) 5 = 0 then 0 else 1))
        rw [if_neg (show ¬ dF N T h f (j + 1) 5 = 0 from q)]; exact nI_add _ 1)
theorem X6_day {σ : hw_St} {N : Nat → Int32} {w h T : Nat} (H : hv_Sc σ 1 N w h T) {f : Nat → Int32} (hv : hv_W f) (v : Int32) (g : Nat → Int32) : ∃ g', F_X6_thinkDay v (nf σ 11 g f) = some (dayv N T h f v, nf σ 11 g' (dF N T h f 24)) := by
  unfold F_X6_thinkDay
  exact td_loop H hv v 24 0 130 g (by omega) (by omega)
theorem bec11 {σ : hw_St} {y : Nat} (hy : hw_gH y 5 = true) (hne : y ≠ 11) (g f : Nat → Int32) (hb : σ y 5 = 0 ∨ σ y 5 = 1) : ∃ f', F_X5_become 11 y (nf σ 11 g f) = some ((), nf σ 11 g f') ∧ e7 f' (σ y) := by
  have hy10 : y ≠ 10 := x_ne10 hy
  obtain ⟨f', e1, e2⟩ := X5_bec g11 hy hne (nf σ 11 g f) (by rw [nf_o _ _ _ hne hy10]; exact hb)
  rw [nf_o _ _ _ hne hy10] at e2
  refine ⟨f', ?_, e2⟩
  rw [e1]
  unfold nf
  rw [upA_upA]
