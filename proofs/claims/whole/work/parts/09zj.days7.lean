/-! a wire thought of: the reference -/
def onI (i : Nat) (N N' : Nat → Int32) : Prop := ∀ j, (j < 29 + 7 * i ∨ 29 + 7 * i + 7 ≤ j) → N' j = N j
theorem onI_ag {i : Nat} (hi : i < 6) {N N' : Nat → Int32} (h : onI i N N') : ag N N' := fun j hj => h j (by omega)
theorem onI_tr {i : Nat} {N1 N2 N3 : Nat → Int32} (h : onI i N1 N2) (g : onI i N2 N3) : onI i N1 N3 := fun j hj => (g j hj).trans (h j hj)
theorem onI_upd {i k : Nat} (hk : k < 7) (N : Nat → Int32) (v : Int32) : onI i N (upd N (29 + 7 * i + k) v) := fun j hj => upd_n _ _ (by omega)
theorem onI_tk (N : Nat → Int32) (T i : Nat) (w : Int32) : onI i N (tkN N T i w) := onI_tr (onI_tr (onI_upd (by decide) _ _) (onI_upd (by decide) _ _)) (onI_upd (by decide) _ _)
/-- the reference's state but for the scratch of thinking and row 201 -/
def kq (τ τ' : hw_St) : Prop := (∀ t, (t = 202 ∨ 206 ≤ t ∧ t ≤ 208 ∨ 214 ≤ t ∧ t ≤ 220 ∨ t = 222) → τ' t = τ t) ∧ (∀ k, (k < 5 ∨ 8 ≤ k) → τ' 200 k = τ 200 k)
theorem kq_rf (τ : hw_St) : kq τ τ := ⟨fun _ _ => rfl, fun _ _ => rfl⟩
theorem kq_tr {a b c : hw_St} (h : kq a b) (g : kq b c) : kq a c := ⟨fun t ht => (g.1 t ht).trans (h.1 t ht), fun k hk => (g.2 k hk).trans (h.2 k hk)⟩
theorem kq_upA (τ : hw_St) {t : Nat} (f : Nat → Int32) (ht : t = 201 ∨ t = 204 ∨ t = 205 ∨ t = 212 ∨ t = 213) : kq τ (hw_upA τ t f) := ⟨fun t' h => upA_row _ _ _ (by omega), fun k _ => by rw [upA_row _ _ _ (by omega)]⟩
theorem kq_mf (τ : hw_St) (N a b : Nat → Int32) : kq τ (mf τ N a b) := ⟨fun t' h => mf_o _ _ _ _ (by omega) (by omega) (by omega), fun k _ => by rw [mf_o _ _ _ _ (by omega) (by omega) (by omega)]⟩
theorem kq_200 (τ : hw_St) {k : Nat} (v : Int32) (hk : k = 5 ∨ k = 6 ∨ k = 7) : kq τ (hw_up τ 200 k v) := ⟨fun t' h => up_row _ _ _ _ (by omega), fun q hq => by rw [up_self, upd_n _ _ (by omega)]⟩
theorem R_kq {σ τ σ' τ' : hw_St} (H : hv_R σ τ) (k : kq τ τ') (e : τ' 201 = τ 201) (ks : ∀ t, t ≠ 10 → t ≠ 11 → σ' t = σ t) : hv_R σ' τ' := by
  refine R_same H (fun t ht => ks t (by omega) (by omega)) (fun t ht => ?_) (k.2 3 (by omega)) (k.2 10 (by omega)) (k.2 36 (by omega))
  by_cases q : t = 201
  · subst q; exact e
  · exact k.1 t (by omega)
theorem pb_loop {i : Nat} (hi : i < 6) {N : Nat → Int32} {τ : hw_St} (h : ∀ k, k < 7 → τ 204 k = N (29 + 7 * i + k)) : ∀ (d j n : Nat) (M : Nat → Int32), j + d = 7 → d < n → (∀ q, (q < 29 + 7 * i + j ∨ 29 + 7 * i + 7 ≤ q) → M q = N q) → L_X7_putsBack_2 n (nI i) (nI j) (hw_upA τ 201 M) = some ((), hw_upA τ 201 N) := by
  intro d
  induction d with
  | zero =>
    intro j n M hj hn hM
    obtain ⟨n, rfl⟩ : ∃ q, n = q + 1 := ⟨n - 1, by omega⟩
    have : j = 7 := by omega
    subst this
    show S_X7_putsBack_2 (L_X7_putsBack_2 n) (nI i) (nI 7) _ = _
    unfold S_X7_putsBack_2
    rw [if_pos (by decide), show M = N from funext (fun q => hM q (by omega))]
  | succ d ih =>
    intro j n M hj hn hM
    obtain ⟨n, rfl⟩ : ∃ q, n = q + 1 := ⟨n - 1, by omega⟩
    show S_X7_putsBack_2 (L_X7_putsBack_2 n) (nI i) (nI j) _ = _
    unfold S_X7_putsBack_2
    rw [if_neg (show ¬ (7 : Int32) ≤ nI j from iNle.mpr (nI_lt (b := 7) (by omega) (by decide))), hw_gd_t (inb_nI (by omega) (by decide)), ixW0, show nI (29 + 7 * i) + nI j = nI (29 + 7 * i + j) from nI_add _ _, hw_gd_t (inb_nI (by omega) (by decide)), hw_nm_s, nI_clamp (by omega), nI_clamp (by omega), up_A, upA_row _ _ _ (show 204 ≠ 201 by decide), h j (by omega), show nI j + 1 = nI (j + 1) from nI_add j 1]
    refine ih (j + 1) n _ (by omega) (by omega) (fun q hq => ?_)
    unfold upd
    by_cases e : q = 29 + 7 * i + j
    · rw [if_pos e, e]
    · rw [if_neg e]; exact hM q (by omega)
theorem X7_puts {i : Nat} (hi : i < 6) {N : Nat → Int32} {τ : hw_St} (h : ∀ k, k < 7 → τ 204 k = N (29 + 7 * i + k)) (o : onI i N (τ 201)) : F_X7_putsBack (nI i) τ = some ((), hw_upA τ 201 N) := by
  have := pb_loop hi h 7 0 130 (τ 201) (by omega) (by omega) (fun q hq => o q (by omega))
  rw [upA_id] at this
  exact this
theorem tk_loop {i : Nat} (hi : i < 6) {τ : hw_St} : ∀ (d j n : Nat) (g : Nat → Int32), j + d = 7 → d < n → (∀ k, k < j → g k = τ 201 (29 + 7 * i + k)) → ∃ g', L_X7_thinks_2 n (nI i) (nI j) (hw_upA τ 204 g) = some ((), hw_upA τ 204 g') ∧ ∀ k, k < 7 → g' k = τ 201 (29 + 7 * i + k) := by
  intro d
  induction d with
  | zero =>
    intro j n g hj hn hg
    obtain ⟨n, rfl⟩ : ∃ q, n = q + 1 := ⟨n - 1, by omega⟩
    have : j = 7 := by omega
    subst this
    refine ⟨g, ?_, hg⟩
    show S_X7_thinks_2 (L_X7_thinks_2 n) (nI i) (nI 7) _ = _
    unfold S_X7_thinks_2
    rw [if_pos (by decide)]
  | succ d ih =>
    intro j n g hj hn hg
    obtain ⟨n, rfl⟩ : ∃ q, n = q + 1 := ⟨n - 1, by omega⟩
    obtain ⟨g', e1, e2⟩ := ih (j + 1) n (upd g j (τ 201 (29 + 7 * i + j))) (by omega) (by omega) (fun k hk => by
      unfold upd
      by_cases e : k = j
      · rw [if_pos e, e]
      · rw [if_neg e]; exact hg k (by omega))
    refine ⟨g', ?_, e2⟩
    show S_X7_thinks_2 (L_X7_thinks_2 n) (nI i) (nI j) _ = _
    unfold S_X7_thinks_2
    rw [if_neg (show ¬ (7 : Int32) ≤ nI j from iNle.mpr (nI_lt (b := 7) (by omega) (by decide))), X7_of hi (by omega), hw_bd_s, hw_gd_t (inb_nI (by omega) (by decide)), hw_nm_s, nI_clamp (by omega), up_A, upA_row _ _ _ (show 201 ≠ 204 by decide), show nI j + 1 = nI (j + 1) from nI_add j 1]
    exact e1
theorem X7_thinks {i : Nat} (hi : i < 6) (τ : hw_St) : ∃ g, F_X7_thinks (nI i) τ = some ((), hw_upA τ 204 g) ∧ ∀ k, k < 7 → g k = τ 201 (29 + 7 * i + k) := by
  have := tk_loop hi (τ := τ) 7 0 130 (τ 204) (by omega) (by omega) (fun k hk => absurd hk (by omega))
  rw [upA_id] at this
  exact this
/-- a tick of the reference in any state -/
theorem tk7 {i : Nat} (hi : i < 6) {N : Nat → Int32} {T : Nat} (M : hv_Mc N T) {τ : hw_St} (o : onI i N (τ 201)) (hv : hv_W (rw_ (τ 201) i)) (w : Int32) : ∃ N' a b, F_X7_ticks (nI i) w τ = some (tkT N T (rw_ (τ 201) i) w, mf τ N' a b) ∧ onI i N N' ∧ rw_ N' i = tkR N T (rw_ (τ 201) i) w := by
  have G := onI_ag hi o
  obtain ⟨a, b, e⟩ := X7_ticks hi (ag_Mc G M) hv w τ (τ 212) (τ 213)
  rw [← mf_s, ag_tkT G] at e
  exact ⟨tkN (τ 201) T i w, a, b, e, onI_tr o (onI_tk _ _ _ _), by rw [tkN_row, ag_tkR G]⟩
theorem ixH {N : Nat → Int32} {h j : Nat} (hh : h < 24) (hj : j < 1000) (n2 : N 2 = nI h) : (5 : Int32) + hw_rem (N 2 + nI j) 24 = nI (5 + (h + j) % 24) := by
  rw [n2, rem24 hh hj]; exact nI_add 5 _
theorem fd_loop {i : Nat} (hi : i < 6) {N : Nat → Int32} {T h : Nat} (M : hv_Mc N T) (hh : h < 24) (n2 : N 2 = nI h) (hv : hv_W (rw_ N i)) : ∀ (d j n : Nat) (τ : hw_St), j + d = 24 → d < n → onI i N (τ 201) → rw_ (τ 201) i = dF N T h (rw_ N i) j → (∀ k, k < 7 → τ 204 k = N (29 + 7 * i + k)) → τ 200 5 = nI (dC N T h (rw_ N i) j) → τ 200 7 = dM N T h (rw_ N i) j → (∀ k, k < j → τ 205 k = dT N T h (rw_ N i) k) → ∃ τ', L_X7_findDay_17 n (nI i) (nI j) τ = some ((), τ') ∧ kq τ τ' ∧ τ' 201 = N ∧ τ' 200 5 = nI (dC N T h (rw_ N i) 24) ∧ τ' 200 6 = dF N T h (rw_ N i) 24 6 ∧ τ' 200 7 = dM N T h (rw_ N i) 24 ∧ (∀ k, k < 24 → τ' 205 k = dT N T h (rw_ N i) k) := by
  intro d
  induction d with
  | zero =>
    intro j n τ hj hn o r h4 c5 c7 ct
    obtain ⟨n, rfl⟩ : ∃ q, n = q + 1 := ⟨n - 1, by omega⟩
    have : j = 24 := by omega
    subst this
    have r1 : hw_up τ 200 6 (dF N T h (rw_ N i) 24 6) 201 = τ 201 := up_row _ _ _ _ (by decide)
    refine ⟨hw_upA (hw_up τ 200 6 (dF N T h (rw_ N i) 24 6)) 201 N, ?_, kq_tr (kq_200 _ _ (by omega)) (kq_upA _ _ (by omega)), upA_self _ _ _, ?_, ?_, ?_, ?_⟩
    · show S_X7_findDay_17 (L_X7_findDay_17 n) (nI i) (nI 24) τ = _
      unfold S_X7_findDay_17
      rw [if_pos (by decide), show F_X7_of (nI i) 6 τ = _ from X7_of hi (k := 6) (by decide) τ, hw_bd_s, hw_nm_s, r, X7_puts (N := N) hi (by rw [up_row _ _ _ _ (by decide)]; exact h4) (by rw [r1]; exact o), hw_bd_s]
    · rw [upA_row _ _ _ (by decide), up_self, upd_n _ _ (by decide)]; exact c5
    · rw [upA_row _ _ _ (by decide), up_self, upd_s]
    · rw [upA_row _ _ _ (by decide), up_self, upd_n _ _ (by decide)]; exact c7
    · rw [upA_row _ _ _ (by decide), up_row _ _ _ _ (by decide)]; exact ct
  | succ d ih =>
    intro j n τ hj hn o r h4 c5 c7 ct
    obtain ⟨n, rfl⟩ : ∃ q, n = q + 1 := ⟨n - 1, by omega⟩
    have G := onI_ag hi o
    obtain ⟨N', a, b, e1, o', r'⟩ := tk7 hi M o (by rw [r]; exact dF_W hv j) (dW N h j)
    rw [r] at e1 r'
    have r5 : rw_ N' i = dF N T h (rw_ N i) (j + 1) := r'
    have e0 : (5 : Int32) + hw_rem (τ 201 (2 : Int32).toNatClampNeg + nI j) 24 = nI (5 + (h + j) % 24) := ixH hh (by omega) (by rw [G 2 (by omega)]; exact n2)
    have ew : τ 201 (5 + (h + j) % 24) = dW N h j := G _ (by omega)
    have kk : ∀ v5 v7 : Int32, kq τ (hw_up (hw_up (hw_up (mf τ N' a b) 205 j (dT N T h (rw_ N i) j)) 200 5 v5) 200 7 v7) := fun v5 v7 => kq_tr (kq_tr (kq_tr (kq_mf _ _ _ _) (kq_upA _ _ (by omega))) (kq_200 _ _ (by omega))) (kq_200 _ _ (by omega))
    have q201 : ∀ v5 v7 : Int32, hw_up (hw_up (hw_up (mf τ N' a b) 205 j (dT N T h (rw_ N i) j)) 200 5 v5) 200 7 v7 201 = N' := fun v5 v7 => by rw [up_row _ _ _ _ (by decide), up_row _ _ _ _ (by decide), up_row _ _ _ _ (by decide), mf_201]
    obtain ⟨τ', f1, f2, f3, f4, f5, f6, f7⟩ := ih (j + 1) n (hw_up (hw_up (hw_up (mf τ N' a b) 205 j (dT N T h (rw_ N i) j)) 200 5 (nI (dC N T h (rw_ N i) (j + 1)))) 200 7 (dM N T h (rw_ N i) (j + 1))) (by omega) (by omega) (by rw [q201]; exact o') (by rw [q201]; exact r5) (fun k hk => by rw [up_row _ _ _ _ (by decide), up_row _ _ _ _ (by decide), up_row _ _ _ _ (by decide), mf_o _ _ _ _ (by decide) (by decide) (by decide)]; exact h4 k hk) (by rw [up_self, upd_n _ _ (by decide), up_self, upd_s]) (by rw [up_self, upd_s]) (fun k hk => by
      rw [up_row _ _ _ _ (by decide), up_row _ _ _ _ (by decide), up_self]
      unfold upd
      by_cases e : k = j
      · rw [if_pos e, e]
      · rw [if_neg e, mf_o _ _ _ _ (by decide) (by decide) (by decide)]; exact ct k (by omega))
    refine ⟨τ', ?_, kq_tr (kk _ _) f2, f3, f4, f5, f6, f7⟩
    rw [← f1]
    show S_X7_findDay_17 (L_X7_findDay_17 n) (nI i) (nI j) τ = _
    unfold S_X7_findDay_17
    have w5 := (dF_W (N := N) (T := T) (h := h) hv (j + 1)).2.2.2.2.2
    have a5 : nI (dC N T h (rw_ N i) j) + dF N T h (rw_ N i) (j + 1) 5 = nI (dC N T h (rw_ N i) (j + 1)) := by
      show _ = nI (dC N T h (rw_ N i) j + (if dF N T h (rw_ N i) (j + 1) 5 = 0 then 0 else 1))
      rcases w5 with z | z
      · rw [if_pos z, z, Int32.add_zero]; rfl
      · rw [if_neg (by rw [z]; decide), z]; exact nI_add _ 1
    rw [if_neg (show ¬ (24 : Int32) ≤ nI j from iNle.mpr (nI_lt (b := 24) (by omega) (by decide))), hw_gd_t (by decide), e0, hw_gd_t (inb_nI (by omega) (by decide)), nI_clamp (by omega), ew, e1, hw_bd_s, hw_gd_t (inb_nI (by omega) (by decide)), hw_nm_s, nI_clamp (by omega), show F_X7_of (nI i) 5 _ = _ from X7_of hi (k := 5) (by decide) _, hw_bd_s, hw_nm_s, show F_X7_of (nI i) 4 _ = _ from X7_of hi (k := 4) (by decide) _, hw_bd_s, show F_X7_of (nI i) 4 _ = _ from X7_of hi (k := 4) (by decide) _, hw_bd_s]
    rw [show tkT N T (dF N T h (rw_ N i) j) (dW N h j) = dT N T h (rw_ N i) j from rfl, up_row (mf τ N' a b) 205 j (dT N T h (rw_ N i) j) (show 201 ≠ 205 by decide), mf_201, r5, up_row (mf τ N' a b) 205 j (dT N T h (rw_ N i) j) (show 200 ≠ 205 by decide), mf_o τ N' a b (show 200 ≠ 201 by decide) (by decide) (by decide), c5, a5]
    rw [up_row (hw_up (mf τ N' a b) 205 j (dT N T h (rw_ N i) j)) 200 5 _ (show 201 ≠ 200 by decide), up_row (mf τ N' a b) 205 j (dT N T h (rw_ N i) j) (show 201 ≠ 205 by decide), mf_201, r5]
    have c7' : hw_up (hw_up (mf τ N' a b) 205 j (dT N T h (rw_ N i) j)) 200 5 (nI (dC N T h (rw_ N i) (j + 1))) 200 7 = dM N T h (rw_ N i) j := by
      rw [up_self, upd_n _ _ (by decide), up_row _ _ _ _ (by decide), mf_o τ N' a b (show 200 ≠ 201 by decide) (by decide) (by decide)]; exact c7
    rw [c7']
    unfold B_X7_findDay_94
    rw [hw_nm_s, hw_nm_s, show nI j + 1 = nI (j + 1) from nI_add j 1]
    by_cases q : dF N T h (rw_ N i) (j + 1) 4 ≤ dM N T h (rw_ N i) j
    · rw [if_pos q, show dM N T h (rw_ N i) (j + 1) = dM N T h (rw_ N i) j from if_pos q]
    · rw [if_neg q, show dM N T h (rw_ N i) (j + 1) = dF N T h (rw_ N i) (j + 1) 4 from if_neg q]
theorem X7_day {i : Nat} (hi : i < 6) {T h : Nat} {τ : hw_St} (M : hv_Mc (τ 201) T) (hh : h < 24) (n2 : τ 201 2 = nI h) (hv : hv_W (rw_ (τ 201) i)) : ∃ τ', F_X7_findDay (nI i) τ = some ((), τ') ∧ kq τ τ' ∧ τ' 201 = τ 201 ∧ τ' 200 5 = nI (dC (τ 201) T h (rw_ (τ 201) i) 24) ∧ τ' 200 6 = dF (τ 201) T h (rw_ (τ 201) i) 24 6 ∧ τ' 200 7 = dM (τ 201) T h (rw_ (τ 201) i) 24 ∧ (∀ k, k < 24 → τ' 205 k = dT (τ 201) T h (rw_ (τ 201) i) k) := by
  obtain ⟨g, e1, e2⟩ := X7_thinks hi τ
  have q201 : hw_up (hw_up (hw_upA τ 204 g) 200 5 0) 200 7 0 201 = τ 201 := by rw [up_row _ _ _ _ (by decide), up_row _ _ _ _ (by decide), upA_row _ _ _ (by decide)]
  obtain ⟨τ', f1, f2, f3⟩ := fd_loop hi M hh n2 hv 24 0 130 (hw_up (hw_up (hw_upA τ 204 g) 200 5 0) 200 7 0) (by omega) (by omega) (by rw [q201]; exact fun _ _ => rfl) (by rw [q201]; rfl) (fun k hk => by rw [up_row _ _ _ _ (by decide), up_row _ _ _ _ (by decide), upA_self]; exact e2 k hk) (by rw [up_self, upd_n _ _ (by decide), up_self, upd_s]; rfl) (by rw [up_self, upd_s]; rfl) (fun k hk => absurd hk (by omega))
  refine ⟨τ', ?_, kq_tr (kq_tr (kq_tr (kq_upA _ _ (by omega)) (kq_200 _ _ (by omega))) (kq_200 _ _ (by omega))) f2, f3⟩
  unfold F_X7_findDay
  rw [e1, hw_bd_s, hw_nm_s, hw_nm_s]
  exact f1
