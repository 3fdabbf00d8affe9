/-! the class's step to the next token -/
theorem up_up (σ : hw_St) (t k : Nat) (a b : Int32) : hw_up (hw_up σ t k a) t k b = hw_up σ t k b := by
  rw [up_upA σ t k a, up_A, hq_uu]; rfl
theorem st35 {σ : hw_St} {b : Nat → Int32} {B f : Nat} (C : tkC σ b B) (hf : f ≤ B) (h4 : f = B ∨ ¬ b f = 32) (l1 l2 : Int32) : ∀ (d p n : Nat), p + d = f → d < n → (∀ j, p ≤ j → j < f → b j = 32) → L_X1_step_35 n l1 l2 (hw_up σ 13 6 (nI p)) = B_X1_step_73 l1 l2 (hw_up σ 13 6 (nI f)) := by
  obtain ⟨c0, c1, cB, cr, c2⟩ := C
  have r6 : ∀ p, hw_up σ 13 6 (nI p) 13 6 = nI p := fun p => by rw [up_self, upd_s]
  have r1 : ∀ p, hw_up σ 13 6 (nI p) 13 1 = nI B := fun p => by rw [up_self, upd_n _ _ (by decide)]; exact c1
  have r0 : ∀ p, hw_up σ 13 6 (nI p) 13 0 = nI 12 := fun p => by rw [up_self, upd_n _ _ (by decide)]; exact c0
  have r12 : ∀ p, hw_up σ 13 6 (nI p) 12 = σ 12 := fun p => up_row _ _ _ _ (by decide)
  intro d
  induction d with
  | zero =>
    intro p n hp hn hj
    obtain ⟨n, rfl⟩ : ∃ q, n = q + 1 := ⟨n - 1, by omega⟩
    have : p = f := by omega
    subst this
    show S_X1_step_35 (L_X1_step_35 n) l1 l2 (hw_up σ 13 6 (nI p)) = _
    unfold S_X1_step_35
    rw [r1, r6]
    by_cases q : p = B
    · rw [if_pos (by rw [q]; exact Int32.le_refl _)]
    · have hlt : p < B := by omega
      have n32 : ¬ b p = 32 := by rcases h4 with e | e; exact absurd e q; exact e
      rw [if_neg (iNle.mpr (nI_lt hlt (by omega))), r0, g12.2.2, hw_gd_t g12.1, g12.2.1, hw_gd_t (inb_nI (by omega) (by decide)), r12, nI_clamp (by omega), c2 p hlt, if_neg (fun z => n32 ((sby_eq (cr p hlt) (by decide)).mp z))]
  | succ d ih =>
    intro p n hp hn hj
    obtain ⟨n, rfl⟩ : ∃ q, n = q + 1 := ⟨n - 1, by omega⟩
    have hlt : p < B := by omega
    show S_X1_step_35 (L_X1_step_35 n) l1 l2 (hw_up σ 13 6 (nI p)) = _
    unfold S_X1_step_35
    rw [r1, r6, if_neg (iNle.mpr (nI_lt hlt (by omega))), r0, g12.2.2, hw_gd_t g12.1, g12.2.1, hw_gd_t (inb_nI (by omega) (by decide)), r12, nI_clamp (by omega), c2 p hlt, if_pos ((sby_eq (cr p hlt) (by decide)).mpr (hj p (Nat.le_refl _) (by omega))), hw_nm_s, show nI p + 1 = nI (p + 1) from nI_add p 1, up_up]
    exact ih (p + 1) n (by omega) (by omega) (fun j g1 g2 => hj j (by omega) g2)
theorem st125 {σ : hw_St} {b : Nat → Int32} {B s t : Nat} (C : tkC σ b B) (ht : t ≤ B) (hs : s ≤ 3) (h3 : σ 13 3 = nI s) (h4 : ¬ srt b B t = s) (l1 l2 : Int32) : ∀ (d p n : Nat), p + d = t → d < n → (∀ j, p ≤ j → j < t → srt b B j = s) → L_X1_step_125 n l1 l2 (hw_up σ 13 5 (nI p)) = B_X1_step_164 l1 l2 (hw_up σ 13 5 (nI t)) := by
  have r5 : ∀ p, hw_up σ 13 5 (nI p) 13 5 = nI p := fun p => by rw [up_self, upd_s]
  have r1 : ∀ p, hw_up σ 13 5 (nI p) 13 1 = nI B := fun p => by rw [up_self, upd_n _ _ (by decide)]; exact C.2.1
  have r3 : ∀ p, hw_up σ 13 5 (nI p) 13 3 = nI s := fun p => by rw [up_self, upd_n _ _ (by decide)]; exact h3
  have CC : ∀ p, tkC (hw_up σ 13 5 (nI p)) b B := fun p => tkC_k C (by rw [up_self, upd_n _ _ (by decide)]) (by rw [up_self, upd_n _ _ (by decide)]) (up_row _ _ _ _ (by decide))
  have cB := C.2.2.1
  intro d
  induction d with
  | zero =>
    intro p n hp hn hj
    obtain ⟨n, rfl⟩ : ∃ q, n = q + 1 := ⟨n - 1, by omega⟩
    have : p = t := by omega
    subst this
    show S_X1_step_125 (L_X1_step_125 n) l1 l2 (hw_up σ 13 5 (nI p)) = _
    unfold S_X1_step_125
    rw [r1, r5]
    by_cases q : p = B
    · rw [if_pos (by rw [q]; exact Int32.le_refl _)]
    · have := srt_le b B p
      rw [if_neg (iNle.mpr (nI_lt (by omega) (by omega))), X1_sort (CC p) (by omega), hw_bd_s, r3, if_neg (nI_ne (by omega) (by omega) h4)]
  | succ d ih =>
    intro p n hp hn hj
    obtain ⟨n, rfl⟩ : ∃ q, n = q + 1 := ⟨n - 1, by omega⟩
    show S_X1_step_125 (L_X1_step_125 n) l1 l2 (hw_up σ 13 5 (nI p)) = _
    unfold S_X1_step_125
    rw [r1, r5, if_neg (iNle.mpr (nI_lt (by omega) (by omega))), X1_sort (CC p) (by omega), hw_bd_s, r3, r5, hj p (Nat.le_refl _) (by omega), if_pos rfl, hw_nm_s, show nI p + 1 = nI (p + 1) from nI_add p 1, up_up]
    exact ih (p + 1) n (by omega) (by omega) (fun j g1 g2 => hj j (by omega) g2)
/-- what the class's reader says of a token -/
def stC (σ σ' : hw_St) (s f t : Nat) (nb : Int32) : Prop := σ' 13 3 = nI s ∧ σ' 13 4 = nb ∧ σ' 13 5 = nI t ∧ σ' 13 6 = nI f ∧ (∀ k, k < 3 → σ' 13 k = σ 13 k) ∧ ∀ x, x ≠ 13 → σ' x = σ x
theorem st164 {σ0 σ : hw_St} {s f t : Nat} (h3 : σ 13 3 = nI s) (h5 : σ 13 5 = nI t) (h6 : σ 13 6 = nI f) (hk : ∀ k, k < 3 → σ 13 k = σ0 13 k) (hx : ∀ x, x ≠ 13 → σ x = σ0 x) (l1 : Int32) {t0 : Nat} (hf : f < 1000) (ht : t0 < 1000) : ∃ σ', B_X1_step_164 l1 (nI t0) σ = some ((), σ') ∧ stC σ0 σ' s f t (if ¬ l1 = 0 ∧ f = t0 then 1 else 0) := by
  have fin : ∀ v : Int32, stC σ0 (hw_up σ 13 4 v) s f t v := fun v => ⟨by rw [up_self, upd_n _ _ (by decide)]; exact h3, by rw [up_self, upd_s], by rw [up_self, upd_n _ _ (by decide)]; exact h5, by rw [up_self, upd_n _ _ (by decide)]; exact h6, fun k g => by rw [up_self, upd_n _ _ (by omega)]; exact hk k g, fun x g => by rw [up_row _ _ _ _ g]; exact hx x g⟩
  unfold B_X1_step_164 B_X1_step_181 B_X1_step_182
  rw [h6]
  by_cases q : l1 = 0
  · refine ⟨hw_up σ 13 4 0, ?_, by rw [if_neg (fun z => z.1 q)]; exact fin 0⟩
    rw [if_pos q, hw_gd_t isb_0, hw_nm_s]
  · rw [if_neg q]
    by_cases e : f = t0
    · refine ⟨hw_up σ 13 4 1, ?_, by rw [if_pos ⟨q, e⟩]; exact fin 1⟩
      rw [if_pos (by rw [e]), hw_gd_t isb_1, hw_nm_s]
    · refine ⟨hw_up σ 13 4 0, ?_, by rw [if_neg (fun z => e z.2)]; exact fin 0⟩
      rw [if_neg (nI_ne hf ht e), hw_gd_t isb_0, hw_nm_s]
theorem X1_step {σ : hw_St} {b : Nat → Int32} {B p f t s0 : Nat} (C : tkC σ b B) (hs0 : s0 ≤ 3) (h3 : σ 13 3 = nI s0) (h5 : σ 13 5 = nI p) (hp : p ≤ B) (K : Tok b B p f t) : ∃ σ', F_X1_step σ = some ((), σ') ∧ stC σ σ' (srt b B f) f t (if (s0 = 1 ∨ s0 = 2) ∧ f = p then 1 else 0) := by
  obtain ⟨k1, k2, k3, k4, k5, k6, k7⟩ := K
  have cB := C.2.2.1
  have sl := srt_le b B f
  have main : ∀ l1 : Int32, (¬ l1 = 0 ↔ (s0 = 1 ∨ s0 = 2)) → ∃ σ', B_X1_step_21 l1 σ = some ((), σ') ∧ stC σ σ' (srt b B f) f t (if (s0 = 1 ∨ s0 = 2) ∧ f = p then 1 else 0) := by
    intro l1 hl
    have ec : (if (s0 = 1 ∨ s0 = 2) ∧ f = p then (1 : Int32) else 0) = (if ¬ l1 = 0 ∧ f = p then 1 else 0) := by
      by_cases z : (s0 = 1 ∨ s0 = 2) ∧ f = p
      · rw [if_pos z, if_pos ⟨hl.mpr z.1, z.2⟩]
      · rw [if_neg z, if_neg (fun y => z ⟨hl.mp y.1, y.2⟩)]
    rw [ec]
    have st : B_X1_step_21 l1 σ = B_X1_step_73 l1 (nI p) (hw_up σ 13 6 (nI f)) := by
      unfold B_X1_step_21
      rw [hw_nm_s, hw_nm_s, h5]
      exact st35 C k2 k4 l1 (nI p) (f - p) p 130 (by omega) (by omega) k3
    rw [st]
    have r6 : hw_up σ 13 6 (nI f) 13 6 = nI f := by rw [up_self, upd_s]
    have CC : tkC (hw_up σ 13 6 (nI f)) b B := tkC_k C (by rw [up_self, upd_n _ _ (by decide)]) (by rw [up_self, upd_n _ _ (by decide)]) (up_row _ _ _ _ (by decide))
    unfold B_X1_step_73
    rw [r6, X1_sort CC (by omega), hw_bd_s, hw_nm_s]
    generalize hw : hw_up (hw_up σ 13 6 (nI f)) 13 3 (nI (srt b B f)) = ρ
    have q3 : ρ 13 3 = nI (srt b B f) := by rw [← hw, up_self, upd_s]
    have q6 : ρ 13 6 = nI f := by rw [← hw, up_self, upd_n _ _ (by decide)]; exact r6
    have qk : ∀ k, k < 3 → ρ 13 k = σ 13 k := fun k g => by rw [← hw, up_self, upd_n _ _ (by omega), up_self, upd_n _ _ (by omega)]
    have qx : ∀ x, x ≠ 13 → ρ x = σ x := fun x g => by rw [← hw, up_row _ _ _ _ g, up_row _ _ _ _ g]
    have CR : tkC ρ b B := tkC_k C (qk 0 (by omega)) (qk 1 (by omega)) (qx 12 (by omega))
    rw [q3, q6]
    have a3 : ∀ v, hw_up ρ 13 5 v 13 3 = nI (srt b B f) := fun v => by rw [up_self, upd_n _ _ (by decide)]; exact q3
    have a6 : ∀ v, hw_up ρ 13 5 v 13 6 = nI f := fun v => by rw [up_self, upd_n _ _ (by decide)]; exact q6
    have ak : ∀ v k, k < 3 → hw_up ρ 13 5 v 13 k = σ 13 k := fun v k g => by rw [up_self, upd_n _ _ (by omega)]; exact qk k g
    have ax : ∀ v x, x ≠ 13 → hw_up ρ 13 5 v x = σ x := fun v x g => by rw [up_row _ _ _ _ g]; exact qx x g
    have fin : ∃ σ', B_X1_step_164 l1 (nI p) (hw_up ρ 13 5 (nI t)) = some ((), σ') ∧ stC σ σ' (srt b B f) f t (if ¬ l1 = 0 ∧ f = p then 1 else 0) := st164 (a3 _) (by rw [up_self, upd_s]) (a6 _) (ak _) (ax _) l1 (by omega) (by omega)
    have c : srt b B f = 0 ∨ srt b B f = 1 ∨ srt b B f = 2 ∨ srt b B f = 3 := by omega
    unfold B_X1_step_106
    rcases c with e | e | e | e
    · rw [e, if_pos (show nI 0 = 0 from rfl), hw_nm_s, a3, e, if_neg (by decide), if_neg (by decide)]
      rw [e, k5 e] at fin
      rw [k5 e]; exact fin
    · obtain ⟨g1, g2, g3, g4⟩ := k7 (Or.inl e)
      rw [e, if_neg (show ¬ nI 1 = 0 by decide), hw_nm_s, a3, e, if_pos (show nI 1 = 1 from rfl), show nI f + 1 = nI (f + 1) from nI_add f 1]
      rw [e] at fin g3 g4
      rw [st125 CR g2 (by decide) (by rw [q3, e]) g4 l1 (nI p) (t - (f + 1)) (f + 1) 130 (by omega) (by omega) (fun j h1 h2 => g3 j (by omega) h2)]
      exact fin
    · obtain ⟨g1, g2, g3, g4⟩ := k7 (Or.inr e)
      rw [e, if_neg (show ¬ nI 2 = 0 by decide), hw_nm_s, a3, e, if_neg (show ¬ nI 2 = 1 by decide), if_pos (show nI 2 = 2 from rfl), show nI f + 1 = nI (f + 1) from nI_add f 1]
      rw [e] at fin g3 g4
      rw [st125 CR g2 (by decide) (by rw [q3, e]) g4 l1 (nI p) (t - (f + 1)) (f + 1) 130 (by omega) (by omega) (fun j h1 h2 => g3 j (by omega) h2)]
      exact fin
    · rw [e, if_neg (show ¬ nI 3 = 0 by decide), hw_nm_s, a3, e, if_neg (show ¬ nI 3 = 1 by decide), if_neg (show ¬ nI 3 = 2 by decide), show nI f + 1 = nI (f + 1) from nI_add f 1, ← k6 e]
      rw [e] at fin; exact fin
  unfold F_X1_step B_X1_step_16
  rw [h3]
  have c : s0 = 0 ∨ s0 = 1 ∨ s0 = 2 ∨ s0 = 3 := by omega
  rcases c with rfl | rfl | rfl | rfl
  · rw [if_neg (by decide), if_neg (by decide)]; exact main 0 (by decide)
  · rw [if_pos (by decide)]; exact main 1 (by decide)
  · rw [if_neg (by decide), if_pos (by decide)]; exact main 1 (by decide)
  · rw [if_neg (by decide), if_neg (by decide)]; exact main 0 (by decide)
