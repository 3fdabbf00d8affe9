section HWH
variable {α : Type} {G : hw_G} {cc : ByteArray} {own : String} {nL d : Nat} {ret : Option FieldType} {TL : List Nat} {rr : α → Option Value} {X : Option (α × hw_St)} {pc : Nat} {lv : List (Nat × Value)} {st : List Value} {σ : hw_St}
/-- what is known of a class: its number, name, fields -/
def hw_CF (ci : Nat) (Cn : String) (T : u_T) (N : Nat) (ty : Nat → FieldType) : Prop := vwCl[ci]? = some (Cn, T, N) ∧ hw_nf ci = N ∧ ci < 10 ∧ (∀ w ∈ u_ws Cn T N, w ∈ hw_all) ∧ (∀ k, k < N → parseFieldDescriptor (T k).2.2.1 = some (ty k)) ∧ (∀ a, a < N → ∀ b, b < N → a ≠ b → (T a).2.1 ≠ (T b).2.1)
/-- what is known of a field's entry in a class's pool: field k of class ci, of kind fv -/
def hw_LF (own : String) (idx : Nat) (Cn : String) (T : u_T) (N ci k fv : Nat) : Prop := k < N ∧ hw_fk ci k = fv ∧ Cond.fieldLink own idx Cn (T k).2.1 (T k).2.2.1 ∈ hw_all ∧ (T k).1 = Cn
theorem hw_getV {Cn : String} {T : u_T} {N ci k fv idx t : Nat} {ty : Nat → FieldType} (C : hw_Ok G cc own nL d ret TL) (cf : hw_CF ci Cn T N ty) (lf : hw_LF own idx Cn T N ci k fv) (hT : hw_T TL t ci) (dg : decode cc pc = .ok (.getfield idx, 3)) (hv1 : (hw_fv (hw_ea (hw_gE G)) ci t (σ t) k).category = 1)
    (kk : hw_K G nL rr X (pc + 3) lv (hw_fv (hw_ea (hw_gE G)) ci t (σ t) k :: st) σ) : hw_K G nL rr X pc lv (hw_rv (hw_ea (hw_gE G)) t :: st) σ := by
  intro r σ' hX hc H locs ls hP hS hl
  obtain ⟨hx, hb, -, hown, hts, hK, -, -, -, -, -, -, hTL⟩ := C
  obtain ⟨i, hi⟩ := hw_tag hT
  rw [← hTL] at hi
  rw [hw_rv_ref (hT.ne (Nat.lt_trans cf.2.2.1 (by decide)))]
  have he := hw_ws_at (cA := hw_eC (hw_gE G)) (ad := hw_ea (hw_gE G)) (σ := σ) hi
  rw [hw_re_o hT.2 cf.2.2.1] at he
  exact va_get hx hb hts cf.2.2.2.1 hown hK hP i he cf.1 k lf.1 (hts _ lf.2.2.1) (by rw [lf.2.2.2]; exact fun _ h => h) (hw_fs_at (by rw [cf.2.1]; exact lf.1)) dg (kk r σ' hX (hw_c1v (hw_c1t hc) hv1) H locs ls hP hS hl)
theorem hw_getI {Cn : String} {T : u_T} {N ci k idx t : Nat} {ty : Nat → FieldType} (C : hw_Ok G cc own nL d ret TL) (cf : hw_CF ci Cn T N ty) (lf : hw_LF own idx Cn T N ci k 0) (hT : hw_T TL t ci) (dg : decode cc pc = .ok (.getfield idx, 3))
    (kk : hw_K G nL rr X (pc + 3) lv (.int (σ t k) :: st) σ) : hw_K G nL rr X pc lv (hw_rv (hw_ea (hw_gE G)) t :: st) σ := by
  have e : hw_fv (hw_ea (hw_gE G)) ci t (σ t) k = .int (σ t k) := by unfold hw_fv; rw [if_pos lf.2.1]
  exact hw_getV C cf lf hT dg (by rw [e]; rfl) (by rw [e]; exact kk)
theorem hw_getR {Cn : String} {T : u_T} {N ci k idx t t2 : Nat} {ty : Nat → FieldType} (C : hw_Ok G cc own nL d ret TL) (cf : hw_CF ci Cn T N ty) (lf : hw_LF own idx Cn T N ci k 1) (hT : hw_T TL t ci) (ht : hw_fl t k = t2) (dg : decode cc pc = .ok (.getfield idx, 3))
    (kk : hw_K G nL rr X (pc + 3) lv (hw_rv (hw_ea (hw_gE G)) t2 :: st) σ) : hw_K G nL rr X pc lv (hw_rv (hw_ea (hw_gE G)) t :: st) σ := by
  have e : hw_fv (hw_ea (hw_gE G)) ci t (σ t) k = hw_rv (hw_ea (hw_gE G)) t2 := by unfold hw_fv; rw [if_neg (by rw [lf.2.1]; decide), if_pos lf.2.1, ht]
  exact hw_getV C cf lf hT dg (by rw [e]; exact hw_rv_cat _ _) (by rw [e]; exact kk)
theorem hw_getM {Cn : String} {T : u_T} {N ci k idx t : Nat} {ty : Nat → FieldType} (C : hw_Ok G cc own nL d ret TL) (cf : hw_CF ci Cn T N ty) (lf : hw_LF own idx Cn T N ci k 2) (hT : hw_T TL t ci) (dg : decode cc pc = .ok (.getfield idx, 3))
    (kk : hw_K G nL rr X (pc + 3) lv (hw_rv (hw_ea (hw_gE G)) (σ t k).toNatClampNeg :: st) σ) : hw_K G nL rr X pc lv (hw_rv (hw_ea (hw_gE G)) t :: st) σ := by
  have e : hw_fv (hw_ea (hw_gE G)) ci t (σ t) k = hw_rv (hw_ea (hw_gE G)) (σ t k).toNatClampNeg := by unfold hw_fv; rw [if_neg (by rw [lf.2.1]; decide), if_neg (by rw [lf.2.1]; decide)]
  exact hw_getV C cf lf hT dg (by rw [e]; exact hw_rv_cat _ _) (by rw [e]; exact kk)
theorem hw_putV {Cn : String} {T : u_T} {N ci k fv idx t : Nat} {ty : Nat → FieldType} {f : hw_St → Option (α × hw_St)} {x : Int32} {v : Value} (C : hw_Ok G cc own nL d ret TL) (cf : hw_CF ci Cn T N ty) (lf : hw_LF own idx Cn T N ci k fv) (hT : hw_T TL t ci) (hfin : (T k).2.2.2 = false) (hv : hw_fv (hw_ea (hw_gE G)) ci t (upd (σ t) k x) k = v) (hn : narrow (ty k) v = v) (hfit : fits (ty k) v = true) (dg : decode cc pc = .ok (.putfield idx, 3))
    (kk : ∀ σ1 : hw_St, hw_K G nL rr (f σ1) (pc + 3) lv st σ1) : hw_K G nL rr (hw_nm (hw_up σ t k x) f) pc lv (v :: hw_rv (hw_ea (hw_gE G)) t :: st) σ := by
  intro r σ' hX hc H locs ls hP hS hl
  obtain ⟨hx, hb, -, hown, hts, hK, hAp, -, -, -, -, -, hTL⟩ := C
  obtain ⟨i, hi⟩ := hw_tag hT
  rw [← hTL] at hi
  rw [hw_rv_ref (hT.ne (Nat.lt_trans cf.2.2.1 (by decide)))]
  have he := hw_ws_at (cA := hw_eC (hw_gE G)) (ad := hw_ea (hw_gE G)) (σ := σ) hi
  rw [hw_re_o hT.2 cf.2.2.1] at he
  have hk : k < hw_nf ci := by rw [cf.2.1]; exact lf.1
  refine va_put hx hb hts cf.2.2.2.1 ty cf.2.2.2.2.1 cf.2.2.2.2.2 hown hK hP (hw_D hAp σ) hS i he cf.1 k lf.1 (hts _ lf.2.2.1) (by rw [lf.2.2.2]; exact fun _ h => h) hfin (cf.2.2.2.2.1 k lf.1) hn hfit (by rw [hw_fs_len]; exact hk) dg (fun H1 locs1 hP1 _ hS1 => ?_)
  rw [hw_fs_set hk hv, ← hw_re_o (cA := hw_eC (hw_gE G)) hT.2 cf.2.2.1, hw_ws_set hAp hi] at hP1
  exact kk (hw_up σ t k x) r σ' hX (hw_c1t (hw_c1t hc)) H1 locs1 ls hP1 hS1 hl
theorem hw_putI {Cn : String} {T : u_T} {N ci k idx t : Nat} {ty : Nat → FieldType} {f : hw_St → Option (α × hw_St)} {x : Int32} (C : hw_Ok G cc own nL d ret TL) (cf : hw_CF ci Cn T N ty) (lf : hw_LF own idx Cn T N ci k 0) (hT : hw_T TL t ci) (hfin : (T k).2.2.2 = false) (hty : ty k = .int) (dg : decode cc pc = .ok (.putfield idx, 3))
    (kk : ∀ σ1 : hw_St, hw_K G nL rr (f σ1) (pc + 3) lv st σ1) : hw_K G nL rr (hw_nm (hw_up σ t k x) f) pc lv (.int x :: hw_rv (hw_ea (hw_gE G)) t :: st) σ := by
  have e : hw_fv (hw_ea (hw_gE G)) ci t (upd (σ t) k x) k = .int x := by unfold hw_fv; rw [if_pos lf.2.1]; simp [upd]
  exact hw_putV C cf lf hT hfin e (by rw [hty]; rfl) (by rw [hty]; rfl) dg kk
theorem hw_putZ {Cn : String} {T : u_T} {N ci k idx t : Nat} {ty : Nat → FieldType} {f : hw_St → Option (α × hw_St)} {x : Int32} (C : hw_Ok G cc own nL d ret TL) (cf : hw_CF ci Cn T N ty) (lf : hw_LF own idx Cn T N ci k 0) (hT : hw_T TL t ci) (hfin : (T k).2.2.2 = false) (hty : ty k = .boolean) (dg : decode cc pc = .ok (.putfield idx, 3))
    (kk : ∀ σ1 : hw_St, hw_K G nL rr (f σ1) (pc + 3) lv st σ1) : hw_K G nL rr (hw_gd (hw_isb x) (hw_nm (hw_up σ t k x) f)) pc lv (.int x :: hw_rv (hw_ea (hw_gE G)) t :: st) σ := by
  refine hw_gdK (fun h => ?_)
  have e : hw_fv (hw_ea (hw_gE G)) ci t (upd (σ t) k x) k = .int x := by unfold hw_fv; rw [if_pos lf.2.1]; simp [upd]
  exact hw_putV C cf lf hT hfin e (by rw [hty]; exact (hw_isb_n h).1) (by rw [hty]; exact (hw_isb_n h).2) dg kk
/-- a reference is put: its tag is kept as a number -/
theorem hw_putM {Cn : String} {T : u_T} {N ci k idx t u : Nat} {ty : Nat → FieldType} {f : hw_St → Option (α × hw_St)} (C : hw_Ok G cc own nL d ret TL) (cf : hw_CF ci Cn T N ty) (lf : hw_LF own idx Cn T N ci k 2) (hT : hw_T TL t ci) (hfin : (T k).2.2.2 = false) (hu : u < 999) (hn : ∀ a : Nat, narrow (ty k) (.ref a) = .ref a) (hf : ∀ a : Nat, fits (ty k) (.ref a) = true) (dg : decode cc pc = .ok (.putfield idx, 3))
    (kk : ∀ σ1 : hw_St, hw_K G nL rr (f σ1) (pc + 3) lv st σ1) : hw_K G nL rr (hw_nm (hw_up σ t k (nI u)) f) pc lv (hw_rv (hw_ea (hw_gE G)) u :: hw_rv (hw_ea (hw_gE G)) t :: st) σ := by
  have hr : hw_rv (hw_ea (hw_gE G)) u = .ref (hw_ea (hw_gE G) u) := hw_rv_ref (by omega)
  have e : hw_fv (hw_ea (hw_gE G)) ci t (upd (σ t) k (nI u)) k = hw_rv (hw_ea (hw_gE G)) u := by
    unfold hw_fv; rw [if_neg (by rw [lf.2.1]; decide), if_neg (by rw [lf.2.1]; decide)]
    rw [pk_us, nI_clamp (by omega)]
  exact hw_putV C cf lf hT hfin e (by rw [hr]; exact hn _) (by rw [hr]; exact hf _) dg kk
/-! rows -/
theorem hw_at_i {c t : Nat} (C : hw_Ok G cc own nL d ret TL) (hT : hw_T TL t c) (h1 : ¬ c < 10) (h2 : c < 20) (σ : hw_St) : ∃ i : Nat, (hw_eT (hw_gE G))[i]? = some t ∧ (hw_ws (hw_eT (hw_gE G)) (hw_eC (hw_gE G)) (hw_ea (hw_gE G)) σ)[i]? = some (hw_ea (hw_gE G) t, (.inl (hw_eC (hw_gE G) c, hw_ln t, .inl (σ t)) : va_E)) := by
  obtain ⟨-, -, -, -, -, -, -, -, -, -, -, -, hTL⟩ := C
  obtain ⟨i, hi⟩ := hw_tag hT
  rw [← hTL] at hi
  have he := hw_ws_at (cA := hw_eC (hw_gE G)) (ad := hw_ea (hw_gE G)) (σ := σ) hi
  rw [hw_re_i hT.2 h1 h2] at he
  exact ⟨i, hi, he⟩
theorem hw_iald {t n : Nat} {i : Int32} (C : hw_Ok G cc own nL d ret TL) (hT : hw_T TL t 10) (hln : hw_ln t = n) (dg : decode cc pc = .ok (.iaload, 1)) (kk : hw_inb i n = true → hw_K G nL rr X (pc + 1) lv (.int (σ t i.toNatClampNeg) :: st) σ) : hw_K G nL rr (hw_gd (hw_inb i n) X) pc lv (.int i :: hw_rv (hw_ea (hw_gE G)) t :: st) σ := by
  subst hln
  refine hw_gdK (fun h => ?_)
  intro r σ' hX hc H locs ls hP hS hl
  obtain ⟨j, hj, he⟩ := hw_at_i C hT (by decide) (by decide) σ
  rw [hw_rv_ref (hT.ne (by decide))]
  exact va_iald C.1 C.2.1 C.2.2.2.2.2.1 hP j 0 he rfl (hw_inb_in h) dg (kk h r σ' hX (hw_c1i (hw_c1t (hw_c1t hc))) H locs ls hP hS hl)
theorem hw_bald {t n : Nat} {i : Int32} (C : hw_Ok G cc own nL d ret TL) (hT : hw_T TL t 11) (hln : hw_ln t = n) (dg : decode cc pc = .ok (.baload, 1)) (kk : hw_inb i n = true → hw_K G nL rr X (pc + 1) lv (.int (σ t i.toNatClampNeg) :: st) σ) : hw_K G nL rr (hw_gd (hw_inb i n) X) pc lv (.int i :: hw_rv (hw_ea (hw_gE G)) t :: st) σ := by
  subst hln
  refine hw_gdK (fun h => ?_)
  intro r σ' hX hc H locs ls hP hS hl
  obtain ⟨j, hj, he⟩ := hw_at_i C hT (by decide) (by decide) σ
  rw [hw_rv_ref (hT.ne (by decide))]
  exact va_bald C.1 C.2.1 C.2.2.2.2.2.1 hP j 1 he rfl (hw_inb_in h) dg (kk h r σ' hX (hw_c1i (hw_c1t (hw_c1t hc))) H locs ls hP hS hl)
theorem hw_cald {t n : Nat} {i : Int32} (C : hw_Ok G cc own nL d ret TL) (hT : hw_T TL t 12) (hln : hw_ln t = n) (dg : decode cc pc = .ok (.caload, 1)) (kk : hw_inb i n = true → hw_K G nL rr X (pc + 1) lv (.int (σ t i.toNatClampNeg) :: st) σ) : hw_K G nL rr (hw_gd (hw_inb i n) X) pc lv (.int i :: hw_rv (hw_ea (hw_gE G)) t :: st) σ := by
  subst hln
  refine hw_gdK (fun h => ?_)
  intro r σ' hX hc H locs ls hP hS hl
  obtain ⟨j, hj, he⟩ := hw_at_i C hT (by decide) (by decide) σ
  rw [hw_rv_ref (hT.ne (by decide))]
  exact va_cald C.1 C.2.1 C.2.2.2.2.2.1 hP j 2 he rfl (hw_inb_in h) dg (kk h r σ' hX (hw_c1i (hw_c1t (hw_c1t hc))) H locs ls hP hS hl)
theorem hw_zald {t n : Nat} {i : Int32} (C : hw_Ok G cc own nL d ret TL) (hT : hw_T TL t 13) (hln : hw_ln t = n) (dg : decode cc pc = .ok (.baload, 1)) (kk : hw_inb i n = true → hw_K G nL rr X (pc + 1) lv (.int (σ t i.toNatClampNeg) :: st) σ) : hw_K G nL rr (hw_gd (hw_inb i n) X) pc lv (.int i :: hw_rv (hw_ea (hw_gE G)) t :: st) σ := by
  subst hln
  refine hw_gdK (fun h => ?_)
  intro r σ' hX hc H locs ls hP hS hl
  obtain ⟨j, hj, he⟩ := hw_at_i C hT (by decide) (by decide) σ
  rw [hw_rv_ref (hT.ne (by decide))]
  exact va_zald C.1 C.2.1 C.2.2.2.2.2.1 hP j 3 he rfl (hw_inb_in h) dg (kk h r σ' hX (hw_c1i (hw_c1t (hw_c1t hc))) H locs ls hP hS hl)
theorem hw_iast {t n : Nat} {i x : Int32} {f : hw_St → Option (α × hw_St)} (C : hw_Ok G cc own nL d ret TL) (hT : hw_T TL t 10) (hln : hw_ln t = n) (dg : decode cc pc = .ok (.iastore, 1)) (kk : hw_inb i n = true → ∀ σ1 : hw_St, hw_K G nL rr (f σ1) (pc + 1) lv st σ1) : hw_K G nL rr (hw_gd (hw_inb i n) (hw_nm (hw_up σ t i.toNatClampNeg x) f)) pc lv (.int x :: .int i :: hw_rv (hw_ea (hw_gE G)) t :: st) σ := by
  subst hln
  refine hw_gdK (fun h => ?_)
  intro r σ' hX hc H locs ls hP hS hl
  obtain ⟨j, hj, he⟩ := hw_at_i C hT (by decide) (by decide) σ
  have hAp := C.2.2.2.2.2.2.1
  rw [hw_rv_ref (hT.ne (by decide))]
  refine va_iast C.1 C.2.1 C.2.2.2.2.2.1 hP (hw_D hAp σ) hS j 0 he rfl (hw_inb_in h) dg (fun H1 locs1 hP1 _ hS1 => ?_)
  rw [← hw_re_i (cA := hw_eC (hw_gE G)) (ad := hw_ea (hw_gE G)) hT.2 (by decide) (by decide), hw_ws_set hAp hj] at hP1
  exact kk h (hw_up σ t i.toNatClampNeg x) r σ' hX (hw_c1t (hw_c1t (hw_c1t hc))) H1 locs1 ls hP1 hS1 hl
theorem hw_bast {t n : Nat} {i x : Int32} {f : hw_St → Option (α × hw_St)} (C : hw_Ok G cc own nL d ret TL) (hT : hw_T TL t 11) (hln : hw_ln t = n) (dg : decode cc pc = .ok (.bastore, 1)) (kk : hw_inb i n = true → ∀ σ1 : hw_St, hw_K G nL rr (f σ1) (pc + 1) lv st σ1) : hw_K G nL rr (hw_gd (hw_inb i n) (hw_nm (hw_up σ t i.toNatClampNeg x.toInt8.toInt32) f)) pc lv (.int x :: .int i :: hw_rv (hw_ea (hw_gE G)) t :: st) σ := by
  subst hln
  refine hw_gdK (fun h => ?_)
  intro r σ' hX hc H locs ls hP hS hl
  obtain ⟨j, hj, he⟩ := hw_at_i C hT (by decide) (by decide) σ
  have hAp := C.2.2.2.2.2.2.1
  rw [hw_rv_ref (hT.ne (by decide))]
  refine va_bast C.1 C.2.1 C.2.2.2.2.2.1 hP (hw_D hAp σ) hS j 1 he rfl (hw_inb_in h) dg (fun H1 locs1 hP1 _ hS1 => ?_)
  rw [vp_nar_byte, ← hw_re_i (cA := hw_eC (hw_gE G)) (ad := hw_ea (hw_gE G)) hT.2 (by decide) (by decide), hw_ws_set hAp hj] at hP1
  exact kk h (hw_up σ t i.toNatClampNeg x.toInt8.toInt32) r σ' hX (hw_c1t (hw_c1t (hw_c1t hc))) H1 locs1 ls hP1 hS1 hl
theorem hw_zast {t n : Nat} {i x : Int32} {f : hw_St → Option (α × hw_St)} (C : hw_Ok G cc own nL d ret TL) (hT : hw_T TL t 13) (hln : hw_ln t = n) (dg : decode cc pc = .ok (.bastore, 1)) (kk : hw_inb i n = true → ∀ σ1 : hw_St, hw_K G nL rr (f σ1) (pc + 1) lv st σ1) : hw_K G nL rr (hw_gd (hw_inb i n) (hw_nm (hw_up σ t i.toNatClampNeg (vp_nar .boolean x)) f)) pc lv (.int x :: .int i :: hw_rv (hw_ea (hw_gE G)) t :: st) σ := by
  subst hln
  refine hw_gdK (fun h => ?_)
  intro r σ' hX hc H locs ls hP hS hl
  obtain ⟨j, hj, he⟩ := hw_at_i C hT (by decide) (by decide) σ
  have hAp := C.2.2.2.2.2.2.1
  rw [hw_rv_ref (hT.ne (by decide))]
  refine va_zast C.1 C.2.1 C.2.2.2.2.2.1 hP (hw_D hAp σ) hS j 3 he rfl (hw_inb_in h) dg (fun H1 locs1 hP1 _ hS1 => ?_)
  rw [← hw_re_i (cA := hw_eC (hw_gE G)) (ad := hw_ea (hw_gE G)) hT.2 (by decide) (by decide), hw_ws_set hAp hj] at hP1
  exact kk h (hw_up σ t i.toNatClampNeg (vp_nar .boolean x)) r σ' hX (hw_c1t (hw_c1t (hw_c1t hc))) H1 locs1 ls hP1 hS1 hl
/-- a row of cells: kind c in 20 .. 23, of the cells' kind e -/
theorem hw_aald {t c t0 : Nat} {Cn : String} {i : Int32} (C : hw_Ok G cc own nL d ret TL) (hT : hw_T TL t c) (hc0 : ¬ c < 10 ∧ ¬ c < 20 ∧ c < 90) (ht0 : ∀ cA, (hw_ty cA)[t0]? = some (cA c, .object Cn)) (dg : decode cc pc = .ok (.aaload, 1)) (hne : hw_el t i.toNatClampNeg ≠ 999) (hin : hw_inb i (hw_ln t) = true) (kk : hw_K G nL rr X (pc + 1) lv (hw_rv (hw_ea (hw_gE G)) (hw_el t i.toNatClampNeg) :: st) σ) : hw_K G nL rr X pc lv (.int i :: hw_rv (hw_ea (hw_gE G)) t :: st) σ := by
  intro r σ' hX hc H locs ls hP hS hl
  have hTL := C.2.2.2.2.2.2.2.2.2.2.2.2
  obtain ⟨j, hj⟩ := hw_tag hT
  rw [← hTL] at hj
  have he := hw_ws_at (cA := hw_eC (hw_gE G)) (ad := hw_ea (hw_gE G)) (σ := σ) hj
  rw [hw_re_q hT.2 hc0.1 hc0.2.1] at he
  rw [hw_rv_ref (hT.ne hc0.2.2)]
  refine va_aldq C.1 C.2.1 C.2.2.2.2.2.1 hP j t0 he (ht0 _) (hw_inb_in hin) dg ?_
  have k2 := kk r σ' hX (hw_c1r (hw_c1t (hw_c1t hc))) H locs ls hP hS hl
  rw [hw_rv_ref hne] at k2
  exact k2
theorem hw_aaldH {t c t0 e n : Nat} {Cn : String} {i : Int32} (C : hw_Ok G cc own nL d ret TL) (hT : hw_T TL t c) (hc0 : ¬ c < 10 ∧ ¬ c < 20 ∧ c < 90) (ht0 : ∀ cA, (hw_ty cA)[t0]? = some (cA c, .object Cn)) (he : e < 90) (hln : hw_ln t = n) (dg : decode cc pc = .ok (.aaload, 1)) (kk : hw_T hw_TH (hw_el t i.toNatClampNeg) e → hw_K G nL rr X (pc + 1) lv (hw_rv (hw_ea (hw_gE G)) (hw_el t i.toNatClampNeg) :: st) σ) : hw_K G nL rr (hw_gd (hw_inb i n) (hw_gd (hw_gH (hw_el t i.toNatClampNeg) e) X)) pc lv (.int i :: hw_rv (hw_ea (hw_gE G)) t :: st) σ := by
  subst hln
  refine hw_gdK (fun h => ?_)
  intro r σ' hX
  unfold hw_gd at hX
  split at hX
  · next h2 => exact hw_aald C hT hc0 ht0 dg ((hw_gH_T h2).ne he) h (kk (hw_gH_T h2)) r σ' hX
  · cases hX
theorem hw_alen {t c n : Nat} {ty : FieldType} (t0 : Nat) (C : hw_Ok G cc own nL d ret TL) (hT : hw_T TL t c) (hc0 : ¬ c < 10 ∧ c < 20) (ht0 : ∀ cA, (hw_ty cA)[t0]? = some (cA c, ty)) (hln : hw_ln t = n) (dg : decode cc pc = .ok (.arraylength, 1)) (kk : hw_K G nL rr X (pc + 1) lv (.int (nI n) :: st) σ) : hw_K G nL rr X pc lv (hw_rv (hw_ea (hw_gE G)) t :: st) σ := by
  subst hln
  intro r σ' hX hc H locs ls hP hS hl
  obtain ⟨j, hj, he⟩ := hw_at_i C hT hc0.1 hc0.2 σ
  rw [hw_rv_ref (hT.ne (by omega))]
  exact va_alen C.1 C.2.1 C.2.2.2.2.2.1 hP j t0 he (ht0 _) rfl dg (kk r σ' hX (hw_c1i (hw_c1t hc)) H locs ls hP hS hl)
/-! Math, arraycopy -/
theorem hw_room {n : Nat} {m : Nat} (C : hw_Ok G cc own nL d ret TL) (h : n + m ≤ 40) : n + m ≤ (hw_gR G).locals ∧ 1 ≤ (hw_gR G).frames := by
  have hR := C.2.2.2.2.2.2.2.2.2.2.2.1
  rw [hR]
  unfold hw_rm
  dsimp only
  omega
theorem hw_mmax {x y : Int32} {idx : Nat} (C : hw_Ok G cc own nL d ret TL) (hl0 : Cond.methodLink own idx Lib.Math.max.name ∈ hw_all) (hw : Cond.static Lib.Math.max.name ∈ hw_all ∧ Cond.initialized "java/lang/Math" ∈ hw_all ∧ Cond.code Lib.Math.max.name Lib.Math.max.code 2 (some .int) ∈ hw_all) (hst : st.length ≤ 8) (dg : decode cc pc = .ok (.invokestatic idx, 3)) (kk : hw_K G nL rr X (pc + 3) lv (.int (hw_max x y) :: st) σ) : hw_K G nL rr X pc lv (.int y :: .int x :: st) σ := by
  intro r σ' hX hc H locs ls hP hS hl
  have hts := C.2.2.2.2.1
  have hr := hw_room (n := (st.map fun v => v.category).sum) (m := 13) C (by rw [hw_sum (hw_c1t (hw_c1t hc)).2]; omega)
  exact va_mmax C.1 C.2.1 (C.2.2.1.trans hl.1.symm) C.2.2.2.1 (hts _ hl0) (hts _ hw.1) (hts _ hw.2.1) (hts _ hw.2.2) hr.2 hr.1 (Nat.zero_le _) (Nat.zero_le _) dg (kk r σ' hX (hw_c1i (hw_c1t (hw_c1t hc))) H locs ls hP hS hl)
theorem hw_mmin {x y : Int32} {idx : Nat} (C : hw_Ok G cc own nL d ret TL) (hl0 : Cond.methodLink own idx Lib.Math.min.name ∈ hw_all) (hw : Cond.static Lib.Math.min.name ∈ hw_all ∧ Cond.initialized "java/lang/Math" ∈ hw_all ∧ Cond.code Lib.Math.min.name Lib.Math.min.code 2 (some .int) ∈ hw_all) (hst : st.length ≤ 8) (dg : decode cc pc = .ok (.invokestatic idx, 3)) (kk : hw_K G nL rr X (pc + 3) lv (.int (hw_min x y) :: st) σ) : hw_K G nL rr X pc lv (.int y :: .int x :: st) σ := by
  intro r σ' hX hc H locs ls hP hS hl
  have hts := C.2.2.2.2.1
  have hr := hw_room (n := (st.map fun v => v.category).sum) (m := 13) C (by rw [hw_sum (hw_c1t (hw_c1t hc)).2]; omega)
  exact va_mmin C.1 C.2.1 (C.2.2.1.trans hl.1.symm) C.2.2.2.1 (hts _ hl0) (hts _ hw.1) (hts _ hw.2.1) (hts _ hw.2.2) hr.2 hr.1 (Nat.zero_le _) (Nat.zero_le _) dg (kk r σ' hX (hw_c1i (hw_c1t (hw_c1t hc))) H locs ls hP hS hl)
theorem hw_mabs {x : Int32} {idx : Nat} (C : hw_Ok G cc own nL d ret TL) (hl0 : Cond.methodLink own idx Lib.Math.abs.name ∈ hw_all) (hw : Cond.static Lib.Math.abs.name ∈ hw_all ∧ Cond.initialized "java/lang/Math" ∈ hw_all ∧ Cond.code Lib.Math.abs.name Lib.Math.abs.code 1 (some .int) ∈ hw_all) (hst : st.length ≤ 8) (dg : decode cc pc = .ok (.invokestatic idx, 3)) (kk : hw_K G nL rr X (pc + 3) lv (.int (hw_abs x) :: st) σ) : hw_K G nL rr X pc lv (.int x :: st) σ := by
  intro r σ' hX hc H locs ls hP hS hl
  have hts := C.2.2.2.2.1
  have hr := hw_room (n := (st.map fun v => v.category).sum) (m := 13) C (by rw [hw_sum (hw_c1t hc).2]; omega)
  exact va_mabs C.1 C.2.1 (C.2.2.1.trans hl.1.symm) C.2.2.2.1 (hts _ hl0) (hts _ hw.1) (hts _ hw.2.1) (hts _ hw.2.2) hr.2 hr.1 (Nat.zero_le _) (Nat.zero_le _) dg (kk r σ' hX (hw_c1i (hw_c1t hc)) H locs ls hP hS hl)
theorem hw_copy {t0 t1 l0 l1 : Nat} {sp dp n : Int32} {idx : Nat} {f : hw_St → Option (α × hw_St)} (C : hw_Ok G cc own nL d ret TL) (hT0 : hw_T TL t0 10) (hT1 : hw_T TL t1 10) (hn0 : hw_ln t0 = l0) (hn1 : hw_ln t1 = l1) (hl0 : Cond.methodLink own idx arraycopyName ∈ hw_all) (hw : Cond.native arraycopyName ∈ hw_all ∧ Cond.static arraycopyName ∈ hw_all ∧ Cond.initialized "java/lang/System" ∈ hw_all) (hst : st.length ≤ 8) (dg : decode cc pc = .ok (.invokestatic idx, 3)) (kk : ∀ σ1 : hw_St, hw_K G nL rr (f σ1) (pc + 3) lv st σ1) :
    hw_K G nL rr (hw_gd (hw_cpo sp dp n l0 l1) (hw_nm (hw_upA σ t1 (va_cpy (σ t0) (σ t1) sp.toNatClampNeg dp.toNatClampNeg n.toNatClampNeg)) f)) pc lv (.int n :: .int dp :: hw_rv (hw_ea (hw_gE G)) t1 :: .int sp :: hw_rv (hw_ea (hw_gE G)) t0 :: st) σ := by
  subst hn0
  subst hn1
  refine hw_gdK (fun h => ?_)
  intro r σ' hX hc H locs ls hP hS hl
  obtain ⟨g1, g2, g3, g4, g5⟩ := of_decide_eq_true h
  obtain ⟨j0, hj0, he0⟩ := hw_at_i C hT0 (by decide) (by decide) σ
  obtain ⟨j1, hj1, he1⟩ := hw_at_i C hT1 (by decide) (by decide) σ
  have hts := C.2.2.2.2.1
  have hAp := C.2.2.2.2.2.2.1
  have hc2 := hw_c1t (hw_c1t (hw_c1t (hw_c1t (hw_c1t hc))))
  have h30 : nativeFrameWords "java/lang/System" "arraycopy" 5 + 11 ≤ 30 := by decide
  have hr := hw_room (n := (st.map fun v => v.category).sum) (m := nativeFrameWords "java/lang/System" "arraycopy" 5 + 11) C (by rw [hw_sum hc2.2]; omega)
  rw [hw_rv_ref (hT0.ne (by decide)), hw_rv_ref (hT1.ne (by decide))]
  refine va_copyi C.1 C.2.1 (C.2.2.1.trans hl.1.symm) C.2.2.2.1 (hts _ hl0) (hts _ hw.1) (hts _ hw.2.1) (hts _ hw.2.2) C.2.2.2.2.2.1 hP (hw_D hAp σ) hS j0 j1 0 0 he0 he1 rfl rfl rfl g1 g2 g3 g4 g5 (fun _ _ => rfl) hr.2 hr.1 dg (fun H1 locs1 hP1 _ hS1 => ?_)
  rw [← hw_re_i (cA := hw_eC (hw_gE G)) (ad := hw_ea (hw_gE G)) hT1.2 (by decide) (by decide), hw_ws_set hAp hj1] at hP1
  exact kk _ r σ' hX hc2 H1 locs1 ls hP1 hS1 hl
/-! the static row KIND_ABOVE -/
theorem hw_gets {idx : Nat} (C : hw_Ok G cc own nL d ret TL) (hl0 : Cond.fieldLink own idx "HumWire" "KIND_ABOVE" "[I" ∈ hw_all) (dg : decode cc pc = .ok (.getstatic idx, 3)) (kk : hw_K G nL rr X (pc + 3) lv (hw_rv (hw_ea (hw_gE G)) 950 :: st) σ) : hw_K G nL rr X pc lv st σ := by
  intro r σ' hX hc H locs ls hP hS hl
  have k2 := kk r σ' hX (hw_c1r hc) H locs ls hP hS hl
  rw [hw_rv_ref (by decide)] at k2
  exact va_gets C.1 C.2.1 C.2.2.2.2.2.2.2.2.1.1 hS C.2.2.2.1 (C.2.2.2.2.1 _ hl0) (fun _ h => h) dg k2
theorem hw_ialdK {i : Int32} (C : hw_Ok G cc own nL d ret TL) (dg : decode cc pc = .ok (.iaload, 1)) (kk : hw_inb i 6 = true → hw_K G nL rr X (pc + 1) lv (.int (hw_ka.getD i.toNatClampNeg 0) :: st) σ) : hw_K G nL rr (hw_gd (hw_inb i 6) X) pc lv (.int i :: hw_rv (hw_ea (hw_gE G)) 950 :: st) σ := by
  refine hw_gdK (fun h => ?_)
  intro r σ' hX hc H locs ls hP hS hl
  rw [hw_rv_ref (by decide)]
  exact va_ti C.1 C.2.1 C.2.2.2.2.2.2.2.2.1.2.1 hS (hw_inb_in h) rfl dg (kk h r σ' hX (hw_c1i (hw_c1t (hw_c1t hc))) H locs ls hP hS hl)
end HWH
