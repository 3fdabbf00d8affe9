/-! making: worlds that grow; K as at the start -/
def hw_V (D : va_G) (A : Nat → Prop) (H0 : Heap) (ws : va_W) (H : Heap) (locs : List Loc) : Prop := va_P D vwCl ws H ∧ va_D A ws ∧ va_S A H0 H locs
def hw_N0 (U : State) : Prop := va_Nw (.methodLinkNest RX6 15 yX5_init RX6) U ∧ va_Nw (.methodLinkNest RX6 49 yX0_init RX6) U ∧ va_Nw (.methodLinkNest RX6 75 yX3_init RX6) U ∧ va_Nw (.methodLinkNest RX6 76 yX4_init RX6) U ∧ va_Nw (.methodLinkNest RX2 54 yX5_init RX6) U ∧ va_Nw (.methodLinkNest RX4 20 yX5_init RX6) U ∧ va_Nw (.methodLinkNest RX4 27 yX3_init RX6) U
theorem hw_N0.warm {s U : State} (hW : s.WarmedH U.vm) (h : hw_N0 s) : hw_N0 U := by
  obtain ⟨h1, h2, h3, h4, h5, h6, h7⟩ := h
  exact ⟨va_Nw.warmM hW h1, va_Nw.warmM hW h2, va_Nw.warmM hW h3, va_Nw.warmM hW h4, va_Nw.warmM hW h5, va_Nw.warmM hW h6, va_Nw.warmM hW h7⟩
theorem hw_N0.same {u U : State} (hv : U.vm = u.vm) (h : hw_N0 u) : hw_N0 U := by
  obtain ⟨h1, h2, h3, h4, h5, h6, h7⟩ := h
  exact ⟨h1.same rfl hv.symm, h2.same rfl hv.symm, h3.same rfl hv.symm, h4.same rfl hv.symm, h5.same rfl hv.symm, h6.same rfl hv.symm, h7.same rfl hv.symm⟩
def hw_AO (U : State) : Prop := va_AO "HumWire$Law" U ∧ va_AO "HumWire$Wire" U ∧ va_AO "HumWire$Sheet" U ∧ va_AO "HumWire$Slot" U
theorem hw_AO.moved {u U : State} (hvm : u.vm.Alike U.vm) (h : hw_AO u) : hw_AO U := ⟨h.1.moved hvm, h.2.1.moved hvm, h.2.2.1.moved hvm, h.2.2.2.moved hvm⟩
def hw_Ic (p : Program) (s : State) (m : MethodId) (args : Array Value) (c : Code) (cc : ByteArray) (own : String) (nL : Nat) (D : va_G) (cA : Nat → ClassId) (A : Nat → Prop) (H0 : Heap) : Prop :=
  p.tables.exec = Jvm.exec ∧ c.code = cc ∧ c.maxLocals = nL ∧ s.vm.findClass own = some m.cls ∧ (∀ w ∈ hw_all, w.before args s = true) ∧ va_K D vwCl (hw_ty cA) s ∧ (∀ q, H0.size ≤ q → A q) ∧ hw_N0 s ∧ hw_AO s
/-- a constructor's contract: from the cells ws it comes to cells that B allows -/
def hw_IM (l : Launch) (D : va_G) (cA : Nat → ClassId) (y : MethodName) (cy : ByteArray) (mL fr lo mc ms : Nat) (av : List Value) (ws : va_W) (B : va_W → Prop) : Prop :=
  ∀ sz : Nat, Met l y (.code y cy mL none :: hw_all) ({ frames := fr, cells := mc, slots := ms, locals := lo } : Room) (va_Pc av (fun U => U.heap.size = sz ∧ va_P D vwCl ws U.heap ∧ va_K D vwCl (hw_ty cA) U ∧ va_D (fun _ => True) ws ∧ hw_N0 U ∧ hw_AO U))
    (va_Qv (fun _ : Unit => True) (fun _ t => ∃ ws', B ws' ∧ va_P D vwCl ws' t.heap ∧ va_D (va_A ws sz) ws') (va_A ws sz)) mc ms (va_A ws sz)
section HWI
variable {p : Program} {l : Launch} {e : Env} {R : Room} {s : State} {m : MethodId} {args : Array Value} {below : List Frame} {meth : Method} {c : Code} {H : Heap} {locs : List Loc} {cells slots : Nat} {Q : State → Prop} {cc : ByteArray} {own : String} {nL : Nat} {pc : Nat} {ls : Array Slot} {rest : List Value} {D : va_G} {cA : Nat → ClassId} {A : Nat → Prop} {H0 : Heap} {ws : va_W}
theorem hw_inew {Cn : String} {T : u_T} {N ci idx : Nat} {ty : Nat → FieldType} (I : hw_Ic p s m args c cc own nL D cA A H0) (V : hw_V D A H0 ws H locs) (cf : hw_CF ci Cn T N ty) (h1 : Cond.classLink own idx Cn ∈ hw_all) (h2 : Cond.instantiable Cn N ∈ hw_all) (h3 : Cond.initialized Cn ∈ hw_all) {fs : List Value} (hfs : ∀ j, j < N → defaultValue (ty j) = vp_V fs j) (hcells : cells + 1 ≤ R.cells) (hslots : slots + N ≤ R.slots) (dg : decode cc pc = .ok (.new idx, 3))
    (kk : ∀ (q : Nat) (H1 : Heap), hw_V D A H0 (ws ++ [(q, .inr (ci, fs))]) H1 locs → W p l e R s m args below meth c H1 locs (cells + 1) (slots + N) Q (F0 m (pc + 3) ls (.ref q :: rest))) : W p l e R s m args below meth c H locs cells slots Q (F0 m pc ls rest) := by
  obtain ⟨hx, hb, -, hown, hts, hK, hA, -⟩ := I
  exact va_new hx hb hts cf.2.2.2.1 ty cf.2.2.2.2.1 hown (hts _ h1) (hts _ h2) (hts _ h3) hK V.1 V.2.1 V.2.2 hA cf.1 hfs hcells hslots dg (fun q H1 a1 a2 a3 => kk q H1 ⟨a1, a2, a3⟩)
theorem hw_cA {U : State} {t0 c0 : Nat} {ty : FieldType} {c1 : ClassId} (hK : va_K D vwCl (hw_ty cA) U) (ht : ∀ cA, (hw_ty cA)[t0]? = some (cA c0, ty)) (h2 : va_RA U c1 ty) : c1 = cA c0 := by
  have h1 := (hK.2 t0 _ (ht cA)).2
  cases ty with
  | object C =>
    obtain ⟨_, _, _, _, _, h4⟩ := h1
    obtain ⟨_, _, _, _, _, h5⟩ := h2
    exact Option.some.inj (h5.symm.trans h4)
  | _ => exact Option.some.inj (h2.symm.trans h1)
theorem hw_Klast {t : List (ClassId × FieldType)} {x : ClassId × FieldType} {U : State} (h : va_K D vwCl (t ++ [x]) U) : va_RA U x.1 x.2 := (h.2 t.length x (by simp)).2
theorem hw_inewa {atype : ArrayType} {n : Int32} {N' c0 : Nat} (t0 : Nat) (ty : FieldType) (I : hw_Ic p s m args c cc own nL D cA A H0) (V : hw_V D A H0 ws H locs) (h1 : Cond.arrayClass (newarray.typeOf atype) ∈ hw_all) (hty : newarray.typeOf atype = ty) (ht : ∀ cA, (hw_ty cA)[t0]? = some (cA c0, ty)) (hd : defaultValue ty = .int 0) (hn : ¬ n < 0) (hN : n.toNatClampNeg = N') (hbytes : N' * componentBytes ty ≤ 536870912) (hcells : cells + 1 ≤ R.cells) (hslots : slots + N' ≤ R.slots) (dg : decode cc pc = .ok (.newarray atype, 2))
    (kk : ∀ (q : Nat) (H1 : Heap), hw_V D A H0 (ws ++ [(q, .inl (cA c0, N', .inl (fun _ => 0)))]) H1 locs → W p l e R s m args below meth c H1 locs (cells + 1) (slots + N') Q (F0 m (pc + 2) ls (.ref q :: rest))) : W p l e R s m args below meth c H locs cells slots Q (F0 m pc ls (.int n :: rest)) := by
  obtain ⟨hx, hb, -, hown, hts, hK, hA, -⟩ := I
  refine va_newa (a0 := (N', .inl (fun _ => 0))) hx hb (hts _ h1) hty hK V.1 V.2.1 V.2.2 hA (fun cA => by rw [vp_cell_i, hd]) hn hN hbytes hcells hslots dg (fun q c1 H1 hK1 a1 a2 a3 => ?_)
  have e1 : c1 = cA c0 := hw_cA hK ht (hw_Klast hK1)
  subst e1
  exact kk q H1 ⟨a1, a2, a3⟩
theorem hw_inewq {Cn : String} {idx : Nat} {n : Int32} {N' c0 : Nat} (t0 : Nat) (I : hw_Ic p s m args c cc own nL D cA A H0) (V : hw_V D A H0 ws H locs) (h1 : Cond.classLink own idx Cn ∈ hw_all) (h2 : va_AO Cn s) (ht : ∀ cA, (hw_ty cA)[t0]? = some (cA c0, .object Cn)) (hn : ¬ n < 0) (hN : n.toNatClampNeg = N') (hbytes : N' * 4 ≤ 536870912) (hcells : cells + 1 ≤ R.cells) (hslots : slots + N' ≤ R.slots) (dg : decode cc pc = .ok (.anewarray idx, 3))
    (kk : ∀ (q : Nat) (H1 : Heap), hw_V D A H0 (ws ++ [(q, .inl (cA c0, N', .inr (.inr (.inr (.inr (fun _ => none))))))]) H1 locs → W p l e R s m args below meth c H1 locs (cells + 1) (slots + N') Q (F0 m (pc + 3) ls (.ref q :: rest))) : W p l e R s m args below meth c H locs cells slots Q (F0 m pc ls (.int n :: rest)) := by
  obtain ⟨hx, hb, -, hown, hts, hK, hA, -, htl⟩ := I
  refine va_newq hx hb hown (hts _ h1) h2 hK V.1 V.2.1 V.2.2 hA hn hN hbytes hcells hslots dg (fun q c1 H1 hK1 a1 a2 a3 => ?_)
  have e1 : c1 = cA c0 := hw_cA hK ht (hw_Klast hK1)
  subst e1
  exact kk q H1 ⟨a1, a2, a3⟩
theorem hw_iputF {Cn : String} {T : u_T} {N ci k fv idx a q0 : Nat} {ty : Nat → FieldType} {fs fs2 : List Value} {ws2 : va_W} {v : Value} (I : hw_Ic p s m args c cc Cn nL D cA A H0) (V : hw_V D A H0 ws H locs) (cf : hw_CF ci Cn T N ty) (lf : hw_LF Cn idx Cn T N ci k fv) (he : ws[q0]? = some (a, .inr (ci, fs))) (hfin : (T k).2.2.2 = true) (hin2 : meth.name = "<init>") (hn : narrow (ty k) v = v) (hfit : fits (ty k) v = true) (hl : k < fs.length) (h2 : fs.set k v = fs2) (h3 : ws.set q0 (a, .inr (ci, fs2)) = ws2) (dg : decode cc pc = .ok (.putfield idx, 3))
    (kk : ∀ (H1 : Heap) (locs1 : List Loc), hw_V D A H0 ws2 H1 locs1 → W p l e R s m args below meth c H1 locs1 cells slots Q (F0 m (pc + 3) ls rest)) : W p l e R s m args below meth c H locs cells slots Q (F0 m pc ls (v :: .ref a :: rest)) := by
  obtain ⟨hx, hb, -, hown, hts, hK, hA, -⟩ := I
  subst h3; subst h2
  exact va_putF hx hb hts cf.2.2.2.1 ty cf.2.2.2.2.1 cf.2.2.2.2.2 hown hK V.1 V.2.1 V.2.2 q0 he cf.1 k lf.1 (hts _ lf.2.2.1) (by rw [lf.2.2.2]; exact fun _ h => h) hfin hin2 lf.2.2.2 (cf.2.2.2.2.1 k lf.1) hn hfit hl dg (fun H1 locs1 a1 a2 a3 => kk H1 locs1 ⟨a1, a2, a3⟩)
theorem hw_iput {Cn : String} {T : u_T} {N ci k fv idx a q0 : Nat} {ty : Nat → FieldType} {fs fs2 : List Value} {ws2 : va_W} {v : Value} (I : hw_Ic p s m args c cc own nL D cA A H0) (V : hw_V D A H0 ws H locs) (cf : hw_CF ci Cn T N ty) (lf : hw_LF own idx Cn T N ci k fv) (he : ws[q0]? = some (a, .inr (ci, fs))) (hfin : (T k).2.2.2 = false) (hn : narrow (ty k) v = v) (hfit : fits (ty k) v = true) (hl : k < fs.length) (h2 : fs.set k v = fs2) (h3 : ws.set q0 (a, .inr (ci, fs2)) = ws2) (dg : decode cc pc = .ok (.putfield idx, 3))
    (kk : ∀ (H1 : Heap) (locs1 : List Loc), hw_V D A H0 ws2 H1 locs1 → W p l e R s m args below meth c H1 locs1 cells slots Q (F0 m (pc + 3) ls rest)) : W p l e R s m args below meth c H locs cells slots Q (F0 m pc ls (v :: .ref a :: rest)) := by
  obtain ⟨hx, hb, -, hown, hts, hK, hA, -⟩ := I
  subst h3; subst h2
  exact va_put hx hb hts cf.2.2.2.1 ty cf.2.2.2.2.1 cf.2.2.2.2.2 hown hK V.1 V.2.1 V.2.2 q0 he cf.1 k lf.1 (hts _ lf.2.2.1) (by rw [lf.2.2.2]; exact fun _ h => h) hfin (cf.2.2.2.2.1 k lf.1) hn hfit hl dg (fun H1 locs1 a1 a2 a3 => kk H1 locs1 ⟨a1, a2, a3⟩)
theorem hw_iget {Cn : String} {T : u_T} {N ci k fv idx a q0 : Nat} {ty : Nat → FieldType} {fs : List Value} {v : Value} (I : hw_Ic p s m args c cc own nL D cA A H0) (V : hw_V D A H0 ws H locs) (cf : hw_CF ci Cn T N ty) (lf : hw_LF own idx Cn T N ci k fv) (he : ws[q0]? = some (a, .inr (ci, fs))) (hv : fs[k]? = some v) (dg : decode cc pc = .ok (.getfield idx, 3))
    (kk : W p l e R s m args below meth c H locs cells slots Q (F0 m (pc + 3) ls (v :: rest))) : W p l e R s m args below meth c H locs cells slots Q (F0 m pc ls (.ref a :: rest)) := by
  obtain ⟨hx, hb, -, hown, hts, hK, hA, -⟩ := I
  exact va_get hx hb hts cf.2.2.2.1 hown hK V.1 q0 he cf.1 k lf.1 (hts _ lf.2.2.1) (by rw [lf.2.2.2]; exact fun _ h => h) hv dg kk
theorem hw_i_iast {a q0 n j : Nat} {i x : Int32} {f : Nat → Int32} {ws2 : va_W} (I : hw_Ic p s m args c cc own nL D cA A H0) (V : hw_V D A H0 ws H locs) (he : ws[q0]? = some (a, .inl (cA 10, n, .inl f))) (hin : vp_in i n) (hj : i.toNatClampNeg = j) (h3 : ws.set q0 (a, .inl (cA 10, n, .inl (upd f j x))) = ws2) (dg : decode cc pc = .ok (.iastore, 1))
    (kk : ∀ (H1 : Heap) (locs1 : List Loc), hw_V D A H0 ws2 H1 locs1 → W p l e R s m args below meth c H1 locs1 cells slots Q (F0 m (pc + 1) ls rest)) : W p l e R s m args below meth c H locs cells slots Q (F0 m pc ls (.int x :: .int i :: .ref a :: rest)) := by
  obtain ⟨hx, hb, -, hown, hts, hK, hA, -⟩ := I
  subst h3; subst hj
  exact va_iast hx hb hK V.1 V.2.1 V.2.2 q0 0 he rfl hin dg (fun H1 locs1 a1 a2 a3 => kk H1 locs1 ⟨a1, a2, a3⟩)
theorem hw_i_cast {a q0 n j : Nat} {i x y : Int32} {f : Nat → Int32} {ws2 : va_W} (I : hw_Ic p s m args c cc own nL D cA A H0) (V : hw_V D A H0 ws H locs) (he : ws[q0]? = some (a, .inl (cA 12, n, .inl f))) (hin : vp_in i n) (hj : i.toNatClampNeg = j) (hy : vp_nar .char x = y) (h3 : ws.set q0 (a, .inl (cA 12, n, .inl (upd f j y))) = ws2) (dg : decode cc pc = .ok (.castore, 1))
    (kk : ∀ (H1 : Heap) (locs1 : List Loc), hw_V D A H0 ws2 H1 locs1 → W p l e R s m args below meth c H1 locs1 cells slots Q (F0 m (pc + 1) ls rest)) : W p l e R s m args below meth c H locs cells slots Q (F0 m pc ls (.int x :: .int i :: .ref a :: rest)) := by
  obtain ⟨hx, hb, -, hown, hts, hK, hA, -⟩ := I
  subst h3; subst hj; subst hy
  exact va_cast hx hb hK V.1 V.2.1 V.2.2 q0 2 he rfl hin dg (fun H1 locs1 a1 a2 a3 => kk H1 locs1 ⟨a1, a2, a3⟩)
theorem hw_i_aast {Cn : String} {T : u_T} {N ci a v q0 qk n j c0 : Nat} {ty : Nat → FieldType} {i : Int32} {vs : List Value} {f : Nat → Option Nat} {ws2 : va_W} (t0 : Nat) (I : hw_Ic p s m args c cc own nL D cA A H0) (V : hw_V D A H0 ws H locs) (cf : hw_CF ci Cn T N ty) (ht : ∀ cA, (hw_ty cA)[t0]? = some (cA c0, .object Cn)) (he : ws[q0]? = some (a, .inl (cA c0, n, .inr (.inr (.inr (.inr f)))))) (hv : ws[qk]? = some (v, .inr (ci, vs))) (hin : vp_in i n) (hj : i.toNatClampNeg = j) (h3 : ws.set q0 (a, .inl (cA c0, n, .inr (.inr (.inr (.inr (va_up f j (some v))))))) = ws2) (dg : decode cc pc = .ok (.aastore, 1))
    (kk : ∀ (H1 : Heap) (locs1 : List Loc), hw_V D A H0 ws2 H1 locs1 → W p l e R s m args below meth c H1 locs1 cells slots Q (F0 m (pc + 1) ls rest)) : W p l e R s m args below meth c H locs cells slots Q (F0 m pc ls (.ref v :: .int i :: .ref a :: rest)) := by
  obtain ⟨hx, hb, -, hown, hts, hK, hA, -⟩ := I
  subst h3; subst hj
  exact va_astq (r := (Cn, T, N)) hx hb hK V.1 V.2.1 V.2.2 q0 t0 qk ci he (ht cA) hv cf.1 hin dg (fun H1 locs1 a1 a2 a3 => kk H1 locs1 ⟨a1, a2, a3⟩)
theorem hw_i_alen {a q0 c0 t0 : Nat} {x : vp_A} {ty : FieldType} {v : Int32} (I : hw_Ic p s m args c cc own nL D cA A H0) (V : hw_V D A H0 ws H locs) (ht : ∀ cA, (hw_ty cA)[t0]? = some (cA c0, ty)) (he : ws[q0]? = some (a, .inl (cA c0, x))) (hv : Int32.ofNat x.1 = v) (dg : decode cc pc = .ok (.arraylength, 1))
    (kk : W p l e R s m args below meth c H locs cells slots Q (F0 m (pc + 1) ls (.int v :: rest))) : W p l e R s m args below meth c H locs cells slots Q (F0 m pc ls (.ref a :: rest)) := by
  obtain ⟨hx, hb, -, hown, hts, hK, hA, -⟩ := I
  exact va_alen hx hb hK V.1 q0 t0 he (ht cA) hv dg kk
theorem hw_iobj {idx a : Nat} (I : hw_Ic p s m args c cc own nL D cA A H0) (h1 : Cond.methodLink own idx objectInit ∈ hw_all) (h2 : Cond.instanceMethod objectInit ∈ hw_all ∧ Cond.code objectInit ⟨#[0xb1]⟩ 1 none ∈ hw_all) (hl : ls.size = nL) (hr : (rest.map fun v => v.category).sum + 12 ≤ R.locals) (hf : 1 ≤ R.frames) (dg : decode cc pc = .ok (.invokespecial idx, 3))
    (kk : W p l e R s m args below meth c H locs cells slots Q (F0 m (pc + 3) ls rest)) : W p l e R s m args below meth c H locs cells slots Q (F0 m pc ls (.ref a :: rest)) := by
  obtain ⟨hx, hb, hml, hown, hts, hK, hA, -⟩ := I
  exact W.objInit hx hb hown (hts _ h1) (hts _ h2.1) (hts _ h2.2) rfl (by rw [hml]; exact hl) rfl dg hf (by show 2 * (F0 m pc ls (.ref a :: rest)).monitorRoom + _ + 12 ≤ _; simp [JFrame.monitorRoom]; omega) kk
theorem hw_IM_blind (D : va_G) (cA : Nat → ClassId) (av : List Value) (ws : va_W) (sz : Nat) : FrameBlind (va_Pc av (fun U => U.heap.size = sz ∧ va_P D vwCl ws U.heap ∧ va_K D vwCl (hw_ty cA) U ∧ va_D (fun _ => True) ws ∧ hw_N0 U ∧ hw_AO U)) := by
  intro a U g mk h
  obtain ⟨h1, h2, hP, hK, hD, hN, ht⟩ := h
  exact ⟨h1, h2, hP, va_K.moved (u := U) (U := U.calling g mk a) (Vm.Alike.refl U.vm) hK, hD, hN.same rfl, ht.moved (U := U.calling g mk a) (Vm.Alike.refl U.vm)⟩
end HWI
