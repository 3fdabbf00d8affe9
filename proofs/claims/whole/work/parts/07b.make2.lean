theorem hw_fm {α : Type} {is : List Nat} {w : List α} {f : Nat → Option α} (h : is.map f = w.map some) : is.filterMap f = w := by
  have e : is.filterMap f = (is.map f).filterMap id := by rw [List.filterMap_map]; rfl
  rw [e, h, List.filterMap_map]
  exact List.filterMap_some
section HWJ
variable {p : Program} {l : Launch} {e : Env} {R : Room} {s : State} {m : MethodId} {args : Array Value} {below : List Frame} {meth : Method} {c : Code} {H : Heap} {locs : List Loc} {cells slots : Nat} {Q : State → Prop} {cc : ByteArray} {own : String} {nL : Nat} {pc : Nat} {ls : Array Slot} {rest : List Value} {D : va_G} {cA : Nat → ClassId} {A : Nat → Prop} {H0 : Heap} {ws : va_W}
theorem hw_ipre {av : List Value} {wc : va_W} (I : hw_Ic p s m args c cc own nL D cA A H0) (hPc : va_P D vwCl wc H) (hDc : va_D A wc) : PreS s H (va_Pc av (fun U => U.heap.size = H.size ∧ va_P D vwCl wc U.heap ∧ va_K D vwCl (hw_ty cA) U ∧ va_D (fun _ => True) wc ∧ hw_N0 U ∧ hw_AO U)) av := by
  refine ⟨hw_IM_blind D cA av wc H.size, fun U hU hW => ⟨rfl, by rw [hU], by rw [hU]; exact hPc, va_K.moved hW.alike I.2.2.2.2.2.1, hDc.weaken (fun _ _ _ _ => trivial), I.2.2.2.2.2.2.2.1.warm hW, I.2.2.2.2.2.2.2.2.moved hW.alike⟩⟩
theorem hw_iback {wc wr : va_W} {B : va_W → Prop} {mc ms : Nat} {a : Array Value} {st0 : List Value} (isC isR : List Nat) (V : hw_V D A H0 ws H locs) (hA : ∀ q, H0.size ≤ q → A q) (hC : isC.map (fun i => ws[i]?) = wc.map some) (hR : isR.map (fun i => ws[i]?) = wr.map some) (hnR : va_nd isR = true) (hdis : ∀ i ∈ isR, i ∉ isC)
    (hr : va_Run p l e R s m args below meth c H locs cells slots mc ms (F0 m pc ls st0) rest (va_Qv (fun _ : Unit => True) (fun _ t => ∃ ws', B ws' ∧ va_P D vwCl ws' t.heap ∧ va_D (va_A wc H.size) ws') (va_A wc H.size) a) (va_A wc H.size))
    (kk : ∀ (ws' : va_W) (H1 : Heap) (locs1 : List Loc), B ws' → hw_V D A H0 (wr ++ ws') H1 locs1 → W p l e R s m args below meth c H1 locs1 (cells + mc) (slots + ms) Q (F0 m (pc + 3) ls rest)) : W p l e R s m args below meth c H locs cells slots Q (F0 m pc ls st0) := by
  have hFc := va_free (wc := wc) V.2.1 V.2.2 hA isC hC
  refine va_callv hr V.2.2 (fun q _ h => hFc q h) hFc (fun u t H1 locs1 ht hvm hw hB hz1 hk1 hS => ?_)
  obtain ⟨ws', hB1, hP1, hD1⟩ := hB
  rw [ht] at hP1
  obtain ⟨hP, hD⟩ := va_join (wr := wr) (w1 := ws') V.1 V.2.1 isC isR hC hR hnR hdis hk1 hFc hP1 hD1
  exact kk ws' H1 locs1 hB1 ⟨hP, hD, hS⟩
theorem hw_icallN {y : MethodName} {cy : ByteArray} {mL fr lo mc ms idx n b : Nat} {host : String} {As : List Value} {wc wr : va_W} {B : va_W → Prop} (isC isR : List Nat) (I : hw_Ic p s m args c cc own nL D cA A H0) (V : hw_V D A H0 ws H locs) (hM : hw_IM l D cA y cy mL fr lo mc ms (.ref b :: As) wc B) (hw : hw_MW y cy mL none n) (hin : Cond.instanceMethod y ∈ hw_all) (hname : y.name = "<init>") (hl0 : va_Nw (.methodLinkNest own idx y host) s) (hC : isC.map (fun i => ws[i]?) = wc.map some) (hR : isR.map (fun i => ws[i]?) = wr.map some) (hnC : va_nd isC = true) (hnR : va_nd isR = true) (hdis : ∀ i ∈ isR, i ∉ isC) (hroom : fr + 1 ≤ R.frames ∧ 8 + (mL + 11) + lo ≤ R.locals) (hcs : cells + mc ≤ R.cells ∧ slots + ms ≤ R.slots) (hn : As.length = n ∧ (rest.map fun v => v.category).sum ≤ 8) (hlv : ls.size = nL) (dg : decode cc pc = .ok (.invokespecial idx, 3))
    (kk : ∀ (ws' : va_W) (H1 : Heap) (locs1 : List Loc), B ws' → hw_V D A H0 (wr ++ ws') H1 locs1 → W p l e R s m args below meth c H1 locs1 (cells + mc) (slots + ms) Q (F0 m (pc + 3) ls rest)) : W p l e R s m args below meth c H locs cells slots Q (F0 m pc ls (As.reverse ++ .ref b :: rest)) := by
  have hts := I.2.2.2.2.1
  have hcn : va_CN R s args own idx y host cy mL none (.code y cy mL none :: hw_all) ({ frames := fr, cells := mc, slots := ms, locals := lo } : Room) mc ms n := va_cnB n hts (hw_goodIn hw.1) rfl rfl rfl hl0 (hts _ hw.2.1) hw.2.2.2 hroom
  exact hw_iback isC isR V I.2.2.2.2.2.2.1 hC hR hnR hdis (va_runIN (Ts := hw_all) (As := As) (rest := rest) ⟨I.1, I.2.1, I.2.2.1, I.2.2.2.1, hts⟩ (hM H.size) ⟨hcn, hname, hts _ hin⟩ (hw_ipre I (V.1.sub isC (hw_fm hC)) (V.2.1.sub isC hnC hC)) rfl hn.1 hlv rfl (lv_room hn.2) dg hcs) kk
theorem hw_icall {y : MethodName} {cy : ByteArray} {mL fr lo mc ms idx n b : Nat} {As : List Value} {wc wr : va_W} {B : va_W → Prop} (isC isR : List Nat) (I : hw_Ic p s m args c cc own nL D cA A H0) (V : hw_V D A H0 ws H locs) (hM : hw_IM l D cA y cy mL fr lo mc ms (.ref b :: As) wc B) (hw : hw_MW y cy mL none n) (hin : Cond.instanceMethod y ∈ hw_all) (hname : y.name = "<init>") (hl0 : Cond.methodLink own idx y ∈ hw_all) (hC : isC.map (fun i => ws[i]?) = wc.map some) (hR : isR.map (fun i => ws[i]?) = wr.map some) (hnC : va_nd isC = true) (hnR : va_nd isR = true) (hdis : ∀ i ∈ isR, i ∉ isC) (hroom : fr + 1 ≤ R.frames ∧ 8 + (mL + 11) + lo ≤ R.locals) (hcs : cells + mc ≤ R.cells ∧ slots + ms ≤ R.slots) (hn : As.length = n ∧ (rest.map fun v => v.category).sum ≤ 8) (hlv : ls.size = nL) (dg : decode cc pc = .ok (.invokespecial idx, 3))
    (kk : ∀ (ws' : va_W) (H1 : Heap) (locs1 : List Loc), B ws' → hw_V D A H0 (wr ++ ws') H1 locs1 → W p l e R s m args below meth c H1 locs1 (cells + mc) (slots + ms) Q (F0 m (pc + 3) ls rest)) : W p l e R s m args below meth c H locs cells slots Q (F0 m pc ls (As.reverse ++ .ref b :: rest)) := by
  have hts := I.2.2.2.2.1
  have hcb : CallB R s args own idx y cy mL none (.code y cy mL none :: hw_all) ({ frames := fr, cells := mc, slots := ms, locals := lo } : Room) mc ms n := callB_of n hts (hw_goodIn hw.1) rfl rfl rfl (hts _ hw.2.1) (hts _ hl0) hw.2.2.2 hroom
  exact hw_iback isC isR V I.2.2.2.2.2.2.1 hC hR hnR hdis (va_runI (Ts := hw_all) (As := As) (rest := rest) ⟨I.1, I.2.1, I.2.2.1, I.2.2.2.1, hts⟩ (hM H.size) ⟨hcb, hname, hts _ hin⟩ (hw_ipre I (V.1.sub isC (hw_fm hC)) (V.2.1.sub isC hnC hC)) rfl hn.1 hlv rfl (lv_room hn.2) dg hcs) kk
theorem hw_icallS {y : MethodName} {cy : ByteArray} {mL fr lo mc ms idx n : Nat} {As : List Value} {wc wr : va_W} {B : va_W → Prop} (isC isR : List Nat) (I : hw_Ic p s m args c cc own nL D cA A H0) (V : hw_V D A H0 ws H locs) (hM : hw_IM l D cA y cy mL fr lo mc ms As wc B) (hw : hw_MW y cy mL none n) (hs : Cond.static y ∈ hw_all) (hl0 : Cond.methodLink own idx y ∈ hw_all) (hC : isC.map (fun i => ws[i]?) = wc.map some) (hR : isR.map (fun i => ws[i]?) = wr.map some) (hnC : va_nd isC = true) (hnR : va_nd isR = true) (hdis : ∀ i ∈ isR, i ∉ isC) (hroom : fr + 1 ≤ R.frames ∧ 8 + (mL + 11) + lo ≤ R.locals) (hcs : cells + mc ≤ R.cells ∧ slots + ms ≤ R.slots) (hn : As.length = n ∧ (rest.map fun v => v.category).sum ≤ 8) (hlv : ls.size = nL) (dg : decode cc pc = .ok (.invokestatic idx, 3))
    (kk : ∀ (ws' : va_W) (H1 : Heap) (locs1 : List Loc), B ws' → hw_V D A H0 (wr ++ ws') H1 locs1 → W p l e R s m args below meth c H1 locs1 (cells + mc) (slots + ms) Q (F0 m (pc + 3) ls rest)) : W p l e R s m args below meth c H locs cells slots Q (F0 m pc ls (As.reverse ++ rest)) := by
  have hts := I.2.2.2.2.1
  have hcb : CallB R s args own idx y cy mL none (.code y cy mL none :: hw_all) ({ frames := fr, cells := mc, slots := ms, locals := lo } : Room) mc ms n := callB_of n hts (hw_goodIn hw.1) rfl rfl rfl (hts _ hw.2.1) (hts _ hl0) hw.2.2.2 hroom
  exact hw_iback isC isR V I.2.2.2.2.2.2.1 hC hR hnR hdis (va_runS (Ts := hw_all) (As := As) (rest := rest) ⟨I.1, I.2.1, I.2.2.1, I.2.2.2.1, hts⟩ (hM H.size) ⟨hcb, hts _ hs⟩ (hw_ipre I (V.1.sub isC (hw_fm hC)) (V.2.1.sub isC hnC hC)) rfl hn.1 hlv rfl (lv_room hn.2) dg hcs) kk
theorem hw_ientry {y : MethodName} {cy : ByteArray} {mL fr lo mc ms : Nat} {av : List Value} {ws : va_W} {B : va_W → Prop} (hy : plainName y.cls = true) (hown : y.cls = own) (hc1 : ∀ v ∈ av, v.category = 1) (hlen : av.length ≤ mL)
    (body : ∀ (p : Program) (e : Env) (s : State) (m : MethodId) (below : List Frame) (meth : Method) (c : Code) (A : Nat → Prop) (ls : Array Slot), hw_Ic p s m av.toArray c cy own mL D cA A s.heap → meth.sig.returnType = none → meth.locks = false → meth.name = y.name → hw_V D A s.heap ws s.heap [] → lv_has ls mL (hw_la 0 av) →
      W p l e ({ frames := fr, cells := mc, slots := ms, locals := lo } : Room) s m av.toArray below meth c s.heap [] 0 0 (MQ below (va_Qv (fun _ : Unit => True) (fun _ t => ∃ ws', B ws' ∧ va_P D vwCl ws' t.heap ∧ va_D A ws') A) av.toArray s mc ms A) (F0 m 0 ls [])) : hw_IM l D cA y cy mL fr lo mc ms av ws B := by
  intro sz
  refine Met.ofW (cc := cy) (maxL := mL) (ret := none) hy rfl ?_
  intro p e s m args below meth c s₁ BB hml hv
  obtain ⟨rfl, hsz, hP, hK, hD0, hN, hO⟩ := hv
  subst hsz
  have hts := atoms_spec (ws := .code y cy mL none :: hw_all) BB.pre
  have hown2 : s.vm.findClass own = some m.cls := by rw [← hown]; exact findClass_of_methodNamed BB.named
  have hD := hD0.self (sz := s.heap.size)
  have hA : ∀ q : Nat, s.heap.size ≤ q → va_A ws s.heap.size q := fun q h => Or.inr h
  have hl := lv_entry av (n := mL) (by rw [hw_args 0 av hc1]; exact hlen)
  rw [hw_la_eq av 0 hc1] at hl
  rw [lg_entry_eq]
  generalize (lg_sl av ++ List.replicate (mL - (lg_sl av).length) Slot.unset).toArray = ls at hl ⊢
  exact body p e s m below meth c (va_A ws s.heap.size) ls ⟨BB.exec, BB.bytes, hml, hown2, fun w hw => hts w (List.mem_cons_of_mem _ hw), hK, hA, hN, hO⟩ BB.returns BB.notSynchronized (name_of_methodNamed BB.named BB.method).1 ⟨hP, hD, va_S.rf⟩ hl
theorem hw_iret0 {B : va_W → Prop} {mc ms : Nat} (I : hw_Ic p s m args c cc own nL D cA A s.heap) (hr : meth.sig.returnType = none) (hlocks : meth.locks = false) (V : hw_V D A s.heap ws H locs) (hB : B ws) (hcs : cells ≤ mc ∧ slots ≤ ms) (dg : decode cc pc = .ok (.return_, 1)) : W p l e R s m args below meth c H locs cells slots (MQ below (va_Qv (fun _ : Unit => True) (fun _ t => ∃ ws', B ws' ∧ va_P D vwCl ws' t.heap ∧ va_D A ws') A) args s mc ms A) (F0 m pc ls []) := by
  refine W.widen hcs.1 hcs.2 ?_
  exact W.vret I.1 I.2.1 hr (fun t ht hW => ⟨⟨(), rfl, trivial, ws, hB, by rw [ht]; exact V.1, V.2.1⟩, V.2.2.F ht⟩) V.2.2.2.2 dg hlocks
end HWJ
