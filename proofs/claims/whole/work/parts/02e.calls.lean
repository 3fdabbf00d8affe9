section HWC
variable {α β : Type} {G : hw_G} {cc : ByteArray} {own : String} {nL d : Nat} {ret : Option FieldType} {TL : List Nat} {rr : α → Option Value} {rb : β → Option Value} {pc : Nat} {lv : List (Nat × Value)} {st : List Value} {σ : hw_St}
theorem hw_blind (E : hw_E) (av : List Value) (σ : hw_St) : FrameBlind (va_Pc av (hw_Wd E σ)) := by
  intro a U g mk h
  obtain ⟨h1, hP, hK, hA, hN, hC⟩ := h
  exact ⟨h1, hP, va_K.moved (u := U) (U := U.calling g mk a) (Vm.Alike.refl U.vm) hK, hA, hN.same rfl, hC.moved (U := U.calling g mk a) (Vm.Alike.refl U.vm)⟩
theorem hw_pre {H : Heap} {locs : List Loc} (C : hw_Ok G cc own nL d ret TL) (hP : hw_W (hw_gE G) σ H) (hS : va_S (hw_A (hw_gE G)) (hw_gs G).heap H locs) (av : List Value) : ∀ U : State, U.heap = H → (hw_gs G).WarmedH U.vm → va_Pc av (hw_Wd (hw_gE G) σ) av.toArray U := by
  intro U hU hW
  obtain ⟨-, -, -, -, -, hK, hAp, hN, hCs, -⟩ := C
  exact ⟨rfl, by rw [hU]; exact hP, va_K.moved hW.alike hK, hAp, hN.warm hW, by rw [hU]; exact (hCs.kept hS.2.1).moved hW.alike⟩
/-- a method's own words: its code, that its class is there, how many arguments it takes -/
def hw_MW (y : MethodName) (cy : ByteArray) (mL : Nat) (ry : Option FieldType) (n : Nat) : Prop := Cond.code y cy mL ry ∈ hw_all ∧ Cond.initialized y.cls ∈ hw_all ∧ mL ≤ 20 ∧ (y.cls ≠ "java/lang/invoke/MethodHandle" ∧ y.cls ≠ "java/lang/invoke/VarHandle" ∧ (parseMethodDescriptor y.desc).map (fun q => q.parameters.length) = some n)
theorem hw_goodIn {y : MethodName} {cy : ByteArray} {mL : Nat} {ry : Option FieldType} (h : Cond.code y cy mL ry ∈ hw_all) : GoodIn hw_all (.code y cy mL ry :: hw_all) := by
  intro w hw
  rcases List.mem_cons.mp hw with rfl | hw
  · exact ⟨h, good_of_word (hw_all_good h)⟩
  · exact ⟨hw, good_of_word (hw_all_good hw)⟩
theorem hw_cw {y : MethodName} {cy : ByteArray} {mL n idx d2 : Nat} {ry : Option FieldType} (C : hw_Ok G cc own nL d ret TL) (hw : hw_MW y cy mL ry n) (hl0 : Cond.methodLink own idx y ∈ hw_all) (hd : d2 < d) : CallB (hw_gR G) (hw_gs G) (hw_ga G) own idx y cy mL ry (.code y cy mL ry :: hw_all) (hw_rm d2) 0 0 n := by
  have hts := C.2.2.2.2.1
  have hR := C.2.2.2.2.2.2.2.2.2.2.2.1
  refine callB_of n hts (hw_goodIn hw.1) rfl rfl rfl (hts _ hw.2.1) (hts _ hl0) hw.2.2.2 ?_
  rw [hR]
  have := hw.2.2.1
  unfold hw_rm
  dsimp only
  omega
theorem hw_cont {H : Heap} {locs : List Loc} {ls : Array Slot} {st0 rest : List Value} {r1 : β} {σ1 : hw_St} {a : Array Value} {Q : State → Prop}
    (hr : va_Run (hw_gp G) (hw_eL (hw_gE G)) (hw_ge G) (hw_gR G) (hw_gs G) (hw_gm G) (hw_ga G) (hw_gb G) (hw_gM_ G) (hw_gc G) H locs 0 0 0 0 (F0 (hw_gm G) pc ls st0) rest (hw_Q (hw_gE G) rb r1 σ1 a) (hw_A (hw_gE G))) (hS : va_S (hw_A (hw_gE G)) (hw_gs G).heap H locs)
    (kk : ∀ (H1 : Heap) (locs1 : List Loc), hw_W (hw_gE G) σ1 H1 → va_S (hw_A (hw_gE G)) (hw_gs G).heap H1 locs1 → W (hw_gp G) (hw_eL (hw_gE G)) (hw_ge G) (hw_gR G) (hw_gs G) (hw_gm G) (hw_ga G) (hw_gb G) (hw_gM_ G) (hw_gc G) H1 locs1 0 0 Q (F0 (hw_gm G) (pc + 3) ls ((rb r1).toList ++ rest))) :
    W (hw_gp G) (hw_eL (hw_gE G)) (hw_ge G) (hw_gR G) (hw_gs G) (hw_gm G) (hw_ga G) (hw_gb G) (hw_gM_ G) (hw_gc G) H locs 0 0 Q (F0 (hw_gm G) pc ls st0) := by
  intro T hT X
  obtain ⟨v, st₀, t, T', L, h0, X', hL, e1, e2, ⟨hv, hb, hz, hk⟩, stp⟩ := hr T hT X
  cases hv
  rw [h0] at hz hk
  obtain ⟨t2, a1, b1⟩ := kk T'.heap (locs ++ L) (by rw [e1]; exact hb)
    ⟨Nat.le_trans hS.1 (by rw [e1]; exact hz), fun q h1 h2 => by rw [e1, hk q (Nat.lt_of_lt_of_le h1 hS.1) h2]; exact hS.2.1 q h1 h2, fun q hq => by
      rcases List.mem_append.mp hq with h | h
      · exact hS.2.2 q h
      · exact hL q h⟩ T' rfl X'
  exact ⟨t2, stp t2 a1, b1⟩
theorem hw_c1a {lv : List (Nat × Value)} {as st : List Value} (h : hw_c1 lv (as ++ st)) : hw_c1 lv st := ⟨h.1, fun v hv => h.2 v (List.mem_append_right _ hv)⟩
theorem hw_c1b {lv : List (Nat × Value)} {o : Option Value} {st : List Value} (h : hw_c1 lv st) (ho : ∀ v, o = some v → v.category = 1) : hw_c1 lv (o.toList ++ st) := ⟨h.1, fun v hv => by
  rcases List.mem_append.mp hv with h1 | h1
  · cases o with
    | none => cases h1
    | some w => rw [List.mem_singleton.mp h1]; exact ho w rfl
  · exact h.2 v h1⟩
/-- a pure function behind a call: f is what comes after -/
def hw_bd (Y : Option (β × hw_St)) (f : β → hw_St → Option (α × hw_St)) : Option (α × hw_St) := match Y with
  | none => none
  | some q => f q.1 q.2
theorem hw_bd_some {Y : Option (β × hw_St)} {f : β → hw_St → Option (α × hw_St)} {z : α × hw_St} (h : hw_bd Y f = some z) : ∃ r1 σ1, Y = some (r1, σ1) ∧ f r1 σ1 = some z := by
  cases Y with
  | none => cases h
  | some q => exact ⟨q.1, q.2, rfl, h⟩
theorem hw_callS {Y : Option (β × hw_St)} {f : β → hw_St → Option (α × hw_St)} {y : MethodName} {cy : ByteArray} {mL n idx d2 : Nat} {ry : Option FieldType} {As st0 : List Value} (C : hw_Ok G cc own nL d ret TL) (hM : hw_M (hw_gE G) y cy mL ry d2 As σ rb Y) (hw : hw_MW y cy mL ry n) (hs : Cond.static y ∈ hw_all) (hl0 : Cond.methodLink own idx y ∈ hw_all) (hd : d2 < d) (hst : st0 = As.reverse ++ st) (hn : As.length = n ∧ st.length ≤ 8) (hb1 : ∀ r1 v, rb r1 = some v → v.category = 1) (dg : decode cc pc = .ok (.invokestatic idx, 3))
    (kk : ∀ r1 σ1, hw_K G nL rr (f r1 σ1) (pc + 3) lv ((rb r1).toList ++ st) σ1) : hw_K G nL rr (hw_bd Y f) pc lv st0 σ := by
  intro r σ' hX hc H locs ls hP hS hl
  obtain ⟨r1, σ1, hY, hf⟩ := hw_bd_some hX
  subst hst
  have hc2 := hw_c1a hc
  have hr := va_runS (Ts := hw_all) (p := hw_gp G) (e := hw_ge G) (R := hw_gR G) (below := hw_gb G) (meth := hw_gM_ G) (H := H) (locs := locs) (cells := 0) (slots := 0) (g := F0 (hw_gm G) pc ls (As.reverse ++ st)) (rest := st) ⟨C.1, C.2.1, C.2.2.1, C.2.2.2.1, C.2.2.2.2.1⟩ (hM r1 σ1 hY) ⟨hw_cw C hw hl0 hd, C.2.2.2.2.1 _ hs⟩ ⟨hw_blind _ _ _, hw_pre C hP hS As⟩ rfl hn.1 hl.1 rfl (lv_room (by rw [hw_sum hc2.2]; exact hn.2)) dg ⟨Nat.zero_le _, Nat.zero_le _⟩
  exact hw_cont hr hS (fun H1 locs1 hP1 hS1 => kk r1 σ1 r σ' hf (hw_c1b hc2 (hb1 r1)) H1 locs1 ls hP1 hS1 hl)
theorem hw_callSN {Y : Option (β × hw_St)} {f : β → hw_St → Option (α × hw_St)} {y : MethodName} {cy : ByteArray} {mL n idx d2 : Nat} {ry : Option FieldType} {As st0 : List Value} {host : String} (C : hw_Ok G cc own nL d ret TL) (hM : hw_M (hw_gE G) y cy mL ry d2 As σ rb Y) (hw : hw_MW y cy mL ry n) (hs : Cond.static y ∈ hw_all) (hl0 : va_Nw (.methodLinkNest own idx y host) (hw_gs G)) (hd : d2 < d) (hst : st0 = As.reverse ++ st) (hn : As.length = n ∧ st.length ≤ 8) (hb1 : ∀ r1 v, rb r1 = some v → v.category = 1) (dg : decode cc pc = .ok (.invokestatic idx, 3))
    (kk : ∀ r1 σ1, hw_K G nL rr (f r1 σ1) (pc + 3) lv ((rb r1).toList ++ st) σ1) : hw_K G nL rr (hw_bd Y f) pc lv st0 σ := by
  intro r σ' hX hc H locs ls hP hS hl
  obtain ⟨r1, σ1, hY, hf⟩ := hw_bd_some hX
  subst hst
  have hc2 := hw_c1a hc
  have hts := C.2.2.2.2.1
  have hR := C.2.2.2.2.2.2.2.2.2.2.2.1
  have hcn : va_CN (hw_gR G) (hw_gs G) (hw_ga G) own idx y host cy mL ry (.code y cy mL ry :: hw_all) (hw_rm d2) 0 0 n := by
    refine va_cnB n hts (hw_goodIn hw.1) rfl rfl rfl hl0 (hts _ hw.2.1) hw.2.2.2 ?_
    rw [hR]
    have := hw.2.2.1
    unfold hw_rm
    dsimp only
    omega
  have hr := va_runSN (Ts := hw_all) (p := hw_gp G) (e := hw_ge G) (R := hw_gR G) (below := hw_gb G) (meth := hw_gM_ G) (H := H) (locs := locs) (cells := 0) (slots := 0) (g := F0 (hw_gm G) pc ls (As.reverse ++ st)) (rest := st) ⟨C.1, C.2.1, C.2.2.1, C.2.2.2.1, C.2.2.2.2.1⟩ (hM r1 σ1 hY) ⟨hcn, hts _ hs, trivial⟩ ⟨hw_blind _ _ _, hw_pre C hP hS As⟩ rfl hn.1 hl.1 rfl (lv_room (by rw [hw_sum hc2.2]; exact hn.2)) dg ⟨Nat.zero_le _, Nat.zero_le _⟩
  exact hw_cont hr hS (fun H1 locs1 hP1 hS1 => kk r1 σ1 r σ' hf (hw_c1b hc2 (hb1 r1)) H1 locs1 ls hP1 hS1 hl)
theorem hw_callV {Y : Option (β × hw_St)} {f : β → hw_St → Option (α × hw_St)} {y : MethodName} {cy : ByteArray} {mL n idx d2 t ci N : Nat} {Cn : String} {T : u_T} {ty : Nat → FieldType} {ry : Option FieldType} {As st0 : List Value} (C : hw_Ok G cc own nL d ret TL) (hM : hw_M (hw_gE G) y cy mL ry d2 (hw_rv (hw_ea (hw_gE G)) t :: As) σ rb Y) (hw : hw_MW y cy mL ry n) (hs : Cond.instanceMethod y ∈ hw_all ∧ Cond.selects Cn y y ∈ hw_all) (cf : hw_CF ci Cn T N ty) (hT : hw_T TL t ci) (hl0 : Cond.methodLink own idx y ∈ hw_all) (hd : d2 < d) (hst : st0 = As.reverse ++ hw_rv (hw_ea (hw_gE G)) t :: st) (hn : As.length = n ∧ st.length ≤ 8) (hb1 : ∀ r1 v, rb r1 = some v → v.category = 1) (dg : decode cc pc = .ok (.invokevirtual idx, 3))
    (kk : ∀ r1 σ1, hw_K G nL rr (f r1 σ1) (pc + 3) lv ((rb r1).toList ++ st) σ1) : hw_K G nL rr (hw_bd Y f) pc lv st0 σ := by
  intro r σ' hX hc H locs ls hP hS hl
  obtain ⟨r1, σ1, hY, hf⟩ := hw_bd_some hX
  subst hst
  have hc2 := hw_c1t (hw_c1a hc)
  have hM2 := hM r1 σ1 hY
  have hrv : hw_rv (hw_ea (hw_gE G)) t = .ref (hw_ea (hw_gE G) t) := hw_rv_ref (hT.ne (Nat.lt_trans cf.2.2.1 (by decide)))
  rw [hrv] at hM2 ⊢
  obtain ⟨i, hi⟩ := hw_tag hT
  rw [← C.2.2.2.2.2.2.2.2.2.2.2.2] at hi
  have he := hw_ws_at (cA := hw_eC (hw_gE G)) (ad := hw_ea (hw_gE G)) (σ := σ) hi
  rw [hw_re_o hT.2 cf.2.2.1] at he
  have hr := va_runV (Ts := hw_all) (p := hw_gp G) (e := hw_ge G) (R := hw_gR G) (below := hw_gb G) (meth := hw_gM_ G) (H := H) (locs := locs) (cells := 0) (slots := 0) (C := Cn) (b := hw_ea (hw_gE G) t) (g := F0 (hw_gm G) pc ls (As.reverse ++ .ref (hw_ea (hw_gE G) t) :: st)) (rest := st) ⟨C.1, C.2.1, C.2.2.1, C.2.2.2.1, C.2.2.2.2.1⟩ hM2 ⟨hw_cw C hw hl0 hd, C.2.2.2.2.1 _ hs.1, C.2.2.2.2.1 _ hs.2⟩ ⟨hw_blind _ _ _, va_recv C.2.2.2.2.2.1 hP cf.1 he, hw_pre C hP hS (.ref (hw_ea (hw_gE G) t) :: As)⟩ rfl hn.1 hl.1 rfl (lv_room (by rw [hw_sum hc2.2]; exact hn.2)) dg ⟨Nat.zero_le _, Nat.zero_le _⟩
  exact hw_cont hr hS (fun H1 locs1 hP1 hS1 => kk r1 σ1 r σ' hf (hw_c1b hc2 (hb1 r1)) H1 locs1 ls hP1 hS1 hl)
theorem hw_bi : ∀ (r1 : Int32) (v : Value), hw_ri r1 = some v → v.category = 1 := fun _ _ h => by cases h; rfl
theorem hw_b0 : ∀ (r1 : Unit) (v : Value), hw_r0 r1 = some v → v.category = 1 := fun _ _ h => by cases h
theorem hw_bq (ad : Nat → Nat) : ∀ (r1 : Nat) (v : Value), hw_rq ad r1 = some v → v.category = 1 := fun _ _ h => by cases h; exact hw_rv_cat _ _
theorem hw_args : ∀ (i : Nat) (av : List Value), (∀ v ∈ av, v.category = 1) → (lg_sl av).length = av.length := by
  intro i av
  induction av with
  | nil => intro _; rfl
  | cons v l ih =>
    intro h
    have hv := h v List.mem_cons_self
    have h2 := ih (fun w hw => h w (List.mem_cons_of_mem _ hw))
    simp [lg_sl, hv] at h2 ⊢
    try omega
/-- the locals at the start, values of one word each -/
def hw_la : Nat → List Value → List (Nat × Value)
  | _, [] => []
  | i, v :: vs => (i, v) :: hw_la (i + 1) vs
theorem hw_la_eq : ∀ (av : List Value) (i : Nat), (∀ v ∈ av, v.category = 1) → lv_args i av = hw_la i av := by
  intro av
  induction av with
  | nil => intro i _; rfl
  | cons v l ih =>
    intro i h
    have hv := h v List.mem_cons_self
    rw [lv_args, hw_la, if_neg (by rw [hv]; decide), ih (i + 1) (fun w hw => h w (List.mem_cons_of_mem _ hw))]
theorem hw_la_c1 : ∀ (av : List Value) (i : Nat), (∀ v ∈ av, v.category = 1) → ∀ q ∈ hw_la i av, q.2.category = 1 := by
  intro av
  induction av with
  | nil => intro i _ q hq; cases hq
  | cons v l ih =>
    intro i h q hq
    rcases List.mem_cons.mp hq with rfl | h1
    · exact h v List.mem_cons_self
    · exact ih (i + 1) (fun w hw => h w (List.mem_cons_of_mem _ hw)) q h1
theorem hw_entry {E : hw_E} {y : MethodName} {cy : ByteArray} {mL : Nat} {ry : Option FieldType} {av : List Value} {X : Option (α × hw_St)} (hy : plainName y.cls = true) (hown : y.cls = own) (hT : hw_eT E = TL) (hc1 : ∀ v ∈ av, v.category = 1) (hlen : av.length ≤ mL) (body : ∀ G : hw_G, hw_gE G = E → hw_Ok G cy own mL d ry TL → hw_K G mL rr X 0 (hw_la 0 av) [] σ) : hw_M E y cy mL ry d av σ rr X := by
  intro r σ' hX
  refine Met.ofW (cc := cy) (maxL := mL) (ret := ry) hy rfl ?_
  intro p e s m args below meth c s₁ B hml hv
  obtain ⟨rfl, hP, hK, hAp, hN, hCs⟩ := hv
  have hts := atoms_spec (ws := .code y cy mL ry :: hw_all) B.pre
  have hown2 : s.vm.findClass own = some m.cls := by rw [← hown]; exact findClass_of_methodNamed B.named
  have hl := lv_entry av (n := mL) (by rw [hw_args 0 av hc1]; exact hlen)
  rw [hw_la_eq av 0 hc1] at hl
  rw [lg_entry_eq]
  generalize (lg_sl av ++ List.replicate (mL - (lg_sl av).length) Slot.unset).toArray = ls at hl ⊢
  exact body (E, p, e, hw_rm d, s, m, av.toArray, below, meth, c) rfl ⟨B.exec, B.bytes, hml, hown2, fun w hw => hts w (List.mem_cons_of_mem _ hw), hK, hAp, hN, hCs, B.notSynchronized, B.returns, rfl, hT⟩ r σ' hX ⟨hw_la_c1 av 0 hc1, fun v hv => by cases hv⟩ s.heap [] ls hP va_S.rf hl
theorem hw_cN : ∀ v ∈ ([] : List Value), v.category = 1 := fun _ h => by cases h
theorem hw_cI {x : Int32} {l : List Value} (h : ∀ v ∈ l, v.category = 1) : ∀ v ∈ (.int x :: l : List Value), v.category = 1 := fun v hv => by
  rcases List.mem_cons.mp hv with rfl | h1
  · rfl
  · exact h v h1
theorem hw_cR {ad : Nat → Nat} {t : Nat} {l : List Value} (h : ∀ v ∈ l, v.category = 1) : ∀ v ∈ (hw_rv ad t :: l : List Value), v.category = 1 := fun v hv => by
  rcases List.mem_cons.mp hv with rfl | h1
  · exact hw_rv_cat ad t
  · exact h v h1
end HWC
