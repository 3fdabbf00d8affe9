/-! THE CLAIM OUT OF ONE WALK OF THE LAW'S BODY. Your part is whole_start (and what it stands on); all else here is the same for every law, but numbers. -/
def R_law : String := "HumWireLaw"
def lw_P (b : Addr) (xs : List Int32) (args : Array Value) (s : State) : Prop := args = #[.ref b] ∧ s.IntsAt b xs ∧ xs.length ≤ 384 ∧ (Jvm.Cond.and given_1 narrow_1).before args s = true
def lw_Q (_ : Array Value) (s : State) (o : Outcome) (t : State) : Prop := o = .returned (some (.int 1)) ∧ Framed s o t [] 600000 7302250
def lw_Z (below : List Frame) (a : Array Value) (s : State) : State → Prop := fun t => ∃ o, t.status = .running ∧ Ended t below o ∧ lw_Q a s o t
/-- the law's own end, with 1 on the stack, nothing written that was there before, its room as the claim has it -/
theorem lw_ret {p : Program} {l : Launch} {e : Env} {s : State} {m : MethodId} {below : List Frame} {meth : Method} {c : Code} {b : Nat} (hx : p.tables.exec = Jvm.exec) (hb : c.code = code) (hr : meth.sig.returnType = ret) (hlocks : meth.locks = false) {pc : Nat} {H : Heap} {ls : Array Slot} (hdg : decode code pc = .ok (.ireturn, 1)) : W p l e room_1 s m #[Value.ref b] below meth c H [] 600000 7302250 (lw_Z below #[Value.ref b] s) (F0 m pc ls [.int 1]) := by
  intro T hT X
  obtain ⟨fs, hret, hrun, hended, hW, hframe⟩ := X.leave (v := some (.int 1)) (hlocks := hlocks) (fun h => by rw [hr] at h; cases h)
  have hmeth' : T.vm.method? m = some meth := X.method'
  refine ⟨T.setFrames fs, ?_, .returned (some (.int 1)), hrun, hended, rfl, ⟨_, rfl⟩, hW, hframe⟩
  jvm_step X.here [X.here.top, hx, hb, hdg, hmeth', hr, ret, narrow_b1]
  (try refine ⟨rfl, ?_⟩); (try refine ⟨rfl, ?_⟩)
  first | (intro acts; rw [hret _ acts rfl rfl rfl]) | rw [hret _ _ rfl rfl rfl]
  exact Steps.refl _
/-- what holds at the law's entry: the machine, the code, the tables' words (any of lw_tbl by 'hts w (by decide +kernel)'), the script of L ints xs at the cell b, what the Statement gives of the start (any of its parts by flat_of_before) -/
def lw_At (p : Program) (s : State) (m : MethodId) (meth : Method) (c : Code) (b L : Nat) (xs : Nat → Int32) : Prop :=
  p.tables.exec = Jvm.exec ∧ c.code = code ∧ meth.sig.returnType = ret ∧ c.maxLocals = 4 ∧ s.vm.findClass R_law = some m.cls ∧ (∀ w ∈ lw_tbl, w.before #[Value.ref b] s = true) ∧ va_X b L xs s s.heap ∧ b < s.heap.size ∧ meth.locks = false ∧ (Jvm.Cond.and given_1 narrow_1).before #[Value.ref b] s = true
def hw_sim0 (R : hw_St → hw_St → Prop) (F F2 : hw_St → Option (Int32 × hw_St)) : Prop := ∀ (σ τ : hw_St), R σ τ → ∃ (r : Int32) (σ' τ' : hw_St), F  σ = some (r, σ') ∧ F2  τ = some (r, τ') ∧ R σ' τ'
def hw_sim1 (R : hw_St → hw_St → Prop) (F F2 : Int32 → hw_St → Option (Int32 × hw_St)) : Prop := ∀ (a0 : Int32) (σ τ : hw_St), R σ τ → ∃ (r : Int32) (σ' τ' : hw_St), F a0 σ = some (r, σ') ∧ F2 a0 τ = some (r, τ') ∧ R σ' τ'
def hw_sim2 (R : hw_St → hw_St → Prop) (F F2 : Int32 → Int32 → hw_St → Option (Int32 × hw_St)) : Prop := ∀ (a0 a1 : Int32) (σ τ : hw_St), R σ τ → ∃ (r : Int32) (σ' τ' : hw_St), F a0 a1 σ = some (r, σ') ∧ F2 a0 a1 τ = some (r, τ') ∧ R σ' τ'
def hw_sim3 (R : hw_St → hw_St → Prop) (F F2 : Int32 → Int32 → Int32 → hw_St → Option (Int32 × hw_St)) : Prop := ∀ (a0 a1 a2 : Int32) (σ τ : hw_St), R σ τ → ∃ (r : Int32) (σ' τ' : hw_St), F a0 a1 a2 σ = some (r, σ') ∧ F2 a0 a1 a2 τ = some (r, τ') ∧ R σ' τ'
def hw_sim4 (R : hw_St → hw_St → Prop) (F F2 : Int32 → Int32 → Int32 → Int32 → hw_St → Option (Int32 × hw_St)) : Prop := ∀ (a0 a1 a2 a3 : Int32) (σ τ : hw_St), R σ τ → ∃ (r : Int32) (σ' τ' : hw_St), F a0 a1 a2 a3 σ = some (r, σ') ∧ F2 a0 a1 a2 a3 τ = some (r, τ') ∧ R σ' τ'
def hw_sim5 (R : hw_St → hw_St → Prop) (F F2 : Int32 → Int32 → Int32 → Int32 → Int32 → hw_St → Option (Int32 × hw_St)) : Prop := ∀ (a0 a1 a2 a3 a4 : Int32) (σ τ : hw_St), R σ τ → ∃ (r : Int32) (σ' τ' : hw_St), F a0 a1 a2 a3 a4 σ = some (r, σ') ∧ F2 a0 a1 a2 a3 a4 τ = some (r, τ') ∧ R σ' τ'
/-- every pair of calls answers alike and keeps R -/
def hw_Sims (R : hw_St → hw_St → Prop) : Prop := hw_sim3 R F_X6_wire F_X7_wire ∧ hw_sim2 R F_X6_told F_X7_told ∧ hw_sim2 R F_X6_as F_X7_as ∧ hw_sim2 R F_X6_turns F_X7_turns ∧ hw_sim3 R F_X6_set F_X7_set ∧ hw_sim2 R F_X6_wind F_X7_wind ∧ hw_sim1 R F_X6_windAt F_X7_windAt ∧ hw_sim1 R F_X6_limit F_X7_limit ∧ hw_sim2 R F_X6_deal F_X7_deal ∧ hw_sim1 R F_X6_seed F_X7_seed ∧ hw_sim3 R F_X6_by F_X7_by ∧ hw_sim2 R F_X6_tick F_X7_tick ∧ hw_sim1 R F_X6_run F_X7_run ∧ hw_sim2 R F_X6_line F_X7_line ∧ hw_sim2 R F_X6_day F_X7_day ∧ hw_sim2 R F_X6_life F_X7_life ∧ hw_sim2 R F_X6_harp F_X7_harp ∧ hw_sim2 R F_X6_lumps F_X7_lumps ∧ hw_sim3 R F_X6_blown F_X7_blown ∧ hw_sim1 R F_X6_heard F_X7_heard ∧ hw_sim3 R F_X6_feed F_X7_feed ∧ hw_sim1 R F_X6_trim F_X7_trim ∧ hw_sim0 R F_X6_text F_X7_text ∧ hw_sim2 R F_X6_textTold F_X7_textTold ∧ hw_sim1 R F_X6_why F_X7_why ∧ hw_sim3 R F_X6_sheet F_X7_sheet ∧ hw_sim3 R F_X6_mark F_X7_mark ∧ hw_sim1 R F_X6_pour F_X7_pour ∧ hw_sim2 R F_X6_reads F_X7_reads ∧ hw_sim5 R F_X6_copy F_X7_copy ∧ hw_sim3 R F_X6_lay F_X7_lay ∧ hw_sim2 R F_X6_ask F_X7_ask ∧ hw_sim2 R F_X6_item F_X7_item ∧ hw_sim2 R F_X6_rest F_X7_rest ∧ hw_sim1 R F_X6_tell F_X7_tell ∧ hw_sim2 R F_X6_check F_X7_check ∧ hw_sim0 R F_X6_keep F_X7_keep ∧ hw_sim0 R F_X6_back F_X7_back ∧ hw_sim1 R F_X6_count F_X7_count
abbrev hw_EH (l : Launch) (D : va_G) (cA : Nat → ClassId) (ad : Nat → Nat) : hw_E := (l, D, cA, hw_TH, ad)
abbrev hw_EM (l : Launch) (D : va_G) (cA : Nat → ClassId) (ad : Nat → Nat) : hw_E := (l, D, cA, hw_TM, ad)
/-- what the law's walk knows all along -/
def hw_Lc (p : Program) (l : Launch) (s : State) (m : MethodId) (c : Code) (b L : Nat) (xs : Nat → Int32) (D : va_G) (cA : Nat → ClassId) (ad : Nat → Nat) : Prop :=
  p.tables.exec = Jvm.exec ∧ c.code = code ∧ c.maxLocals = 4 ∧ s.vm.findClass RL = some m.cls ∧ (∀ w ∈ hw_all, w.before #[Value.ref b] s = true) ∧ va_K D vwCl (hw_ty cA) s ∧ hw_Ap (hw_EH l D cA ad) ∧ hw_Ap (hw_EM l D cA ad) ∧ (∀ t ∈ hw_TH, ∀ u ∈ hw_TM, ad t ≠ ad u) ∧ (∀ t ∈ hw_TH, s.heap.size ≤ ad t) ∧ (∀ t ∈ hw_TM, s.heap.size ≤ ad t) ∧ hw_Nw (hw_EH l D cA ad) s ∧ hw_Cs (hw_EH l D cA ad) s s.heap ∧ hw_Cs (hw_EM l D cA ad) s s.heap ∧ va_X b L xs s s.heap ∧ b < s.heap.size
section HWL
variable {p : Program} {l : Launch} {e : Env} {s : State} {m : MethodId} {below : List Frame} {meth : Method} {c : Code} {b L : Nat} {xs : Nat → Int32} {D : va_G} {cA : Nat → ClassId} {ad : Nat → Nat} {H : Heap} {locs : List Loc} {kc ks : Nat} {Q : State → Prop} {pc : Nat} {ls : Array Slot} {σ τ : hw_St}
theorem hw_W_kept {E : hw_E} {H1 : Heap} (h : hw_W E σ H) (hk : ∀ t ∈ hw_eT E, hw_ea E t < H.size → H1[hw_ea E t]? = H[hw_ea E t]?) : hw_W E σ H1 := by
  intro k q hq
  obtain ⟨t, h1, rfl⟩ := hw_ws_of hq
  have h2 := h k _ hq
  exact h2.kept (hk t (List.mem_of_getElem? h1) h2.lt)
/-- a call of one of the two objects (E: its world; E2: the other's) -/
theorem hw_lcall {E E2 : hw_E} {y : MethodName} {cy : ByteArray} {mL n idx d2 t ci N : Nat} {Cn : String} {T : u_T} {ty : Nat → FieldType} {As rest : List Value} {r1 : Int32} {σ1 : hw_St} {Y : Option (Int32 × hw_St)}
    (hx : p.tables.exec = Jvm.exec) (hb : c.code = code) (hml : c.maxLocals = 4) (hown : s.vm.findClass RL = some m.cls) (hts : ∀ w ∈ hw_all, w.before #[Value.ref b] s = true) (hK : va_K (hw_eD E) vwCl (hw_ty (hw_eC E)) s) (hAp : hw_Ap E) (hN : hw_Nw E s) (hCs : hw_Cs E s s.heap)
    (hnew : ∀ t ∈ hw_eT E, s.heap.size ≤ hw_ea E t) (hoth : ∀ t ∈ hw_eT E, ∀ u ∈ hw_eT E2, hw_ea E t ≠ hw_ea E2 u) (hl : hw_eL E = l)
    (hM : hw_M E y cy mL (some .int) d2 (hw_rv (hw_ea E) t :: As) σ hw_ri Y) (hY : Y = some (r1, σ1)) (hw : hw_MW y cy mL (some .int) n) (hs : Cond.instanceMethod y ∈ hw_all ∧ Cond.selects Cn y y ∈ hw_all) (cf : hw_CF ci Cn T N ty) (hT : hw_T (hw_eT E) t ci) (hl0 : Cond.methodLink RL idx y ∈ hw_all) (hd : d2 ≤ 1000) (hn : As.length = n ∧ (rest.map fun v => v.category).sum ≤ 8) (dg : decode code pc = .ok (.invokevirtual idx, 3))
    (hlv : ls.size = 4) (hcs : kc ≤ 600000 ∧ ks ≤ 7302250) (hP : hw_W E σ H) (hP2 : hw_W E2 τ H) (hS : va_S (fun q : Nat => s.heap.size ≤ q) s.heap H locs)
    (kk : ∀ (H1 : Heap) (locs1 : List Loc), hw_W E σ1 H1 → hw_W E2 τ H1 → va_S (fun q : Nat => s.heap.size ≤ q) s.heap H1 locs1 → W p l e room_1 s m #[Value.ref b] below meth c H1 locs1 kc ks Q (F0 m (pc + 3) ls (.int r1 :: rest))) :
    W p l e room_1 s m #[Value.ref b] below meth c H locs kc ks Q (F0 m pc ls (As.reverse ++ .ref (hw_ea E t) :: rest)) := by
  subst hl
  have hM2 := hM r1 σ1 hY
  rw [hw_rv_ref (hT.ne (Nat.lt_trans cf.2.2.1 (by decide)))] at hM2
  obtain ⟨i, hi⟩ := hw_tag hT
  have he := hw_ws_at (cA := hw_eC E) (ad := hw_ea E) (σ := σ) hi
  rw [hw_re_o hT.2 cf.2.2.1] at he
  have hcb : CallB room_1 s #[Value.ref b] RL idx y cy mL (some .int) (.code y cy mL (some .int) :: hw_all) (hw_rm d2) 0 0 n := by
    refine callB_of n hts (hw_goodIn hw.1) rfl rfl rfl (hts _ hw.2.1) (hts _ hl0) hw.2.2.2 ?_
    have := hw.2.2.1
    unfold hw_rm room_1
    dsimp only
    omega
  have hpre : ∀ U : State, U.heap = H → s.WarmedH U.vm → va_Pc (.ref (hw_ea E t) :: As) (hw_Wd E σ) (Value.ref (hw_ea E t) :: As).toArray U := by
    intro U hU hW
    refine ⟨rfl, by rw [hU]; exact hP, va_K.moved hW.alike hK, hAp, hN.warm hW, ?_⟩
    rw [hU]
    exact (hCs.kept (fun a h1 _ => hS.2.1 a h1 (Nat.not_le.mpr h1))).moved hW.alike
  have hr := va_runV (Ts := hw_all) (p := p) (e := e) (R := room_1) (below := below) (meth := meth) (H := H) (locs := locs) (cells := kc) (slots := ks) (C := Cn) (b := hw_ea E t) (g := F0 m pc ls (As.reverse ++ .ref (hw_ea E t) :: rest)) (rest := rest) ⟨hx, hb, hml, hown, hts⟩ hM2 ⟨hcb, hts _ hs.1, hts _ hs.2⟩ ⟨hw_blind _ _ _, va_recv hK hP cf.1 he, hpre⟩ rfl hn.1 hlv rfl (lv_room hn.2) dg ⟨hcs.1, hcs.2⟩
  intro T' hT' X
  obtain ⟨v, st₀, tt, T2, LL, h0, X', hL, e1, e2, ⟨hv, hb2, hz, hk⟩, stp⟩ := hr T' hT' X
  cases hv
  rw [h0] at hz hk
  obtain ⟨t2, a1, b1⟩ := kk T2.heap (locs ++ LL) (by rw [e1]; exact hb2)
    (by
      rw [e1]
      refine hw_W_kept hP2 (fun u hu hlt => hk _ hlt (fun h => ?_))
      obtain ⟨t3, h3, h4⟩ := h
      exact hoth t3 h3 u hu h4.symm)
    ⟨Nat.le_trans hS.1 (by rw [e1]; exact hz), fun q h1 h2 => by
        rw [e1, hk q (Nat.lt_of_lt_of_le h1 hS.1) (fun h => h2 (by obtain ⟨t3, h3, rfl⟩ := h; exact hnew t3 h3))]
        exact hS.2.1 q h1 h2, fun q hq => by
      rcases List.mem_append.mp hq with h | h
      · exact hS.2.2 q h
      · obtain ⟨t3, h3, h4⟩ := hL q h
        show s.heap.size ≤ q.base
        rw [h4]
        exact hnew t3 h3⟩ T2 rfl X'
  exact ⟨t2, stp t2 a1, b1⟩
end HWL
set_option maxRecDepth 20000 in
theorem law_case0 {p : Program} {l : Launch} {e : Env} {s : State} {m : MethodId} {below : List Frame} {meth : Method} {c : Code} {b L : Nat} {xs : Nat → Int32} {D : va_G} {cA : Nat → ClassId} {ad : Nat → Nat} {kc ks : Nat} {Q : State → Prop} (LC : hw_Lc p l s m c b L xs D cA ad) (hcs : kc ≤ 600000 ∧ ks ≤ 7302250) {R : hw_St → hw_St → Prop} (hs : hw_sim3 R F_X6_wire F_X7_wire) {i : Nat} (x3 : Int32) (ex3 : x3 = nI i) (hi : i + 6 ≤ L) (hL : L ≤ 384) (σ τ : hw_St) (hR : R σ τ)
    (k : ∀ (σ τ : hw_St) (H : Heap) (locs : List Loc) (ls : Array Slot), R σ τ → hw_W (hw_EH l D cA ad) σ H → hw_W (hw_EM l D cA ad) τ H → va_S (fun q : Nat => s.heap.size ≤ q) s.heap H locs → lv_has ls 4 [(3, .int x3), (2, .ref (ad 200)), (1, .ref (ad 0)), (0, .ref b)] → W p l e room_1 s m #[Value.ref b] below meth c H locs kc ks Q (F0 m 1441 ls []))
    (H : Heap) (locs : List Loc) (ls : Array Slot) (hH : hw_W (hw_EH l D cA ad) σ H) (hM : hw_W (hw_EM l D cA ad) τ H) (hS : va_S (fun q : Nat => s.heap.size ≤ q) s.heap H locs) (hl : lv_has ls 4 [(3, .int x3), (2, .ref (ad 200)), (1, .ref (ad 0)), (0, .ref b)]) : W p l e room_1 s m #[Value.ref b] below meth c H locs kc ks Q (F0 m 204 ls []) := by
  obtain ⟨hx, hb, hml, hown, hts, hK, hApH, hApM, hHM, hnH, hnM, hN, hCH, hCM, hX, hbl⟩ := LC
  have hbA : ¬ (fun q : Nat => s.heap.size ≤ q) b := Nat.not_le.mpr hbl
  have hin1 : vp_in (x3 + 1) L := by rw [ex3, show nI i + 1 = nI (i + 1) from nI_add i 1]; exact vp_in_nI (by omega) (by omega)
  have hin2 : vp_in (x3 + 2) L := by rw [ex3, show nI i + 2 = nI (i + 2) from nI_add i 2]; exact vp_in_nI (by omega) (by omega)
  have hin3 : vp_in (x3 + 3) L := by rw [ex3, show nI i + 3 = nI (i + 3) from nI_add i 3]; exact vp_in_nI (by omega) (by omega)
  obtain ⟨r, σ', τ', h1, h2, hR'⟩ := hs (xs (x3 + 1).toNatClampNeg) (xs (x3 + 2).toNatClampNeg) (xs (x3 + 3).toNatClampNeg) σ τ hR
  refine lv_aload_n hx hb dL_law_204 rfl (lv_at hl 2 rfl) ?_
  refine lv_aload_n hx hb dL_law_205 rfl (lv_at hl 3 rfl) ?_
  refine lv_iload_n hx hb dL_law_206 rfl (lv_at hl 0 rfl) ?_
  refine lv_iconst (v := 1) hx hb dL_law_207 (by decide) ?_
  refine lv_iadd hx hb dL_law_208 ?_
  refine va_sld hx hb hX hbl hbA hS hin1 dL_law_209 ?_
  refine lv_aload_n hx hb dL_law_210 rfl (lv_at hl 3 rfl) ?_
  refine lv_iload_n hx hb dL_law_211 rfl (lv_at hl 0 rfl) ?_
  refine lv_iconst (v := 2) hx hb dL_law_212 (by decide) ?_
  refine lv_iadd hx hb dL_law_213 ?_
  refine va_sld hx hb hX hbl hbA hS hin2 dL_law_214 ?_
  refine lv_aload_n hx hb dL_law_215 rfl (lv_at hl 3 rfl) ?_
  refine lv_iload_n hx hb dL_law_216 rfl (lv_at hl 0 rfl) ?_
  refine lv_iconst (v := 3) hx hb dL_law_217 (by decide) ?_
  refine lv_iadd hx hb dL_law_218 ?_
  refine va_sld hx hb hX hbl hbA hS hin3 dL_law_219 ?_
  refine hw_lcall (E := hw_EH l D cA ad) (E2 := hw_EM l D cA ad) (σ := σ) (τ := τ) (As := [.int (xs (x3 + 1).toNatClampNeg), .int (xs (x3 + 2).toNatClampNeg), .int (xs (x3 + 3).toNatClampNeg)]) (rest := []) (t := 0) hx hb hml hown hts hK hApH hN hCH hnH hHM rfl (M_X6_wire (hw_EH l D cA ad) rfl (xs (x3 + 1).toNatClampNeg) (xs (x3 + 2).toNatClampNeg) (xs (x3 + 3).toNatClampNeg) σ) h1 W_X6_wire SV_X6_wire cf_X6 hw_T0 mw_122 (by decide) ⟨rfl, hw_l8 rfl⟩ dL_law_220 hl.1 hcs hH hM hS (fun H locs hH hM hS => ?_)
  refine lv_aload_n hx hb dL_law_223 rfl (lv_at hl 1 rfl) ?_
  refine lv_aload_n hx hb dL_law_224 rfl (lv_at hl 3 rfl) ?_
  refine lv_iload_n hx hb dL_law_225 rfl (lv_at hl 0 rfl) ?_
  refine lv_iconst (v := 1) hx hb dL_law_226 (by decide) ?_
  refine lv_iadd hx hb dL_law_227 ?_
  refine va_sld hx hb hX hbl hbA hS hin1 dL_law_228 ?_
  refine lv_aload_n hx hb dL_law_229 rfl (lv_at hl 3 rfl) ?_
  refine lv_iload_n hx hb dL_law_230 rfl (lv_at hl 0 rfl) ?_
  refine lv_iconst (v := 2) hx hb dL_law_231 (by decide) ?_
  refine lv_iadd hx hb dL_law_232 ?_
  refine va_sld hx hb hX hbl hbA hS hin2 dL_law_233 ?_
  refine lv_aload_n hx hb dL_law_234 rfl (lv_at hl 3 rfl) ?_
  refine lv_iload_n hx hb dL_law_235 rfl (lv_at hl 0 rfl) ?_
  refine lv_iconst (v := 3) hx hb dL_law_236 (by decide) ?_
  refine lv_iadd hx hb dL_law_237 ?_
  refine va_sld hx hb hX hbl hbA hS hin3 dL_law_238 ?_
  refine hw_lcall (E := hw_EM l D cA ad) (E2 := hw_EH l D cA ad) (σ := τ) (τ := σ') (As := [.int (xs (x3 + 1).toNatClampNeg), .int (xs (x3 + 2).toNatClampNeg), .int (xs (x3 + 3).toNatClampNeg)]) (rest := [.int r]) (t := 200) hx hb hml hown hts hK hApM hN hCM hnM (fun t ht u hu e => hHM u hu t ht e.symm) rfl (M_X7_wire (hw_EM l D cA ad) rfl (xs (x3 + 1).toNatClampNeg) (xs (x3 + 2).toNatClampNeg) (xs (x3 + 3).toNatClampNeg) τ) h2 W_X7_wire SV_X7_wire cf_X7 hw_T200 mw_151 (by decide) ⟨rfl, hw_l8 rfl⟩ dL_law_239 hl.1 hcs hM hH hS (fun H locs hM hH hS => ?_)
  refine lv_icmp_eq (tgt := 1441) hx hb dL_law_242 (by decide) (fun _ => ?_) (fun c => absurd rfl c)
  exact k σ' τ' H locs ls hR' hH hM hS hl
set_option maxRecDepth 20000 in
theorem law_case1 {p : Program} {l : Launch} {e : Env} {s : State} {m : MethodId} {below : List Frame} {meth : Method} {c : Code} {b L : Nat} {xs : Nat → Int32} {D : va_G} {cA : Nat → ClassId} {ad : Nat → Nat} {kc ks : Nat} {Q : State → Prop} (LC : hw_Lc p l s m c b L xs D cA ad) (hcs : kc ≤ 600000 ∧ ks ≤ 7302250) {R : hw_St → hw_St → Prop} (hs : hw_sim2 R F_X6_told F_X7_told) {i : Nat} (x3 : Int32) (ex3 : x3 = nI i) (hi : i + 6 ≤ L) (hL : L ≤ 384) (σ τ : hw_St) (hR : R σ τ)
    (k : ∀ (σ τ : hw_St) (H : Heap) (locs : List Loc) (ls : Array Slot), R σ τ → hw_W (hw_EH l D cA ad) σ H → hw_W (hw_EM l D cA ad) τ H → va_S (fun q : Nat => s.heap.size ≤ q) s.heap H locs → lv_has ls 4 [(3, .int x3), (2, .ref (ad 200)), (1, .ref (ad 0)), (0, .ref b)] → W p l e room_1 s m #[Value.ref b] below meth c H locs kc ks Q (F0 m 1441 ls []))
    (H : Heap) (locs : List Loc) (ls : Array Slot) (hH : hw_W (hw_EH l D cA ad) σ H) (hM : hw_W (hw_EM l D cA ad) τ H) (hS : va_S (fun q : Nat => s.heap.size ≤ q) s.heap H locs) (hl : lv_has ls 4 [(3, .int x3), (2, .ref (ad 200)), (1, .ref (ad 0)), (0, .ref b)]) : W p l e room_1 s m #[Value.ref b] below meth c H locs kc ks Q (F0 m 247 ls []) := by
  obtain ⟨hx, hb, hml, hown, hts, hK, hApH, hApM, hHM, hnH, hnM, hN, hCH, hCM, hX, hbl⟩ := LC
  have hbA : ¬ (fun q : Nat => s.heap.size ≤ q) b := Nat.not_le.mpr hbl
  have hin1 : vp_in (x3 + 1) L := by rw [ex3, show nI i + 1 = nI (i + 1) from nI_add i 1]; exact vp_in_nI (by omega) (by omega)
  have hin2 : vp_in (x3 + 2) L := by rw [ex3, show nI i + 2 = nI (i + 2) from nI_add i 2]; exact vp_in_nI (by omega) (by omega)
  obtain ⟨r, σ', τ', h1, h2, hR'⟩ := hs (xs (x3 + 1).toNatClampNeg) (xs (x3 + 2).toNatClampNeg) σ τ hR
  refine lv_aload_n hx hb dL_law_247 rfl (lv_at hl 2 rfl) ?_
  refine lv_aload_n hx hb dL_law_248 rfl (lv_at hl 3 rfl) ?_
  refine lv_iload_n hx hb dL_law_249 rfl (lv_at hl 0 rfl) ?_
  refine lv_iconst (v := 1) hx hb dL_law_250 (by decide) ?_
  refine lv_iadd hx hb dL_law_251 ?_
  refine va_sld hx hb hX hbl hbA hS hin1 dL_law_252 ?_
  refine lv_aload_n hx hb dL_law_253 rfl (lv_at hl 3 rfl) ?_
  refine lv_iload_n hx hb dL_law_254 rfl (lv_at hl 0 rfl) ?_
  refine lv_iconst (v := 2) hx hb dL_law_255 (by decide) ?_
  refine lv_iadd hx hb dL_law_256 ?_
  refine va_sld hx hb hX hbl hbA hS hin2 dL_law_257 ?_
  refine hw_lcall (E := hw_EH l D cA ad) (E2 := hw_EM l D cA ad) (σ := σ) (τ := τ) (As := [.int (xs (x3 + 1).toNatClampNeg), .int (xs (x3 + 2).toNatClampNeg)]) (rest := []) (t := 0) hx hb hml hown hts hK hApH hN hCH hnH hHM rfl (M_X6_told (hw_EH l D cA ad) rfl (xs (x3 + 1).toNatClampNeg) (xs (x3 + 2).toNatClampNeg) σ) h1 W_X6_told SV_X6_told cf_X6 hw_T0 mw_163 (by decide) ⟨rfl, hw_l8 rfl⟩ dL_law_258 hl.1 hcs hH hM hS (fun H locs hH hM hS => ?_)
  refine lv_aload_n hx hb dL_law_261 rfl (lv_at hl 1 rfl) ?_
  refine lv_aload_n hx hb dL_law_262 rfl (lv_at hl 3 rfl) ?_
  refine lv_iload_n hx hb dL_law_263 rfl (lv_at hl 0 rfl) ?_
  refine lv_iconst (v := 1) hx hb dL_law_264 (by decide) ?_
  refine lv_iadd hx hb dL_law_265 ?_
  refine va_sld hx hb hX hbl hbA hS hin1 dL_law_266 ?_
  refine lv_aload_n hx hb dL_law_267 rfl (lv_at hl 3 rfl) ?_
  refine lv_iload_n hx hb dL_law_268 rfl (lv_at hl 0 rfl) ?_
  refine lv_iconst (v := 2) hx hb dL_law_269 (by decide) ?_
  refine lv_iadd hx hb dL_law_270 ?_
  refine va_sld hx hb hX hbl hbA hS hin2 dL_law_271 ?_
  refine hw_lcall (E := hw_EM l D cA ad) (E2 := hw_EH l D cA ad) (σ := τ) (τ := σ') (As := [.int (xs (x3 + 1).toNatClampNeg), .int (xs (x3 + 2).toNatClampNeg)]) (rest := [.int r]) (t := 200) hx hb hml hown hts hK hApM hN hCM hnM (fun t ht u hu e => hHM u hu t ht e.symm) rfl (M_X7_told (hw_EM l D cA ad) rfl (xs (x3 + 1).toNatClampNeg) (xs (x3 + 2).toNatClampNeg) τ) h2 W_X7_told SV_X7_told cf_X7 hw_T200 mw_186 (by decide) ⟨rfl, hw_l8 rfl⟩ dL_law_272 hl.1 hcs hM hH hS (fun H locs hM hH hS => ?_)
  refine lv_icmp_eq (tgt := 1441) hx hb dL_law_275 (by decide) (fun _ => ?_) (fun c => absurd rfl c)
  exact k σ' τ' H locs ls hR' hH hM hS hl
set_option maxRecDepth 20000 in
theorem law_case2 {p : Program} {l : Launch} {e : Env} {s : State} {m : MethodId} {below : List Frame} {meth : Method} {c : Code} {b L : Nat} {xs : Nat → Int32} {D : va_G} {cA : Nat → ClassId} {ad : Nat → Nat} {kc ks : Nat} {Q : State → Prop} (LC : hw_Lc p l s m c b L xs D cA ad) (hcs : kc ≤ 600000 ∧ ks ≤ 7302250) {R : hw_St → hw_St → Prop} (hs : hw_sim2 R F_X6_as F_X7_as) {i : Nat} (x3 : Int32) (ex3 : x3 = nI i) (hi : i + 6 ≤ L) (hL : L ≤ 384) (σ τ : hw_St) (hR : R σ τ)
    (k : ∀ (σ τ : hw_St) (H : Heap) (locs : List Loc) (ls : Array Slot), R σ τ → hw_W (hw_EH l D cA ad) σ H → hw_W (hw_EM l D cA ad) τ H → va_S (fun q : Nat => s.heap.size ≤ q) s.heap H locs → lv_has ls 4 [(3, .int x3), (2, .ref (ad 200)), (1, .ref (ad 0)), (0, .ref b)] → W p l e room_1 s m #[Value.ref b] below meth c H locs kc ks Q (F0 m 1441 ls []))
    (H : Heap) (locs : List Loc) (ls : Array Slot) (hH : hw_W (hw_EH l D cA ad) σ H) (hM : hw_W (hw_EM l D cA ad) τ H) (hS : va_S (fun q : Nat => s.heap.size ≤ q) s.heap H locs) (hl : lv_has ls 4 [(3, .int x3), (2, .ref (ad 200)), (1, .ref (ad 0)), (0, .ref b)]) : W p l e room_1 s m #[Value.ref b] below meth c H locs kc ks Q (F0 m 280 ls []) := by
  obtain ⟨hx, hb, hml, hown, hts, hK, hApH, hApM, hHM, hnH, hnM, hN, hCH, hCM, hX, hbl⟩ := LC
  have hbA : ¬ (fun q : Nat => s.heap.size ≤ q) b := Nat.not_le.mpr hbl
  have hin1 : vp_in (x3 + 1) L := by rw [ex3, show nI i + 1 = nI (i + 1) from nI_add i 1]; exact vp_in_nI (by omega) (by omega)
  have hin2 : vp_in (x3 + 2) L := by rw [ex3, show nI i + 2 = nI (i + 2) from nI_add i 2]; exact vp_in_nI (by omega) (by omega)
  obtain ⟨r, σ', τ', h1, h2, hR'⟩ := hs (xs (x3 + 1).toNatClampNeg) (xs (x3 + 2).toNatClampNeg) σ τ hR
  refine lv_aload_n hx hb dL_law_280 rfl (lv_at hl 2 rfl) ?_
  refine lv_aload_n hx hb dL_law_281 rfl (lv_at hl 3 rfl) ?_
  refine lv_iload_n hx hb dL_law_282 rfl (lv_at hl 0 rfl) ?_
  refine lv_iconst (v := 1) hx hb dL_law_283 (by decide) ?_
  refine lv_iadd hx hb dL_law_284 ?_
  refine va_sld hx hb hX hbl hbA hS hin1 dL_law_285 ?_
  refine lv_aload_n hx hb dL_law_286 rfl (lv_at hl 3 rfl) ?_
  refine lv_iload_n hx hb dL_law_287 rfl (lv_at hl 0 rfl) ?_
  refine lv_iconst (v := 2) hx hb dL_law_288 (by decide) ?_
  refine lv_iadd hx hb dL_law_289 ?_
  refine va_sld hx hb hX hbl hbA hS hin2 dL_law_290 ?_
  refine hw_lcall (E := hw_EH l D cA ad) (E2 := hw_EM l D cA ad) (σ := σ) (τ := τ) (As := [.int (xs (x3 + 1).toNatClampNeg), .int (xs (x3 + 2).toNatClampNeg)]) (rest := []) (t := 0) hx hb hml hown hts hK hApH hN hCH hnH hHM rfl (M_X6_as (hw_EH l D cA ad) rfl (xs (x3 + 1).toNatClampNeg) (xs (x3 + 2).toNatClampNeg) σ) h1 W_X6_as SV_X6_as cf_X6 hw_T0 mw_206 (by decide) ⟨rfl, hw_l8 rfl⟩ dL_law_291 hl.1 hcs hH hM hS (fun H locs hH hM hS => ?_)
  refine lv_aload_n hx hb dL_law_294 rfl (lv_at hl 1 rfl) ?_
  refine lv_aload_n hx hb dL_law_295 rfl (lv_at hl 3 rfl) ?_
  refine lv_iload_n hx hb dL_law_296 rfl (lv_at hl 0 rfl) ?_
  refine lv_iconst (v := 1) hx hb dL_law_297 (by decide) ?_
  refine lv_iadd hx hb dL_law_298 ?_
  refine va_sld hx hb hX hbl hbA hS hin1 dL_law_299 ?_
  refine lv_aload_n hx hb dL_law_300 rfl (lv_at hl 3 rfl) ?_
  refine lv_iload_n hx hb dL_law_301 rfl (lv_at hl 0 rfl) ?_
  refine lv_iconst (v := 2) hx hb dL_law_302 (by decide) ?_
  refine lv_iadd hx hb dL_law_303 ?_
  refine va_sld hx hb hX hbl hbA hS hin2 dL_law_304 ?_
  refine hw_lcall (E := hw_EM l D cA ad) (E2 := hw_EH l D cA ad) (σ := τ) (τ := σ') (As := [.int (xs (x3 + 1).toNatClampNeg), .int (xs (x3 + 2).toNatClampNeg)]) (rest := [.int r]) (t := 200) hx hb hml hown hts hK hApM hN hCM hnM (fun t ht u hu e => hHM u hu t ht e.symm) rfl (M_X7_as (hw_EM l D cA ad) rfl (xs (x3 + 1).toNatClampNeg) (xs (x3 + 2).toNatClampNeg) τ) h2 W_X7_as SV_X7_as cf_X7 hw_T200 mw_215 (by decide) ⟨rfl, hw_l8 rfl⟩ dL_law_305 hl.1 hcs hM hH hS (fun H locs hM hH hS => ?_)
  refine lv_icmp_eq (tgt := 1441) hx hb dL_law_308 (by decide) (fun _ => ?_) (fun c => absurd rfl c)
  exact k σ' τ' H locs ls hR' hH hM hS hl
set_option maxRecDepth 20000 in
theorem law_case3 {p : Program} {l : Launch} {e : Env} {s : State} {m : MethodId} {below : List Frame} {meth : Method} {c : Code} {b L : Nat} {xs : Nat → Int32} {D : va_G} {cA : Nat → ClassId} {ad : Nat → Nat} {kc ks : Nat} {Q : State → Prop} (LC : hw_Lc p l s m c b L xs D cA ad) (hcs : kc ≤ 600000 ∧ ks ≤ 7302250) {R : hw_St → hw_St → Prop} (hs : hw_sim2 R F_X6_turns F_X7_turns) {i : Nat} (x3 : Int32) (ex3 : x3 = nI i) (hi : i + 6 ≤ L) (hL : L ≤ 384) (σ τ : hw_St) (hR : R σ τ)
    (k : ∀ (σ τ : hw_St) (H : Heap) (locs : List Loc) (ls : Array Slot), R σ τ → hw_W (hw_EH l D cA ad) σ H → hw_W (hw_EM l D cA ad) τ H → va_S (fun q : Nat => s.heap.size ≤ q) s.heap H locs → lv_has ls 4 [(3, .int x3), (2, .ref (ad 200)), (1, .ref (ad 0)), (0, .ref b)] → W p l e room_1 s m #[Value.ref b] below meth c H locs kc ks Q (F0 m 1441 ls []))
    (H : Heap) (locs : List Loc) (ls : Array Slot) (hH : hw_W (hw_EH l D cA ad) σ H) (hM : hw_W (hw_EM l D cA ad) τ H) (hS : va_S (fun q : Nat => s.heap.size ≤ q) s.heap H locs) (hl : lv_has ls 4 [(3, .int x3), (2, .ref (ad 200)), (1, .ref (ad 0)), (0, .ref b)]) : W p l e room_1 s m #[Value.ref b] below meth c H locs kc ks Q (F0 m 313 ls []) := by
  obtain ⟨hx, hb, hml, hown, hts, hK, hApH, hApM, hHM, hnH, hnM, hN, hCH, hCM, hX, hbl⟩ := LC
  have hbA : ¬ (fun q : Nat => s.heap.size ≤ q) b := Nat.not_le.mpr hbl
  have hin1 : vp_in (x3 + 1) L := by rw [ex3, show nI i + 1 = nI (i + 1) from nI_add i 1]; exact vp_in_nI (by omega) (by omega)
  have hin2 : vp_in (x3 + 2) L := by rw [ex3, show nI i + 2 = nI (i + 2) from nI_add i 2]; exact vp_in_nI (by omega) (by omega)
  obtain ⟨r, σ', τ', h1, h2, hR'⟩ := hs (xs (x3 + 1).toNatClampNeg) (xs (x3 + 2).toNatClampNeg) σ τ hR
  refine lv_aload_n hx hb dL_law_313 rfl (lv_at hl 2 rfl) ?_
  refine lv_aload_n hx hb dL_law_314 rfl (lv_at hl 3 rfl) ?_
  refine lv_iload_n hx hb dL_law_315 rfl (lv_at hl 0 rfl) ?_
  refine lv_iconst (v := 1) hx hb dL_law_316 (by decide) ?_
  refine lv_iadd hx hb dL_law_317 ?_
  refine va_sld hx hb hX hbl hbA hS hin1 dL_law_318 ?_
  refine lv_aload_n hx hb dL_law_319 rfl (lv_at hl 3 rfl) ?_
  refine lv_iload_n hx hb dL_law_320 rfl (lv_at hl 0 rfl) ?_
  refine lv_iconst (v := 2) hx hb dL_law_321 (by decide) ?_
  refine lv_iadd hx hb dL_law_322 ?_
  refine va_sld hx hb hX hbl hbA hS hin2 dL_law_323 ?_
  refine hw_lcall (E := hw_EH l D cA ad) (E2 := hw_EM l D cA ad) (σ := σ) (τ := τ) (As := [.int (xs (x3 + 1).toNatClampNeg), .int (xs (x3 + 2).toNatClampNeg)]) (rest := []) (t := 0) hx hb hml hown hts hK hApH hN hCH hnH hHM rfl (M_X6_turns (hw_EH l D cA ad) rfl (xs (x3 + 1).toNatClampNeg) (xs (x3 + 2).toNatClampNeg) σ) h1 W_X6_turns SV_X6_turns cf_X6 hw_T0 mw_223 (by decide) ⟨rfl, hw_l8 rfl⟩ dL_law_324 hl.1 hcs hH hM hS (fun H locs hH hM hS => ?_)
  refine lv_aload_n hx hb dL_law_327 rfl (lv_at hl 1 rfl) ?_
  refine lv_aload_n hx hb dL_law_328 rfl (lv_at hl 3 rfl) ?_
  refine lv_iload_n hx hb dL_law_329 rfl (lv_at hl 0 rfl) ?_
  refine lv_iconst (v := 1) hx hb dL_law_330 (by decide) ?_
  refine lv_iadd hx hb dL_law_331 ?_
  refine va_sld hx hb hX hbl hbA hS hin1 dL_law_332 ?_
  refine lv_aload_n hx hb dL_law_333 rfl (lv_at hl 3 rfl) ?_
  refine lv_iload_n hx hb dL_law_334 rfl (lv_at hl 0 rfl) ?_
  refine lv_iconst (v := 2) hx hb dL_law_335 (by decide) ?_
  refine lv_iadd hx hb dL_law_336 ?_
  refine va_sld hx hb hX hbl hbA hS hin2 dL_law_337 ?_
  refine hw_lcall (E := hw_EM l D cA ad) (E2 := hw_EH l D cA ad) (σ := τ) (τ := σ') (As := [.int (xs (x3 + 1).toNatClampNeg), .int (xs (x3 + 2).toNatClampNeg)]) (rest := [.int r]) (t := 200) hx hb hml hown hts hK hApM hN hCM hnM (fun t ht u hu e => hHM u hu t ht e.symm) rfl (M_X7_turns (hw_EM l D cA ad) rfl (xs (x3 + 1).toNatClampNeg) (xs (x3 + 2).toNatClampNeg) τ) h2 W_X7_turns SV_X7_turns cf_X7 hw_T200 mw_227 (by decide) ⟨rfl, hw_l8 rfl⟩ dL_law_338 hl.1 hcs hM hH hS (fun H locs hM hH hS => ?_)
  refine lv_icmp_eq (tgt := 1441) hx hb dL_law_341 (by decide) (fun _ => ?_) (fun c => absurd rfl c)
  exact k σ' τ' H locs ls hR' hH hM hS hl
set_option maxRecDepth 20000 in
theorem law_case4 {p : Program} {l : Launch} {e : Env} {s : State} {m : MethodId} {below : List Frame} {meth : Method} {c : Code} {b L : Nat} {xs : Nat → Int32} {D : va_G} {cA : Nat → ClassId} {ad : Nat → Nat} {kc ks : Nat} {Q : State → Prop} (LC : hw_Lc p l s m c b L xs D cA ad) (hcs : kc ≤ 600000 ∧ ks ≤ 7302250) {R : hw_St → hw_St → Prop} (hs : hw_sim3 R F_X6_set F_X7_set) {i : Nat} (x3 : Int32) (ex3 : x3 = nI i) (hi : i + 6 ≤ L) (hL : L ≤ 384) (σ τ : hw_St) (hR : R σ τ)
    (k : ∀ (σ τ : hw_St) (H : Heap) (locs : List Loc) (ls : Array Slot), R σ τ → hw_W (hw_EH l D cA ad) σ H → hw_W (hw_EM l D cA ad) τ H → va_S (fun q : Nat => s.heap.size ≤ q) s.heap H locs → lv_has ls 4 [(3, .int x3), (2, .ref (ad 200)), (1, .ref (ad 0)), (0, .ref b)] → W p l e room_1 s m #[Value.ref b] below meth c H locs kc ks Q (F0 m 1441 ls []))
    (H : Heap) (locs : List Loc) (ls : Array Slot) (hH : hw_W (hw_EH l D cA ad) σ H) (hM : hw_W (hw_EM l D cA ad) τ H) (hS : va_S (fun q : Nat => s.heap.size ≤ q) s.heap H locs) (hl : lv_has ls 4 [(3, .int x3), (2, .ref (ad 200)), (1, .ref (ad 0)), (0, .ref b)]) : W p l e room_1 s m #[Value.ref b] below meth c H locs kc ks Q (F0 m 346 ls []) := by
  obtain ⟨hx, hb, hml, hown, hts, hK, hApH, hApM, hHM, hnH, hnM, hN, hCH, hCM, hX, hbl⟩ := LC
  have hbA : ¬ (fun q : Nat => s.heap.size ≤ q) b := Nat.not_le.mpr hbl
  have hin1 : vp_in (x3 + 1) L := by rw [ex3, show nI i + 1 = nI (i + 1) from nI_add i 1]; exact vp_in_nI (by omega) (by omega)
  have hin2 : vp_in (x3 + 2) L := by rw [ex3, show nI i + 2 = nI (i + 2) from nI_add i 2]; exact vp_in_nI (by omega) (by omega)
  have hin3 : vp_in (x3 + 3) L := by rw [ex3, show nI i + 3 = nI (i + 3) from nI_add i 3]; exact vp_in_nI (by omega) (by omega)
  obtain ⟨r, σ', τ', h1, h2, hR'⟩ := hs (xs (x3 + 1).toNatClampNeg) (xs (x3 + 2).toNatClampNeg) (xs (x3 + 3).toNatClampNeg) σ τ hR
  refine lv_aload_n hx hb dL_law_346 rfl (lv_at hl 2 rfl) ?_
  refine lv_aload_n hx hb dL_law_347 rfl (lv_at hl 3 rfl) ?_
  refine lv_iload_n hx hb dL_law_348 rfl (lv_at hl 0 rfl) ?_
  refine lv_iconst (v := 1) hx hb dL_law_349 (by decide) ?_
  refine lv_iadd hx hb dL_law_350 ?_
  refine va_sld hx hb hX hbl hbA hS hin1 dL_law_351 ?_
  refine lv_aload_n hx hb dL_law_352 rfl (lv_at hl 3 rfl) ?_
  refine lv_iload_n hx hb dL_law_353 rfl (lv_at hl 0 rfl) ?_
  refine lv_iconst (v := 2) hx hb dL_law_354 (by decide) ?_
  refine lv_iadd hx hb dL_law_355 ?_
  refine va_sld hx hb hX hbl hbA hS hin2 dL_law_356 ?_
  refine lv_aload_n hx hb dL_law_357 rfl (lv_at hl 3 rfl) ?_
  refine lv_iload_n hx hb dL_law_358 rfl (lv_at hl 0 rfl) ?_
  refine lv_iconst (v := 3) hx hb dL_law_359 (by decide) ?_
  refine lv_iadd hx hb dL_law_360 ?_
  refine va_sld hx hb hX hbl hbA hS hin3 dL_law_361 ?_
  refine hw_lcall (E := hw_EH l D cA ad) (E2 := hw_EM l D cA ad) (σ := σ) (τ := τ) (As := [.int (xs (x3 + 1).toNatClampNeg), .int (xs (x3 + 2).toNatClampNeg), .int (xs (x3 + 3).toNatClampNeg)]) (rest := []) (t := 0) hx hb hml hown hts hK hApH hN hCH hnH hHM rfl (M_X6_set (hw_EH l D cA ad) rfl (xs (x3 + 1).toNatClampNeg) (xs (x3 + 2).toNatClampNeg) (xs (x3 + 3).toNatClampNeg) σ) h1 W_X6_set SV_X6_set cf_X6 hw_T0 mw_235 (by decide) ⟨rfl, hw_l8 rfl⟩ dL_law_362 hl.1 hcs hH hM hS (fun H locs hH hM hS => ?_)
  refine lv_aload_n hx hb dL_law_365 rfl (lv_at hl 1 rfl) ?_
  refine lv_aload_n hx hb dL_law_366 rfl (lv_at hl 3 rfl) ?_
  refine lv_iload_n hx hb dL_law_367 rfl (lv_at hl 0 rfl) ?_
  refine lv_iconst (v := 1) hx hb dL_law_368 (by decide) ?_
  refine lv_iadd hx hb dL_law_369 ?_
  refine va_sld hx hb hX hbl hbA hS hin1 dL_law_370 ?_
  refine lv_aload_n hx hb dL_law_371 rfl (lv_at hl 3 rfl) ?_
  refine lv_iload_n hx hb dL_law_372 rfl (lv_at hl 0 rfl) ?_
  refine lv_iconst (v := 2) hx hb dL_law_373 (by decide) ?_
  refine lv_iadd hx hb dL_law_374 ?_
  refine va_sld hx hb hX hbl hbA hS hin2 dL_law_375 ?_
  refine lv_aload_n hx hb dL_law_376 rfl (lv_at hl 3 rfl) ?_
  refine lv_iload_n hx hb dL_law_377 rfl (lv_at hl 0 rfl) ?_
  refine lv_iconst (v := 3) hx hb dL_law_378 (by decide) ?_
  refine lv_iadd hx hb dL_law_379 ?_
  refine va_sld hx hb hX hbl hbA hS hin3 dL_law_380 ?_
  refine hw_lcall (E := hw_EM l D cA ad) (E2 := hw_EH l D cA ad) (σ := τ) (τ := σ') (As := [.int (xs (x3 + 1).toNatClampNeg), .int (xs (x3 + 2).toNatClampNeg), .int (xs (x3 + 3).toNatClampNeg)]) (rest := [.int r]) (t := 200) hx hb hml hown hts hK hApM hN hCM hnM (fun t ht u hu e => hHM u hu t ht e.symm) rfl (M_X7_set (hw_EM l D cA ad) rfl (xs (x3 + 1).toNatClampNeg) (xs (x3 + 2).toNatClampNeg) (xs (x3 + 3).toNatClampNeg) τ) h2 W_X7_set SV_X7_set cf_X7 hw_T200 mw_246 (by decide) ⟨rfl, hw_l8 rfl⟩ dL_law_381 hl.1 hcs hM hH hS (fun H locs hM hH hS => ?_)
  refine lv_icmp_eq (tgt := 1441) hx hb dL_law_384 (by decide) (fun _ => ?_) (fun c => absurd rfl c)
  exact k σ' τ' H locs ls hR' hH hM hS hl
set_option maxRecDepth 20000 in
theorem law_case5 {p : Program} {l : Launch} {e : Env} {s : State} {m : MethodId} {below : List Frame} {meth : Method} {c : Code} {b L : Nat} {xs : Nat → Int32} {D : va_G} {cA : Nat → ClassId} {ad : Nat → Nat} {kc ks : Nat} {Q : State → Prop} (LC : hw_Lc p l s m c b L xs D cA ad) (hcs : kc ≤ 600000 ∧ ks ≤ 7302250) {R : hw_St → hw_St → Prop} (hs : hw_sim2 R F_X6_wind F_X7_wind) {i : Nat} (x3 : Int32) (ex3 : x3 = nI i) (hi : i + 6 ≤ L) (hL : L ≤ 384) (σ τ : hw_St) (hR : R σ τ)
    (k : ∀ (σ τ : hw_St) (H : Heap) (locs : List Loc) (ls : Array Slot), R σ τ → hw_W (hw_EH l D cA ad) σ H → hw_W (hw_EM l D cA ad) τ H → va_S (fun q : Nat => s.heap.size ≤ q) s.heap H locs → lv_has ls 4 [(3, .int x3), (2, .ref (ad 200)), (1, .ref (ad 0)), (0, .ref b)] → W p l e room_1 s m #[Value.ref b] below meth c H locs kc ks Q (F0 m 1441 ls []))
    (H : Heap) (locs : List Loc) (ls : Array Slot) (hH : hw_W (hw_EH l D cA ad) σ H) (hM : hw_W (hw_EM l D cA ad) τ H) (hS : va_S (fun q : Nat => s.heap.size ≤ q) s.heap H locs) (hl : lv_has ls 4 [(3, .int x3), (2, .ref (ad 200)), (1, .ref (ad 0)), (0, .ref b)]) : W p l e room_1 s m #[Value.ref b] below meth c H locs kc ks Q (F0 m 389 ls []) := by
  obtain ⟨hx, hb, hml, hown, hts, hK, hApH, hApM, hHM, hnH, hnM, hN, hCH, hCM, hX, hbl⟩ := LC
  have hbA : ¬ (fun q : Nat => s.heap.size ≤ q) b := Nat.not_le.mpr hbl
  have hin1 : vp_in (x3 + 1) L := by rw [ex3, show nI i + 1 = nI (i + 1) from nI_add i 1]; exact vp_in_nI (by omega) (by omega)
  have hin2 : vp_in (x3 + 2) L := by rw [ex3, show nI i + 2 = nI (i + 2) from nI_add i 2]; exact vp_in_nI (by omega) (by omega)
  obtain ⟨r, σ', τ', h1, h2, hR'⟩ := hs (xs (x3 + 1).toNatClampNeg) (xs (x3 + 2).toNatClampNeg) σ τ hR
  refine lv_aload_n hx hb dL_law_389 rfl (lv_at hl 2 rfl) ?_
  refine lv_aload_n hx hb dL_law_390 rfl (lv_at hl 3 rfl) ?_
  refine lv_iload_n hx hb dL_law_391 rfl (lv_at hl 0 rfl) ?_
  refine lv_iconst (v := 1) hx hb dL_law_392 (by decide) ?_
  refine lv_iadd hx hb dL_law_393 ?_
  refine va_sld hx hb hX hbl hbA hS hin1 dL_law_394 ?_
  refine lv_aload_n hx hb dL_law_395 rfl (lv_at hl 3 rfl) ?_
  refine lv_iload_n hx hb dL_law_396 rfl (lv_at hl 0 rfl) ?_
  refine lv_iconst (v := 2) hx hb dL_law_397 (by decide) ?_
  refine lv_iadd hx hb dL_law_398 ?_
  refine va_sld hx hb hX hbl hbA hS hin2 dL_law_399 ?_
  refine hw_lcall (E := hw_EH l D cA ad) (E2 := hw_EM l D cA ad) (σ := σ) (τ := τ) (As := [.int (xs (x3 + 1).toNatClampNeg), .int (xs (x3 + 2).toNatClampNeg)]) (rest := []) (t := 0) hx hb hml hown hts hK hApH hN hCH hnH hHM rfl (M_X6_wind (hw_EH l D cA ad) rfl (xs (x3 + 1).toNatClampNeg) (xs (x3 + 2).toNatClampNeg) σ) h1 W_X6_wind SV_X6_wind cf_X6 hw_T0 mw_250 (by decide) ⟨rfl, hw_l8 rfl⟩ dL_law_400 hl.1 hcs hH hM hS (fun H locs hH hM hS => ?_)
  refine lv_aload_n hx hb dL_law_403 rfl (lv_at hl 1 rfl) ?_
  refine lv_aload_n hx hb dL_law_404 rfl (lv_at hl 3 rfl) ?_
  refine lv_iload_n hx hb dL_law_405 rfl (lv_at hl 0 rfl) ?_
  refine lv_iconst (v := 1) hx hb dL_law_406 (by decide) ?_
  refine lv_iadd hx hb dL_law_407 ?_
  refine va_sld hx hb hX hbl hbA hS hin1 dL_law_408 ?_
  refine lv_aload_n hx hb dL_law_409 rfl (lv_at hl 3 rfl) ?_
  refine lv_iload_n hx hb dL_law_410 rfl (lv_at hl 0 rfl) ?_
  refine lv_iconst (v := 2) hx hb dL_law_411 (by decide) ?_
  refine lv_iadd hx hb dL_law_412 ?_
  refine va_sld hx hb hX hbl hbA hS hin2 dL_law_413 ?_
  refine hw_lcall (E := hw_EM l D cA ad) (E2 := hw_EH l D cA ad) (σ := τ) (τ := σ') (As := [.int (xs (x3 + 1).toNatClampNeg), .int (xs (x3 + 2).toNatClampNeg)]) (rest := [.int r]) (t := 200) hx hb hml hown hts hK hApM hN hCM hnM (fun t ht u hu e => hHM u hu t ht e.symm) rfl (M_X7_wind (hw_EM l D cA ad) rfl (xs (x3 + 1).toNatClampNeg) (xs (x3 + 2).toNatClampNeg) τ) h2 W_X7_wind SV_X7_wind cf_X7 hw_T200 mw_261 (by decide) ⟨rfl, hw_l8 rfl⟩ dL_law_414 hl.1 hcs hM hH hS (fun H locs hM hH hS => ?_)
  refine lv_icmp_eq (tgt := 1441) hx hb dL_law_417 (by decide) (fun _ => ?_) (fun c => absurd rfl c)
  exact k σ' τ' H locs ls hR' hH hM hS hl
set_option maxRecDepth 20000 in
theorem law_case6 {p : Program} {l : Launch} {e : Env} {s : State} {m : MethodId} {below : List Frame} {meth : Method} {c : Code} {b L : Nat} {xs : Nat → Int32} {D : va_G} {cA : Nat → ClassId} {ad : Nat → Nat} {kc ks : Nat} {Q : State → Prop} (LC : hw_Lc p l s m c b L xs D cA ad) (hcs : kc ≤ 600000 ∧ ks ≤ 7302250) {R : hw_St → hw_St → Prop} (hs : hw_sim1 R F_X6_windAt F_X7_windAt) {i : Nat} (x3 : Int32) (ex3 : x3 = nI i) (hi : i + 6 ≤ L) (hL : L ≤ 384) (σ τ : hw_St) (hR : R σ τ)
    (k : ∀ (σ τ : hw_St) (H : Heap) (locs : List Loc) (ls : Array Slot), R σ τ → hw_W (hw_EH l D cA ad) σ H → hw_W (hw_EM l D cA ad) τ H → va_S (fun q : Nat => s.heap.size ≤ q) s.heap H locs → lv_has ls 4 [(3, .int x3), (2, .ref (ad 200)), (1, .ref (ad 0)), (0, .ref b)] → W p l e room_1 s m #[Value.ref b] below meth c H locs kc ks Q (F0 m 1441 ls []))
    (H : Heap) (locs : List Loc) (ls : Array Slot) (hH : hw_W (hw_EH l D cA ad) σ H) (hM : hw_W (hw_EM l D cA ad) τ H) (hS : va_S (fun q : Nat => s.heap.size ≤ q) s.heap H locs) (hl : lv_has ls 4 [(3, .int x3), (2, .ref (ad 200)), (1, .ref (ad 0)), (0, .ref b)]) : W p l e room_1 s m #[Value.ref b] below meth c H locs kc ks Q (F0 m 422 ls []) := by
  obtain ⟨hx, hb, hml, hown, hts, hK, hApH, hApM, hHM, hnH, hnM, hN, hCH, hCM, hX, hbl⟩ := LC
  have hbA : ¬ (fun q : Nat => s.heap.size ≤ q) b := Nat.not_le.mpr hbl
  have hin1 : vp_in (x3 + 1) L := by rw [ex3, show nI i + 1 = nI (i + 1) from nI_add i 1]; exact vp_in_nI (by omega) (by omega)
  obtain ⟨r, σ', τ', h1, h2, hR'⟩ := hs (xs (x3 + 1).toNatClampNeg) σ τ hR
  refine lv_aload_n hx hb dL_law_422 rfl (lv_at hl 2 rfl) ?_
  refine lv_aload_n hx hb dL_law_423 rfl (lv_at hl 3 rfl) ?_
  refine lv_iload_n hx hb dL_law_424 rfl (lv_at hl 0 rfl) ?_
  refine lv_iconst (v := 1) hx hb dL_law_425 (by decide) ?_
  refine lv_iadd hx hb dL_law_426 ?_
  refine va_sld hx hb hX hbl hbA hS hin1 dL_law_427 ?_
  refine hw_lcall (E := hw_EH l D cA ad) (E2 := hw_EM l D cA ad) (σ := σ) (τ := τ) (As := [.int (xs (x3 + 1).toNatClampNeg)]) (rest := []) (t := 0) hx hb hml hown hts hK hApH hN hCH hnH hHM rfl (M_X6_windAt (hw_EH l D cA ad) rfl (xs (x3 + 1).toNatClampNeg) σ) h1 W_X6_windAt SV_X6_windAt cf_X6 hw_T0 mw_271 (by decide) ⟨rfl, hw_l8 rfl⟩ dL_law_428 hl.1 hcs hH hM hS (fun H locs hH hM hS => ?_)
  refine lv_aload_n hx hb dL_law_431 rfl (lv_at hl 1 rfl) ?_
  refine lv_aload_n hx hb dL_law_432 rfl (lv_at hl 3 rfl) ?_
  refine lv_iload_n hx hb dL_law_433 rfl (lv_at hl 0 rfl) ?_
  refine lv_iconst (v := 1) hx hb dL_law_434 (by decide) ?_
  refine lv_iadd hx hb dL_law_435 ?_
  refine va_sld hx hb hX hbl hbA hS hin1 dL_law_436 ?_
  refine hw_lcall (E := hw_EM l D cA ad) (E2 := hw_EH l D cA ad) (σ := τ) (τ := σ') (As := [.int (xs (x3 + 1).toNatClampNeg)]) (rest := [.int r]) (t := 200) hx hb hml hown hts hK hApM hN hCM hnM (fun t ht u hu e => hHM u hu t ht e.symm) rfl (M_X7_windAt (hw_EM l D cA ad) rfl (xs (x3 + 1).toNatClampNeg) τ) h2 W_X7_windAt SV_X7_windAt cf_X7 hw_T200 mw_275 (by decide) ⟨rfl, hw_l8 rfl⟩ dL_law_437 hl.1 hcs hM hH hS (fun H locs hM hH hS => ?_)
  refine lv_icmp_eq (tgt := 1441) hx hb dL_law_440 (by decide) (fun _ => ?_) (fun c => absurd rfl c)
  exact k σ' τ' H locs ls hR' hH hM hS hl
set_option maxRecDepth 20000 in
theorem law_case7 {p : Program} {l : Launch} {e : Env} {s : State} {m : MethodId} {below : List Frame} {meth : Method} {c : Code} {b L : Nat} {xs : Nat → Int32} {D : va_G} {cA : Nat → ClassId} {ad : Nat → Nat} {kc ks : Nat} {Q : State → Prop} (LC : hw_Lc p l s m c b L xs D cA ad) (hcs : kc ≤ 600000 ∧ ks ≤ 7302250) {R : hw_St → hw_St → Prop} (hs : hw_sim1 R F_X6_limit F_X7_limit) {i : Nat} (x3 : Int32) (ex3 : x3 = nI i) (hi : i + 6 ≤ L) (hL : L ≤ 384) (σ τ : hw_St) (hR : R σ τ)
    (k : ∀ (σ τ : hw_St) (H : Heap) (locs : List Loc) (ls : Array Slot), R σ τ → hw_W (hw_EH l D cA ad) σ H → hw_W (hw_EM l D cA ad) τ H → va_S (fun q : Nat => s.heap.size ≤ q) s.heap H locs → lv_has ls 4 [(3, .int x3), (2, .ref (ad 200)), (1, .ref (ad 0)), (0, .ref b)] → W p l e room_1 s m #[Value.ref b] below meth c H locs kc ks Q (F0 m 1441 ls []))
    (H : Heap) (locs : List Loc) (ls : Array Slot) (hH : hw_W (hw_EH l D cA ad) σ H) (hM : hw_W (hw_EM l D cA ad) τ H) (hS : va_S (fun q : Nat => s.heap.size ≤ q) s.heap H locs) (hl : lv_has ls 4 [(3, .int x3), (2, .ref (ad 200)), (1, .ref (ad 0)), (0, .ref b)]) : W p l e room_1 s m #[Value.ref b] below meth c H locs kc ks Q (F0 m 445 ls []) := by
  obtain ⟨hx, hb, hml, hown, hts, hK, hApH, hApM, hHM, hnH, hnM, hN, hCH, hCM, hX, hbl⟩ := LC
  have hbA : ¬ (fun q : Nat => s.heap.size ≤ q) b := Nat.not_le.mpr hbl
  have hin1 : vp_in (x3 + 1) L := by rw [ex3, show nI i + 1 = nI (i + 1) from nI_add i 1]; exact vp_in_nI (by omega) (by omega)
  obtain ⟨r, σ', τ', h1, h2, hR'⟩ := hs (xs (x3 + 1).toNatClampNeg) σ τ hR
  refine lv_aload_n hx hb dL_law_445 rfl (lv_at hl 2 rfl) ?_
  refine lv_aload_n hx hb dL_law_446 rfl (lv_at hl 3 rfl) ?_
  refine lv_iload_n hx hb dL_law_447 rfl (lv_at hl 0 rfl) ?_
  refine lv_iconst (v := 1) hx hb dL_law_448 (by decide) ?_
  refine lv_iadd hx hb dL_law_449 ?_
  refine va_sld hx hb hX hbl hbA hS hin1 dL_law_450 ?_
  refine hw_lcall (E := hw_EH l D cA ad) (E2 := hw_EM l D cA ad) (σ := σ) (τ := τ) (As := [.int (xs (x3 + 1).toNatClampNeg)]) (rest := []) (t := 0) hx hb hml hown hts hK hApH hN hCH hnH hHM rfl (M_X6_limit (hw_EH l D cA ad) rfl (xs (x3 + 1).toNatClampNeg) σ) h1 W_X6_limit SV_X6_limit cf_X6 hw_T0 mw_279 (by decide) ⟨rfl, hw_l8 rfl⟩ dL_law_451 hl.1 hcs hH hM hS (fun H locs hH hM hS => ?_)
  refine lv_aload_n hx hb dL_law_454 rfl (lv_at hl 1 rfl) ?_
  refine lv_aload_n hx hb dL_law_455 rfl (lv_at hl 3 rfl) ?_
  refine lv_iload_n hx hb dL_law_456 rfl (lv_at hl 0 rfl) ?_
  refine lv_iconst (v := 1) hx hb dL_law_457 (by decide) ?_
  refine lv_iadd hx hb dL_law_458 ?_
  refine va_sld hx hb hX hbl hbA hS hin1 dL_law_459 ?_
  refine hw_lcall (E := hw_EM l D cA ad) (E2 := hw_EH l D cA ad) (σ := τ) (τ := σ') (As := [.int (xs (x3 + 1).toNatClampNeg)]) (rest := [.int r]) (t := 200) hx hb hml hown hts hK hApM hN hCM hnM (fun t ht u hu e => hHM u hu t ht e.symm) rfl (M_X7_limit (hw_EM l D cA ad) rfl (xs (x3 + 1).toNatClampNeg) τ) h2 W_X7_limit SV_X7_limit cf_X7 hw_T200 mw_284 (by decide) ⟨rfl, hw_l8 rfl⟩ dL_law_460 hl.1 hcs hM hH hS (fun H locs hM hH hS => ?_)
  refine lv_icmp_eq (tgt := 1441) hx hb dL_law_463 (by decide) (fun _ => ?_) (fun c => absurd rfl c)
  exact k σ' τ' H locs ls hR' hH hM hS hl
set_option maxRecDepth 20000 in
theorem law_case8 {p : Program} {l : Launch} {e : Env} {s : State} {m : MethodId} {below : List Frame} {meth : Method} {c : Code} {b L : Nat} {xs : Nat → Int32} {D : va_G} {cA : Nat → ClassId} {ad : Nat → Nat} {kc ks : Nat} {Q : State → Prop} (LC : hw_Lc p l s m c b L xs D cA ad) (hcs : kc ≤ 600000 ∧ ks ≤ 7302250) {R : hw_St → hw_St → Prop} (hs : hw_sim2 R F_X6_deal F_X7_deal) {i : Nat} (x3 : Int32) (ex3 : x3 = nI i) (hi : i + 6 ≤ L) (hL : L ≤ 384) (σ τ : hw_St) (hR : R σ τ)
    (k : ∀ (σ τ : hw_St) (H : Heap) (locs : List Loc) (ls : Array Slot), R σ τ → hw_W (hw_EH l D cA ad) σ H → hw_W (hw_EM l D cA ad) τ H → va_S (fun q : Nat => s.heap.size ≤ q) s.heap H locs → lv_has ls 4 [(3, .int x3), (2, .ref (ad 200)), (1, .ref (ad 0)), (0, .ref b)] → W p l e room_1 s m #[Value.ref b] below meth c H locs kc ks Q (F0 m 1441 ls []))
    (H : Heap) (locs : List Loc) (ls : Array Slot) (hH : hw_W (hw_EH l D cA ad) σ H) (hM : hw_W (hw_EM l D cA ad) τ H) (hS : va_S (fun q : Nat => s.heap.size ≤ q) s.heap H locs) (hl : lv_has ls 4 [(3, .int x3), (2, .ref (ad 200)), (1, .ref (ad 0)), (0, .ref b)]) : W p l e room_1 s m #[Value.ref b] below meth c H locs kc ks Q (F0 m 468 ls []) := by
  obtain ⟨hx, hb, hml, hown, hts, hK, hApH, hApM, hHM, hnH, hnM, hN, hCH, hCM, hX, hbl⟩ := LC
  have hbA : ¬ (fun q : Nat => s.heap.size ≤ q) b := Nat.not_le.mpr hbl
  have hin1 : vp_in (x3 + 1) L := by rw [ex3, show nI i + 1 = nI (i + 1) from nI_add i 1]; exact vp_in_nI (by omega) (by omega)
  have hin2 : vp_in (x3 + 2) L := by rw [ex3, show nI i + 2 = nI (i + 2) from nI_add i 2]; exact vp_in_nI (by omega) (by omega)
  obtain ⟨r, σ', τ', h1, h2, hR'⟩ := hs (xs (x3 + 1).toNatClampNeg) (xs (x3 + 2).toNatClampNeg) σ τ hR
  refine lv_aload_n hx hb dL_law_468 rfl (lv_at hl 2 rfl) ?_
  refine lv_aload_n hx hb dL_law_469 rfl (lv_at hl 3 rfl) ?_
  refine lv_iload_n hx hb dL_law_470 rfl (lv_at hl 0 rfl) ?_
  refine lv_iconst (v := 1) hx hb dL_law_471 (by decide) ?_
  refine lv_iadd hx hb dL_law_472 ?_
  refine va_sld hx hb hX hbl hbA hS hin1 dL_law_473 ?_
  refine lv_aload_n hx hb dL_law_474 rfl (lv_at hl 3 rfl) ?_
  refine lv_iload_n hx hb dL_law_475 rfl (lv_at hl 0 rfl) ?_
  refine lv_iconst (v := 2) hx hb dL_law_476 (by decide) ?_
  refine lv_iadd hx hb dL_law_477 ?_
  refine va_sld hx hb hX hbl hbA hS hin2 dL_law_478 ?_
  refine hw_lcall (E := hw_EH l D cA ad) (E2 := hw_EM l D cA ad) (σ := σ) (τ := τ) (As := [.int (xs (x3 + 1).toNatClampNeg), .int (xs (x3 + 2).toNatClampNeg)]) (rest := []) (t := 0) hx hb hml hown hts hK hApH hN hCH hnH hHM rfl (M_X6_deal (hw_EH l D cA ad) rfl (xs (x3 + 1).toNatClampNeg) (xs (x3 + 2).toNatClampNeg) σ) h1 W_X6_deal SV_X6_deal cf_X6 hw_T0 mw_288 (by decide) ⟨rfl, hw_l8 rfl⟩ dL_law_479 hl.1 hcs hH hM hS (fun H locs hH hM hS => ?_)
  refine lv_aload_n hx hb dL_law_482 rfl (lv_at hl 1 rfl) ?_
  refine lv_aload_n hx hb dL_law_483 rfl (lv_at hl 3 rfl) ?_
  refine lv_iload_n hx hb dL_law_484 rfl (lv_at hl 0 rfl) ?_
  refine lv_iconst (v := 1) hx hb dL_law_485 (by decide) ?_
  refine lv_iadd hx hb dL_law_486 ?_
  refine va_sld hx hb hX hbl hbA hS hin1 dL_law_487 ?_
  refine lv_aload_n hx hb dL_law_488 rfl (lv_at hl 3 rfl) ?_
  refine lv_iload_n hx hb dL_law_489 rfl (lv_at hl 0 rfl) ?_
  refine lv_iconst (v := 2) hx hb dL_law_490 (by decide) ?_
  refine lv_iadd hx hb dL_law_491 ?_
  refine va_sld hx hb hX hbl hbA hS hin2 dL_law_492 ?_
  refine hw_lcall (E := hw_EM l D cA ad) (E2 := hw_EH l D cA ad) (σ := τ) (τ := σ') (As := [.int (xs (x3 + 1).toNatClampNeg), .int (xs (x3 + 2).toNatClampNeg)]) (rest := [.int r]) (t := 200) hx hb hml hown hts hK hApM hN hCM hnM (fun t ht u hu e => hHM u hu t ht e.symm) rfl (M_X7_deal (hw_EM l D cA ad) rfl (xs (x3 + 1).toNatClampNeg) (xs (x3 + 2).toNatClampNeg) τ) h2 W_X7_deal SV_X7_deal cf_X7 hw_T200 mw_306 (by decide) ⟨rfl, hw_l8 rfl⟩ dL_law_493 hl.1 hcs hM hH hS (fun H locs hM hH hS => ?_)
  refine lv_icmp_eq (tgt := 1441) hx hb dL_law_496 (by decide) (fun _ => ?_) (fun c => absurd rfl c)
  exact k σ' τ' H locs ls hR' hH hM hS hl
set_option maxRecDepth 20000 in
theorem law_case9 {p : Program} {l : Launch} {e : Env} {s : State} {m : MethodId} {below : List Frame} {meth : Method} {c : Code} {b L : Nat} {xs : Nat → Int32} {D : va_G} {cA : Nat → ClassId} {ad : Nat → Nat} {kc ks : Nat} {Q : State → Prop} (LC : hw_Lc p l s m c b L xs D cA ad) (hcs : kc ≤ 600000 ∧ ks ≤ 7302250) {R : hw_St → hw_St → Prop} (hs : hw_sim1 R F_X6_seed F_X7_seed) {i : Nat} (x3 : Int32) (ex3 : x3 = nI i) (hi : i + 6 ≤ L) (hL : L ≤ 384) (σ τ : hw_St) (hR : R σ τ)
    (k : ∀ (σ τ : hw_St) (H : Heap) (locs : List Loc) (ls : Array Slot), R σ τ → hw_W (hw_EH l D cA ad) σ H → hw_W (hw_EM l D cA ad) τ H → va_S (fun q : Nat => s.heap.size ≤ q) s.heap H locs → lv_has ls 4 [(3, .int x3), (2, .ref (ad 200)), (1, .ref (ad 0)), (0, .ref b)] → W p l e room_1 s m #[Value.ref b] below meth c H locs kc ks Q (F0 m 1441 ls []))
    (H : Heap) (locs : List Loc) (ls : Array Slot) (hH : hw_W (hw_EH l D cA ad) σ H) (hM : hw_W (hw_EM l D cA ad) τ H) (hS : va_S (fun q : Nat => s.heap.size ≤ q) s.heap H locs) (hl : lv_has ls 4 [(3, .int x3), (2, .ref (ad 200)), (1, .ref (ad 0)), (0, .ref b)]) : W p l e room_1 s m #[Value.ref b] below meth c H locs kc ks Q (F0 m 501 ls []) := by
  obtain ⟨hx, hb, hml, hown, hts, hK, hApH, hApM, hHM, hnH, hnM, hN, hCH, hCM, hX, hbl⟩ := LC
  have hbA : ¬ (fun q : Nat => s.heap.size ≤ q) b := Nat.not_le.mpr hbl
  have hin1 : vp_in (x3 + 1) L := by rw [ex3, show nI i + 1 = nI (i + 1) from nI_add i 1]; exact vp_in_nI (by omega) (by omega)
  obtain ⟨r, σ', τ', h1, h2, hR'⟩ := hs (xs (x3 + 1).toNatClampNeg) σ τ hR
  refine lv_aload_n hx hb dL_law_501 rfl (lv_at hl 2 rfl) ?_
  refine lv_aload_n hx hb dL_law_502 rfl (lv_at hl 3 rfl) ?_
  refine lv_iload_n hx hb dL_law_503 rfl (lv_at hl 0 rfl) ?_
  refine lv_iconst (v := 1) hx hb dL_law_504 (by decide) ?_
  refine lv_iadd hx hb dL_law_505 ?_
  refine va_sld hx hb hX hbl hbA hS hin1 dL_law_506 ?_
  refine hw_lcall (E := hw_EH l D cA ad) (E2 := hw_EM l D cA ad) (σ := σ) (τ := τ) (As := [.int (xs (x3 + 1).toNatClampNeg)]) (rest := []) (t := 0) hx hb hml hown hts hK hApH hN hCH hnH hHM rfl (M_X6_seed (hw_EH l D cA ad) rfl (xs (x3 + 1).toNatClampNeg) σ) h1 W_X6_seed SV_X6_seed cf_X6 hw_T0 mw_318 (by decide) ⟨rfl, hw_l8 rfl⟩ dL_law_507 hl.1 hcs hH hM hS (fun H locs hH hM hS => ?_)
  refine lv_aload_n hx hb dL_law_510 rfl (lv_at hl 1 rfl) ?_
  refine lv_aload_n hx hb dL_law_511 rfl (lv_at hl 3 rfl) ?_
  refine lv_iload_n hx hb dL_law_512 rfl (lv_at hl 0 rfl) ?_
  refine lv_iconst (v := 1) hx hb dL_law_513 (by decide) ?_
  refine lv_iadd hx hb dL_law_514 ?_
  refine va_sld hx hb hX hbl hbA hS hin1 dL_law_515 ?_
  refine hw_lcall (E := hw_EM l D cA ad) (E2 := hw_EH l D cA ad) (σ := τ) (τ := σ') (As := [.int (xs (x3 + 1).toNatClampNeg)]) (rest := [.int r]) (t := 200) hx hb hml hown hts hK hApM hN hCM hnM (fun t ht u hu e => hHM u hu t ht e.symm) rfl (M_X7_seed (hw_EM l D cA ad) rfl (xs (x3 + 1).toNatClampNeg) τ) h2 W_X7_seed SV_X7_seed cf_X7 hw_T200 mw_323 (by decide) ⟨rfl, hw_l8 rfl⟩ dL_law_516 hl.1 hcs hM hH hS (fun H locs hM hH hS => ?_)
  refine lv_icmp_eq (tgt := 1441) hx hb dL_law_519 (by decide) (fun _ => ?_) (fun c => absurd rfl c)
  exact k σ' τ' H locs ls hR' hH hM hS hl
set_option maxRecDepth 20000 in
theorem law_case10 {p : Program} {l : Launch} {e : Env} {s : State} {m : MethodId} {below : List Frame} {meth : Method} {c : Code} {b L : Nat} {xs : Nat → Int32} {D : va_G} {cA : Nat → ClassId} {ad : Nat → Nat} {kc ks : Nat} {Q : State → Prop} (LC : hw_Lc p l s m c b L xs D cA ad) (hcs : kc ≤ 600000 ∧ ks ≤ 7302250) {R : hw_St → hw_St → Prop} (hs : hw_sim3 R F_X6_by F_X7_by) {i : Nat} (x3 : Int32) (ex3 : x3 = nI i) (hi : i + 6 ≤ L) (hL : L ≤ 384) (σ τ : hw_St) (hR : R σ τ)
    (k : ∀ (σ τ : hw_St) (H : Heap) (locs : List Loc) (ls : Array Slot), R σ τ → hw_W (hw_EH l D cA ad) σ H → hw_W (hw_EM l D cA ad) τ H → va_S (fun q : Nat => s.heap.size ≤ q) s.heap H locs → lv_has ls 4 [(3, .int x3), (2, .ref (ad 200)), (1, .ref (ad 0)), (0, .ref b)] → W p l e room_1 s m #[Value.ref b] below meth c H locs kc ks Q (F0 m 1441 ls []))
    (H : Heap) (locs : List Loc) (ls : Array Slot) (hH : hw_W (hw_EH l D cA ad) σ H) (hM : hw_W (hw_EM l D cA ad) τ H) (hS : va_S (fun q : Nat => s.heap.size ≤ q) s.heap H locs) (hl : lv_has ls 4 [(3, .int x3), (2, .ref (ad 200)), (1, .ref (ad 0)), (0, .ref b)]) : W p l e room_1 s m #[Value.ref b] below meth c H locs kc ks Q (F0 m 524 ls []) := by
  obtain ⟨hx, hb, hml, hown, hts, hK, hApH, hApM, hHM, hnH, hnM, hN, hCH, hCM, hX, hbl⟩ := LC
  have hbA : ¬ (fun q : Nat => s.heap.size ≤ q) b := Nat.not_le.mpr hbl
  have hin1 : vp_in (x3 + 1) L := by rw [ex3, show nI i + 1 = nI (i + 1) from nI_add i 1]; exact vp_in_nI (by omega) (by omega)
  have hin2 : vp_in (x3 + 2) L := by rw [ex3, show nI i + 2 = nI (i + 2) from nI_add i 2]; exact vp_in_nI (by omega) (by omega)
  have hin3 : vp_in (x3 + 3) L := by rw [ex3, show nI i + 3 = nI (i + 3) from nI_add i 3]; exact vp_in_nI (by omega) (by omega)
  obtain ⟨r, σ', τ', h1, h2, hR'⟩ := hs (xs (x3 + 1).toNatClampNeg) (xs (x3 + 2).toNatClampNeg) (xs (x3 + 3).toNatClampNeg) σ τ hR
  refine lv_aload_n hx hb dL_law_524 rfl (lv_at hl 2 rfl) ?_
  refine lv_aload_n hx hb dL_law_525 rfl (lv_at hl 3 rfl) ?_
  refine lv_iload_n hx hb dL_law_526 rfl (lv_at hl 0 rfl) ?_
  refine lv_iconst (v := 1) hx hb dL_law_527 (by decide) ?_
  refine lv_iadd hx hb dL_law_528 ?_
  refine va_sld hx hb hX hbl hbA hS hin1 dL_law_529 ?_
  refine lv_aload_n hx hb dL_law_530 rfl (lv_at hl 3 rfl) ?_
  refine lv_iload_n hx hb dL_law_531 rfl (lv_at hl 0 rfl) ?_
  refine lv_iconst (v := 2) hx hb dL_law_532 (by decide) ?_
  refine lv_iadd hx hb dL_law_533 ?_
  refine va_sld hx hb hX hbl hbA hS hin2 dL_law_534 ?_
  refine lv_aload_n hx hb dL_law_535 rfl (lv_at hl 3 rfl) ?_
  refine lv_iload_n hx hb dL_law_536 rfl (lv_at hl 0 rfl) ?_
  refine lv_iconst (v := 3) hx hb dL_law_537 (by decide) ?_
  refine lv_iadd hx hb dL_law_538 ?_
  refine va_sld hx hb hX hbl hbA hS hin3 dL_law_539 ?_
  refine hw_lcall (E := hw_EH l D cA ad) (E2 := hw_EM l D cA ad) (σ := σ) (τ := τ) (As := [.int (xs (x3 + 1).toNatClampNeg), .int (xs (x3 + 2).toNatClampNeg), .int (xs (x3 + 3).toNatClampNeg)]) (rest := []) (t := 0) hx hb hml hown hts hK hApH hN hCH hnH hHM rfl (M_X6_by (hw_EH l D cA ad) rfl (xs (x3 + 1).toNatClampNeg) (xs (x3 + 2).toNatClampNeg) (xs (x3 + 3).toNatClampNeg) σ) h1 W_X6_by SV_X6_by cf_X6 hw_T0 mw_327 (by decide) ⟨rfl, hw_l8 rfl⟩ dL_law_540 hl.1 hcs hH hM hS (fun H locs hH hM hS => ?_)
  refine lv_aload_n hx hb dL_law_543 rfl (lv_at hl 1 rfl) ?_
  refine lv_aload_n hx hb dL_law_544 rfl (lv_at hl 3 rfl) ?_
  refine lv_iload_n hx hb dL_law_545 rfl (lv_at hl 0 rfl) ?_
  refine lv_iconst (v := 1) hx hb dL_law_546 (by decide) ?_
  refine lv_iadd hx hb dL_law_547 ?_
  refine va_sld hx hb hX hbl hbA hS hin1 dL_law_548 ?_
  refine lv_aload_n hx hb dL_law_549 rfl (lv_at hl 3 rfl) ?_
  refine lv_iload_n hx hb dL_law_550 rfl (lv_at hl 0 rfl) ?_
  refine lv_iconst (v := 2) hx hb dL_law_551 (by decide) ?_
  refine lv_iadd hx hb dL_law_552 ?_
  refine va_sld hx hb hX hbl hbA hS hin2 dL_law_553 ?_
  refine lv_aload_n hx hb dL_law_554 rfl (lv_at hl 3 rfl) ?_
  refine lv_iload_n hx hb dL_law_555 rfl (lv_at hl 0 rfl) ?_
  refine lv_iconst (v := 3) hx hb dL_law_556 (by decide) ?_
  refine lv_iadd hx hb dL_law_557 ?_
  refine va_sld hx hb hX hbl hbA hS hin3 dL_law_558 ?_
  refine hw_lcall (E := hw_EM l D cA ad) (E2 := hw_EH l D cA ad) (σ := τ) (τ := σ') (As := [.int (xs (x3 + 1).toNatClampNeg), .int (xs (x3 + 2).toNatClampNeg), .int (xs (x3 + 3).toNatClampNeg)]) (rest := [.int r]) (t := 200) hx hb hml hown hts hK hApM hN hCM hnM (fun t ht u hu e => hHM u hu t ht e.symm) rfl (M_X7_by (hw_EM l D cA ad) rfl (xs (x3 + 1).toNatClampNeg) (xs (x3 + 2).toNatClampNeg) (xs (x3 + 3).toNatClampNeg) τ) h2 W_X7_by SV_X7_by cf_X7 hw_T200 mw_384 (by decide) ⟨rfl, hw_l8 rfl⟩ dL_law_559 hl.1 hcs hM hH hS (fun H locs hM hH hS => ?_)
  refine lv_icmp_eq (tgt := 1441) hx hb dL_law_562 (by decide) (fun _ => ?_) (fun c => absurd rfl c)
  exact k σ' τ' H locs ls hR' hH hM hS hl
set_option maxRecDepth 20000 in
theorem law_case11 {p : Program} {l : Launch} {e : Env} {s : State} {m : MethodId} {below : List Frame} {meth : Method} {c : Code} {b L : Nat} {xs : Nat → Int32} {D : va_G} {cA : Nat → ClassId} {ad : Nat → Nat} {kc ks : Nat} {Q : State → Prop} (LC : hw_Lc p l s m c b L xs D cA ad) (hcs : kc ≤ 600000 ∧ ks ≤ 7302250) {R : hw_St → hw_St → Prop} (hs : hw_sim2 R F_X6_tick F_X7_tick) {i : Nat} (x3 : Int32) (ex3 : x3 = nI i) (hi : i + 6 ≤ L) (hL : L ≤ 384) (σ τ : hw_St) (hR : R σ τ)
    (k : ∀ (σ τ : hw_St) (H : Heap) (locs : List Loc) (ls : Array Slot), R σ τ → hw_W (hw_EH l D cA ad) σ H → hw_W (hw_EM l D cA ad) τ H → va_S (fun q : Nat => s.heap.size ≤ q) s.heap H locs → lv_has ls 4 [(3, .int x3), (2, .ref (ad 200)), (1, .ref (ad 0)), (0, .ref b)] → W p l e room_1 s m #[Value.ref b] below meth c H locs kc ks Q (F0 m 1441 ls []))
    (H : Heap) (locs : List Loc) (ls : Array Slot) (hH : hw_W (hw_EH l D cA ad) σ H) (hM : hw_W (hw_EM l D cA ad) τ H) (hS : va_S (fun q : Nat => s.heap.size ≤ q) s.heap H locs) (hl : lv_has ls 4 [(3, .int x3), (2, .ref (ad 200)), (1, .ref (ad 0)), (0, .ref b)]) : W p l e room_1 s m #[Value.ref b] below meth c H locs kc ks Q (F0 m 567 ls []) := by
  obtain ⟨hx, hb, hml, hown, hts, hK, hApH, hApM, hHM, hnH, hnM, hN, hCH, hCM, hX, hbl⟩ := LC
  have hbA : ¬ (fun q : Nat => s.heap.size ≤ q) b := Nat.not_le.mpr hbl
  have hin1 : vp_in (x3 + 1) L := by rw [ex3, show nI i + 1 = nI (i + 1) from nI_add i 1]; exact vp_in_nI (by omega) (by omega)
  have hin2 : vp_in (x3 + 2) L := by rw [ex3, show nI i + 2 = nI (i + 2) from nI_add i 2]; exact vp_in_nI (by omega) (by omega)
  obtain ⟨r, σ', τ', h1, h2, hR'⟩ := hs (xs (x3 + 1).toNatClampNeg) (xs (x3 + 2).toNatClampNeg) σ τ hR
  refine lv_aload_n hx hb dL_law_567 rfl (lv_at hl 2 rfl) ?_
  refine lv_aload_n hx hb dL_law_568 rfl (lv_at hl 3 rfl) ?_
  refine lv_iload_n hx hb dL_law_569 rfl (lv_at hl 0 rfl) ?_
  refine lv_iconst (v := 1) hx hb dL_law_570 (by decide) ?_
  refine lv_iadd hx hb dL_law_571 ?_
  refine va_sld hx hb hX hbl hbA hS hin1 dL_law_572 ?_
  refine lv_aload_n hx hb dL_law_573 rfl (lv_at hl 3 rfl) ?_
  refine lv_iload_n hx hb dL_law_574 rfl (lv_at hl 0 rfl) ?_
  refine lv_iconst (v := 2) hx hb dL_law_575 (by decide) ?_
  refine lv_iadd hx hb dL_law_576 ?_
  refine va_sld hx hb hX hbl hbA hS hin2 dL_law_577 ?_
  refine hw_lcall (E := hw_EH l D cA ad) (E2 := hw_EM l D cA ad) (σ := σ) (τ := τ) (As := [.int (xs (x3 + 1).toNatClampNeg), .int (xs (x3 + 2).toNatClampNeg)]) (rest := []) (t := 0) hx hb hml hown hts hK hApH hN hCH hnH hHM rfl (M_X6_tick (hw_EH l D cA ad) rfl (xs (x3 + 1).toNatClampNeg) (xs (x3 + 2).toNatClampNeg) σ) h1 W_X6_tick SV_X6_tick cf_X6 hw_T0 mw_423 (by decide) ⟨rfl, hw_l8 rfl⟩ dL_law_578 hl.1 hcs hH hM hS (fun H locs hH hM hS => ?_)
  refine lv_aload_n hx hb dL_law_581 rfl (lv_at hl 1 rfl) ?_
  refine lv_aload_n hx hb dL_law_582 rfl (lv_at hl 3 rfl) ?_
  refine lv_iload_n hx hb dL_law_583 rfl (lv_at hl 0 rfl) ?_
  refine lv_iconst (v := 1) hx hb dL_law_584 (by decide) ?_
  refine lv_iadd hx hb dL_law_585 ?_
  refine va_sld hx hb hX hbl hbA hS hin1 dL_law_586 ?_
  refine lv_aload_n hx hb dL_law_587 rfl (lv_at hl 3 rfl) ?_
  refine lv_iload_n hx hb dL_law_588 rfl (lv_at hl 0 rfl) ?_
  refine lv_iconst (v := 2) hx hb dL_law_589 (by decide) ?_
  refine lv_iadd hx hb dL_law_590 ?_
  refine va_sld hx hb hX hbl hbA hS hin2 dL_law_591 ?_
  refine hw_lcall (E := hw_EM l D cA ad) (E2 := hw_EH l D cA ad) (σ := τ) (τ := σ') (As := [.int (xs (x3 + 1).toNatClampNeg), .int (xs (x3 + 2).toNatClampNeg)]) (rest := [.int r]) (t := 200) hx hb hml hown hts hK hApM hN hCM hnM (fun t ht u hu e => hHM u hu t ht e.symm) rfl (M_X7_tick (hw_EM l D cA ad) rfl (xs (x3 + 1).toNatClampNeg) (xs (x3 + 2).toNatClampNeg) τ) h2 W_X7_tick SV_X7_tick cf_X7 hw_T200 mw_440 (by decide) ⟨rfl, hw_l8 rfl⟩ dL_law_592 hl.1 hcs hM hH hS (fun H locs hM hH hS => ?_)
  refine lv_icmp_eq (tgt := 1441) hx hb dL_law_595 (by decide) (fun _ => ?_) (fun c => absurd rfl c)
  exact k σ' τ' H locs ls hR' hH hM hS hl
set_option maxRecDepth 20000 in
theorem law_case12 {p : Program} {l : Launch} {e : Env} {s : State} {m : MethodId} {below : List Frame} {meth : Method} {c : Code} {b L : Nat} {xs : Nat → Int32} {D : va_G} {cA : Nat → ClassId} {ad : Nat → Nat} {kc ks : Nat} {Q : State → Prop} (LC : hw_Lc p l s m c b L xs D cA ad) (hcs : kc ≤ 600000 ∧ ks ≤ 7302250) {R : hw_St → hw_St → Prop} (hs : hw_sim1 R F_X6_run F_X7_run) {i : Nat} (x3 : Int32) (ex3 : x3 = nI i) (hi : i + 6 ≤ L) (hL : L ≤ 384) (σ τ : hw_St) (hR : R σ τ)
    (k : ∀ (σ τ : hw_St) (H : Heap) (locs : List Loc) (ls : Array Slot), R σ τ → hw_W (hw_EH l D cA ad) σ H → hw_W (hw_EM l D cA ad) τ H → va_S (fun q : Nat => s.heap.size ≤ q) s.heap H locs → lv_has ls 4 [(3, .int x3), (2, .ref (ad 200)), (1, .ref (ad 0)), (0, .ref b)] → W p l e room_1 s m #[Value.ref b] below meth c H locs kc ks Q (F0 m 1441 ls []))
    (H : Heap) (locs : List Loc) (ls : Array Slot) (hH : hw_W (hw_EH l D cA ad) σ H) (hM : hw_W (hw_EM l D cA ad) τ H) (hS : va_S (fun q : Nat => s.heap.size ≤ q) s.heap H locs) (hl : lv_has ls 4 [(3, .int x3), (2, .ref (ad 200)), (1, .ref (ad 0)), (0, .ref b)]) : W p l e room_1 s m #[Value.ref b] below meth c H locs kc ks Q (F0 m 600 ls []) := by
  obtain ⟨hx, hb, hml, hown, hts, hK, hApH, hApM, hHM, hnH, hnM, hN, hCH, hCM, hX, hbl⟩ := LC
  have hbA : ¬ (fun q : Nat => s.heap.size ≤ q) b := Nat.not_le.mpr hbl
  have hin1 : vp_in (x3 + 1) L := by rw [ex3, show nI i + 1 = nI (i + 1) from nI_add i 1]; exact vp_in_nI (by omega) (by omega)
  obtain ⟨r, σ', τ', h1, h2, hR'⟩ := hs (xs (x3 + 1).toNatClampNeg) σ τ hR
  refine lv_aload_n hx hb dL_law_600 rfl (lv_at hl 2 rfl) ?_
  refine lv_aload_n hx hb dL_law_601 rfl (lv_at hl 3 rfl) ?_
  refine lv_iload_n hx hb dL_law_602 rfl (lv_at hl 0 rfl) ?_
  refine lv_iconst (v := 1) hx hb dL_law_603 (by decide) ?_
  refine lv_iadd hx hb dL_law_604 ?_
  refine va_sld hx hb hX hbl hbA hS hin1 dL_law_605 ?_
  refine hw_lcall (E := hw_EH l D cA ad) (E2 := hw_EM l D cA ad) (σ := σ) (τ := τ) (As := [.int (xs (x3 + 1).toNatClampNeg)]) (rest := []) (t := 0) hx hb hml hown hts hK hApH hN hCH hnH hHM rfl (M_X6_run (hw_EH l D cA ad) rfl (xs (x3 + 1).toNatClampNeg) σ) h1 W_X6_run SV_X6_run cf_X6 hw_T0 mw_448 (by decide) ⟨rfl, hw_l8 rfl⟩ dL_law_606 hl.1 hcs hH hM hS (fun H locs hH hM hS => ?_)
  refine lv_aload_n hx hb dL_law_609 rfl (lv_at hl 1 rfl) ?_
  refine lv_aload_n hx hb dL_law_610 rfl (lv_at hl 3 rfl) ?_
  refine lv_iload_n hx hb dL_law_611 rfl (lv_at hl 0 rfl) ?_
  refine lv_iconst (v := 1) hx hb dL_law_612 (by decide) ?_
  refine lv_iadd hx hb dL_law_613 ?_
  refine va_sld hx hb hX hbl hbA hS hin1 dL_law_614 ?_
  refine hw_lcall (E := hw_EM l D cA ad) (E2 := hw_EH l D cA ad) (σ := τ) (τ := σ') (As := [.int (xs (x3 + 1).toNatClampNeg)]) (rest := [.int r]) (t := 200) hx hb hml hown hts hK hApM hN hCM hnM (fun t ht u hu e => hHM u hu t ht e.symm) rfl (M_X7_run (hw_EM l D cA ad) rfl (xs (x3 + 1).toNatClampNeg) τ) h2 W_X7_run SV_X7_run cf_X7 hw_T200 mw_458 (by decide) ⟨rfl, hw_l8 rfl⟩ dL_law_615 hl.1 hcs hM hH hS (fun H locs hM hH hS => ?_)
  refine lv_icmp_eq (tgt := 1441) hx hb dL_law_618 (by decide) (fun _ => ?_) (fun c => absurd rfl c)
  exact k σ' τ' H locs ls hR' hH hM hS hl
set_option maxRecDepth 20000 in
theorem law_case13 {p : Program} {l : Launch} {e : Env} {s : State} {m : MethodId} {below : List Frame} {meth : Method} {c : Code} {b L : Nat} {xs : Nat → Int32} {D : va_G} {cA : Nat → ClassId} {ad : Nat → Nat} {kc ks : Nat} {Q : State → Prop} (LC : hw_Lc p l s m c b L xs D cA ad) (hcs : kc ≤ 600000 ∧ ks ≤ 7302250) {R : hw_St → hw_St → Prop} (hs : hw_sim2 R F_X6_line F_X7_line) {i : Nat} (x3 : Int32) (ex3 : x3 = nI i) (hi : i + 6 ≤ L) (hL : L ≤ 384) (σ τ : hw_St) (hR : R σ τ)
    (k : ∀ (σ τ : hw_St) (H : Heap) (locs : List Loc) (ls : Array Slot), R σ τ → hw_W (hw_EH l D cA ad) σ H → hw_W (hw_EM l D cA ad) τ H → va_S (fun q : Nat => s.heap.size ≤ q) s.heap H locs → lv_has ls 4 [(3, .int x3), (2, .ref (ad 200)), (1, .ref (ad 0)), (0, .ref b)] → W p l e room_1 s m #[Value.ref b] below meth c H locs kc ks Q (F0 m 1441 ls []))
    (H : Heap) (locs : List Loc) (ls : Array Slot) (hH : hw_W (hw_EH l D cA ad) σ H) (hM : hw_W (hw_EM l D cA ad) τ H) (hS : va_S (fun q : Nat => s.heap.size ≤ q) s.heap H locs) (hl : lv_has ls 4 [(3, .int x3), (2, .ref (ad 200)), (1, .ref (ad 0)), (0, .ref b)]) : W p l e room_1 s m #[Value.ref b] below meth c H locs kc ks Q (F0 m 623 ls []) := by
  obtain ⟨hx, hb, hml, hown, hts, hK, hApH, hApM, hHM, hnH, hnM, hN, hCH, hCM, hX, hbl⟩ := LC
  have hbA : ¬ (fun q : Nat => s.heap.size ≤ q) b := Nat.not_le.mpr hbl
  have hin1 : vp_in (x3 + 1) L := by rw [ex3, show nI i + 1 = nI (i + 1) from nI_add i 1]; exact vp_in_nI (by omega) (by omega)
  have hin2 : vp_in (x3 + 2) L := by rw [ex3, show nI i + 2 = nI (i + 2) from nI_add i 2]; exact vp_in_nI (by omega) (by omega)
  obtain ⟨r, σ', τ', h1, h2, hR'⟩ := hs (xs (x3 + 1).toNatClampNeg) (xs (x3 + 2).toNatClampNeg) σ τ hR
  refine lv_aload_n hx hb dL_law_623 rfl (lv_at hl 2 rfl) ?_
  refine lv_aload_n hx hb dL_law_624 rfl (lv_at hl 3 rfl) ?_
  refine lv_iload_n hx hb dL_law_625 rfl (lv_at hl 0 rfl) ?_
  refine lv_iconst (v := 1) hx hb dL_law_626 (by decide) ?_
  refine lv_iadd hx hb dL_law_627 ?_
  refine va_sld hx hb hX hbl hbA hS hin1 dL_law_628 ?_
  refine lv_aload_n hx hb dL_law_629 rfl (lv_at hl 3 rfl) ?_
  refine lv_iload_n hx hb dL_law_630 rfl (lv_at hl 0 rfl) ?_
  refine lv_iconst (v := 2) hx hb dL_law_631 (by decide) ?_
  refine lv_iadd hx hb dL_law_632 ?_
  refine va_sld hx hb hX hbl hbA hS hin2 dL_law_633 ?_
  refine hw_lcall (E := hw_EH l D cA ad) (E2 := hw_EM l D cA ad) (σ := σ) (τ := τ) (As := [.int (xs (x3 + 1).toNatClampNeg), .int (xs (x3 + 2).toNatClampNeg)]) (rest := []) (t := 0) hx hb hml hown hts hK hApH hN hCH hnH hHM rfl (M_X6_line (hw_EH l D cA ad) rfl (xs (x3 + 1).toNatClampNeg) (xs (x3 + 2).toNatClampNeg) σ) h1 W_X6_line SV_X6_line cf_X6 hw_T0 mw_466 (by decide) ⟨rfl, hw_l8 rfl⟩ dL_law_634 hl.1 hcs hH hM hS (fun H locs hH hM hS => ?_)
  refine lv_aload_n hx hb dL_law_637 rfl (lv_at hl 1 rfl) ?_
  refine lv_aload_n hx hb dL_law_638 rfl (lv_at hl 3 rfl) ?_
  refine lv_iload_n hx hb dL_law_639 rfl (lv_at hl 0 rfl) ?_
  refine lv_iconst (v := 1) hx hb dL_law_640 (by decide) ?_
  refine lv_iadd hx hb dL_law_641 ?_
  refine va_sld hx hb hX hbl hbA hS hin1 dL_law_642 ?_
  refine lv_aload_n hx hb dL_law_643 rfl (lv_at hl 3 rfl) ?_
  refine lv_iload_n hx hb dL_law_644 rfl (lv_at hl 0 rfl) ?_
  refine lv_iconst (v := 2) hx hb dL_law_645 (by decide) ?_
  refine lv_iadd hx hb dL_law_646 ?_
  refine va_sld hx hb hX hbl hbA hS hin2 dL_law_647 ?_
  refine hw_lcall (E := hw_EM l D cA ad) (E2 := hw_EH l D cA ad) (σ := τ) (τ := σ') (As := [.int (xs (x3 + 1).toNatClampNeg), .int (xs (x3 + 2).toNatClampNeg)]) (rest := [.int r]) (t := 200) hx hb hml hown hts hK hApM hN hCM hnM (fun t ht u hu e => hHM u hu t ht e.symm) rfl (M_X7_line (hw_EM l D cA ad) rfl (xs (x3 + 1).toNatClampNeg) (xs (x3 + 2).toNatClampNeg) τ) h2 W_X7_line SV_X7_line cf_X7 hw_T200 mw_479 (by decide) ⟨rfl, hw_l8 rfl⟩ dL_law_648 hl.1 hcs hM hH hS (fun H locs hM hH hS => ?_)
  refine lv_icmp_eq (tgt := 1441) hx hb dL_law_651 (by decide) (fun _ => ?_) (fun c => absurd rfl c)
  exact k σ' τ' H locs ls hR' hH hM hS hl
set_option maxRecDepth 20000 in
theorem law_case14 {p : Program} {l : Launch} {e : Env} {s : State} {m : MethodId} {below : List Frame} {meth : Method} {c : Code} {b L : Nat} {xs : Nat → Int32} {D : va_G} {cA : Nat → ClassId} {ad : Nat → Nat} {kc ks : Nat} {Q : State → Prop} (LC : hw_Lc p l s m c b L xs D cA ad) (hcs : kc ≤ 600000 ∧ ks ≤ 7302250) {R : hw_St → hw_St → Prop} (hs : hw_sim2 R F_X6_day F_X7_day) {i : Nat} (x3 : Int32) (ex3 : x3 = nI i) (hi : i + 6 ≤ L) (hL : L ≤ 384) (σ τ : hw_St) (hR : R σ τ)
    (k : ∀ (σ τ : hw_St) (H : Heap) (locs : List Loc) (ls : Array Slot), R σ τ → hw_W (hw_EH l D cA ad) σ H → hw_W (hw_EM l D cA ad) τ H → va_S (fun q : Nat => s.heap.size ≤ q) s.heap H locs → lv_has ls 4 [(3, .int x3), (2, .ref (ad 200)), (1, .ref (ad 0)), (0, .ref b)] → W p l e room_1 s m #[Value.ref b] below meth c H locs kc ks Q (F0 m 1441 ls []))
    (H : Heap) (locs : List Loc) (ls : Array Slot) (hH : hw_W (hw_EH l D cA ad) σ H) (hM : hw_W (hw_EM l D cA ad) τ H) (hS : va_S (fun q : Nat => s.heap.size ≤ q) s.heap H locs) (hl : lv_has ls 4 [(3, .int x3), (2, .ref (ad 200)), (1, .ref (ad 0)), (0, .ref b)]) : W p l e room_1 s m #[Value.ref b] below meth c H locs kc ks Q (F0 m 656 ls []) := by
  obtain ⟨hx, hb, hml, hown, hts, hK, hApH, hApM, hHM, hnH, hnM, hN, hCH, hCM, hX, hbl⟩ := LC
  have hbA : ¬ (fun q : Nat => s.heap.size ≤ q) b := Nat.not_le.mpr hbl
  have hin1 : vp_in (x3 + 1) L := by rw [ex3, show nI i + 1 = nI (i + 1) from nI_add i 1]; exact vp_in_nI (by omega) (by omega)
  have hin2 : vp_in (x3 + 2) L := by rw [ex3, show nI i + 2 = nI (i + 2) from nI_add i 2]; exact vp_in_nI (by omega) (by omega)
  obtain ⟨r, σ', τ', h1, h2, hR'⟩ := hs (xs (x3 + 1).toNatClampNeg) (xs (x3 + 2).toNatClampNeg) σ τ hR
  refine lv_aload_n hx hb dL_law_656 rfl (lv_at hl 2 rfl) ?_
  refine lv_aload_n hx hb dL_law_657 rfl (lv_at hl 3 rfl) ?_
  refine lv_iload_n hx hb dL_law_658 rfl (lv_at hl 0 rfl) ?_
  refine lv_iconst (v := 1) hx hb dL_law_659 (by decide) ?_
  refine lv_iadd hx hb dL_law_660 ?_
  refine va_sld hx hb hX hbl hbA hS hin1 dL_law_661 ?_
  refine lv_aload_n hx hb dL_law_662 rfl (lv_at hl 3 rfl) ?_
  refine lv_iload_n hx hb dL_law_663 rfl (lv_at hl 0 rfl) ?_
  refine lv_iconst (v := 2) hx hb dL_law_664 (by decide) ?_
  refine lv_iadd hx hb dL_law_665 ?_
  refine va_sld hx hb hX hbl hbA hS hin2 dL_law_666 ?_
  refine hw_lcall (E := hw_EH l D cA ad) (E2 := hw_EM l D cA ad) (σ := σ) (τ := τ) (As := [.int (xs (x3 + 1).toNatClampNeg), .int (xs (x3 + 2).toNatClampNeg)]) (rest := []) (t := 0) hx hb hml hown hts hK hApH hN hCH hnH hHM rfl (M_X6_day (hw_EH l D cA ad) rfl (xs (x3 + 1).toNatClampNeg) (xs (x3 + 2).toNatClampNeg) σ) h1 W_X6_day SV_X6_day cf_X6 hw_T0 mw_492 (by decide) ⟨rfl, hw_l8 rfl⟩ dL_law_667 hl.1 hcs hH hM hS (fun H locs hH hM hS => ?_)
  refine lv_aload_n hx hb dL_law_670 rfl (lv_at hl 1 rfl) ?_
  refine lv_aload_n hx hb dL_law_671 rfl (lv_at hl 3 rfl) ?_
  refine lv_iload_n hx hb dL_law_672 rfl (lv_at hl 0 rfl) ?_
  refine lv_iconst (v := 1) hx hb dL_law_673 (by decide) ?_
  refine lv_iadd hx hb dL_law_674 ?_
  refine va_sld hx hb hX hbl hbA hS hin1 dL_law_675 ?_
  refine lv_aload_n hx hb dL_law_676 rfl (lv_at hl 3 rfl) ?_
  refine lv_iload_n hx hb dL_law_677 rfl (lv_at hl 0 rfl) ?_
  refine lv_iconst (v := 2) hx hb dL_law_678 (by decide) ?_
  refine lv_iadd hx hb dL_law_679 ?_
  refine va_sld hx hb hX hbl hbA hS hin2 dL_law_680 ?_
  refine hw_lcall (E := hw_EM l D cA ad) (E2 := hw_EH l D cA ad) (σ := τ) (τ := σ') (As := [.int (xs (x3 + 1).toNatClampNeg), .int (xs (x3 + 2).toNatClampNeg)]) (rest := [.int r]) (t := 200) hx hb hml hown hts hK hApM hN hCM hnM (fun t ht u hu e => hHM u hu t ht e.symm) rfl (M_X7_day (hw_EM l D cA ad) rfl (xs (x3 + 1).toNatClampNeg) (xs (x3 + 2).toNatClampNeg) τ) h2 W_X7_day SV_X7_day cf_X7 hw_T200 mw_504 (by decide) ⟨rfl, hw_l8 rfl⟩ dL_law_681 hl.1 hcs hM hH hS (fun H locs hM hH hS => ?_)
  refine lv_icmp_eq (tgt := 1441) hx hb dL_law_684 (by decide) (fun _ => ?_) (fun c => absurd rfl c)
  exact k σ' τ' H locs ls hR' hH hM hS hl
set_option maxRecDepth 20000 in
theorem law_case15 {p : Program} {l : Launch} {e : Env} {s : State} {m : MethodId} {below : List Frame} {meth : Method} {c : Code} {b L : Nat} {xs : Nat → Int32} {D : va_G} {cA : Nat → ClassId} {ad : Nat → Nat} {kc ks : Nat} {Q : State → Prop} (LC : hw_Lc p l s m c b L xs D cA ad) (hcs : kc ≤ 600000 ∧ ks ≤ 7302250) {R : hw_St → hw_St → Prop} (hs : hw_sim2 R F_X6_life F_X7_life) {i : Nat} (x3 : Int32) (ex3 : x3 = nI i) (hi : i + 6 ≤ L) (hL : L ≤ 384) (σ τ : hw_St) (hR : R σ τ)
    (k : ∀ (σ τ : hw_St) (H : Heap) (locs : List Loc) (ls : Array Slot), R σ τ → hw_W (hw_EH l D cA ad) σ H → hw_W (hw_EM l D cA ad) τ H → va_S (fun q : Nat => s.heap.size ≤ q) s.heap H locs → lv_has ls 4 [(3, .int x3), (2, .ref (ad 200)), (1, .ref (ad 0)), (0, .ref b)] → W p l e room_1 s m #[Value.ref b] below meth c H locs kc ks Q (F0 m 1441 ls []))
    (H : Heap) (locs : List Loc) (ls : Array Slot) (hH : hw_W (hw_EH l D cA ad) σ H) (hM : hw_W (hw_EM l D cA ad) τ H) (hS : va_S (fun q : Nat => s.heap.size ≤ q) s.heap H locs) (hl : lv_has ls 4 [(3, .int x3), (2, .ref (ad 200)), (1, .ref (ad 0)), (0, .ref b)]) : W p l e room_1 s m #[Value.ref b] below meth c H locs kc ks Q (F0 m 689 ls []) := by
  obtain ⟨hx, hb, hml, hown, hts, hK, hApH, hApM, hHM, hnH, hnM, hN, hCH, hCM, hX, hbl⟩ := LC
  have hbA : ¬ (fun q : Nat => s.heap.size ≤ q) b := Nat.not_le.mpr hbl
  have hin1 : vp_in (x3 + 1) L := by rw [ex3, show nI i + 1 = nI (i + 1) from nI_add i 1]; exact vp_in_nI (by omega) (by omega)
  have hin2 : vp_in (x3 + 2) L := by rw [ex3, show nI i + 2 = nI (i + 2) from nI_add i 2]; exact vp_in_nI (by omega) (by omega)
  obtain ⟨r, σ', τ', h1, h2, hR'⟩ := hs (xs (x3 + 1).toNatClampNeg) (xs (x3 + 2).toNatClampNeg) σ τ hR
  refine lv_aload_n hx hb dL_law_689 rfl (lv_at hl 2 rfl) ?_
  refine lv_aload_n hx hb dL_law_690 rfl (lv_at hl 3 rfl) ?_
  refine lv_iload_n hx hb dL_law_691 rfl (lv_at hl 0 rfl) ?_
  refine lv_iconst (v := 1) hx hb dL_law_692 (by decide) ?_
  refine lv_iadd hx hb dL_law_693 ?_
  refine va_sld hx hb hX hbl hbA hS hin1 dL_law_694 ?_
  refine lv_aload_n hx hb dL_law_695 rfl (lv_at hl 3 rfl) ?_
  refine lv_iload_n hx hb dL_law_696 rfl (lv_at hl 0 rfl) ?_
  refine lv_iconst (v := 2) hx hb dL_law_697 (by decide) ?_
  refine lv_iadd hx hb dL_law_698 ?_
  refine va_sld hx hb hX hbl hbA hS hin2 dL_law_699 ?_
  refine hw_lcall (E := hw_EH l D cA ad) (E2 := hw_EM l D cA ad) (σ := σ) (τ := τ) (As := [.int (xs (x3 + 1).toNatClampNeg), .int (xs (x3 + 2).toNatClampNeg)]) (rest := []) (t := 0) hx hb hml hown hts hK hApH hN hCH hnH hHM rfl (M_X6_life (hw_EH l D cA ad) rfl (xs (x3 + 1).toNatClampNeg) (xs (x3 + 2).toNatClampNeg) σ) h1 W_X6_life SV_X6_life cf_X6 hw_T0 mw_515 (by decide) ⟨rfl, hw_l8 rfl⟩ dL_law_700 hl.1 hcs hH hM hS (fun H locs hH hM hS => ?_)
  refine lv_aload_n hx hb dL_law_703 rfl (lv_at hl 1 rfl) ?_
  refine lv_aload_n hx hb dL_law_704 rfl (lv_at hl 3 rfl) ?_
  refine lv_iload_n hx hb dL_law_705 rfl (lv_at hl 0 rfl) ?_
  refine lv_iconst (v := 1) hx hb dL_law_706 (by decide) ?_
  refine lv_iadd hx hb dL_law_707 ?_
  refine va_sld hx hb hX hbl hbA hS hin1 dL_law_708 ?_
  refine lv_aload_n hx hb dL_law_709 rfl (lv_at hl 3 rfl) ?_
  refine lv_iload_n hx hb dL_law_710 rfl (lv_at hl 0 rfl) ?_
  refine lv_iconst (v := 2) hx hb dL_law_711 (by decide) ?_
  refine lv_iadd hx hb dL_law_712 ?_
  refine va_sld hx hb hX hbl hbA hS hin2 dL_law_713 ?_
  refine hw_lcall (E := hw_EM l D cA ad) (E2 := hw_EH l D cA ad) (σ := τ) (τ := σ') (As := [.int (xs (x3 + 1).toNatClampNeg), .int (xs (x3 + 2).toNatClampNeg)]) (rest := [.int r]) (t := 200) hx hb hml hown hts hK hApM hN hCM hnM (fun t ht u hu e => hHM u hu t ht e.symm) rfl (M_X7_life (hw_EM l D cA ad) rfl (xs (x3 + 1).toNatClampNeg) (xs (x3 + 2).toNatClampNeg) τ) h2 W_X7_life SV_X7_life cf_X7 hw_T200 mw_520 (by decide) ⟨rfl, hw_l8 rfl⟩ dL_law_714 hl.1 hcs hM hH hS (fun H locs hM hH hS => ?_)
  refine lv_icmp_eq (tgt := 1441) hx hb dL_law_717 (by decide) (fun _ => ?_) (fun c => absurd rfl c)
  exact k σ' τ' H locs ls hR' hH hM hS hl
set_option maxRecDepth 20000 in
theorem law_case16 {p : Program} {l : Launch} {e : Env} {s : State} {m : MethodId} {below : List Frame} {meth : Method} {c : Code} {b L : Nat} {xs : Nat → Int32} {D : va_G} {cA : Nat → ClassId} {ad : Nat → Nat} {kc ks : Nat} {Q : State → Prop} (LC : hw_Lc p l s m c b L xs D cA ad) (hcs : kc ≤ 600000 ∧ ks ≤ 7302250) {R : hw_St → hw_St → Prop} (hs : hw_sim2 R F_X6_harp F_X7_harp) {i : Nat} (x3 : Int32) (ex3 : x3 = nI i) (hi : i + 6 ≤ L) (hL : L ≤ 384) (σ τ : hw_St) (hR : R σ τ)
    (k : ∀ (σ τ : hw_St) (H : Heap) (locs : List Loc) (ls : Array Slot), R σ τ → hw_W (hw_EH l D cA ad) σ H → hw_W (hw_EM l D cA ad) τ H → va_S (fun q : Nat => s.heap.size ≤ q) s.heap H locs → lv_has ls 4 [(3, .int x3), (2, .ref (ad 200)), (1, .ref (ad 0)), (0, .ref b)] → W p l e room_1 s m #[Value.ref b] below meth c H locs kc ks Q (F0 m 1441 ls []))
    (H : Heap) (locs : List Loc) (ls : Array Slot) (hH : hw_W (hw_EH l D cA ad) σ H) (hM : hw_W (hw_EM l D cA ad) τ H) (hS : va_S (fun q : Nat => s.heap.size ≤ q) s.heap H locs) (hl : lv_has ls 4 [(3, .int x3), (2, .ref (ad 200)), (1, .ref (ad 0)), (0, .ref b)]) : W p l e room_1 s m #[Value.ref b] below meth c H locs kc ks Q (F0 m 722 ls []) := by
  obtain ⟨hx, hb, hml, hown, hts, hK, hApH, hApM, hHM, hnH, hnM, hN, hCH, hCM, hX, hbl⟩ := LC
  have hbA : ¬ (fun q : Nat => s.heap.size ≤ q) b := Nat.not_le.mpr hbl
  have hin1 : vp_in (x3 + 1) L := by rw [ex3, show nI i + 1 = nI (i + 1) from nI_add i 1]; exact vp_in_nI (by omega) (by omega)
  have hin2 : vp_in (x3 + 2) L := by rw [ex3, show nI i + 2 = nI (i + 2) from nI_add i 2]; exact vp_in_nI (by omega) (by omega)
  obtain ⟨r, σ', τ', h1, h2, hR'⟩ := hs (xs (x3 + 1).toNatClampNeg) (xs (x3 + 2).toNatClampNeg) σ τ hR
  refine lv_aload_n hx hb dL_law_722 rfl (lv_at hl 2 rfl) ?_
  refine lv_aload_n hx hb dL_law_723 rfl (lv_at hl 3 rfl) ?_
  refine lv_iload_n hx hb dL_law_724 rfl (lv_at hl 0 rfl) ?_
  refine lv_iconst (v := 1) hx hb dL_law_725 (by decide) ?_
  refine lv_iadd hx hb dL_law_726 ?_
  refine va_sld hx hb hX hbl hbA hS hin1 dL_law_727 ?_
  refine lv_aload_n hx hb dL_law_728 rfl (lv_at hl 3 rfl) ?_
  refine lv_iload_n hx hb dL_law_729 rfl (lv_at hl 0 rfl) ?_
  refine lv_iconst (v := 2) hx hb dL_law_730 (by decide) ?_
  refine lv_iadd hx hb dL_law_731 ?_
  refine va_sld hx hb hX hbl hbA hS hin2 dL_law_732 ?_
  refine hw_lcall (E := hw_EH l D cA ad) (E2 := hw_EM l D cA ad) (σ := σ) (τ := τ) (As := [.int (xs (x3 + 1).toNatClampNeg), .int (xs (x3 + 2).toNatClampNeg)]) (rest := []) (t := 0) hx hb hml hown hts hK hApH hN hCH hnH hHM rfl (M_X6_harp (hw_EH l D cA ad) rfl (xs (x3 + 1).toNatClampNeg) (xs (x3 + 2).toNatClampNeg) σ) h1 W_X6_harp SV_X6_harp cf_X6 hw_T0 mw_525 (by decide) ⟨rfl, hw_l8 rfl⟩ dL_law_733 hl.1 hcs hH hM hS (fun H locs hH hM hS => ?_)
  refine lv_aload_n hx hb dL_law_736 rfl (lv_at hl 1 rfl) ?_
  refine lv_aload_n hx hb dL_law_737 rfl (lv_at hl 3 rfl) ?_
  refine lv_iload_n hx hb dL_law_738 rfl (lv_at hl 0 rfl) ?_
  refine lv_iconst (v := 1) hx hb dL_law_739 (by decide) ?_
  refine lv_iadd hx hb dL_law_740 ?_
  refine va_sld hx hb hX hbl hbA hS hin1 dL_law_741 ?_
  refine lv_aload_n hx hb dL_law_742 rfl (lv_at hl 3 rfl) ?_
  refine lv_iload_n hx hb dL_law_743 rfl (lv_at hl 0 rfl) ?_
  refine lv_iconst (v := 2) hx hb dL_law_744 (by decide) ?_
  refine lv_iadd hx hb dL_law_745 ?_
  refine va_sld hx hb hX hbl hbA hS hin2 dL_law_746 ?_
  refine hw_lcall (E := hw_EM l D cA ad) (E2 := hw_EH l D cA ad) (σ := τ) (τ := σ') (As := [.int (xs (x3 + 1).toNatClampNeg), .int (xs (x3 + 2).toNatClampNeg)]) (rest := [.int r]) (t := 200) hx hb hml hown hts hK hApM hN hCM hnM (fun t ht u hu e => hHM u hu t ht e.symm) rfl (M_X7_harp (hw_EM l D cA ad) rfl (xs (x3 + 1).toNatClampNeg) (xs (x3 + 2).toNatClampNeg) τ) h2 W_X7_harp SV_X7_harp cf_X7 hw_T200 mw_529 (by decide) ⟨rfl, hw_l8 rfl⟩ dL_law_747 hl.1 hcs hM hH hS (fun H locs hM hH hS => ?_)
  refine lv_icmp_eq (tgt := 1441) hx hb dL_law_750 (by decide) (fun _ => ?_) (fun c => absurd rfl c)
  exact k σ' τ' H locs ls hR' hH hM hS hl
set_option maxRecDepth 20000 in
theorem law_case17 {p : Program} {l : Launch} {e : Env} {s : State} {m : MethodId} {below : List Frame} {meth : Method} {c : Code} {b L : Nat} {xs : Nat → Int32} {D : va_G} {cA : Nat → ClassId} {ad : Nat → Nat} {kc ks : Nat} {Q : State → Prop} (LC : hw_Lc p l s m c b L xs D cA ad) (hcs : kc ≤ 600000 ∧ ks ≤ 7302250) {R : hw_St → hw_St → Prop} (hs : hw_sim2 R F_X6_lumps F_X7_lumps) {i : Nat} (x3 : Int32) (ex3 : x3 = nI i) (hi : i + 6 ≤ L) (hL : L ≤ 384) (σ τ : hw_St) (hR : R σ τ)
    (k : ∀ (σ τ : hw_St) (H : Heap) (locs : List Loc) (ls : Array Slot), R σ τ → hw_W (hw_EH l D cA ad) σ H → hw_W (hw_EM l D cA ad) τ H → va_S (fun q : Nat => s.heap.size ≤ q) s.heap H locs → lv_has ls 4 [(3, .int x3), (2, .ref (ad 200)), (1, .ref (ad 0)), (0, .ref b)] → W p l e room_1 s m #[Value.ref b] below meth c H locs kc ks Q (F0 m 1441 ls []))
    (H : Heap) (locs : List Loc) (ls : Array Slot) (hH : hw_W (hw_EH l D cA ad) σ H) (hM : hw_W (hw_EM l D cA ad) τ H) (hS : va_S (fun q : Nat => s.heap.size ≤ q) s.heap H locs) (hl : lv_has ls 4 [(3, .int x3), (2, .ref (ad 200)), (1, .ref (ad 0)), (0, .ref b)]) : W p l e room_1 s m #[Value.ref b] below meth c H locs kc ks Q (F0 m 755 ls []) := by
  obtain ⟨hx, hb, hml, hown, hts, hK, hApH, hApM, hHM, hnH, hnM, hN, hCH, hCM, hX, hbl⟩ := LC
  have hbA : ¬ (fun q : Nat => s.heap.size ≤ q) b := Nat.not_le.mpr hbl
  have hin1 : vp_in (x3 + 1) L := by rw [ex3, show nI i + 1 = nI (i + 1) from nI_add i 1]; exact vp_in_nI (by omega) (by omega)
  have hin2 : vp_in (x3 + 2) L := by rw [ex3, show nI i + 2 = nI (i + 2) from nI_add i 2]; exact vp_in_nI (by omega) (by omega)
  obtain ⟨r, σ', τ', h1, h2, hR'⟩ := hs (xs (x3 + 1).toNatClampNeg) (xs (x3 + 2).toNatClampNeg) σ τ hR
  refine lv_aload_n hx hb dL_law_755 rfl (lv_at hl 2 rfl) ?_
  refine lv_aload_n hx hb dL_law_756 rfl (lv_at hl 3 rfl) ?_
  refine lv_iload_n hx hb dL_law_757 rfl (lv_at hl 0 rfl) ?_
  refine lv_iconst (v := 1) hx hb dL_law_758 (by decide) ?_
  refine lv_iadd hx hb dL_law_759 ?_
  refine va_sld hx hb hX hbl hbA hS hin1 dL_law_760 ?_
  refine lv_aload_n hx hb dL_law_761 rfl (lv_at hl 3 rfl) ?_
  refine lv_iload_n hx hb dL_law_762 rfl (lv_at hl 0 rfl) ?_
  refine lv_iconst (v := 2) hx hb dL_law_763 (by decide) ?_
  refine lv_iadd hx hb dL_law_764 ?_
  refine va_sld hx hb hX hbl hbA hS hin2 dL_law_765 ?_
  refine hw_lcall (E := hw_EH l D cA ad) (E2 := hw_EM l D cA ad) (σ := σ) (τ := τ) (As := [.int (xs (x3 + 1).toNatClampNeg), .int (xs (x3 + 2).toNatClampNeg)]) (rest := []) (t := 0) hx hb hml hown hts hK hApH hN hCH hnH hHM rfl (M_X6_lumps (hw_EH l D cA ad) rfl (xs (x3 + 1).toNatClampNeg) (xs (x3 + 2).toNatClampNeg) σ) h1 W_X6_lumps SV_X6_lumps cf_X6 hw_T0 mw_533 (by decide) ⟨rfl, hw_l8 rfl⟩ dL_law_766 hl.1 hcs hH hM hS (fun H locs hH hM hS => ?_)
  refine lv_aload_n hx hb dL_law_769 rfl (lv_at hl 1 rfl) ?_
  refine lv_aload_n hx hb dL_law_770 rfl (lv_at hl 3 rfl) ?_
  refine lv_iload_n hx hb dL_law_771 rfl (lv_at hl 0 rfl) ?_
  refine lv_iconst (v := 1) hx hb dL_law_772 (by decide) ?_
  refine lv_iadd hx hb dL_law_773 ?_
  refine va_sld hx hb hX hbl hbA hS hin1 dL_law_774 ?_
  refine lv_aload_n hx hb dL_law_775 rfl (lv_at hl 3 rfl) ?_
  refine lv_iload_n hx hb dL_law_776 rfl (lv_at hl 0 rfl) ?_
  refine lv_iconst (v := 2) hx hb dL_law_777 (by decide) ?_
  refine lv_iadd hx hb dL_law_778 ?_
  refine va_sld hx hb hX hbl hbA hS hin2 dL_law_779 ?_
  refine hw_lcall (E := hw_EM l D cA ad) (E2 := hw_EH l D cA ad) (σ := τ) (τ := σ') (As := [.int (xs (x3 + 1).toNatClampNeg), .int (xs (x3 + 2).toNatClampNeg)]) (rest := [.int r]) (t := 200) hx hb hml hown hts hK hApM hN hCM hnM (fun t ht u hu e => hHM u hu t ht e.symm) rfl (M_X7_lumps (hw_EM l D cA ad) rfl (xs (x3 + 1).toNatClampNeg) (xs (x3 + 2).toNatClampNeg) τ) h2 W_X7_lumps SV_X7_lumps cf_X7 hw_T200 mw_537 (by decide) ⟨rfl, hw_l8 rfl⟩ dL_law_780 hl.1 hcs hM hH hS (fun H locs hM hH hS => ?_)
  refine lv_icmp_eq (tgt := 1441) hx hb dL_law_783 (by decide) (fun _ => ?_) (fun c => absurd rfl c)
  exact k σ' τ' H locs ls hR' hH hM hS hl
set_option maxRecDepth 20000 in
theorem law_case18 {p : Program} {l : Launch} {e : Env} {s : State} {m : MethodId} {below : List Frame} {meth : Method} {c : Code} {b L : Nat} {xs : Nat → Int32} {D : va_G} {cA : Nat → ClassId} {ad : Nat → Nat} {kc ks : Nat} {Q : State → Prop} (LC : hw_Lc p l s m c b L xs D cA ad) (hcs : kc ≤ 600000 ∧ ks ≤ 7302250) {R : hw_St → hw_St → Prop} (hs : hw_sim3 R F_X6_blown F_X7_blown) {i : Nat} (x3 : Int32) (ex3 : x3 = nI i) (hi : i + 6 ≤ L) (hL : L ≤ 384) (σ τ : hw_St) (hR : R σ τ)
    (k : ∀ (σ τ : hw_St) (H : Heap) (locs : List Loc) (ls : Array Slot), R σ τ → hw_W (hw_EH l D cA ad) σ H → hw_W (hw_EM l D cA ad) τ H → va_S (fun q : Nat => s.heap.size ≤ q) s.heap H locs → lv_has ls 4 [(3, .int x3), (2, .ref (ad 200)), (1, .ref (ad 0)), (0, .ref b)] → W p l e room_1 s m #[Value.ref b] below meth c H locs kc ks Q (F0 m 1441 ls []))
    (H : Heap) (locs : List Loc) (ls : Array Slot) (hH : hw_W (hw_EH l D cA ad) σ H) (hM : hw_W (hw_EM l D cA ad) τ H) (hS : va_S (fun q : Nat => s.heap.size ≤ q) s.heap H locs) (hl : lv_has ls 4 [(3, .int x3), (2, .ref (ad 200)), (1, .ref (ad 0)), (0, .ref b)]) : W p l e room_1 s m #[Value.ref b] below meth c H locs kc ks Q (F0 m 788 ls []) := by
  obtain ⟨hx, hb, hml, hown, hts, hK, hApH, hApM, hHM, hnH, hnM, hN, hCH, hCM, hX, hbl⟩ := LC
  have hbA : ¬ (fun q : Nat => s.heap.size ≤ q) b := Nat.not_le.mpr hbl
  have hin1 : vp_in (x3 + 1) L := by rw [ex3, show nI i + 1 = nI (i + 1) from nI_add i 1]; exact vp_in_nI (by omega) (by omega)
  have hin2 : vp_in (x3 + 2) L := by rw [ex3, show nI i + 2 = nI (i + 2) from nI_add i 2]; exact vp_in_nI (by omega) (by omega)
  have hin3 : vp_in (x3 + 3) L := by rw [ex3, show nI i + 3 = nI (i + 3) from nI_add i 3]; exact vp_in_nI (by omega) (by omega)
  obtain ⟨r, σ', τ', h1, h2, hR'⟩ := hs (xs (x3 + 1).toNatClampNeg) (xs (x3 + 2).toNatClampNeg) (xs (x3 + 3).toNatClampNeg) σ τ hR
  refine lv_aload_n hx hb dL_law_788 rfl (lv_at hl 2 rfl) ?_
  refine lv_aload_n hx hb dL_law_789 rfl (lv_at hl 3 rfl) ?_
  refine lv_iload_n hx hb dL_law_790 rfl (lv_at hl 0 rfl) ?_
  refine lv_iconst (v := 1) hx hb dL_law_791 (by decide) ?_
  refine lv_iadd hx hb dL_law_792 ?_
  refine va_sld hx hb hX hbl hbA hS hin1 dL_law_793 ?_
  refine lv_aload_n hx hb dL_law_794 rfl (lv_at hl 3 rfl) ?_
  refine lv_iload_n hx hb dL_law_795 rfl (lv_at hl 0 rfl) ?_
  refine lv_iconst (v := 2) hx hb dL_law_796 (by decide) ?_
  refine lv_iadd hx hb dL_law_797 ?_
  refine va_sld hx hb hX hbl hbA hS hin2 dL_law_798 ?_
  refine lv_aload_n hx hb dL_law_799 rfl (lv_at hl 3 rfl) ?_
  refine lv_iload_n hx hb dL_law_800 rfl (lv_at hl 0 rfl) ?_
  refine lv_iconst (v := 3) hx hb dL_law_801 (by decide) ?_
  refine lv_iadd hx hb dL_law_802 ?_
  refine va_sld hx hb hX hbl hbA hS hin3 dL_law_803 ?_
  refine hw_lcall (E := hw_EH l D cA ad) (E2 := hw_EM l D cA ad) (σ := σ) (τ := τ) (As := [.int (xs (x3 + 1).toNatClampNeg), .int (xs (x3 + 2).toNatClampNeg), .int (xs (x3 + 3).toNatClampNeg)]) (rest := []) (t := 0) hx hb hml hown hts hK hApH hN hCH hnH hHM rfl (M_X6_blown (hw_EH l D cA ad) rfl (xs (x3 + 1).toNatClampNeg) (xs (x3 + 2).toNatClampNeg) (xs (x3 + 3).toNatClampNeg) σ) h1 W_X6_blown SV_X6_blown cf_X6 hw_T0 mw_541 (by decide) ⟨rfl, hw_l8 rfl⟩ dL_law_804 hl.1 hcs hH hM hS (fun H locs hH hM hS => ?_)
  refine lv_aload_n hx hb dL_law_807 rfl (lv_at hl 1 rfl) ?_
  refine lv_aload_n hx hb dL_law_808 rfl (lv_at hl 3 rfl) ?_
  refine lv_iload_n hx hb dL_law_809 rfl (lv_at hl 0 rfl) ?_
  refine lv_iconst (v := 1) hx hb dL_law_810 (by decide) ?_
  refine lv_iadd hx hb dL_law_811 ?_
  refine va_sld hx hb hX hbl hbA hS hin1 dL_law_812 ?_
  refine lv_aload_n hx hb dL_law_813 rfl (lv_at hl 3 rfl) ?_
  refine lv_iload_n hx hb dL_law_814 rfl (lv_at hl 0 rfl) ?_
  refine lv_iconst (v := 2) hx hb dL_law_815 (by decide) ?_
  refine lv_iadd hx hb dL_law_816 ?_
  refine va_sld hx hb hX hbl hbA hS hin2 dL_law_817 ?_
  refine lv_aload_n hx hb dL_law_818 rfl (lv_at hl 3 rfl) ?_
  refine lv_iload_n hx hb dL_law_819 rfl (lv_at hl 0 rfl) ?_
  refine lv_iconst (v := 3) hx hb dL_law_820 (by decide) ?_
  refine lv_iadd hx hb dL_law_821 ?_
  refine va_sld hx hb hX hbl hbA hS hin3 dL_law_822 ?_
  refine hw_lcall (E := hw_EM l D cA ad) (E2 := hw_EH l D cA ad) (σ := τ) (τ := σ') (As := [.int (xs (x3 + 1).toNatClampNeg), .int (xs (x3 + 2).toNatClampNeg), .int (xs (x3 + 3).toNatClampNeg)]) (rest := [.int r]) (t := 200) hx hb hml hown hts hK hApM hN hCM hnM (fun t ht u hu e => hHM u hu t ht e.symm) rfl (M_X7_blown (hw_EM l D cA ad) rfl (xs (x3 + 1).toNatClampNeg) (xs (x3 + 2).toNatClampNeg) (xs (x3 + 3).toNatClampNeg) τ) h2 W_X7_blown SV_X7_blown cf_X7 hw_T200 mw_545 (by decide) ⟨rfl, hw_l8 rfl⟩ dL_law_823 hl.1 hcs hM hH hS (fun H locs hM hH hS => ?_)
  refine lv_icmp_eq (tgt := 1441) hx hb dL_law_826 (by decide) (fun _ => ?_) (fun c => absurd rfl c)
  exact k σ' τ' H locs ls hR' hH hM hS hl
set_option maxRecDepth 20000 in
theorem law_case19 {p : Program} {l : Launch} {e : Env} {s : State} {m : MethodId} {below : List Frame} {meth : Method} {c : Code} {b L : Nat} {xs : Nat → Int32} {D : va_G} {cA : Nat → ClassId} {ad : Nat → Nat} {kc ks : Nat} {Q : State → Prop} (LC : hw_Lc p l s m c b L xs D cA ad) (hcs : kc ≤ 600000 ∧ ks ≤ 7302250) {R : hw_St → hw_St → Prop} (hs : hw_sim1 R F_X6_heard F_X7_heard) {i : Nat} (x3 : Int32) (ex3 : x3 = nI i) (hi : i + 6 ≤ L) (hL : L ≤ 384) (σ τ : hw_St) (hR : R σ τ)
    (k : ∀ (σ τ : hw_St) (H : Heap) (locs : List Loc) (ls : Array Slot), R σ τ → hw_W (hw_EH l D cA ad) σ H → hw_W (hw_EM l D cA ad) τ H → va_S (fun q : Nat => s.heap.size ≤ q) s.heap H locs → lv_has ls 4 [(3, .int x3), (2, .ref (ad 200)), (1, .ref (ad 0)), (0, .ref b)] → W p l e room_1 s m #[Value.ref b] below meth c H locs kc ks Q (F0 m 1441 ls []))
    (H : Heap) (locs : List Loc) (ls : Array Slot) (hH : hw_W (hw_EH l D cA ad) σ H) (hM : hw_W (hw_EM l D cA ad) τ H) (hS : va_S (fun q : Nat => s.heap.size ≤ q) s.heap H locs) (hl : lv_has ls 4 [(3, .int x3), (2, .ref (ad 200)), (1, .ref (ad 0)), (0, .ref b)]) : W p l e room_1 s m #[Value.ref b] below meth c H locs kc ks Q (F0 m 831 ls []) := by
  obtain ⟨hx, hb, hml, hown, hts, hK, hApH, hApM, hHM, hnH, hnM, hN, hCH, hCM, hX, hbl⟩ := LC
  have hbA : ¬ (fun q : Nat => s.heap.size ≤ q) b := Nat.not_le.mpr hbl
  have hin1 : vp_in (x3 + 1) L := by rw [ex3, show nI i + 1 = nI (i + 1) from nI_add i 1]; exact vp_in_nI (by omega) (by omega)
  obtain ⟨r, σ', τ', h1, h2, hR'⟩ := hs (xs (x3 + 1).toNatClampNeg) σ τ hR
  refine lv_aload_n hx hb dL_law_831 rfl (lv_at hl 2 rfl) ?_
  refine lv_aload_n hx hb dL_law_832 rfl (lv_at hl 3 rfl) ?_
  refine lv_iload_n hx hb dL_law_833 rfl (lv_at hl 0 rfl) ?_
  refine lv_iconst (v := 1) hx hb dL_law_834 (by decide) ?_
  refine lv_iadd hx hb dL_law_835 ?_
  refine va_sld hx hb hX hbl hbA hS hin1 dL_law_836 ?_
  refine hw_lcall (E := hw_EH l D cA ad) (E2 := hw_EM l D cA ad) (σ := σ) (τ := τ) (As := [.int (xs (x3 + 1).toNatClampNeg)]) (rest := []) (t := 0) hx hb hml hown hts hK hApH hN hCH hnH hHM rfl (M_X6_heard (hw_EH l D cA ad) rfl (xs (x3 + 1).toNatClampNeg) σ) h1 W_X6_heard SV_X6_heard cf_X6 hw_T0 mw_549 (by decide) ⟨rfl, hw_l8 rfl⟩ dL_law_837 hl.1 hcs hH hM hS (fun H locs hH hM hS => ?_)
  refine lv_aload_n hx hb dL_law_840 rfl (lv_at hl 1 rfl) ?_
  refine lv_aload_n hx hb dL_law_841 rfl (lv_at hl 3 rfl) ?_
  refine lv_iload_n hx hb dL_law_842 rfl (lv_at hl 0 rfl) ?_
  refine lv_iconst (v := 1) hx hb dL_law_843 (by decide) ?_
  refine lv_iadd hx hb dL_law_844 ?_
  refine va_sld hx hb hX hbl hbA hS hin1 dL_law_845 ?_
  refine hw_lcall (E := hw_EM l D cA ad) (E2 := hw_EH l D cA ad) (σ := τ) (τ := σ') (As := [.int (xs (x3 + 1).toNatClampNeg)]) (rest := [.int r]) (t := 200) hx hb hml hown hts hK hApM hN hCM hnM (fun t ht u hu e => hHM u hu t ht e.symm) rfl (M_X7_heard (hw_EM l D cA ad) rfl (xs (x3 + 1).toNatClampNeg) τ) h2 W_X7_heard SV_X7_heard cf_X7 hw_T200 mw_575 (by decide) ⟨rfl, hw_l8 rfl⟩ dL_law_846 hl.1 hcs hM hH hS (fun H locs hM hH hS => ?_)
  refine lv_icmp_eq (tgt := 1441) hx hb dL_law_849 (by decide) (fun _ => ?_) (fun c => absurd rfl c)
  exact k σ' τ' H locs ls hR' hH hM hS hl
set_option maxRecDepth 20000 in
theorem law_case20 {p : Program} {l : Launch} {e : Env} {s : State} {m : MethodId} {below : List Frame} {meth : Method} {c : Code} {b L : Nat} {xs : Nat → Int32} {D : va_G} {cA : Nat → ClassId} {ad : Nat → Nat} {kc ks : Nat} {Q : State → Prop} (LC : hw_Lc p l s m c b L xs D cA ad) (hcs : kc ≤ 600000 ∧ ks ≤ 7302250) {R : hw_St → hw_St → Prop} (hs : hw_sim3 R F_X6_feed F_X7_feed) {i : Nat} (x3 : Int32) (ex3 : x3 = nI i) (hi : i + 6 ≤ L) (hL : L ≤ 384) (σ τ : hw_St) (hR : R σ τ)
    (k : ∀ (σ τ : hw_St) (H : Heap) (locs : List Loc) (ls : Array Slot), R σ τ → hw_W (hw_EH l D cA ad) σ H → hw_W (hw_EM l D cA ad) τ H → va_S (fun q : Nat => s.heap.size ≤ q) s.heap H locs → lv_has ls 4 [(3, .int x3), (2, .ref (ad 200)), (1, .ref (ad 0)), (0, .ref b)] → W p l e room_1 s m #[Value.ref b] below meth c H locs kc ks Q (F0 m 1441 ls []))
    (H : Heap) (locs : List Loc) (ls : Array Slot) (hH : hw_W (hw_EH l D cA ad) σ H) (hM : hw_W (hw_EM l D cA ad) τ H) (hS : va_S (fun q : Nat => s.heap.size ≤ q) s.heap H locs) (hl : lv_has ls 4 [(3, .int x3), (2, .ref (ad 200)), (1, .ref (ad 0)), (0, .ref b)]) : W p l e room_1 s m #[Value.ref b] below meth c H locs kc ks Q (F0 m 854 ls []) := by
  obtain ⟨hx, hb, hml, hown, hts, hK, hApH, hApM, hHM, hnH, hnM, hN, hCH, hCM, hX, hbl⟩ := LC
  have hbA : ¬ (fun q : Nat => s.heap.size ≤ q) b := Nat.not_le.mpr hbl
  have hin1 : vp_in (x3 + 1) L := by rw [ex3, show nI i + 1 = nI (i + 1) from nI_add i 1]; exact vp_in_nI (by omega) (by omega)
  have hin2 : vp_in (x3 + 2) L := by rw [ex3, show nI i + 2 = nI (i + 2) from nI_add i 2]; exact vp_in_nI (by omega) (by omega)
  have hin3 : vp_in (x3 + 3) L := by rw [ex3, show nI i + 3 = nI (i + 3) from nI_add i 3]; exact vp_in_nI (by omega) (by omega)
  obtain ⟨r, σ', τ', h1, h2, hR'⟩ := hs (xs (x3 + 1).toNatClampNeg) (xs (x3 + 2).toNatClampNeg) (xs (x3 + 3).toNatClampNeg) σ τ hR
  refine lv_aload_n hx hb dL_law_854 rfl (lv_at hl 2 rfl) ?_
  refine lv_aload_n hx hb dL_law_855 rfl (lv_at hl 3 rfl) ?_
  refine lv_iload_n hx hb dL_law_856 rfl (lv_at hl 0 rfl) ?_
  refine lv_iconst (v := 1) hx hb dL_law_857 (by decide) ?_
  refine lv_iadd hx hb dL_law_858 ?_
  refine va_sld hx hb hX hbl hbA hS hin1 dL_law_859 ?_
  refine lv_aload_n hx hb dL_law_860 rfl (lv_at hl 3 rfl) ?_
  refine lv_iload_n hx hb dL_law_861 rfl (lv_at hl 0 rfl) ?_
  refine lv_iconst (v := 2) hx hb dL_law_862 (by decide) ?_
  refine lv_iadd hx hb dL_law_863 ?_
  refine va_sld hx hb hX hbl hbA hS hin2 dL_law_864 ?_
  refine lv_aload_n hx hb dL_law_865 rfl (lv_at hl 3 rfl) ?_
  refine lv_iload_n hx hb dL_law_866 rfl (lv_at hl 0 rfl) ?_
  refine lv_iconst (v := 3) hx hb dL_law_867 (by decide) ?_
  refine lv_iadd hx hb dL_law_868 ?_
  refine va_sld hx hb hX hbl hbA hS hin3 dL_law_869 ?_
  refine hw_lcall (E := hw_EH l D cA ad) (E2 := hw_EM l D cA ad) (σ := σ) (τ := τ) (As := [.int (xs (x3 + 1).toNatClampNeg), .int (xs (x3 + 2).toNatClampNeg), .int (xs (x3 + 3).toNatClampNeg)]) (rest := []) (t := 0) hx hb hml hown hts hK hApH hN hCH hnH hHM rfl (M_X6_feed (hw_EH l D cA ad) rfl (xs (x3 + 1).toNatClampNeg) (xs (x3 + 2).toNatClampNeg) (xs (x3 + 3).toNatClampNeg) σ) h1 W_X6_feed SV_X6_feed cf_X6 hw_T0 mw_583 (by decide) ⟨rfl, hw_l8 rfl⟩ dL_law_870 hl.1 hcs hH hM hS (fun H locs hH hM hS => ?_)
  refine lv_aload_n hx hb dL_law_873 rfl (lv_at hl 1 rfl) ?_
  refine lv_aload_n hx hb dL_law_874 rfl (lv_at hl 3 rfl) ?_
  refine lv_iload_n hx hb dL_law_875 rfl (lv_at hl 0 rfl) ?_
  refine lv_iconst (v := 1) hx hb dL_law_876 (by decide) ?_
  refine lv_iadd hx hb dL_law_877 ?_
  refine va_sld hx hb hX hbl hbA hS hin1 dL_law_878 ?_
  refine lv_aload_n hx hb dL_law_879 rfl (lv_at hl 3 rfl) ?_
  refine lv_iload_n hx hb dL_law_880 rfl (lv_at hl 0 rfl) ?_
  refine lv_iconst (v := 2) hx hb dL_law_881 (by decide) ?_
  refine lv_iadd hx hb dL_law_882 ?_
  refine va_sld hx hb hX hbl hbA hS hin2 dL_law_883 ?_
  refine lv_aload_n hx hb dL_law_884 rfl (lv_at hl 3 rfl) ?_
  refine lv_iload_n hx hb dL_law_885 rfl (lv_at hl 0 rfl) ?_
  refine lv_iconst (v := 3) hx hb dL_law_886 (by decide) ?_
  refine lv_iadd hx hb dL_law_887 ?_
  refine va_sld hx hb hX hbl hbA hS hin3 dL_law_888 ?_
  refine hw_lcall (E := hw_EM l D cA ad) (E2 := hw_EH l D cA ad) (σ := τ) (τ := σ') (As := [.int (xs (x3 + 1).toNatClampNeg), .int (xs (x3 + 2).toNatClampNeg), .int (xs (x3 + 3).toNatClampNeg)]) (rest := [.int r]) (t := 200) hx hb hml hown hts hK hApM hN hCM hnM (fun t ht u hu e => hHM u hu t ht e.symm) rfl (M_X7_feed (hw_EM l D cA ad) rfl (xs (x3 + 1).toNatClampNeg) (xs (x3 + 2).toNatClampNeg) (xs (x3 + 3).toNatClampNeg) τ) h2 W_X7_feed SV_X7_feed cf_X7 hw_T200 mw_591 (by decide) ⟨rfl, hw_l8 rfl⟩ dL_law_889 hl.1 hcs hM hH hS (fun H locs hM hH hS => ?_)
  refine lv_icmp_eq (tgt := 1441) hx hb dL_law_892 (by decide) (fun _ => ?_) (fun c => absurd rfl c)
  exact k σ' τ' H locs ls hR' hH hM hS hl
set_option maxRecDepth 20000 in
theorem law_case21 {p : Program} {l : Launch} {e : Env} {s : State} {m : MethodId} {below : List Frame} {meth : Method} {c : Code} {b L : Nat} {xs : Nat → Int32} {D : va_G} {cA : Nat → ClassId} {ad : Nat → Nat} {kc ks : Nat} {Q : State → Prop} (LC : hw_Lc p l s m c b L xs D cA ad) (hcs : kc ≤ 600000 ∧ ks ≤ 7302250) {R : hw_St → hw_St → Prop} (hs : hw_sim1 R F_X6_trim F_X7_trim) {i : Nat} (x3 : Int32) (ex3 : x3 = nI i) (hi : i + 6 ≤ L) (hL : L ≤ 384) (σ τ : hw_St) (hR : R σ τ)
    (k : ∀ (σ τ : hw_St) (H : Heap) (locs : List Loc) (ls : Array Slot), R σ τ → hw_W (hw_EH l D cA ad) σ H → hw_W (hw_EM l D cA ad) τ H → va_S (fun q : Nat => s.heap.size ≤ q) s.heap H locs → lv_has ls 4 [(3, .int x3), (2, .ref (ad 200)), (1, .ref (ad 0)), (0, .ref b)] → W p l e room_1 s m #[Value.ref b] below meth c H locs kc ks Q (F0 m 1441 ls []))
    (H : Heap) (locs : List Loc) (ls : Array Slot) (hH : hw_W (hw_EH l D cA ad) σ H) (hM : hw_W (hw_EM l D cA ad) τ H) (hS : va_S (fun q : Nat => s.heap.size ≤ q) s.heap H locs) (hl : lv_has ls 4 [(3, .int x3), (2, .ref (ad 200)), (1, .ref (ad 0)), (0, .ref b)]) : W p l e room_1 s m #[Value.ref b] below meth c H locs kc ks Q (F0 m 897 ls []) := by
  obtain ⟨hx, hb, hml, hown, hts, hK, hApH, hApM, hHM, hnH, hnM, hN, hCH, hCM, hX, hbl⟩ := LC
  have hbA : ¬ (fun q : Nat => s.heap.size ≤ q) b := Nat.not_le.mpr hbl
  have hin1 : vp_in (x3 + 1) L := by rw [ex3, show nI i + 1 = nI (i + 1) from nI_add i 1]; exact vp_in_nI (by omega) (by omega)
  obtain ⟨r, σ', τ', h1, h2, hR'⟩ := hs (xs (x3 + 1).toNatClampNeg) σ τ hR
  refine lv_aload_n hx hb dL_law_897 rfl (lv_at hl 2 rfl) ?_
  refine lv_aload_n hx hb dL_law_898 rfl (lv_at hl 3 rfl) ?_
  refine lv_iload_n hx hb dL_law_899 rfl (lv_at hl 0 rfl) ?_
  refine lv_iconst (v := 1) hx hb dL_law_900 (by decide) ?_
  refine lv_iadd hx hb dL_law_901 ?_
  refine va_sld hx hb hX hbl hbA hS hin1 dL_law_902 ?_
  refine hw_lcall (E := hw_EH l D cA ad) (E2 := hw_EM l D cA ad) (σ := σ) (τ := τ) (As := [.int (xs (x3 + 1).toNatClampNeg)]) (rest := []) (t := 0) hx hb hml hown hts hK hApH hN hCH hnH hHM rfl (M_X6_trim (hw_EH l D cA ad) rfl (xs (x3 + 1).toNatClampNeg) σ) h1 W_X6_trim SV_X6_trim cf_X6 hw_T0 mw_596 (by decide) ⟨rfl, hw_l8 rfl⟩ dL_law_903 hl.1 hcs hH hM hS (fun H locs hH hM hS => ?_)
  refine lv_aload_n hx hb dL_law_906 rfl (lv_at hl 1 rfl) ?_
  refine lv_aload_n hx hb dL_law_907 rfl (lv_at hl 3 rfl) ?_
  refine lv_iload_n hx hb dL_law_908 rfl (lv_at hl 0 rfl) ?_
  refine lv_iconst (v := 1) hx hb dL_law_909 (by decide) ?_
  refine lv_iadd hx hb dL_law_910 ?_
  refine va_sld hx hb hX hbl hbA hS hin1 dL_law_911 ?_
  refine hw_lcall (E := hw_EM l D cA ad) (E2 := hw_EH l D cA ad) (σ := τ) (τ := σ') (As := [.int (xs (x3 + 1).toNatClampNeg)]) (rest := [.int r]) (t := 200) hx hb hml hown hts hK hApM hN hCM hnM (fun t ht u hu e => hHM u hu t ht e.symm) rfl (M_X7_trim (hw_EM l D cA ad) rfl (xs (x3 + 1).toNatClampNeg) τ) h2 W_X7_trim SV_X7_trim cf_X7 hw_T200 mw_600 (by decide) ⟨rfl, hw_l8 rfl⟩ dL_law_912 hl.1 hcs hM hH hS (fun H locs hM hH hS => ?_)
  refine lv_icmp_eq (tgt := 1441) hx hb dL_law_915 (by decide) (fun _ => ?_) (fun c => absurd rfl c)
  exact k σ' τ' H locs ls hR' hH hM hS hl
set_option maxRecDepth 20000 in
theorem law_case22 {p : Program} {l : Launch} {e : Env} {s : State} {m : MethodId} {below : List Frame} {meth : Method} {c : Code} {b L : Nat} {xs : Nat → Int32} {D : va_G} {cA : Nat → ClassId} {ad : Nat → Nat} {kc ks : Nat} {Q : State → Prop} (LC : hw_Lc p l s m c b L xs D cA ad) (hcs : kc ≤ 600000 ∧ ks ≤ 7302250) {R : hw_St → hw_St → Prop} (hs : hw_sim0 R F_X6_text F_X7_text) {i : Nat} (x3 : Int32) (ex3 : x3 = nI i) (hi : i + 6 ≤ L) (hL : L ≤ 384) (σ τ : hw_St) (hR : R σ τ)
    (k : ∀ (σ τ : hw_St) (H : Heap) (locs : List Loc) (ls : Array Slot), R σ τ → hw_W (hw_EH l D cA ad) σ H → hw_W (hw_EM l D cA ad) τ H → va_S (fun q : Nat => s.heap.size ≤ q) s.heap H locs → lv_has ls 4 [(3, .int x3), (2, .ref (ad 200)), (1, .ref (ad 0)), (0, .ref b)] → W p l e room_1 s m #[Value.ref b] below meth c H locs kc ks Q (F0 m 1441 ls []))
    (H : Heap) (locs : List Loc) (ls : Array Slot) (hH : hw_W (hw_EH l D cA ad) σ H) (hM : hw_W (hw_EM l D cA ad) τ H) (hS : va_S (fun q : Nat => s.heap.size ≤ q) s.heap H locs) (hl : lv_has ls 4 [(3, .int x3), (2, .ref (ad 200)), (1, .ref (ad 0)), (0, .ref b)]) : W p l e room_1 s m #[Value.ref b] below meth c H locs kc ks Q (F0 m 920 ls []) := by
  obtain ⟨hx, hb, hml, hown, hts, hK, hApH, hApM, hHM, hnH, hnM, hN, hCH, hCM, hX, hbl⟩ := LC
  have hbA : ¬ (fun q : Nat => s.heap.size ≤ q) b := Nat.not_le.mpr hbl
  obtain ⟨r, σ', τ', h1, h2, hR'⟩ := hs  σ τ hR
  refine lv_aload_n hx hb dL_law_920 rfl (lv_at hl 2 rfl) ?_
  refine hw_lcall (E := hw_EH l D cA ad) (E2 := hw_EM l D cA ad) (σ := σ) (τ := τ) (As := []) (rest := []) (t := 0) hx hb hml hown hts hK hApH hN hCH hnH hHM rfl (M_X6_text (hw_EH l D cA ad) rfl  σ) h1 W_X6_text SV_X6_text cf_X6 hw_T0 mw_604 (by decide) ⟨rfl, hw_l8 rfl⟩ dL_law_921 hl.1 hcs hH hM hS (fun H locs hH hM hS => ?_)
  refine lv_aload_n hx hb dL_law_924 rfl (lv_at hl 1 rfl) ?_
  refine hw_lcall (E := hw_EM l D cA ad) (E2 := hw_EH l D cA ad) (σ := τ) (τ := σ') (As := []) (rest := [.int r]) (t := 200) hx hb hml hown hts hK hApM hN hCM hnM (fun t ht u hu e => hHM u hu t ht e.symm) rfl (M_X7_text (hw_EM l D cA ad) rfl  τ) h2 W_X7_text SV_X7_text cf_X7 hw_T200 mw_803 (by decide) ⟨rfl, hw_l8 rfl⟩ dL_law_925 hl.1 hcs hM hH hS (fun H locs hM hH hS => ?_)
  refine lv_icmp_eq (tgt := 1441) hx hb dL_law_928 (by decide) (fun _ => ?_) (fun c => absurd rfl c)
  exact k σ' τ' H locs ls hR' hH hM hS hl
set_option maxRecDepth 20000 in
theorem law_case23 {p : Program} {l : Launch} {e : Env} {s : State} {m : MethodId} {below : List Frame} {meth : Method} {c : Code} {b L : Nat} {xs : Nat → Int32} {D : va_G} {cA : Nat → ClassId} {ad : Nat → Nat} {kc ks : Nat} {Q : State → Prop} (LC : hw_Lc p l s m c b L xs D cA ad) (hcs : kc ≤ 600000 ∧ ks ≤ 7302250) {R : hw_St → hw_St → Prop} (hs : hw_sim2 R F_X6_textTold F_X7_textTold) {i : Nat} (x3 : Int32) (ex3 : x3 = nI i) (hi : i + 6 ≤ L) (hL : L ≤ 384) (σ τ : hw_St) (hR : R σ τ)
    (k : ∀ (σ τ : hw_St) (H : Heap) (locs : List Loc) (ls : Array Slot), R σ τ → hw_W (hw_EH l D cA ad) σ H → hw_W (hw_EM l D cA ad) τ H → va_S (fun q : Nat => s.heap.size ≤ q) s.heap H locs → lv_has ls 4 [(3, .int x3), (2, .ref (ad 200)), (1, .ref (ad 0)), (0, .ref b)] → W p l e room_1 s m #[Value.ref b] below meth c H locs kc ks Q (F0 m 1441 ls []))
    (H : Heap) (locs : List Loc) (ls : Array Slot) (hH : hw_W (hw_EH l D cA ad) σ H) (hM : hw_W (hw_EM l D cA ad) τ H) (hS : va_S (fun q : Nat => s.heap.size ≤ q) s.heap H locs) (hl : lv_has ls 4 [(3, .int x3), (2, .ref (ad 200)), (1, .ref (ad 0)), (0, .ref b)]) : W p l e room_1 s m #[Value.ref b] below meth c H locs kc ks Q (F0 m 933 ls []) := by
  obtain ⟨hx, hb, hml, hown, hts, hK, hApH, hApM, hHM, hnH, hnM, hN, hCH, hCM, hX, hbl⟩ := LC
  have hbA : ¬ (fun q : Nat => s.heap.size ≤ q) b := Nat.not_le.mpr hbl
  have hin1 : vp_in (x3 + 1) L := by rw [ex3, show nI i + 1 = nI (i + 1) from nI_add i 1]; exact vp_in_nI (by omega) (by omega)
  have hin2 : vp_in (x3 + 2) L := by rw [ex3, show nI i + 2 = nI (i + 2) from nI_add i 2]; exact vp_in_nI (by omega) (by omega)
  obtain ⟨r, σ', τ', h1, h2, hR'⟩ := hs (xs (x3 + 1).toNatClampNeg) (xs (x3 + 2).toNatClampNeg) σ τ hR
  refine lv_aload_n hx hb dL_law_933 rfl (lv_at hl 2 rfl) ?_
  refine lv_aload_n hx hb dL_law_934 rfl (lv_at hl 3 rfl) ?_
  refine lv_iload_n hx hb dL_law_935 rfl (lv_at hl 0 rfl) ?_
  refine lv_iconst (v := 1) hx hb dL_law_936 (by decide) ?_
  refine lv_iadd hx hb dL_law_937 ?_
  refine va_sld hx hb hX hbl hbA hS hin1 dL_law_938 ?_
  refine lv_aload_n hx hb dL_law_939 rfl (lv_at hl 3 rfl) ?_
  refine lv_iload_n hx hb dL_law_940 rfl (lv_at hl 0 rfl) ?_
  refine lv_iconst (v := 2) hx hb dL_law_941 (by decide) ?_
  refine lv_iadd hx hb dL_law_942 ?_
  refine va_sld hx hb hX hbl hbA hS hin2 dL_law_943 ?_
  refine hw_lcall (E := hw_EH l D cA ad) (E2 := hw_EM l D cA ad) (σ := σ) (τ := τ) (As := [.int (xs (x3 + 1).toNatClampNeg), .int (xs (x3 + 2).toNatClampNeg)]) (rest := []) (t := 0) hx hb hml hown hts hK hApH hN hCH hnH hHM rfl (M_X6_textTold (hw_EH l D cA ad) rfl (xs (x3 + 1).toNatClampNeg) (xs (x3 + 2).toNatClampNeg) σ) h1 W_X6_textTold SV_X6_textTold cf_X6 hw_T0 mw_859 (by decide) ⟨rfl, hw_l8 rfl⟩ dL_law_944 hl.1 hcs hH hM hS (fun H locs hH hM hS => ?_)
  refine lv_aload_n hx hb dL_law_947 rfl (lv_at hl 1 rfl) ?_
  refine lv_aload_n hx hb dL_law_948 rfl (lv_at hl 3 rfl) ?_
  refine lv_iload_n hx hb dL_law_949 rfl (lv_at hl 0 rfl) ?_
  refine lv_iconst (v := 1) hx hb dL_law_950 (by decide) ?_
  refine lv_iadd hx hb dL_law_951 ?_
  refine va_sld hx hb hX hbl hbA hS hin1 dL_law_952 ?_
  refine lv_aload_n hx hb dL_law_953 rfl (lv_at hl 3 rfl) ?_
  refine lv_iload_n hx hb dL_law_954 rfl (lv_at hl 0 rfl) ?_
  refine lv_iconst (v := 2) hx hb dL_law_955 (by decide) ?_
  refine lv_iadd hx hb dL_law_956 ?_
  refine va_sld hx hb hX hbl hbA hS hin2 dL_law_957 ?_
  refine hw_lcall (E := hw_EM l D cA ad) (E2 := hw_EH l D cA ad) (σ := τ) (τ := σ') (As := [.int (xs (x3 + 1).toNatClampNeg), .int (xs (x3 + 2).toNatClampNeg)]) (rest := [.int r]) (t := 200) hx hb hml hown hts hK hApM hN hCM hnM (fun t ht u hu e => hHM u hu t ht e.symm) rfl (M_X7_textTold (hw_EM l D cA ad) rfl (xs (x3 + 1).toNatClampNeg) (xs (x3 + 2).toNatClampNeg) τ) h2 W_X7_textTold SV_X7_textTold cf_X7 hw_T200 mw_864 (by decide) ⟨rfl, hw_l8 rfl⟩ dL_law_958 hl.1 hcs hM hH hS (fun H locs hM hH hS => ?_)
  refine lv_icmp_eq (tgt := 1441) hx hb dL_law_961 (by decide) (fun _ => ?_) (fun c => absurd rfl c)
  exact k σ' τ' H locs ls hR' hH hM hS hl
set_option maxRecDepth 20000 in
theorem law_case24 {p : Program} {l : Launch} {e : Env} {s : State} {m : MethodId} {below : List Frame} {meth : Method} {c : Code} {b L : Nat} {xs : Nat → Int32} {D : va_G} {cA : Nat → ClassId} {ad : Nat → Nat} {kc ks : Nat} {Q : State → Prop} (LC : hw_Lc p l s m c b L xs D cA ad) (hcs : kc ≤ 600000 ∧ ks ≤ 7302250) {R : hw_St → hw_St → Prop} (hs : hw_sim1 R F_X6_why F_X7_why) {i : Nat} (x3 : Int32) (ex3 : x3 = nI i) (hi : i + 6 ≤ L) (hL : L ≤ 384) (σ τ : hw_St) (hR : R σ τ)
    (k : ∀ (σ τ : hw_St) (H : Heap) (locs : List Loc) (ls : Array Slot), R σ τ → hw_W (hw_EH l D cA ad) σ H → hw_W (hw_EM l D cA ad) τ H → va_S (fun q : Nat => s.heap.size ≤ q) s.heap H locs → lv_has ls 4 [(3, .int x3), (2, .ref (ad 200)), (1, .ref (ad 0)), (0, .ref b)] → W p l e room_1 s m #[Value.ref b] below meth c H locs kc ks Q (F0 m 1441 ls []))
    (H : Heap) (locs : List Loc) (ls : Array Slot) (hH : hw_W (hw_EH l D cA ad) σ H) (hM : hw_W (hw_EM l D cA ad) τ H) (hS : va_S (fun q : Nat => s.heap.size ≤ q) s.heap H locs) (hl : lv_has ls 4 [(3, .int x3), (2, .ref (ad 200)), (1, .ref (ad 0)), (0, .ref b)]) : W p l e room_1 s m #[Value.ref b] below meth c H locs kc ks Q (F0 m 966 ls []) := by
  obtain ⟨hx, hb, hml, hown, hts, hK, hApH, hApM, hHM, hnH, hnM, hN, hCH, hCM, hX, hbl⟩ := LC
  have hbA : ¬ (fun q : Nat => s.heap.size ≤ q) b := Nat.not_le.mpr hbl
  have hin1 : vp_in (x3 + 1) L := by rw [ex3, show nI i + 1 = nI (i + 1) from nI_add i 1]; exact vp_in_nI (by omega) (by omega)
  obtain ⟨r, σ', τ', h1, h2, hR'⟩ := hs (xs (x3 + 1).toNatClampNeg) σ τ hR
  refine lv_aload_n hx hb dL_law_966 rfl (lv_at hl 2 rfl) ?_
  refine lv_aload_n hx hb dL_law_967 rfl (lv_at hl 3 rfl) ?_
  refine lv_iload_n hx hb dL_law_968 rfl (lv_at hl 0 rfl) ?_
  refine lv_iconst (v := 1) hx hb dL_law_969 (by decide) ?_
  refine lv_iadd hx hb dL_law_970 ?_
  refine va_sld hx hb hX hbl hbA hS hin1 dL_law_971 ?_
  refine hw_lcall (E := hw_EH l D cA ad) (E2 := hw_EM l D cA ad) (σ := σ) (τ := τ) (As := [.int (xs (x3 + 1).toNatClampNeg)]) (rest := []) (t := 0) hx hb hml hown hts hK hApH hN hCH hnH hHM rfl (M_X6_why (hw_EH l D cA ad) rfl (xs (x3 + 1).toNatClampNeg) σ) h1 W_X6_why SV_X6_why cf_X6 hw_T0 mw_868 (by decide) ⟨rfl, hw_l8 rfl⟩ dL_law_972 hl.1 hcs hH hM hS (fun H locs hH hM hS => ?_)
  refine lv_aload_n hx hb dL_law_975 rfl (lv_at hl 1 rfl) ?_
  refine lv_aload_n hx hb dL_law_976 rfl (lv_at hl 3 rfl) ?_
  refine lv_iload_n hx hb dL_law_977 rfl (lv_at hl 0 rfl) ?_
  refine lv_iconst (v := 1) hx hb dL_law_978 (by decide) ?_
  refine lv_iadd hx hb dL_law_979 ?_
  refine va_sld hx hb hX hbl hbA hS hin1 dL_law_980 ?_
  refine hw_lcall (E := hw_EM l D cA ad) (E2 := hw_EH l D cA ad) (σ := τ) (τ := σ') (As := [.int (xs (x3 + 1).toNatClampNeg)]) (rest := [.int r]) (t := 200) hx hb hml hown hts hK hApM hN hCM hnM (fun t ht u hu e => hHM u hu t ht e.symm) rfl (M_X7_why (hw_EM l D cA ad) rfl (xs (x3 + 1).toNatClampNeg) τ) h2 W_X7_why SV_X7_why cf_X7 hw_T200 mw_872 (by decide) ⟨rfl, hw_l8 rfl⟩ dL_law_981 hl.1 hcs hM hH hS (fun H locs hM hH hS => ?_)
  refine lv_icmp_eq (tgt := 1441) hx hb dL_law_984 (by decide) (fun _ => ?_) (fun c => absurd rfl c)
  exact k σ' τ' H locs ls hR' hH hM hS hl
set_option maxRecDepth 20000 in
theorem law_case25 {p : Program} {l : Launch} {e : Env} {s : State} {m : MethodId} {below : List Frame} {meth : Method} {c : Code} {b L : Nat} {xs : Nat → Int32} {D : va_G} {cA : Nat → ClassId} {ad : Nat → Nat} {kc ks : Nat} {Q : State → Prop} (LC : hw_Lc p l s m c b L xs D cA ad) (hcs : kc ≤ 600000 ∧ ks ≤ 7302250) {R : hw_St → hw_St → Prop} (hs : hw_sim3 R F_X6_sheet F_X7_sheet) {i : Nat} (x3 : Int32) (ex3 : x3 = nI i) (hi : i + 6 ≤ L) (hL : L ≤ 384) (σ τ : hw_St) (hR : R σ τ)
    (k : ∀ (σ τ : hw_St) (H : Heap) (locs : List Loc) (ls : Array Slot), R σ τ → hw_W (hw_EH l D cA ad) σ H → hw_W (hw_EM l D cA ad) τ H → va_S (fun q : Nat => s.heap.size ≤ q) s.heap H locs → lv_has ls 4 [(3, .int x3), (2, .ref (ad 200)), (1, .ref (ad 0)), (0, .ref b)] → W p l e room_1 s m #[Value.ref b] below meth c H locs kc ks Q (F0 m 1441 ls []))
    (H : Heap) (locs : List Loc) (ls : Array Slot) (hH : hw_W (hw_EH l D cA ad) σ H) (hM : hw_W (hw_EM l D cA ad) τ H) (hS : va_S (fun q : Nat => s.heap.size ≤ q) s.heap H locs) (hl : lv_has ls 4 [(3, .int x3), (2, .ref (ad 200)), (1, .ref (ad 0)), (0, .ref b)]) : W p l e room_1 s m #[Value.ref b] below meth c H locs kc ks Q (F0 m 989 ls []) := by
  obtain ⟨hx, hb, hml, hown, hts, hK, hApH, hApM, hHM, hnH, hnM, hN, hCH, hCM, hX, hbl⟩ := LC
  have hbA : ¬ (fun q : Nat => s.heap.size ≤ q) b := Nat.not_le.mpr hbl
  have hin1 : vp_in (x3 + 1) L := by rw [ex3, show nI i + 1 = nI (i + 1) from nI_add i 1]; exact vp_in_nI (by omega) (by omega)
  have hin2 : vp_in (x3 + 2) L := by rw [ex3, show nI i + 2 = nI (i + 2) from nI_add i 2]; exact vp_in_nI (by omega) (by omega)
  have hin3 : vp_in (x3 + 3) L := by rw [ex3, show nI i + 3 = nI (i + 3) from nI_add i 3]; exact vp_in_nI (by omega) (by omega)
  obtain ⟨r, σ', τ', h1, h2, hR'⟩ := hs (xs (x3 + 1).toNatClampNeg) (xs (x3 + 2).toNatClampNeg) (xs (x3 + 3).toNatClampNeg) σ τ hR
  refine lv_aload_n hx hb dL_law_989 rfl (lv_at hl 2 rfl) ?_
  refine lv_aload_n hx hb dL_law_990 rfl (lv_at hl 3 rfl) ?_
  refine lv_iload_n hx hb dL_law_991 rfl (lv_at hl 0 rfl) ?_
  refine lv_iconst (v := 1) hx hb dL_law_992 (by decide) ?_
  refine lv_iadd hx hb dL_law_993 ?_
  refine va_sld hx hb hX hbl hbA hS hin1 dL_law_994 ?_
  refine lv_aload_n hx hb dL_law_995 rfl (lv_at hl 3 rfl) ?_
  refine lv_iload_n hx hb dL_law_996 rfl (lv_at hl 0 rfl) ?_
  refine lv_iconst (v := 2) hx hb dL_law_997 (by decide) ?_
  refine lv_iadd hx hb dL_law_998 ?_
  refine va_sld hx hb hX hbl hbA hS hin2 dL_law_999 ?_
  refine lv_aload_n hx hb dL_law_1000 rfl (lv_at hl 3 rfl) ?_
  refine lv_iload_n hx hb dL_law_1001 rfl (lv_at hl 0 rfl) ?_
  refine lv_iconst (v := 3) hx hb dL_law_1002 (by decide) ?_
  refine lv_iadd hx hb dL_law_1003 ?_
  refine va_sld hx hb hX hbl hbA hS hin3 dL_law_1004 ?_
  refine hw_lcall (E := hw_EH l D cA ad) (E2 := hw_EM l D cA ad) (σ := σ) (τ := τ) (As := [.int (xs (x3 + 1).toNatClampNeg), .int (xs (x3 + 2).toNatClampNeg), .int (xs (x3 + 3).toNatClampNeg)]) (rest := []) (t := 0) hx hb hml hown hts hK hApH hN hCH hnH hHM rfl (M_X6_sheet (hw_EH l D cA ad) rfl (xs (x3 + 1).toNatClampNeg) (xs (x3 + 2).toNatClampNeg) (xs (x3 + 3).toNatClampNeg) σ) h1 W_X6_sheet SV_X6_sheet cf_X6 hw_T0 mw_876 (by decide) ⟨rfl, hw_l8 rfl⟩ dL_law_1005 hl.1 hcs hH hM hS (fun H locs hH hM hS => ?_)
  refine lv_aload_n hx hb dL_law_1008 rfl (lv_at hl 1 rfl) ?_
  refine lv_aload_n hx hb dL_law_1009 rfl (lv_at hl 3 rfl) ?_
  refine lv_iload_n hx hb dL_law_1010 rfl (lv_at hl 0 rfl) ?_
  refine lv_iconst (v := 1) hx hb dL_law_1011 (by decide) ?_
  refine lv_iadd hx hb dL_law_1012 ?_
  refine va_sld hx hb hX hbl hbA hS hin1 dL_law_1013 ?_
  refine lv_aload_n hx hb dL_law_1014 rfl (lv_at hl 3 rfl) ?_
  refine lv_iload_n hx hb dL_law_1015 rfl (lv_at hl 0 rfl) ?_
  refine lv_iconst (v := 2) hx hb dL_law_1016 (by decide) ?_
  refine lv_iadd hx hb dL_law_1017 ?_
  refine va_sld hx hb hX hbl hbA hS hin2 dL_law_1018 ?_
  refine lv_aload_n hx hb dL_law_1019 rfl (lv_at hl 3 rfl) ?_
  refine lv_iload_n hx hb dL_law_1020 rfl (lv_at hl 0 rfl) ?_
  refine lv_iconst (v := 3) hx hb dL_law_1021 (by decide) ?_
  refine lv_iadd hx hb dL_law_1022 ?_
  refine va_sld hx hb hX hbl hbA hS hin3 dL_law_1023 ?_
  refine hw_lcall (E := hw_EM l D cA ad) (E2 := hw_EH l D cA ad) (σ := τ) (τ := σ') (As := [.int (xs (x3 + 1).toNatClampNeg), .int (xs (x3 + 2).toNatClampNeg), .int (xs (x3 + 3).toNatClampNeg)]) (rest := [.int r]) (t := 200) hx hb hml hown hts hK hApM hN hCM hnM (fun t ht u hu e => hHM u hu t ht e.symm) rfl (M_X7_sheet (hw_EM l D cA ad) rfl (xs (x3 + 1).toNatClampNeg) (xs (x3 + 2).toNatClampNeg) (xs (x3 + 3).toNatClampNeg) τ) h2 W_X7_sheet SV_X7_sheet cf_X7 hw_T200 mw_886 (by decide) ⟨rfl, hw_l8 rfl⟩ dL_law_1024 hl.1 hcs hM hH hS (fun H locs hM hH hS => ?_)
  refine lv_icmp_eq (tgt := 1441) hx hb dL_law_1027 (by decide) (fun _ => ?_) (fun c => absurd rfl c)
  exact k σ' τ' H locs ls hR' hH hM hS hl
set_option maxRecDepth 20000 in
theorem law_case26 {p : Program} {l : Launch} {e : Env} {s : State} {m : MethodId} {below : List Frame} {meth : Method} {c : Code} {b L : Nat} {xs : Nat → Int32} {D : va_G} {cA : Nat → ClassId} {ad : Nat → Nat} {kc ks : Nat} {Q : State → Prop} (LC : hw_Lc p l s m c b L xs D cA ad) (hcs : kc ≤ 600000 ∧ ks ≤ 7302250) {R : hw_St → hw_St → Prop} (hs : hw_sim3 R F_X6_mark F_X7_mark) {i : Nat} (x3 : Int32) (ex3 : x3 = nI i) (hi : i + 6 ≤ L) (hL : L ≤ 384) (σ τ : hw_St) (hR : R σ τ)
    (k : ∀ (σ τ : hw_St) (H : Heap) (locs : List Loc) (ls : Array Slot), R σ τ → hw_W (hw_EH l D cA ad) σ H → hw_W (hw_EM l D cA ad) τ H → va_S (fun q : Nat => s.heap.size ≤ q) s.heap H locs → lv_has ls 4 [(3, .int x3), (2, .ref (ad 200)), (1, .ref (ad 0)), (0, .ref b)] → W p l e room_1 s m #[Value.ref b] below meth c H locs kc ks Q (F0 m 1441 ls []))
    (H : Heap) (locs : List Loc) (ls : Array Slot) (hH : hw_W (hw_EH l D cA ad) σ H) (hM : hw_W (hw_EM l D cA ad) τ H) (hS : va_S (fun q : Nat => s.heap.size ≤ q) s.heap H locs) (hl : lv_has ls 4 [(3, .int x3), (2, .ref (ad 200)), (1, .ref (ad 0)), (0, .ref b)]) : W p l e room_1 s m #[Value.ref b] below meth c H locs kc ks Q (F0 m 1032 ls []) := by
  obtain ⟨hx, hb, hml, hown, hts, hK, hApH, hApM, hHM, hnH, hnM, hN, hCH, hCM, hX, hbl⟩ := LC
  have hbA : ¬ (fun q : Nat => s.heap.size ≤ q) b := Nat.not_le.mpr hbl
  have hin1 : vp_in (x3 + 1) L := by rw [ex3, show nI i + 1 = nI (i + 1) from nI_add i 1]; exact vp_in_nI (by omega) (by omega)
  have hin2 : vp_in (x3 + 2) L := by rw [ex3, show nI i + 2 = nI (i + 2) from nI_add i 2]; exact vp_in_nI (by omega) (by omega)
  have hin3 : vp_in (x3 + 3) L := by rw [ex3, show nI i + 3 = nI (i + 3) from nI_add i 3]; exact vp_in_nI (by omega) (by omega)
  obtain ⟨r, σ', τ', h1, h2, hR'⟩ := hs (xs (x3 + 1).toNatClampNeg) (xs (x3 + 2).toNatClampNeg) (xs (x3 + 3).toNatClampNeg) σ τ hR
  refine lv_aload_n hx hb dL_law_1032 rfl (lv_at hl 2 rfl) ?_
  refine lv_aload_n hx hb dL_law_1033 rfl (lv_at hl 3 rfl) ?_
  refine lv_iload_n hx hb dL_law_1034 rfl (lv_at hl 0 rfl) ?_
  refine lv_iconst (v := 1) hx hb dL_law_1035 (by decide) ?_
  refine lv_iadd hx hb dL_law_1036 ?_
  refine va_sld hx hb hX hbl hbA hS hin1 dL_law_1037 ?_
  refine lv_aload_n hx hb dL_law_1038 rfl (lv_at hl 3 rfl) ?_
  refine lv_iload_n hx hb dL_law_1039 rfl (lv_at hl 0 rfl) ?_
  refine lv_iconst (v := 2) hx hb dL_law_1040 (by decide) ?_
  refine lv_iadd hx hb dL_law_1041 ?_
  refine va_sld hx hb hX hbl hbA hS hin2 dL_law_1042 ?_
  refine lv_aload_n hx hb dL_law_1043 rfl (lv_at hl 3 rfl) ?_
  refine lv_iload_n hx hb dL_law_1044 rfl (lv_at hl 0 rfl) ?_
  refine lv_iconst (v := 3) hx hb dL_law_1045 (by decide) ?_
  refine lv_iadd hx hb dL_law_1046 ?_
  refine va_sld hx hb hX hbl hbA hS hin3 dL_law_1047 ?_
  refine hw_lcall (E := hw_EH l D cA ad) (E2 := hw_EM l D cA ad) (σ := σ) (τ := τ) (As := [.int (xs (x3 + 1).toNatClampNeg), .int (xs (x3 + 2).toNatClampNeg), .int (xs (x3 + 3).toNatClampNeg)]) (rest := []) (t := 0) hx hb hml hown hts hK hApH hN hCH hnH hHM rfl (M_X6_mark (hw_EH l D cA ad) rfl (xs (x3 + 1).toNatClampNeg) (xs (x3 + 2).toNatClampNeg) (xs (x3 + 3).toNatClampNeg) σ) h1 W_X6_mark SV_X6_mark cf_X6 hw_T0 mw_891 (by decide) ⟨rfl, hw_l8 rfl⟩ dL_law_1048 hl.1 hcs hH hM hS (fun H locs hH hM hS => ?_)
  refine lv_aload_n hx hb dL_law_1051 rfl (lv_at hl 1 rfl) ?_
  refine lv_aload_n hx hb dL_law_1052 rfl (lv_at hl 3 rfl) ?_
  refine lv_iload_n hx hb dL_law_1053 rfl (lv_at hl 0 rfl) ?_
  refine lv_iconst (v := 1) hx hb dL_law_1054 (by decide) ?_
  refine lv_iadd hx hb dL_law_1055 ?_
  refine va_sld hx hb hX hbl hbA hS hin1 dL_law_1056 ?_
  refine lv_aload_n hx hb dL_law_1057 rfl (lv_at hl 3 rfl) ?_
  refine lv_iload_n hx hb dL_law_1058 rfl (lv_at hl 0 rfl) ?_
  refine lv_iconst (v := 2) hx hb dL_law_1059 (by decide) ?_
  refine lv_iadd hx hb dL_law_1060 ?_
  refine va_sld hx hb hX hbl hbA hS hin2 dL_law_1061 ?_
  refine lv_aload_n hx hb dL_law_1062 rfl (lv_at hl 3 rfl) ?_
  refine lv_iload_n hx hb dL_law_1063 rfl (lv_at hl 0 rfl) ?_
  refine lv_iconst (v := 3) hx hb dL_law_1064 (by decide) ?_
  refine lv_iadd hx hb dL_law_1065 ?_
  refine va_sld hx hb hX hbl hbA hS hin3 dL_law_1066 ?_
  refine hw_lcall (E := hw_EM l D cA ad) (E2 := hw_EH l D cA ad) (σ := τ) (τ := σ') (As := [.int (xs (x3 + 1).toNatClampNeg), .int (xs (x3 + 2).toNatClampNeg), .int (xs (x3 + 3).toNatClampNeg)]) (rest := [.int r]) (t := 200) hx hb hml hown hts hK hApM hN hCM hnM (fun t ht u hu e => hHM u hu t ht e.symm) rfl (M_X7_mark (hw_EM l D cA ad) rfl (xs (x3 + 1).toNatClampNeg) (xs (x3 + 2).toNatClampNeg) (xs (x3 + 3).toNatClampNeg) τ) h2 W_X7_mark SV_X7_mark cf_X7 hw_T200 mw_899 (by decide) ⟨rfl, hw_l8 rfl⟩ dL_law_1067 hl.1 hcs hM hH hS (fun H locs hM hH hS => ?_)
  refine lv_icmp_eq (tgt := 1441) hx hb dL_law_1070 (by decide) (fun _ => ?_) (fun c => absurd rfl c)
  exact k σ' τ' H locs ls hR' hH hM hS hl
set_option maxRecDepth 20000 in
theorem law_case27 {p : Program} {l : Launch} {e : Env} {s : State} {m : MethodId} {below : List Frame} {meth : Method} {c : Code} {b L : Nat} {xs : Nat → Int32} {D : va_G} {cA : Nat → ClassId} {ad : Nat → Nat} {kc ks : Nat} {Q : State → Prop} (LC : hw_Lc p l s m c b L xs D cA ad) (hcs : kc ≤ 600000 ∧ ks ≤ 7302250) {R : hw_St → hw_St → Prop} (hs : hw_sim1 R F_X6_pour F_X7_pour) {i : Nat} (x3 : Int32) (ex3 : x3 = nI i) (hi : i + 6 ≤ L) (hL : L ≤ 384) (σ τ : hw_St) (hR : R σ τ)
    (k : ∀ (σ τ : hw_St) (H : Heap) (locs : List Loc) (ls : Array Slot), R σ τ → hw_W (hw_EH l D cA ad) σ H → hw_W (hw_EM l D cA ad) τ H → va_S (fun q : Nat => s.heap.size ≤ q) s.heap H locs → lv_has ls 4 [(3, .int x3), (2, .ref (ad 200)), (1, .ref (ad 0)), (0, .ref b)] → W p l e room_1 s m #[Value.ref b] below meth c H locs kc ks Q (F0 m 1441 ls []))
    (H : Heap) (locs : List Loc) (ls : Array Slot) (hH : hw_W (hw_EH l D cA ad) σ H) (hM : hw_W (hw_EM l D cA ad) τ H) (hS : va_S (fun q : Nat => s.heap.size ≤ q) s.heap H locs) (hl : lv_has ls 4 [(3, .int x3), (2, .ref (ad 200)), (1, .ref (ad 0)), (0, .ref b)]) : W p l e room_1 s m #[Value.ref b] below meth c H locs kc ks Q (F0 m 1075 ls []) := by
  obtain ⟨hx, hb, hml, hown, hts, hK, hApH, hApM, hHM, hnH, hnM, hN, hCH, hCM, hX, hbl⟩ := LC
  have hbA : ¬ (fun q : Nat => s.heap.size ≤ q) b := Nat.not_le.mpr hbl
  have hin1 : vp_in (x3 + 1) L := by rw [ex3, show nI i + 1 = nI (i + 1) from nI_add i 1]; exact vp_in_nI (by omega) (by omega)
  obtain ⟨r, σ', τ', h1, h2, hR'⟩ := hs (xs (x3 + 1).toNatClampNeg) σ τ hR
  refine lv_aload_n hx hb dL_law_1075 rfl (lv_at hl 2 rfl) ?_
  refine lv_aload_n hx hb dL_law_1076 rfl (lv_at hl 3 rfl) ?_
  refine lv_iload_n hx hb dL_law_1077 rfl (lv_at hl 0 rfl) ?_
  refine lv_iconst (v := 1) hx hb dL_law_1078 (by decide) ?_
  refine lv_iadd hx hb dL_law_1079 ?_
  refine va_sld hx hb hX hbl hbA hS hin1 dL_law_1080 ?_
  refine hw_lcall (E := hw_EH l D cA ad) (E2 := hw_EM l D cA ad) (σ := σ) (τ := τ) (As := [.int (xs (x3 + 1).toNatClampNeg)]) (rest := []) (t := 0) hx hb hml hown hts hK hApH hN hCH hnH hHM rfl (M_X6_pour (hw_EH l D cA ad) rfl (xs (x3 + 1).toNatClampNeg) σ) h1 W_X6_pour SV_X6_pour cf_X6 hw_T0 mw_905 (by decide) ⟨rfl, hw_l8 rfl⟩ dL_law_1081 hl.1 hcs hH hM hS (fun H locs hH hM hS => ?_)
  refine lv_aload_n hx hb dL_law_1084 rfl (lv_at hl 1 rfl) ?_
  refine lv_aload_n hx hb dL_law_1085 rfl (lv_at hl 3 rfl) ?_
  refine lv_iload_n hx hb dL_law_1086 rfl (lv_at hl 0 rfl) ?_
  refine lv_iconst (v := 1) hx hb dL_law_1087 (by decide) ?_
  refine lv_iadd hx hb dL_law_1088 ?_
  refine va_sld hx hb hX hbl hbA hS hin1 dL_law_1089 ?_
  refine hw_lcall (E := hw_EM l D cA ad) (E2 := hw_EH l D cA ad) (σ := τ) (τ := σ') (As := [.int (xs (x3 + 1).toNatClampNeg)]) (rest := [.int r]) (t := 200) hx hb hml hown hts hK hApM hN hCM hnM (fun t ht u hu e => hHM u hu t ht e.symm) rfl (M_X7_pour (hw_EM l D cA ad) rfl (xs (x3 + 1).toNatClampNeg) τ) h2 W_X7_pour SV_X7_pour cf_X7 hw_T200 mw_910 (by decide) ⟨rfl, hw_l8 rfl⟩ dL_law_1090 hl.1 hcs hM hH hS (fun H locs hM hH hS => ?_)
  refine lv_icmp_eq (tgt := 1441) hx hb dL_law_1093 (by decide) (fun _ => ?_) (fun c => absurd rfl c)
  exact k σ' τ' H locs ls hR' hH hM hS hl
set_option maxRecDepth 20000 in
theorem law_case28 {p : Program} {l : Launch} {e : Env} {s : State} {m : MethodId} {below : List Frame} {meth : Method} {c : Code} {b L : Nat} {xs : Nat → Int32} {D : va_G} {cA : Nat → ClassId} {ad : Nat → Nat} {kc ks : Nat} {Q : State → Prop} (LC : hw_Lc p l s m c b L xs D cA ad) (hcs : kc ≤ 600000 ∧ ks ≤ 7302250) {R : hw_St → hw_St → Prop} (hs : hw_sim2 R F_X6_reads F_X7_reads) {i : Nat} (x3 : Int32) (ex3 : x3 = nI i) (hi : i + 6 ≤ L) (hL : L ≤ 384) (σ τ : hw_St) (hR : R σ τ)
    (k : ∀ (σ τ : hw_St) (H : Heap) (locs : List Loc) (ls : Array Slot), R σ τ → hw_W (hw_EH l D cA ad) σ H → hw_W (hw_EM l D cA ad) τ H → va_S (fun q : Nat => s.heap.size ≤ q) s.heap H locs → lv_has ls 4 [(3, .int x3), (2, .ref (ad 200)), (1, .ref (ad 0)), (0, .ref b)] → W p l e room_1 s m #[Value.ref b] below meth c H locs kc ks Q (F0 m 1441 ls []))
    (H : Heap) (locs : List Loc) (ls : Array Slot) (hH : hw_W (hw_EH l D cA ad) σ H) (hM : hw_W (hw_EM l D cA ad) τ H) (hS : va_S (fun q : Nat => s.heap.size ≤ q) s.heap H locs) (hl : lv_has ls 4 [(3, .int x3), (2, .ref (ad 200)), (1, .ref (ad 0)), (0, .ref b)]) : W p l e room_1 s m #[Value.ref b] below meth c H locs kc ks Q (F0 m 1098 ls []) := by
  obtain ⟨hx, hb, hml, hown, hts, hK, hApH, hApM, hHM, hnH, hnM, hN, hCH, hCM, hX, hbl⟩ := LC
  have hbA : ¬ (fun q : Nat => s.heap.size ≤ q) b := Nat.not_le.mpr hbl
  have hin1 : vp_in (x3 + 1) L := by rw [ex3, show nI i + 1 = nI (i + 1) from nI_add i 1]; exact vp_in_nI (by omega) (by omega)
  have hin2 : vp_in (x3 + 2) L := by rw [ex3, show nI i + 2 = nI (i + 2) from nI_add i 2]; exact vp_in_nI (by omega) (by omega)
  obtain ⟨r, σ', τ', h1, h2, hR'⟩ := hs (xs (x3 + 1).toNatClampNeg) (xs (x3 + 2).toNatClampNeg) σ τ hR
  refine lv_aload_n hx hb dL_law_1098 rfl (lv_at hl 2 rfl) ?_
  refine lv_aload_n hx hb dL_law_1099 rfl (lv_at hl 3 rfl) ?_
  refine lv_iload_n hx hb dL_law_1100 rfl (lv_at hl 0 rfl) ?_
  refine lv_iconst (v := 1) hx hb dL_law_1101 (by decide) ?_
  refine lv_iadd hx hb dL_law_1102 ?_
  refine va_sld hx hb hX hbl hbA hS hin1 dL_law_1103 ?_
  refine lv_aload_n hx hb dL_law_1104 rfl (lv_at hl 3 rfl) ?_
  refine lv_iload_n hx hb dL_law_1105 rfl (lv_at hl 0 rfl) ?_
  refine lv_iconst (v := 2) hx hb dL_law_1106 (by decide) ?_
  refine lv_iadd hx hb dL_law_1107 ?_
  refine va_sld hx hb hX hbl hbA hS hin2 dL_law_1108 ?_
  refine hw_lcall (E := hw_EH l D cA ad) (E2 := hw_EM l D cA ad) (σ := σ) (τ := τ) (As := [.int (xs (x3 + 1).toNatClampNeg), .int (xs (x3 + 2).toNatClampNeg)]) (rest := []) (t := 0) hx hb hml hown hts hK hApH hN hCH hnH hHM rfl (M_X6_reads (hw_EH l D cA ad) rfl (xs (x3 + 1).toNatClampNeg) (xs (x3 + 2).toNatClampNeg) σ) h1 W_X6_reads SV_X6_reads cf_X6 hw_T0 mw_914 (by decide) ⟨rfl, hw_l8 rfl⟩ dL_law_1109 hl.1 hcs hH hM hS (fun H locs hH hM hS => ?_)
  refine lv_aload_n hx hb dL_law_1112 rfl (lv_at hl 1 rfl) ?_
  refine lv_aload_n hx hb dL_law_1113 rfl (lv_at hl 3 rfl) ?_
  refine lv_iload_n hx hb dL_law_1114 rfl (lv_at hl 0 rfl) ?_
  refine lv_iconst (v := 1) hx hb dL_law_1115 (by decide) ?_
  refine lv_iadd hx hb dL_law_1116 ?_
  refine va_sld hx hb hX hbl hbA hS hin1 dL_law_1117 ?_
  refine lv_aload_n hx hb dL_law_1118 rfl (lv_at hl 3 rfl) ?_
  refine lv_iload_n hx hb dL_law_1119 rfl (lv_at hl 0 rfl) ?_
  refine lv_iconst (v := 2) hx hb dL_law_1120 (by decide) ?_
  refine lv_iadd hx hb dL_law_1121 ?_
  refine va_sld hx hb hX hbl hbA hS hin2 dL_law_1122 ?_
  refine hw_lcall (E := hw_EM l D cA ad) (E2 := hw_EH l D cA ad) (σ := τ) (τ := σ') (As := [.int (xs (x3 + 1).toNatClampNeg), .int (xs (x3 + 2).toNatClampNeg)]) (rest := [.int r]) (t := 200) hx hb hml hown hts hK hApM hN hCM hnM (fun t ht u hu e => hHM u hu t ht e.symm) rfl (M_X7_reads (hw_EM l D cA ad) rfl (xs (x3 + 1).toNatClampNeg) (xs (x3 + 2).toNatClampNeg) τ) h2 W_X7_reads SV_X7_reads cf_X7 hw_T200 mw_918 (by decide) ⟨rfl, hw_l8 rfl⟩ dL_law_1123 hl.1 hcs hM hH hS (fun H locs hM hH hS => ?_)
  refine lv_icmp_eq (tgt := 1441) hx hb dL_law_1126 (by decide) (fun _ => ?_) (fun c => absurd rfl c)
  exact k σ' τ' H locs ls hR' hH hM hS hl
set_option maxRecDepth 20000 in
theorem law_case29 {p : Program} {l : Launch} {e : Env} {s : State} {m : MethodId} {below : List Frame} {meth : Method} {c : Code} {b L : Nat} {xs : Nat → Int32} {D : va_G} {cA : Nat → ClassId} {ad : Nat → Nat} {kc ks : Nat} {Q : State → Prop} (LC : hw_Lc p l s m c b L xs D cA ad) (hcs : kc ≤ 600000 ∧ ks ≤ 7302250) {R : hw_St → hw_St → Prop} (hs : hw_sim5 R F_X6_copy F_X7_copy) {i : Nat} (x3 : Int32) (ex3 : x3 = nI i) (hi : i + 6 ≤ L) (hL : L ≤ 384) (σ τ : hw_St) (hR : R σ τ)
    (k : ∀ (σ τ : hw_St) (H : Heap) (locs : List Loc) (ls : Array Slot), R σ τ → hw_W (hw_EH l D cA ad) σ H → hw_W (hw_EM l D cA ad) τ H → va_S (fun q : Nat => s.heap.size ≤ q) s.heap H locs → lv_has ls 4 [(3, .int x3), (2, .ref (ad 200)), (1, .ref (ad 0)), (0, .ref b)] → W p l e room_1 s m #[Value.ref b] below meth c H locs kc ks Q (F0 m 1441 ls []))
    (H : Heap) (locs : List Loc) (ls : Array Slot) (hH : hw_W (hw_EH l D cA ad) σ H) (hM : hw_W (hw_EM l D cA ad) τ H) (hS : va_S (fun q : Nat => s.heap.size ≤ q) s.heap H locs) (hl : lv_has ls 4 [(3, .int x3), (2, .ref (ad 200)), (1, .ref (ad 0)), (0, .ref b)]) : W p l e room_1 s m #[Value.ref b] below meth c H locs kc ks Q (F0 m 1131 ls []) := by
  obtain ⟨hx, hb, hml, hown, hts, hK, hApH, hApM, hHM, hnH, hnM, hN, hCH, hCM, hX, hbl⟩ := LC
  have hbA : ¬ (fun q : Nat => s.heap.size ≤ q) b := Nat.not_le.mpr hbl
  have hin1 : vp_in (x3 + 1) L := by rw [ex3, show nI i + 1 = nI (i + 1) from nI_add i 1]; exact vp_in_nI (by omega) (by omega)
  have hin2 : vp_in (x3 + 2) L := by rw [ex3, show nI i + 2 = nI (i + 2) from nI_add i 2]; exact vp_in_nI (by omega) (by omega)
  have hin3 : vp_in (x3 + 3) L := by rw [ex3, show nI i + 3 = nI (i + 3) from nI_add i 3]; exact vp_in_nI (by omega) (by omega)
  have hin4 : vp_in (x3 + 4) L := by rw [ex3, show nI i + 4 = nI (i + 4) from nI_add i 4]; exact vp_in_nI (by omega) (by omega)
  have hin5 : vp_in (x3 + 5) L := by rw [ex3, show nI i + 5 = nI (i + 5) from nI_add i 5]; exact vp_in_nI (by omega) (by omega)
  obtain ⟨r, σ', τ', h1, h2, hR'⟩ := hs (xs (x3 + 1).toNatClampNeg) (xs (x3 + 2).toNatClampNeg) (xs (x3 + 3).toNatClampNeg) (xs (x3 + 4).toNatClampNeg) (xs (x3 + 5).toNatClampNeg) σ τ hR
  refine lv_aload_n hx hb dL_law_1131 rfl (lv_at hl 2 rfl) ?_
  refine lv_aload_n hx hb dL_law_1132 rfl (lv_at hl 3 rfl) ?_
  refine lv_iload_n hx hb dL_law_1133 rfl (lv_at hl 0 rfl) ?_
  refine lv_iconst (v := 1) hx hb dL_law_1134 (by decide) ?_
  refine lv_iadd hx hb dL_law_1135 ?_
  refine va_sld hx hb hX hbl hbA hS hin1 dL_law_1136 ?_
  refine lv_aload_n hx hb dL_law_1137 rfl (lv_at hl 3 rfl) ?_
  refine lv_iload_n hx hb dL_law_1138 rfl (lv_at hl 0 rfl) ?_
  refine lv_iconst (v := 2) hx hb dL_law_1139 (by decide) ?_
  refine lv_iadd hx hb dL_law_1140 ?_
  refine va_sld hx hb hX hbl hbA hS hin2 dL_law_1141 ?_
  refine lv_aload_n hx hb dL_law_1142 rfl (lv_at hl 3 rfl) ?_
  refine lv_iload_n hx hb dL_law_1143 rfl (lv_at hl 0 rfl) ?_
  refine lv_iconst (v := 3) hx hb dL_law_1144 (by decide) ?_
  refine lv_iadd hx hb dL_law_1145 ?_
  refine va_sld hx hb hX hbl hbA hS hin3 dL_law_1146 ?_
  refine lv_aload_n hx hb dL_law_1147 rfl (lv_at hl 3 rfl) ?_
  refine lv_iload_n hx hb dL_law_1148 rfl (lv_at hl 0 rfl) ?_
  refine lv_iconst (v := 4) hx hb dL_law_1149 (by decide) ?_
  refine lv_iadd hx hb dL_law_1150 ?_
  refine va_sld hx hb hX hbl hbA hS hin4 dL_law_1151 ?_
  refine lv_aload_n hx hb dL_law_1152 rfl (lv_at hl 3 rfl) ?_
  refine lv_iload_n hx hb dL_law_1153 rfl (lv_at hl 0 rfl) ?_
  refine lv_iconst (v := 5) hx hb dL_law_1154 (by decide) ?_
  refine lv_iadd hx hb dL_law_1155 ?_
  refine va_sld hx hb hX hbl hbA hS hin5 dL_law_1156 ?_
  refine hw_lcall (E := hw_EH l D cA ad) (E2 := hw_EM l D cA ad) (σ := σ) (τ := τ) (As := [.int (xs (x3 + 1).toNatClampNeg), .int (xs (x3 + 2).toNatClampNeg), .int (xs (x3 + 3).toNatClampNeg), .int (xs (x3 + 4).toNatClampNeg), .int (xs (x3 + 5).toNatClampNeg)]) (rest := []) (t := 0) hx hb hml hown hts hK hApH hN hCH hnH hHM rfl (M_X6_copy (hw_EH l D cA ad) rfl (xs (x3 + 1).toNatClampNeg) (xs (x3 + 2).toNatClampNeg) (xs (x3 + 3).toNatClampNeg) (xs (x3 + 4).toNatClampNeg) (xs (x3 + 5).toNatClampNeg) σ) h1 W_X6_copy SV_X6_copy cf_X6 hw_T0 mw_922 (by decide) ⟨rfl, hw_l8 rfl⟩ dL_law_1157 hl.1 hcs hH hM hS (fun H locs hH hM hS => ?_)
  refine lv_aload_n hx hb dL_law_1160 rfl (lv_at hl 1 rfl) ?_
  refine lv_aload_n hx hb dL_law_1161 rfl (lv_at hl 3 rfl) ?_
  refine lv_iload_n hx hb dL_law_1162 rfl (lv_at hl 0 rfl) ?_
  refine lv_iconst (v := 1) hx hb dL_law_1163 (by decide) ?_
  refine lv_iadd hx hb dL_law_1164 ?_
  refine va_sld hx hb hX hbl hbA hS hin1 dL_law_1165 ?_
  refine lv_aload_n hx hb dL_law_1166 rfl (lv_at hl 3 rfl) ?_
  refine lv_iload_n hx hb dL_law_1167 rfl (lv_at hl 0 rfl) ?_
  refine lv_iconst (v := 2) hx hb dL_law_1168 (by decide) ?_
  refine lv_iadd hx hb dL_law_1169 ?_
  refine va_sld hx hb hX hbl hbA hS hin2 dL_law_1170 ?_
  refine lv_aload_n hx hb dL_law_1171 rfl (lv_at hl 3 rfl) ?_
  refine lv_iload_n hx hb dL_law_1172 rfl (lv_at hl 0 rfl) ?_
  refine lv_iconst (v := 3) hx hb dL_law_1173 (by decide) ?_
  refine lv_iadd hx hb dL_law_1174 ?_
  refine va_sld hx hb hX hbl hbA hS hin3 dL_law_1175 ?_
  refine lv_aload_n hx hb dL_law_1176 rfl (lv_at hl 3 rfl) ?_
  refine lv_iload_n hx hb dL_law_1177 rfl (lv_at hl 0 rfl) ?_
  refine lv_iconst (v := 4) hx hb dL_law_1178 (by decide) ?_
  refine lv_iadd hx hb dL_law_1179 ?_
  refine va_sld hx hb hX hbl hbA hS hin4 dL_law_1180 ?_
  refine lv_aload_n hx hb dL_law_1181 rfl (lv_at hl 3 rfl) ?_
  refine lv_iload_n hx hb dL_law_1182 rfl (lv_at hl 0 rfl) ?_
  refine lv_iconst (v := 5) hx hb dL_law_1183 (by decide) ?_
  refine lv_iadd hx hb dL_law_1184 ?_
  refine va_sld hx hb hX hbl hbA hS hin5 dL_law_1185 ?_
  refine hw_lcall (E := hw_EM l D cA ad) (E2 := hw_EH l D cA ad) (σ := τ) (τ := σ') (As := [.int (xs (x3 + 1).toNatClampNeg), .int (xs (x3 + 2).toNatClampNeg), .int (xs (x3 + 3).toNatClampNeg), .int (xs (x3 + 4).toNatClampNeg), .int (xs (x3 + 5).toNatClampNeg)]) (rest := [.int r]) (t := 200) hx hb hml hown hts hK hApM hN hCM hnM (fun t ht u hu e => hHM u hu t ht e.symm) rfl (M_X7_copy (hw_EM l D cA ad) rfl (xs (x3 + 1).toNatClampNeg) (xs (x3 + 2).toNatClampNeg) (xs (x3 + 3).toNatClampNeg) (xs (x3 + 4).toNatClampNeg) (xs (x3 + 5).toNatClampNeg) τ) h2 W_X7_copy SV_X7_copy cf_X7 hw_T200 mw_934 (by decide) ⟨rfl, hw_l8 rfl⟩ dL_law_1186 hl.1 hcs hM hH hS (fun H locs hM hH hS => ?_)
  refine lv_icmp_eq (tgt := 1441) hx hb dL_law_1189 (by decide) (fun _ => ?_) (fun c => absurd rfl c)
  exact k σ' τ' H locs ls hR' hH hM hS hl
set_option maxRecDepth 20000 in
theorem law_case30 {p : Program} {l : Launch} {e : Env} {s : State} {m : MethodId} {below : List Frame} {meth : Method} {c : Code} {b L : Nat} {xs : Nat → Int32} {D : va_G} {cA : Nat → ClassId} {ad : Nat → Nat} {kc ks : Nat} {Q : State → Prop} (LC : hw_Lc p l s m c b L xs D cA ad) (hcs : kc ≤ 600000 ∧ ks ≤ 7302250) {R : hw_St → hw_St → Prop} (hs : hw_sim3 R F_X6_lay F_X7_lay) {i : Nat} (x3 : Int32) (ex3 : x3 = nI i) (hi : i + 6 ≤ L) (hL : L ≤ 384) (σ τ : hw_St) (hR : R σ τ)
    (k : ∀ (σ τ : hw_St) (H : Heap) (locs : List Loc) (ls : Array Slot), R σ τ → hw_W (hw_EH l D cA ad) σ H → hw_W (hw_EM l D cA ad) τ H → va_S (fun q : Nat => s.heap.size ≤ q) s.heap H locs → lv_has ls 4 [(3, .int x3), (2, .ref (ad 200)), (1, .ref (ad 0)), (0, .ref b)] → W p l e room_1 s m #[Value.ref b] below meth c H locs kc ks Q (F0 m 1441 ls []))
    (H : Heap) (locs : List Loc) (ls : Array Slot) (hH : hw_W (hw_EH l D cA ad) σ H) (hM : hw_W (hw_EM l D cA ad) τ H) (hS : va_S (fun q : Nat => s.heap.size ≤ q) s.heap H locs) (hl : lv_has ls 4 [(3, .int x3), (2, .ref (ad 200)), (1, .ref (ad 0)), (0, .ref b)]) : W p l e room_1 s m #[Value.ref b] below meth c H locs kc ks Q (F0 m 1194 ls []) := by
  obtain ⟨hx, hb, hml, hown, hts, hK, hApH, hApM, hHM, hnH, hnM, hN, hCH, hCM, hX, hbl⟩ := LC
  have hbA : ¬ (fun q : Nat => s.heap.size ≤ q) b := Nat.not_le.mpr hbl
  have hin1 : vp_in (x3 + 1) L := by rw [ex3, show nI i + 1 = nI (i + 1) from nI_add i 1]; exact vp_in_nI (by omega) (by omega)
  have hin2 : vp_in (x3 + 2) L := by rw [ex3, show nI i + 2 = nI (i + 2) from nI_add i 2]; exact vp_in_nI (by omega) (by omega)
  have hin3 : vp_in (x3 + 3) L := by rw [ex3, show nI i + 3 = nI (i + 3) from nI_add i 3]; exact vp_in_nI (by omega) (by omega)
  obtain ⟨r, σ', τ', h1, h2, hR'⟩ := hs (xs (x3 + 1).toNatClampNeg) (xs (x3 + 2).toNatClampNeg) (xs (x3 + 3).toNatClampNeg) σ τ hR
  refine lv_aload_n hx hb dL_law_1194 rfl (lv_at hl 2 rfl) ?_
  refine lv_aload_n hx hb dL_law_1195 rfl (lv_at hl 3 rfl) ?_
  refine lv_iload_n hx hb dL_law_1196 rfl (lv_at hl 0 rfl) ?_
  refine lv_iconst (v := 1) hx hb dL_law_1197 (by decide) ?_
  refine lv_iadd hx hb dL_law_1198 ?_
  refine va_sld hx hb hX hbl hbA hS hin1 dL_law_1199 ?_
  refine lv_aload_n hx hb dL_law_1200 rfl (lv_at hl 3 rfl) ?_
  refine lv_iload_n hx hb dL_law_1201 rfl (lv_at hl 0 rfl) ?_
  refine lv_iconst (v := 2) hx hb dL_law_1202 (by decide) ?_
  refine lv_iadd hx hb dL_law_1203 ?_
  refine va_sld hx hb hX hbl hbA hS hin2 dL_law_1204 ?_
  refine lv_aload_n hx hb dL_law_1205 rfl (lv_at hl 3 rfl) ?_
  refine lv_iload_n hx hb dL_law_1206 rfl (lv_at hl 0 rfl) ?_
  refine lv_iconst (v := 3) hx hb dL_law_1207 (by decide) ?_
  refine lv_iadd hx hb dL_law_1208 ?_
  refine va_sld hx hb hX hbl hbA hS hin3 dL_law_1209 ?_
  refine hw_lcall (E := hw_EH l D cA ad) (E2 := hw_EM l D cA ad) (σ := σ) (τ := τ) (As := [.int (xs (x3 + 1).toNatClampNeg), .int (xs (x3 + 2).toNatClampNeg), .int (xs (x3 + 3).toNatClampNeg)]) (rest := []) (t := 0) hx hb hml hown hts hK hApH hN hCH hnH hHM rfl (M_X6_lay (hw_EH l D cA ad) rfl (xs (x3 + 1).toNatClampNeg) (xs (x3 + 2).toNatClampNeg) (xs (x3 + 3).toNatClampNeg) σ) h1 W_X6_lay SV_X6_lay cf_X6 hw_T0 mw_938 (by decide) ⟨rfl, hw_l8 rfl⟩ dL_law_1210 hl.1 hcs hH hM hS (fun H locs hH hM hS => ?_)
  refine lv_aload_n hx hb dL_law_1213 rfl (lv_at hl 1 rfl) ?_
  refine lv_aload_n hx hb dL_law_1214 rfl (lv_at hl 3 rfl) ?_
  refine lv_iload_n hx hb dL_law_1215 rfl (lv_at hl 0 rfl) ?_
  refine lv_iconst (v := 1) hx hb dL_law_1216 (by decide) ?_
  refine lv_iadd hx hb dL_law_1217 ?_
  refine va_sld hx hb hX hbl hbA hS hin1 dL_law_1218 ?_
  refine lv_aload_n hx hb dL_law_1219 rfl (lv_at hl 3 rfl) ?_
  refine lv_iload_n hx hb dL_law_1220 rfl (lv_at hl 0 rfl) ?_
  refine lv_iconst (v := 2) hx hb dL_law_1221 (by decide) ?_
  refine lv_iadd hx hb dL_law_1222 ?_
  refine va_sld hx hb hX hbl hbA hS hin2 dL_law_1223 ?_
  refine lv_aload_n hx hb dL_law_1224 rfl (lv_at hl 3 rfl) ?_
  refine lv_iload_n hx hb dL_law_1225 rfl (lv_at hl 0 rfl) ?_
  refine lv_iconst (v := 3) hx hb dL_law_1226 (by decide) ?_
  refine lv_iadd hx hb dL_law_1227 ?_
  refine va_sld hx hb hX hbl hbA hS hin3 dL_law_1228 ?_
  refine hw_lcall (E := hw_EM l D cA ad) (E2 := hw_EH l D cA ad) (σ := τ) (τ := σ') (As := [.int (xs (x3 + 1).toNatClampNeg), .int (xs (x3 + 2).toNatClampNeg), .int (xs (x3 + 3).toNatClampNeg)]) (rest := [.int r]) (t := 200) hx hb hml hown hts hK hApM hN hCM hnM (fun t ht u hu e => hHM u hu t ht e.symm) rfl (M_X7_lay (hw_EM l D cA ad) rfl (xs (x3 + 1).toNatClampNeg) (xs (x3 + 2).toNatClampNeg) (xs (x3 + 3).toNatClampNeg) τ) h2 W_X7_lay SV_X7_lay cf_X7 hw_T200 mw_954 (by decide) ⟨rfl, hw_l8 rfl⟩ dL_law_1229 hl.1 hcs hM hH hS (fun H locs hM hH hS => ?_)
  refine lv_icmp_eq (tgt := 1441) hx hb dL_law_1232 (by decide) (fun _ => ?_) (fun c => absurd rfl c)
  exact k σ' τ' H locs ls hR' hH hM hS hl
set_option maxRecDepth 20000 in
theorem law_case31 {p : Program} {l : Launch} {e : Env} {s : State} {m : MethodId} {below : List Frame} {meth : Method} {c : Code} {b L : Nat} {xs : Nat → Int32} {D : va_G} {cA : Nat → ClassId} {ad : Nat → Nat} {kc ks : Nat} {Q : State → Prop} (LC : hw_Lc p l s m c b L xs D cA ad) (hcs : kc ≤ 600000 ∧ ks ≤ 7302250) {R : hw_St → hw_St → Prop} (hs : hw_sim2 R F_X6_ask F_X7_ask) {i : Nat} (x3 : Int32) (ex3 : x3 = nI i) (hi : i + 6 ≤ L) (hL : L ≤ 384) (σ τ : hw_St) (hR : R σ τ)
    (k : ∀ (σ τ : hw_St) (H : Heap) (locs : List Loc) (ls : Array Slot), R σ τ → hw_W (hw_EH l D cA ad) σ H → hw_W (hw_EM l D cA ad) τ H → va_S (fun q : Nat => s.heap.size ≤ q) s.heap H locs → lv_has ls 4 [(3, .int x3), (2, .ref (ad 200)), (1, .ref (ad 0)), (0, .ref b)] → W p l e room_1 s m #[Value.ref b] below meth c H locs kc ks Q (F0 m 1441 ls []))
    (H : Heap) (locs : List Loc) (ls : Array Slot) (hH : hw_W (hw_EH l D cA ad) σ H) (hM : hw_W (hw_EM l D cA ad) τ H) (hS : va_S (fun q : Nat => s.heap.size ≤ q) s.heap H locs) (hl : lv_has ls 4 [(3, .int x3), (2, .ref (ad 200)), (1, .ref (ad 0)), (0, .ref b)]) : W p l e room_1 s m #[Value.ref b] below meth c H locs kc ks Q (F0 m 1237 ls []) := by
  obtain ⟨hx, hb, hml, hown, hts, hK, hApH, hApM, hHM, hnH, hnM, hN, hCH, hCM, hX, hbl⟩ := LC
  have hbA : ¬ (fun q : Nat => s.heap.size ≤ q) b := Nat.not_le.mpr hbl
  have hin1 : vp_in (x3 + 1) L := by rw [ex3, show nI i + 1 = nI (i + 1) from nI_add i 1]; exact vp_in_nI (by omega) (by omega)
  have hin2 : vp_in (x3 + 2) L := by rw [ex3, show nI i + 2 = nI (i + 2) from nI_add i 2]; exact vp_in_nI (by omega) (by omega)
  obtain ⟨r, σ', τ', h1, h2, hR'⟩ := hs (xs (x3 + 1).toNatClampNeg) (xs (x3 + 2).toNatClampNeg) σ τ hR
  refine lv_aload_n hx hb dL_law_1237 rfl (lv_at hl 2 rfl) ?_
  refine lv_aload_n hx hb dL_law_1238 rfl (lv_at hl 3 rfl) ?_
  refine lv_iload_n hx hb dL_law_1239 rfl (lv_at hl 0 rfl) ?_
  refine lv_iconst (v := 1) hx hb dL_law_1240 (by decide) ?_
  refine lv_iadd hx hb dL_law_1241 ?_
  refine va_sld hx hb hX hbl hbA hS hin1 dL_law_1242 ?_
  refine lv_aload_n hx hb dL_law_1243 rfl (lv_at hl 3 rfl) ?_
  refine lv_iload_n hx hb dL_law_1244 rfl (lv_at hl 0 rfl) ?_
  refine lv_iconst (v := 2) hx hb dL_law_1245 (by decide) ?_
  refine lv_iadd hx hb dL_law_1246 ?_
  refine va_sld hx hb hX hbl hbA hS hin2 dL_law_1247 ?_
  refine hw_lcall (E := hw_EH l D cA ad) (E2 := hw_EM l D cA ad) (σ := σ) (τ := τ) (As := [.int (xs (x3 + 1).toNatClampNeg), .int (xs (x3 + 2).toNatClampNeg)]) (rest := []) (t := 0) hx hb hml hown hts hK hApH hN hCH hnH hHM rfl (M_X6_ask (hw_EH l D cA ad) rfl (xs (x3 + 1).toNatClampNeg) (xs (x3 + 2).toNatClampNeg) σ) h1 W_X6_ask SV_X6_ask cf_X6 hw_T0 mw_961 (by decide) ⟨rfl, hw_l8 rfl⟩ dL_law_1248 hl.1 hcs hH hM hS (fun H locs hH hM hS => ?_)
  refine lv_aload_n hx hb dL_law_1251 rfl (lv_at hl 1 rfl) ?_
  refine lv_aload_n hx hb dL_law_1252 rfl (lv_at hl 3 rfl) ?_
  refine lv_iload_n hx hb dL_law_1253 rfl (lv_at hl 0 rfl) ?_
  refine lv_iconst (v := 1) hx hb dL_law_1254 (by decide) ?_
  refine lv_iadd hx hb dL_law_1255 ?_
  refine va_sld hx hb hX hbl hbA hS hin1 dL_law_1256 ?_
  refine lv_aload_n hx hb dL_law_1257 rfl (lv_at hl 3 rfl) ?_
  refine lv_iload_n hx hb dL_law_1258 rfl (lv_at hl 0 rfl) ?_
  refine lv_iconst (v := 2) hx hb dL_law_1259 (by decide) ?_
  refine lv_iadd hx hb dL_law_1260 ?_
  refine va_sld hx hb hX hbl hbA hS hin2 dL_law_1261 ?_
  refine hw_lcall (E := hw_EM l D cA ad) (E2 := hw_EH l D cA ad) (σ := τ) (τ := σ') (As := [.int (xs (x3 + 1).toNatClampNeg), .int (xs (x3 + 2).toNatClampNeg)]) (rest := [.int r]) (t := 200) hx hb hml hown hts hK hApM hN hCM hnM (fun t ht u hu e => hHM u hu t ht e.symm) rfl (M_X7_ask (hw_EM l D cA ad) rfl (xs (x3 + 1).toNatClampNeg) (xs (x3 + 2).toNatClampNeg) τ) h2 W_X7_ask SV_X7_ask cf_X7 hw_T200 mw_971 (by decide) ⟨rfl, hw_l8 rfl⟩ dL_law_1262 hl.1 hcs hM hH hS (fun H locs hM hH hS => ?_)
  refine lv_icmp_eq (tgt := 1441) hx hb dL_law_1265 (by decide) (fun _ => ?_) (fun c => absurd rfl c)
  exact k σ' τ' H locs ls hR' hH hM hS hl
set_option maxRecDepth 20000 in
theorem law_case32 {p : Program} {l : Launch} {e : Env} {s : State} {m : MethodId} {below : List Frame} {meth : Method} {c : Code} {b L : Nat} {xs : Nat → Int32} {D : va_G} {cA : Nat → ClassId} {ad : Nat → Nat} {kc ks : Nat} {Q : State → Prop} (LC : hw_Lc p l s m c b L xs D cA ad) (hcs : kc ≤ 600000 ∧ ks ≤ 7302250) {R : hw_St → hw_St → Prop} (hs : hw_sim2 R F_X6_item F_X7_item) {i : Nat} (x3 : Int32) (ex3 : x3 = nI i) (hi : i + 6 ≤ L) (hL : L ≤ 384) (σ τ : hw_St) (hR : R σ τ)
    (k : ∀ (σ τ : hw_St) (H : Heap) (locs : List Loc) (ls : Array Slot), R σ τ → hw_W (hw_EH l D cA ad) σ H → hw_W (hw_EM l D cA ad) τ H → va_S (fun q : Nat => s.heap.size ≤ q) s.heap H locs → lv_has ls 4 [(3, .int x3), (2, .ref (ad 200)), (1, .ref (ad 0)), (0, .ref b)] → W p l e room_1 s m #[Value.ref b] below meth c H locs kc ks Q (F0 m 1441 ls []))
    (H : Heap) (locs : List Loc) (ls : Array Slot) (hH : hw_W (hw_EH l D cA ad) σ H) (hM : hw_W (hw_EM l D cA ad) τ H) (hS : va_S (fun q : Nat => s.heap.size ≤ q) s.heap H locs) (hl : lv_has ls 4 [(3, .int x3), (2, .ref (ad 200)), (1, .ref (ad 0)), (0, .ref b)]) : W p l e room_1 s m #[Value.ref b] below meth c H locs kc ks Q (F0 m 1270 ls []) := by
  obtain ⟨hx, hb, hml, hown, hts, hK, hApH, hApM, hHM, hnH, hnM, hN, hCH, hCM, hX, hbl⟩ := LC
  have hbA : ¬ (fun q : Nat => s.heap.size ≤ q) b := Nat.not_le.mpr hbl
  have hin1 : vp_in (x3 + 1) L := by rw [ex3, show nI i + 1 = nI (i + 1) from nI_add i 1]; exact vp_in_nI (by omega) (by omega)
  have hin2 : vp_in (x3 + 2) L := by rw [ex3, show nI i + 2 = nI (i + 2) from nI_add i 2]; exact vp_in_nI (by omega) (by omega)
  obtain ⟨r, σ', τ', h1, h2, hR'⟩ := hs (xs (x3 + 1).toNatClampNeg) (xs (x3 + 2).toNatClampNeg) σ τ hR
  refine lv_aload_n hx hb dL_law_1270 rfl (lv_at hl 2 rfl) ?_
  refine lv_aload_n hx hb dL_law_1271 rfl (lv_at hl 3 rfl) ?_
  refine lv_iload_n hx hb dL_law_1272 rfl (lv_at hl 0 rfl) ?_
  refine lv_iconst (v := 1) hx hb dL_law_1273 (by decide) ?_
  refine lv_iadd hx hb dL_law_1274 ?_
  refine va_sld hx hb hX hbl hbA hS hin1 dL_law_1275 ?_
  refine lv_aload_n hx hb dL_law_1276 rfl (lv_at hl 3 rfl) ?_
  refine lv_iload_n hx hb dL_law_1277 rfl (lv_at hl 0 rfl) ?_
  refine lv_iconst (v := 2) hx hb dL_law_1278 (by decide) ?_
  refine lv_iadd hx hb dL_law_1279 ?_
  refine va_sld hx hb hX hbl hbA hS hin2 dL_law_1280 ?_
  refine hw_lcall (E := hw_EH l D cA ad) (E2 := hw_EM l D cA ad) (σ := σ) (τ := τ) (As := [.int (xs (x3 + 1).toNatClampNeg), .int (xs (x3 + 2).toNatClampNeg)]) (rest := []) (t := 0) hx hb hml hown hts hK hApH hN hCH hnH hHM rfl (M_X6_item (hw_EH l D cA ad) rfl (xs (x3 + 1).toNatClampNeg) (xs (x3 + 2).toNatClampNeg) σ) h1 W_X6_item SV_X6_item cf_X6 hw_T0 mw_975 (by decide) ⟨rfl, hw_l8 rfl⟩ dL_law_1281 hl.1 hcs hH hM hS (fun H locs hH hM hS => ?_)
  refine lv_aload_n hx hb dL_law_1284 rfl (lv_at hl 1 rfl) ?_
  refine lv_aload_n hx hb dL_law_1285 rfl (lv_at hl 3 rfl) ?_
  refine lv_iload_n hx hb dL_law_1286 rfl (lv_at hl 0 rfl) ?_
  refine lv_iconst (v := 1) hx hb dL_law_1287 (by decide) ?_
  refine lv_iadd hx hb dL_law_1288 ?_
  refine va_sld hx hb hX hbl hbA hS hin1 dL_law_1289 ?_
  refine lv_aload_n hx hb dL_law_1290 rfl (lv_at hl 3 rfl) ?_
  refine lv_iload_n hx hb dL_law_1291 rfl (lv_at hl 0 rfl) ?_
  refine lv_iconst (v := 2) hx hb dL_law_1292 (by decide) ?_
  refine lv_iadd hx hb dL_law_1293 ?_
  refine va_sld hx hb hX hbl hbA hS hin2 dL_law_1294 ?_
  refine hw_lcall (E := hw_EM l D cA ad) (E2 := hw_EH l D cA ad) (σ := τ) (τ := σ') (As := [.int (xs (x3 + 1).toNatClampNeg), .int (xs (x3 + 2).toNatClampNeg)]) (rest := [.int r]) (t := 200) hx hb hml hown hts hK hApM hN hCM hnM (fun t ht u hu e => hHM u hu t ht e.symm) rfl (M_X7_item (hw_EM l D cA ad) rfl (xs (x3 + 1).toNatClampNeg) (xs (x3 + 2).toNatClampNeg) τ) h2 W_X7_item SV_X7_item cf_X7 hw_T200 mw_979 (by decide) ⟨rfl, hw_l8 rfl⟩ dL_law_1295 hl.1 hcs hM hH hS (fun H locs hM hH hS => ?_)
  refine lv_icmp_eq (tgt := 1441) hx hb dL_law_1298 (by decide) (fun _ => ?_) (fun c => absurd rfl c)
  exact k σ' τ' H locs ls hR' hH hM hS hl
set_option maxRecDepth 20000 in
theorem law_case33 {p : Program} {l : Launch} {e : Env} {s : State} {m : MethodId} {below : List Frame} {meth : Method} {c : Code} {b L : Nat} {xs : Nat → Int32} {D : va_G} {cA : Nat → ClassId} {ad : Nat → Nat} {kc ks : Nat} {Q : State → Prop} (LC : hw_Lc p l s m c b L xs D cA ad) (hcs : kc ≤ 600000 ∧ ks ≤ 7302250) {R : hw_St → hw_St → Prop} (hs : hw_sim2 R F_X6_rest F_X7_rest) {i : Nat} (x3 : Int32) (ex3 : x3 = nI i) (hi : i + 6 ≤ L) (hL : L ≤ 384) (σ τ : hw_St) (hR : R σ τ)
    (k : ∀ (σ τ : hw_St) (H : Heap) (locs : List Loc) (ls : Array Slot), R σ τ → hw_W (hw_EH l D cA ad) σ H → hw_W (hw_EM l D cA ad) τ H → va_S (fun q : Nat => s.heap.size ≤ q) s.heap H locs → lv_has ls 4 [(3, .int x3), (2, .ref (ad 200)), (1, .ref (ad 0)), (0, .ref b)] → W p l e room_1 s m #[Value.ref b] below meth c H locs kc ks Q (F0 m 1441 ls []))
    (H : Heap) (locs : List Loc) (ls : Array Slot) (hH : hw_W (hw_EH l D cA ad) σ H) (hM : hw_W (hw_EM l D cA ad) τ H) (hS : va_S (fun q : Nat => s.heap.size ≤ q) s.heap H locs) (hl : lv_has ls 4 [(3, .int x3), (2, .ref (ad 200)), (1, .ref (ad 0)), (0, .ref b)]) : W p l e room_1 s m #[Value.ref b] below meth c H locs kc ks Q (F0 m 1303 ls []) := by
  obtain ⟨hx, hb, hml, hown, hts, hK, hApH, hApM, hHM, hnH, hnM, hN, hCH, hCM, hX, hbl⟩ := LC
  have hbA : ¬ (fun q : Nat => s.heap.size ≤ q) b := Nat.not_le.mpr hbl
  have hin1 : vp_in (x3 + 1) L := by rw [ex3, show nI i + 1 = nI (i + 1) from nI_add i 1]; exact vp_in_nI (by omega) (by omega)
  have hin2 : vp_in (x3 + 2) L := by rw [ex3, show nI i + 2 = nI (i + 2) from nI_add i 2]; exact vp_in_nI (by omega) (by omega)
  obtain ⟨r, σ', τ', h1, h2, hR'⟩ := hs (xs (x3 + 1).toNatClampNeg) (xs (x3 + 2).toNatClampNeg) σ τ hR
  refine lv_aload_n hx hb dL_law_1303 rfl (lv_at hl 2 rfl) ?_
  refine lv_aload_n hx hb dL_law_1304 rfl (lv_at hl 3 rfl) ?_
  refine lv_iload_n hx hb dL_law_1305 rfl (lv_at hl 0 rfl) ?_
  refine lv_iconst (v := 1) hx hb dL_law_1306 (by decide) ?_
  refine lv_iadd hx hb dL_law_1307 ?_
  refine va_sld hx hb hX hbl hbA hS hin1 dL_law_1308 ?_
  refine lv_aload_n hx hb dL_law_1309 rfl (lv_at hl 3 rfl) ?_
  refine lv_iload_n hx hb dL_law_1310 rfl (lv_at hl 0 rfl) ?_
  refine lv_iconst (v := 2) hx hb dL_law_1311 (by decide) ?_
  refine lv_iadd hx hb dL_law_1312 ?_
  refine va_sld hx hb hX hbl hbA hS hin2 dL_law_1313 ?_
  refine hw_lcall (E := hw_EH l D cA ad) (E2 := hw_EM l D cA ad) (σ := σ) (τ := τ) (As := [.int (xs (x3 + 1).toNatClampNeg), .int (xs (x3 + 2).toNatClampNeg)]) (rest := []) (t := 0) hx hb hml hown hts hK hApH hN hCH hnH hHM rfl (M_X6_rest (hw_EH l D cA ad) rfl (xs (x3 + 1).toNatClampNeg) (xs (x3 + 2).toNatClampNeg) σ) h1 W_X6_rest SV_X6_rest cf_X6 hw_T0 mw_983 (by decide) ⟨rfl, hw_l8 rfl⟩ dL_law_1314 hl.1 hcs hH hM hS (fun H locs hH hM hS => ?_)
  refine lv_aload_n hx hb dL_law_1317 rfl (lv_at hl 1 rfl) ?_
  refine lv_aload_n hx hb dL_law_1318 rfl (lv_at hl 3 rfl) ?_
  refine lv_iload_n hx hb dL_law_1319 rfl (lv_at hl 0 rfl) ?_
  refine lv_iconst (v := 1) hx hb dL_law_1320 (by decide) ?_
  refine lv_iadd hx hb dL_law_1321 ?_
  refine va_sld hx hb hX hbl hbA hS hin1 dL_law_1322 ?_
  refine lv_aload_n hx hb dL_law_1323 rfl (lv_at hl 3 rfl) ?_
  refine lv_iload_n hx hb dL_law_1324 rfl (lv_at hl 0 rfl) ?_
  refine lv_iconst (v := 2) hx hb dL_law_1325 (by decide) ?_
  refine lv_iadd hx hb dL_law_1326 ?_
  refine va_sld hx hb hX hbl hbA hS hin2 dL_law_1327 ?_
  refine hw_lcall (E := hw_EM l D cA ad) (E2 := hw_EH l D cA ad) (σ := τ) (τ := σ') (As := [.int (xs (x3 + 1).toNatClampNeg), .int (xs (x3 + 2).toNatClampNeg)]) (rest := [.int r]) (t := 200) hx hb hml hown hts hK hApM hN hCM hnM (fun t ht u hu e => hHM u hu t ht e.symm) rfl (M_X7_rest (hw_EM l D cA ad) rfl (xs (x3 + 1).toNatClampNeg) (xs (x3 + 2).toNatClampNeg) τ) h2 W_X7_rest SV_X7_rest cf_X7 hw_T200 mw_988 (by decide) ⟨rfl, hw_l8 rfl⟩ dL_law_1328 hl.1 hcs hM hH hS (fun H locs hM hH hS => ?_)
  refine lv_icmp_eq (tgt := 1441) hx hb dL_law_1331 (by decide) (fun _ => ?_) (fun c => absurd rfl c)
  exact k σ' τ' H locs ls hR' hH hM hS hl
set_option maxRecDepth 20000 in
theorem law_case34 {p : Program} {l : Launch} {e : Env} {s : State} {m : MethodId} {below : List Frame} {meth : Method} {c : Code} {b L : Nat} {xs : Nat → Int32} {D : va_G} {cA : Nat → ClassId} {ad : Nat → Nat} {kc ks : Nat} {Q : State → Prop} (LC : hw_Lc p l s m c b L xs D cA ad) (hcs : kc ≤ 600000 ∧ ks ≤ 7302250) {R : hw_St → hw_St → Prop} (hs : hw_sim1 R F_X6_tell F_X7_tell) {i : Nat} (x3 : Int32) (ex3 : x3 = nI i) (hi : i + 6 ≤ L) (hL : L ≤ 384) (σ τ : hw_St) (hR : R σ τ)
    (k : ∀ (σ τ : hw_St) (H : Heap) (locs : List Loc) (ls : Array Slot), R σ τ → hw_W (hw_EH l D cA ad) σ H → hw_W (hw_EM l D cA ad) τ H → va_S (fun q : Nat => s.heap.size ≤ q) s.heap H locs → lv_has ls 4 [(3, .int x3), (2, .ref (ad 200)), (1, .ref (ad 0)), (0, .ref b)] → W p l e room_1 s m #[Value.ref b] below meth c H locs kc ks Q (F0 m 1441 ls []))
    (H : Heap) (locs : List Loc) (ls : Array Slot) (hH : hw_W (hw_EH l D cA ad) σ H) (hM : hw_W (hw_EM l D cA ad) τ H) (hS : va_S (fun q : Nat => s.heap.size ≤ q) s.heap H locs) (hl : lv_has ls 4 [(3, .int x3), (2, .ref (ad 200)), (1, .ref (ad 0)), (0, .ref b)]) : W p l e room_1 s m #[Value.ref b] below meth c H locs kc ks Q (F0 m 1336 ls []) := by
  obtain ⟨hx, hb, hml, hown, hts, hK, hApH, hApM, hHM, hnH, hnM, hN, hCH, hCM, hX, hbl⟩ := LC
  have hbA : ¬ (fun q : Nat => s.heap.size ≤ q) b := Nat.not_le.mpr hbl
  have hin1 : vp_in (x3 + 1) L := by rw [ex3, show nI i + 1 = nI (i + 1) from nI_add i 1]; exact vp_in_nI (by omega) (by omega)
  obtain ⟨r, σ', τ', h1, h2, hR'⟩ := hs (xs (x3 + 1).toNatClampNeg) σ τ hR
  refine lv_aload_n hx hb dL_law_1336 rfl (lv_at hl 2 rfl) ?_
  refine lv_aload_n hx hb dL_law_1337 rfl (lv_at hl 3 rfl) ?_
  refine lv_iload_n hx hb dL_law_1338 rfl (lv_at hl 0 rfl) ?_
  refine lv_iconst (v := 1) hx hb dL_law_1339 (by decide) ?_
  refine lv_iadd hx hb dL_law_1340 ?_
  refine va_sld hx hb hX hbl hbA hS hin1 dL_law_1341 ?_
  refine hw_lcall (E := hw_EH l D cA ad) (E2 := hw_EM l D cA ad) (σ := σ) (τ := τ) (As := [.int (xs (x3 + 1).toNatClampNeg)]) (rest := []) (t := 0) hx hb hml hown hts hK hApH hN hCH hnH hHM rfl (M_X6_tell (hw_EH l D cA ad) rfl (xs (x3 + 1).toNatClampNeg) σ) h1 W_X6_tell SV_X6_tell cf_X6 hw_T0 mw_993 (by decide) ⟨rfl, hw_l8 rfl⟩ dL_law_1342 hl.1 hcs hH hM hS (fun H locs hH hM hS => ?_)
  refine lv_aload_n hx hb dL_law_1345 rfl (lv_at hl 1 rfl) ?_
  refine lv_aload_n hx hb dL_law_1346 rfl (lv_at hl 3 rfl) ?_
  refine lv_iload_n hx hb dL_law_1347 rfl (lv_at hl 0 rfl) ?_
  refine lv_iconst (v := 1) hx hb dL_law_1348 (by decide) ?_
  refine lv_iadd hx hb dL_law_1349 ?_
  refine va_sld hx hb hX hbl hbA hS hin1 dL_law_1350 ?_
  refine hw_lcall (E := hw_EM l D cA ad) (E2 := hw_EH l D cA ad) (σ := τ) (τ := σ') (As := [.int (xs (x3 + 1).toNatClampNeg)]) (rest := [.int r]) (t := 200) hx hb hml hown hts hK hApM hN hCM hnM (fun t ht u hu e => hHM u hu t ht e.symm) rfl (M_X7_tell (hw_EM l D cA ad) rfl (xs (x3 + 1).toNatClampNeg) τ) h2 W_X7_tell SV_X7_tell cf_X7 hw_T200 mw_997 (by decide) ⟨rfl, hw_l8 rfl⟩ dL_law_1351 hl.1 hcs hM hH hS (fun H locs hM hH hS => ?_)
  refine lv_icmp_eq (tgt := 1441) hx hb dL_law_1354 (by decide) (fun _ => ?_) (fun c => absurd rfl c)
  exact k σ' τ' H locs ls hR' hH hM hS hl
set_option maxRecDepth 20000 in
theorem law_case35 {p : Program} {l : Launch} {e : Env} {s : State} {m : MethodId} {below : List Frame} {meth : Method} {c : Code} {b L : Nat} {xs : Nat → Int32} {D : va_G} {cA : Nat → ClassId} {ad : Nat → Nat} {kc ks : Nat} {Q : State → Prop} (LC : hw_Lc p l s m c b L xs D cA ad) (hcs : kc ≤ 600000 ∧ ks ≤ 7302250) {R : hw_St → hw_St → Prop} (hs : hw_sim2 R F_X6_check F_X7_check) {i : Nat} (x3 : Int32) (ex3 : x3 = nI i) (hi : i + 6 ≤ L) (hL : L ≤ 384) (σ τ : hw_St) (hR : R σ τ)
    (k : ∀ (σ τ : hw_St) (H : Heap) (locs : List Loc) (ls : Array Slot), R σ τ → hw_W (hw_EH l D cA ad) σ H → hw_W (hw_EM l D cA ad) τ H → va_S (fun q : Nat => s.heap.size ≤ q) s.heap H locs → lv_has ls 4 [(3, .int x3), (2, .ref (ad 200)), (1, .ref (ad 0)), (0, .ref b)] → W p l e room_1 s m #[Value.ref b] below meth c H locs kc ks Q (F0 m 1441 ls []))
    (H : Heap) (locs : List Loc) (ls : Array Slot) (hH : hw_W (hw_EH l D cA ad) σ H) (hM : hw_W (hw_EM l D cA ad) τ H) (hS : va_S (fun q : Nat => s.heap.size ≤ q) s.heap H locs) (hl : lv_has ls 4 [(3, .int x3), (2, .ref (ad 200)), (1, .ref (ad 0)), (0, .ref b)]) : W p l e room_1 s m #[Value.ref b] below meth c H locs kc ks Q (F0 m 1359 ls []) := by
  obtain ⟨hx, hb, hml, hown, hts, hK, hApH, hApM, hHM, hnH, hnM, hN, hCH, hCM, hX, hbl⟩ := LC
  have hbA : ¬ (fun q : Nat => s.heap.size ≤ q) b := Nat.not_le.mpr hbl
  have hin1 : vp_in (x3 + 1) L := by rw [ex3, show nI i + 1 = nI (i + 1) from nI_add i 1]; exact vp_in_nI (by omega) (by omega)
  have hin2 : vp_in (x3 + 2) L := by rw [ex3, show nI i + 2 = nI (i + 2) from nI_add i 2]; exact vp_in_nI (by omega) (by omega)
  obtain ⟨r, σ', τ', h1, h2, hR'⟩ := hs (xs (x3 + 1).toNatClampNeg) (xs (x3 + 2).toNatClampNeg) σ τ hR
  refine lv_aload_n hx hb dL_law_1359 rfl (lv_at hl 2 rfl) ?_
  refine lv_aload_n hx hb dL_law_1360 rfl (lv_at hl 3 rfl) ?_
  refine lv_iload_n hx hb dL_law_1361 rfl (lv_at hl 0 rfl) ?_
  refine lv_iconst (v := 1) hx hb dL_law_1362 (by decide) ?_
  refine lv_iadd hx hb dL_law_1363 ?_
  refine va_sld hx hb hX hbl hbA hS hin1 dL_law_1364 ?_
  refine lv_aload_n hx hb dL_law_1365 rfl (lv_at hl 3 rfl) ?_
  refine lv_iload_n hx hb dL_law_1366 rfl (lv_at hl 0 rfl) ?_
  refine lv_iconst (v := 2) hx hb dL_law_1367 (by decide) ?_
  refine lv_iadd hx hb dL_law_1368 ?_
  refine va_sld hx hb hX hbl hbA hS hin2 dL_law_1369 ?_
  refine hw_lcall (E := hw_EH l D cA ad) (E2 := hw_EM l D cA ad) (σ := σ) (τ := τ) (As := [.int (xs (x3 + 1).toNatClampNeg), .int (xs (x3 + 2).toNatClampNeg)]) (rest := []) (t := 0) hx hb hml hown hts hK hApH hN hCH hnH hHM rfl (M_X6_check (hw_EH l D cA ad) rfl (xs (x3 + 1).toNatClampNeg) (xs (x3 + 2).toNatClampNeg) σ) h1 W_X6_check SV_X6_check cf_X6 hw_T0 mw_1002 (by decide) ⟨rfl, hw_l8 rfl⟩ dL_law_1370 hl.1 hcs hH hM hS (fun H locs hH hM hS => ?_)
  refine lv_aload_n hx hb dL_law_1373 rfl (lv_at hl 1 rfl) ?_
  refine lv_aload_n hx hb dL_law_1374 rfl (lv_at hl 3 rfl) ?_
  refine lv_iload_n hx hb dL_law_1375 rfl (lv_at hl 0 rfl) ?_
  refine lv_iconst (v := 1) hx hb dL_law_1376 (by decide) ?_
  refine lv_iadd hx hb dL_law_1377 ?_
  refine va_sld hx hb hX hbl hbA hS hin1 dL_law_1378 ?_
  refine lv_aload_n hx hb dL_law_1379 rfl (lv_at hl 3 rfl) ?_
  refine lv_iload_n hx hb dL_law_1380 rfl (lv_at hl 0 rfl) ?_
  refine lv_iconst (v := 2) hx hb dL_law_1381 (by decide) ?_
  refine lv_iadd hx hb dL_law_1382 ?_
  refine va_sld hx hb hX hbl hbA hS hin2 dL_law_1383 ?_
  refine hw_lcall (E := hw_EM l D cA ad) (E2 := hw_EH l D cA ad) (σ := τ) (τ := σ') (As := [.int (xs (x3 + 1).toNatClampNeg), .int (xs (x3 + 2).toNatClampNeg)]) (rest := [.int r]) (t := 200) hx hb hml hown hts hK hApM hN hCM hnM (fun t ht u hu e => hHM u hu t ht e.symm) rfl (M_X7_check (hw_EM l D cA ad) rfl (xs (x3 + 1).toNatClampNeg) (xs (x3 + 2).toNatClampNeg) τ) h2 W_X7_check SV_X7_check cf_X7 hw_T200 mw_1010 (by decide) ⟨rfl, hw_l8 rfl⟩ dL_law_1384 hl.1 hcs hM hH hS (fun H locs hM hH hS => ?_)
  refine lv_icmp_eq (tgt := 1441) hx hb dL_law_1387 (by decide) (fun _ => ?_) (fun c => absurd rfl c)
  exact k σ' τ' H locs ls hR' hH hM hS hl
set_option maxRecDepth 20000 in
theorem law_case36 {p : Program} {l : Launch} {e : Env} {s : State} {m : MethodId} {below : List Frame} {meth : Method} {c : Code} {b L : Nat} {xs : Nat → Int32} {D : va_G} {cA : Nat → ClassId} {ad : Nat → Nat} {kc ks : Nat} {Q : State → Prop} (LC : hw_Lc p l s m c b L xs D cA ad) (hcs : kc ≤ 600000 ∧ ks ≤ 7302250) {R : hw_St → hw_St → Prop} (hs : hw_sim0 R F_X6_keep F_X7_keep) {i : Nat} (x3 : Int32) (ex3 : x3 = nI i) (hi : i + 6 ≤ L) (hL : L ≤ 384) (σ τ : hw_St) (hR : R σ τ)
    (k : ∀ (σ τ : hw_St) (H : Heap) (locs : List Loc) (ls : Array Slot), R σ τ → hw_W (hw_EH l D cA ad) σ H → hw_W (hw_EM l D cA ad) τ H → va_S (fun q : Nat => s.heap.size ≤ q) s.heap H locs → lv_has ls 4 [(3, .int x3), (2, .ref (ad 200)), (1, .ref (ad 0)), (0, .ref b)] → W p l e room_1 s m #[Value.ref b] below meth c H locs kc ks Q (F0 m 1441 ls []))
    (H : Heap) (locs : List Loc) (ls : Array Slot) (hH : hw_W (hw_EH l D cA ad) σ H) (hM : hw_W (hw_EM l D cA ad) τ H) (hS : va_S (fun q : Nat => s.heap.size ≤ q) s.heap H locs) (hl : lv_has ls 4 [(3, .int x3), (2, .ref (ad 200)), (1, .ref (ad 0)), (0, .ref b)]) : W p l e room_1 s m #[Value.ref b] below meth c H locs kc ks Q (F0 m 1392 ls []) := by
  obtain ⟨hx, hb, hml, hown, hts, hK, hApH, hApM, hHM, hnH, hnM, hN, hCH, hCM, hX, hbl⟩ := LC
  have hbA : ¬ (fun q : Nat => s.heap.size ≤ q) b := Nat.not_le.mpr hbl
  obtain ⟨r, σ', τ', h1, h2, hR'⟩ := hs  σ τ hR
  refine lv_aload_n hx hb dL_law_1392 rfl (lv_at hl 2 rfl) ?_
  refine hw_lcall (E := hw_EH l D cA ad) (E2 := hw_EM l D cA ad) (σ := σ) (τ := τ) (As := []) (rest := []) (t := 0) hx hb hml hown hts hK hApH hN hCH hnH hHM rfl (M_X6_keep (hw_EH l D cA ad) rfl  σ) h1 W_X6_keep SV_X6_keep cf_X6 hw_T0 mw_1022 (by decide) ⟨rfl, hw_l8 rfl⟩ dL_law_1393 hl.1 hcs hH hM hS (fun H locs hH hM hS => ?_)
  refine lv_aload_n hx hb dL_law_1396 rfl (lv_at hl 1 rfl) ?_
  refine hw_lcall (E := hw_EM l D cA ad) (E2 := hw_EH l D cA ad) (σ := τ) (τ := σ') (As := []) (rest := [.int r]) (t := 200) hx hb hml hown hts hK hApM hN hCM hnM (fun t ht u hu e => hHM u hu t ht e.symm) rfl (M_X7_keep (hw_EM l D cA ad) rfl  τ) h2 W_X7_keep SV_X7_keep cf_X7 hw_T200 mw_1032 (by decide) ⟨rfl, hw_l8 rfl⟩ dL_law_1397 hl.1 hcs hM hH hS (fun H locs hM hH hS => ?_)
  refine lv_icmp_eq (tgt := 1441) hx hb dL_law_1400 (by decide) (fun _ => ?_) (fun c => absurd rfl c)
  exact k σ' τ' H locs ls hR' hH hM hS hl
set_option maxRecDepth 20000 in
theorem law_case37 {p : Program} {l : Launch} {e : Env} {s : State} {m : MethodId} {below : List Frame} {meth : Method} {c : Code} {b L : Nat} {xs : Nat → Int32} {D : va_G} {cA : Nat → ClassId} {ad : Nat → Nat} {kc ks : Nat} {Q : State → Prop} (LC : hw_Lc p l s m c b L xs D cA ad) (hcs : kc ≤ 600000 ∧ ks ≤ 7302250) {R : hw_St → hw_St → Prop} (hs : hw_sim0 R F_X6_back F_X7_back) {i : Nat} (x3 : Int32) (ex3 : x3 = nI i) (hi : i + 6 ≤ L) (hL : L ≤ 384) (σ τ : hw_St) (hR : R σ τ)
    (k : ∀ (σ τ : hw_St) (H : Heap) (locs : List Loc) (ls : Array Slot), R σ τ → hw_W (hw_EH l D cA ad) σ H → hw_W (hw_EM l D cA ad) τ H → va_S (fun q : Nat => s.heap.size ≤ q) s.heap H locs → lv_has ls 4 [(3, .int x3), (2, .ref (ad 200)), (1, .ref (ad 0)), (0, .ref b)] → W p l e room_1 s m #[Value.ref b] below meth c H locs kc ks Q (F0 m 1441 ls []))
    (H : Heap) (locs : List Loc) (ls : Array Slot) (hH : hw_W (hw_EH l D cA ad) σ H) (hM : hw_W (hw_EM l D cA ad) τ H) (hS : va_S (fun q : Nat => s.heap.size ≤ q) s.heap H locs) (hl : lv_has ls 4 [(3, .int x3), (2, .ref (ad 200)), (1, .ref (ad 0)), (0, .ref b)]) : W p l e room_1 s m #[Value.ref b] below meth c H locs kc ks Q (F0 m 1405 ls []) := by
  obtain ⟨hx, hb, hml, hown, hts, hK, hApH, hApM, hHM, hnH, hnM, hN, hCH, hCM, hX, hbl⟩ := LC
  have hbA : ¬ (fun q : Nat => s.heap.size ≤ q) b := Nat.not_le.mpr hbl
  obtain ⟨r, σ', τ', h1, h2, hR'⟩ := hs  σ τ hR
  refine lv_aload_n hx hb dL_law_1405 rfl (lv_at hl 2 rfl) ?_
  refine hw_lcall (E := hw_EH l D cA ad) (E2 := hw_EM l D cA ad) (σ := σ) (τ := τ) (As := []) (rest := []) (t := 0) hx hb hml hown hts hK hApH hN hCH hnH hHM rfl (M_X6_back (hw_EH l D cA ad) rfl  σ) h1 W_X6_back SV_X6_back cf_X6 hw_T0 mw_1036 (by decide) ⟨rfl, hw_l8 rfl⟩ dL_law_1406 hl.1 hcs hH hM hS (fun H locs hH hM hS => ?_)
  refine lv_aload_n hx hb dL_law_1409 rfl (lv_at hl 1 rfl) ?_
  refine hw_lcall (E := hw_EM l D cA ad) (E2 := hw_EH l D cA ad) (σ := τ) (τ := σ') (As := []) (rest := [.int r]) (t := 200) hx hb hml hown hts hK hApM hN hCM hnM (fun t ht u hu e => hHM u hu t ht e.symm) rfl (M_X7_back (hw_EM l D cA ad) rfl  τ) h2 W_X7_back SV_X7_back cf_X7 hw_T200 mw_1040 (by decide) ⟨rfl, hw_l8 rfl⟩ dL_law_1410 hl.1 hcs hM hH hS (fun H locs hM hH hS => ?_)
  refine lv_icmp_eq (tgt := 1441) hx hb dL_law_1413 (by decide) (fun _ => ?_) (fun c => absurd rfl c)
  exact k σ' τ' H locs ls hR' hH hM hS hl
set_option maxRecDepth 20000 in
theorem law_case38 {p : Program} {l : Launch} {e : Env} {s : State} {m : MethodId} {below : List Frame} {meth : Method} {c : Code} {b L : Nat} {xs : Nat → Int32} {D : va_G} {cA : Nat → ClassId} {ad : Nat → Nat} {kc ks : Nat} {Q : State → Prop} (LC : hw_Lc p l s m c b L xs D cA ad) (hcs : kc ≤ 600000 ∧ ks ≤ 7302250) {R : hw_St → hw_St → Prop} (hs : hw_sim1 R F_X6_count F_X7_count) {i : Nat} (x3 : Int32) (ex3 : x3 = nI i) (hi : i + 6 ≤ L) (hL : L ≤ 384) (σ τ : hw_St) (hR : R σ τ)
    (k : ∀ (σ τ : hw_St) (H : Heap) (locs : List Loc) (ls : Array Slot), R σ τ → hw_W (hw_EH l D cA ad) σ H → hw_W (hw_EM l D cA ad) τ H → va_S (fun q : Nat => s.heap.size ≤ q) s.heap H locs → lv_has ls 4 [(3, .int x3), (2, .ref (ad 200)), (1, .ref (ad 0)), (0, .ref b)] → W p l e room_1 s m #[Value.ref b] below meth c H locs kc ks Q (F0 m 1441 ls []))
    (H : Heap) (locs : List Loc) (ls : Array Slot) (hH : hw_W (hw_EH l D cA ad) σ H) (hM : hw_W (hw_EM l D cA ad) τ H) (hS : va_S (fun q : Nat => s.heap.size ≤ q) s.heap H locs) (hl : lv_has ls 4 [(3, .int x3), (2, .ref (ad 200)), (1, .ref (ad 0)), (0, .ref b)]) : W p l e room_1 s m #[Value.ref b] below meth c H locs kc ks Q (F0 m 1418 ls []) := by
  obtain ⟨hx, hb, hml, hown, hts, hK, hApH, hApM, hHM, hnH, hnM, hN, hCH, hCM, hX, hbl⟩ := LC
  have hbA : ¬ (fun q : Nat => s.heap.size ≤ q) b := Nat.not_le.mpr hbl
  have hin1 : vp_in (x3 + 1) L := by rw [ex3, show nI i + 1 = nI (i + 1) from nI_add i 1]; exact vp_in_nI (by omega) (by omega)
  obtain ⟨r, σ', τ', h1, h2, hR'⟩ := hs (xs (x3 + 1).toNatClampNeg) σ τ hR
  refine lv_aload_n hx hb dL_law_1418 rfl (lv_at hl 2 rfl) ?_
  refine lv_aload_n hx hb dL_law_1419 rfl (lv_at hl 3 rfl) ?_
  refine lv_iload_n hx hb dL_law_1420 rfl (lv_at hl 0 rfl) ?_
  refine lv_iconst (v := 1) hx hb dL_law_1421 (by decide) ?_
  refine lv_iadd hx hb dL_law_1422 ?_
  refine va_sld hx hb hX hbl hbA hS hin1 dL_law_1423 ?_
  refine hw_lcall (E := hw_EH l D cA ad) (E2 := hw_EM l D cA ad) (σ := σ) (τ := τ) (As := [.int (xs (x3 + 1).toNatClampNeg)]) (rest := []) (t := 0) hx hb hml hown hts hK hApH hN hCH hnH hHM rfl (M_X6_count (hw_EH l D cA ad) rfl (xs (x3 + 1).toNatClampNeg) σ) h1 W_X6_count SV_X6_count cf_X6 hw_T0 mw_1044 (by decide) ⟨rfl, hw_l8 rfl⟩ dL_law_1424 hl.1 hcs hH hM hS (fun H locs hH hM hS => ?_)
  refine lv_aload_n hx hb dL_law_1427 rfl (lv_at hl 1 rfl) ?_
  refine lv_aload_n hx hb dL_law_1428 rfl (lv_at hl 3 rfl) ?_
  refine lv_iload_n hx hb dL_law_1429 rfl (lv_at hl 0 rfl) ?_
  refine lv_iconst (v := 1) hx hb dL_law_1430 (by decide) ?_
  refine lv_iadd hx hb dL_law_1431 ?_
  refine va_sld hx hb hX hbl hbA hS hin1 dL_law_1432 ?_
  refine hw_lcall (E := hw_EM l D cA ad) (E2 := hw_EH l D cA ad) (σ := τ) (τ := σ') (As := [.int (xs (x3 + 1).toNatClampNeg)]) (rest := [.int r]) (t := 200) hx hb hml hown hts hK hApM hN hCM hnM (fun t ht u hu e => hHM u hu t ht e.symm) rfl (M_X7_count (hw_EM l D cA ad) rfl (xs (x3 + 1).toNatClampNeg) τ) h2 W_X7_count SV_X7_count cf_X7 hw_T200 mw_1052 (by decide) ⟨rfl, hw_l8 rfl⟩ dL_law_1433 hl.1 hcs hM hH hS (fun H locs hM hH hS => ?_)
  refine lv_icmp_eq (tgt := 1441) hx hb dL_law_1436 (by decide) (fun _ => ?_) (fun c => absurd rfl c)
  exact k σ' τ' H locs ls hR' hH hM hS hl
set_option maxRecDepth 20000 in
theorem law_body {p : Program} {l : Launch} {e : Env} {s : State} {m : MethodId} {below : List Frame} {meth : Method} {c : Code} {b L : Nat} {xs : Nat → Int32} {D : va_G} {cA : Nat → ClassId} {ad : Nat → Nat} {kc ks : Nat} {Q : State → Prop} (LC : hw_Lc p l s m c b L xs D cA ad) (hcs : kc ≤ 600000 ∧ ks ≤ 7302250) {R : hw_St → hw_St → Prop} (hs : hw_Sims R) (hL : L ≤ 384) {i : Nat} (x3 : Int32) (ex3 : x3 = nI i) (hi : i + 6 ≤ L) (σ τ : hw_St) (hR : R σ τ)
    (k : ∀ (σ τ : hw_St) (H : Heap) (locs : List Loc) (ls : Array Slot), R σ τ → hw_W (hw_EH l D cA ad) σ H → hw_W (hw_EM l D cA ad) τ H → va_S (fun q : Nat => s.heap.size ≤ q) s.heap H locs → lv_has ls 4 [(3, .int x3), (2, .ref (ad 200)), (1, .ref (ad 0)), (0, .ref b)] → W p l e room_1 s m #[Value.ref b] below meth c H locs kc ks Q (F0 m 1441 ls []))
    (H : Heap) (locs : List Loc) (ls : Array Slot) (hH : hw_W (hw_EH l D cA ad) σ H) (hM : hw_W (hw_EM l D cA ad) τ H) (hS : va_S (fun q : Nat => s.heap.size ≤ q) s.heap H locs) (hl : lv_has ls 4 [(3, .int x3), (2, .ref (ad 200)), (1, .ref (ad 0)), (0, .ref b)]) (z : Int32) : W p l e room_1 s m #[Value.ref b] below meth c H locs kc ks Q (F0 m 33 ls [.int z]) := by
  have hx := LC.1
  have hb := LC.2.1
  obtain ⟨g0, g1, g2, g3, g4, g5, g6, g7, g8, g9, g10, g11, g12, g13, g14, g15, g16, g17, g18, g19, g20, g21, g22, g23, g24, g25, g26, g27, g28, g29, g30, g31, g32, g33, g34, g35, g36, g37, g38⟩ := hs
  by_cases c0 : z = 0
  · subst c0
    refine lv_tableIn (off := 171) (tgt := 204) hx hb dL_law_33 (by decide) (by decide) (by decide) (by decide) ?_
    exact law_case0 LC hcs g0 x3 ex3 hi hL σ τ hR k H locs ls hH hM hS hl
  by_cases c1 : z = 1
  · subst c1
    refine lv_tableIn (off := 214) (tgt := 247) hx hb dL_law_33 (by decide) (by decide) (by decide) (by decide) ?_
    exact law_case1 LC hcs g1 x3 ex3 hi hL σ τ hR k H locs ls hH hM hS hl
  by_cases c2 : z = 2
  · subst c2
    refine lv_tableIn (off := 247) (tgt := 280) hx hb dL_law_33 (by decide) (by decide) (by decide) (by decide) ?_
    exact law_case2 LC hcs g2 x3 ex3 hi hL σ τ hR k H locs ls hH hM hS hl
  by_cases c3 : z = 3
  · subst c3
    refine lv_tableIn (off := 280) (tgt := 313) hx hb dL_law_33 (by decide) (by decide) (by decide) (by decide) ?_
    exact law_case3 LC hcs g3 x3 ex3 hi hL σ τ hR k H locs ls hH hM hS hl
  by_cases c4 : z = 4
  · subst c4
    refine lv_tableIn (off := 313) (tgt := 346) hx hb dL_law_33 (by decide) (by decide) (by decide) (by decide) ?_
    exact law_case4 LC hcs g4 x3 ex3 hi hL σ τ hR k H locs ls hH hM hS hl
  by_cases c5 : z = 5
  · subst c5
    refine lv_tableIn (off := 356) (tgt := 389) hx hb dL_law_33 (by decide) (by decide) (by decide) (by decide) ?_
    exact law_case5 LC hcs g5 x3 ex3 hi hL σ τ hR k H locs ls hH hM hS hl
  by_cases c6 : z = 6
  · subst c6
    refine lv_tableIn (off := 389) (tgt := 422) hx hb dL_law_33 (by decide) (by decide) (by decide) (by decide) ?_
    exact law_case6 LC hcs g6 x3 ex3 hi hL σ τ hR k H locs ls hH hM hS hl
  by_cases c7 : z = 7
  · subst c7
    refine lv_tableIn (off := 412) (tgt := 445) hx hb dL_law_33 (by decide) (by decide) (by decide) (by decide) ?_
    exact law_case7 LC hcs g7 x3 ex3 hi hL σ τ hR k H locs ls hH hM hS hl
  by_cases c8 : z = 8
  · subst c8
    refine lv_tableIn (off := 435) (tgt := 468) hx hb dL_law_33 (by decide) (by decide) (by decide) (by decide) ?_
    exact law_case8 LC hcs g8 x3 ex3 hi hL σ τ hR k H locs ls hH hM hS hl
  by_cases c9 : z = 9
  · subst c9
    refine lv_tableIn (off := 468) (tgt := 501) hx hb dL_law_33 (by decide) (by decide) (by decide) (by decide) ?_
    exact law_case9 LC hcs g9 x3 ex3 hi hL σ τ hR k H locs ls hH hM hS hl
  by_cases c10 : z = 10
  · subst c10
    refine lv_tableIn (off := 491) (tgt := 524) hx hb dL_law_33 (by decide) (by decide) (by decide) (by decide) ?_
    exact law_case10 LC hcs g10 x3 ex3 hi hL σ τ hR k H locs ls hH hM hS hl
  by_cases c11 : z = 11
  · subst c11
    refine lv_tableIn (off := 534) (tgt := 567) hx hb dL_law_33 (by decide) (by decide) (by decide) (by decide) ?_
    exact law_case11 LC hcs g11 x3 ex3 hi hL σ τ hR k H locs ls hH hM hS hl
  by_cases c12 : z = 12
  · subst c12
    refine lv_tableIn (off := 567) (tgt := 600) hx hb dL_law_33 (by decide) (by decide) (by decide) (by decide) ?_
    exact law_case12 LC hcs g12 x3 ex3 hi hL σ τ hR k H locs ls hH hM hS hl
  by_cases c13 : z = 13
  · subst c13
    refine lv_tableIn (off := 590) (tgt := 623) hx hb dL_law_33 (by decide) (by decide) (by decide) (by decide) ?_
    exact law_case13 LC hcs g13 x3 ex3 hi hL σ τ hR k H locs ls hH hM hS hl
  by_cases c14 : z = 14
  · subst c14
    refine lv_tableIn (off := 623) (tgt := 656) hx hb dL_law_33 (by decide) (by decide) (by decide) (by decide) ?_
    exact law_case14 LC hcs g14 x3 ex3 hi hL σ τ hR k H locs ls hH hM hS hl
  by_cases c15 : z = 15
  · subst c15
    refine lv_tableIn (off := 656) (tgt := 689) hx hb dL_law_33 (by decide) (by decide) (by decide) (by decide) ?_
    exact law_case15 LC hcs g15 x3 ex3 hi hL σ τ hR k H locs ls hH hM hS hl
  by_cases c16 : z = 16
  · subst c16
    refine lv_tableIn (off := 689) (tgt := 722) hx hb dL_law_33 (by decide) (by decide) (by decide) (by decide) ?_
    exact law_case16 LC hcs g16 x3 ex3 hi hL σ τ hR k H locs ls hH hM hS hl
  by_cases c17 : z = 17
  · subst c17
    refine lv_tableIn (off := 722) (tgt := 755) hx hb dL_law_33 (by decide) (by decide) (by decide) (by decide) ?_
    exact law_case17 LC hcs g17 x3 ex3 hi hL σ τ hR k H locs ls hH hM hS hl
  by_cases c18 : z = 18
  · subst c18
    refine lv_tableIn (off := 755) (tgt := 788) hx hb dL_law_33 (by decide) (by decide) (by decide) (by decide) ?_
    exact law_case18 LC hcs g18 x3 ex3 hi hL σ τ hR k H locs ls hH hM hS hl
  by_cases c19 : z = 19
  · subst c19
    refine lv_tableIn (off := 798) (tgt := 831) hx hb dL_law_33 (by decide) (by decide) (by decide) (by decide) ?_
    exact law_case19 LC hcs g19 x3 ex3 hi hL σ τ hR k H locs ls hH hM hS hl
  by_cases c20 : z = 20
  · subst c20
    refine lv_tableIn (off := 821) (tgt := 854) hx hb dL_law_33 (by decide) (by decide) (by decide) (by decide) ?_
    exact law_case20 LC hcs g20 x3 ex3 hi hL σ τ hR k H locs ls hH hM hS hl
  by_cases c21 : z = 21
  · subst c21
    refine lv_tableIn (off := 864) (tgt := 897) hx hb dL_law_33 (by decide) (by decide) (by decide) (by decide) ?_
    exact law_case21 LC hcs g21 x3 ex3 hi hL σ τ hR k H locs ls hH hM hS hl
  by_cases c22 : z = 22
  · subst c22
    refine lv_tableIn (off := 887) (tgt := 920) hx hb dL_law_33 (by decide) (by decide) (by decide) (by decide) ?_
    exact law_case22 LC hcs g22 x3 ex3 hi hL σ τ hR k H locs ls hH hM hS hl
  by_cases c23 : z = 23
  · subst c23
    refine lv_tableIn (off := 900) (tgt := 933) hx hb dL_law_33 (by decide) (by decide) (by decide) (by decide) ?_
    exact law_case23 LC hcs g23 x3 ex3 hi hL σ τ hR k H locs ls hH hM hS hl
  by_cases c24 : z = 24
  · subst c24
    refine lv_tableIn (off := 933) (tgt := 966) hx hb dL_law_33 (by decide) (by decide) (by decide) (by decide) ?_
    exact law_case24 LC hcs g24 x3 ex3 hi hL σ τ hR k H locs ls hH hM hS hl
  by_cases c25 : z = 25
  · subst c25
    refine lv_tableIn (off := 956) (tgt := 989) hx hb dL_law_33 (by decide) (by decide) (by decide) (by decide) ?_
    exact law_case25 LC hcs g25 x3 ex3 hi hL σ τ hR k H locs ls hH hM hS hl
  by_cases c26 : z = 26
  · subst c26
    refine lv_tableIn (off := 999) (tgt := 1032) hx hb dL_law_33 (by decide) (by decide) (by decide) (by decide) ?_
    exact law_case26 LC hcs g26 x3 ex3 hi hL σ τ hR k H locs ls hH hM hS hl
  by_cases c27 : z = 27
  · subst c27
    refine lv_tableIn (off := 1042) (tgt := 1075) hx hb dL_law_33 (by decide) (by decide) (by decide) (by decide) ?_
    exact law_case27 LC hcs g27 x3 ex3 hi hL σ τ hR k H locs ls hH hM hS hl
  by_cases c28 : z = 28
  · subst c28
    refine lv_tableIn (off := 1065) (tgt := 1098) hx hb dL_law_33 (by decide) (by decide) (by decide) (by decide) ?_
    exact law_case28 LC hcs g28 x3 ex3 hi hL σ τ hR k H locs ls hH hM hS hl
  by_cases c29 : z = 29
  · subst c29
    refine lv_tableIn (off := 1098) (tgt := 1131) hx hb dL_law_33 (by decide) (by decide) (by decide) (by decide) ?_
    exact law_case29 LC hcs g29 x3 ex3 hi hL σ τ hR k H locs ls hH hM hS hl
  by_cases c30 : z = 30
  · subst c30
    refine lv_tableIn (off := 1161) (tgt := 1194) hx hb dL_law_33 (by decide) (by decide) (by decide) (by decide) ?_
    exact law_case30 LC hcs g30 x3 ex3 hi hL σ τ hR k H locs ls hH hM hS hl
  by_cases c31 : z = 31
  · subst c31
    refine lv_tableIn (off := 1204) (tgt := 1237) hx hb dL_law_33 (by decide) (by decide) (by decide) (by decide) ?_
    exact law_case31 LC hcs g31 x3 ex3 hi hL σ τ hR k H locs ls hH hM hS hl
  by_cases c32 : z = 32
  · subst c32
    refine lv_tableIn (off := 1237) (tgt := 1270) hx hb dL_law_33 (by decide) (by decide) (by decide) (by decide) ?_
    exact law_case32 LC hcs g32 x3 ex3 hi hL σ τ hR k H locs ls hH hM hS hl
  by_cases c33 : z = 33
  · subst c33
    refine lv_tableIn (off := 1270) (tgt := 1303) hx hb dL_law_33 (by decide) (by decide) (by decide) (by decide) ?_
    exact law_case33 LC hcs g33 x3 ex3 hi hL σ τ hR k H locs ls hH hM hS hl
  by_cases c34 : z = 34
  · subst c34
    refine lv_tableIn (off := 1303) (tgt := 1336) hx hb dL_law_33 (by decide) (by decide) (by decide) (by decide) ?_
    exact law_case34 LC hcs g34 x3 ex3 hi hL σ τ hR k H locs ls hH hM hS hl
  by_cases c35 : z = 35
  · subst c35
    refine lv_tableIn (off := 1326) (tgt := 1359) hx hb dL_law_33 (by decide) (by decide) (by decide) (by decide) ?_
    exact law_case35 LC hcs g35 x3 ex3 hi hL σ τ hR k H locs ls hH hM hS hl
  by_cases c36 : z = 36
  · subst c36
    refine lv_tableIn (off := 1359) (tgt := 1392) hx hb dL_law_33 (by decide) (by decide) (by decide) (by decide) ?_
    exact law_case36 LC hcs g36 x3 ex3 hi hL σ τ hR k H locs ls hH hM hS hl
  by_cases c37 : z = 37
  · subst c37
    refine lv_tableIn (off := 1372) (tgt := 1405) hx hb dL_law_33 (by decide) (by decide) (by decide) (by decide) ?_
    exact law_case37 LC hcs g37 x3 ex3 hi hL σ τ hR k H locs ls hH hM hS hl
  by_cases c38 : z = 38
  · subst c38
    refine lv_tableIn (off := 1385) (tgt := 1418) hx hb dL_law_33 (by decide) (by decide) (by decide) (by decide) ?_
    exact law_case38 LC hcs g38 x3 ex3 hi hL σ τ hR k H locs ls hH hM hS hl
  refine lv_tableOut (tgt := 1441) hx hb dL_law_33 ?_ (by decide) (k σ τ H locs ls hR hH hM hS hl)
  have d0 := hw_ni c0 (z := 0) (by decide)
  have d1 := hw_ni c1 (z := 1) (by decide)
  have d2 := hw_ni c2 (z := 2) (by decide)
  have d3 := hw_ni c3 (z := 3) (by decide)
  have d4 := hw_ni c4 (z := 4) (by decide)
  have d5 := hw_ni c5 (z := 5) (by decide)
  have d6 := hw_ni c6 (z := 6) (by decide)
  have d7 := hw_ni c7 (z := 7) (by decide)
  have d8 := hw_ni c8 (z := 8) (by decide)
  have d9 := hw_ni c9 (z := 9) (by decide)
  have d10 := hw_ni c10 (z := 10) (by decide)
  have d11 := hw_ni c11 (z := 11) (by decide)
  have d12 := hw_ni c12 (z := 12) (by decide)
  have d13 := hw_ni c13 (z := 13) (by decide)
  have d14 := hw_ni c14 (z := 14) (by decide)
  have d15 := hw_ni c15 (z := 15) (by decide)
  have d16 := hw_ni c16 (z := 16) (by decide)
  have d17 := hw_ni c17 (z := 17) (by decide)
  have d18 := hw_ni c18 (z := 18) (by decide)
  have d19 := hw_ni c19 (z := 19) (by decide)
  have d20 := hw_ni c20 (z := 20) (by decide)
  have d21 := hw_ni c21 (z := 21) (by decide)
  have d22 := hw_ni c22 (z := 22) (by decide)
  have d23 := hw_ni c23 (z := 23) (by decide)
  have d24 := hw_ni c24 (z := 24) (by decide)
  have d25 := hw_ni c25 (z := 25) (by decide)
  have d26 := hw_ni c26 (z := 26) (by decide)
  have d27 := hw_ni c27 (z := 27) (by decide)
  have d28 := hw_ni c28 (z := 28) (by decide)
  have d29 := hw_ni c29 (z := 29) (by decide)
  have d30 := hw_ni c30 (z := 30) (by decide)
  have d31 := hw_ni c31 (z := 31) (by decide)
  have d32 := hw_ni c32 (z := 32) (by decide)
  have d33 := hw_ni c33 (z := 33) (by decide)
  have d34 := hw_ni c34 (z := 34) (by decide)
  have d35 := hw_ni c35 (z := 35) (by decide)
  have d36 := hw_ni c36 (z := 36) (by decide)
  have d37 := hw_ni c37 (z := 37) (by decide)
  have d38 := hw_ni c38 (z := 38) (by decide)
  omega
set_option maxRecDepth 20000 in
/-- the law's loop -/
theorem law_loop {p : Program} {l : Launch} {e : Env} {s : State} {m : MethodId} {below : List Frame} {meth : Method} {c : Code} {b L : Nat} {xs : Nat → Int32} {D : va_G} {cA : Nat → ClassId} {ad : Nat → Nat} {kc ks : Nat} {R : hw_St → hw_St → Prop} (LC : hw_Lc p l s m c b L xs D cA ad) (hr : meth.sig.returnType = ret) (hlocks : meth.locks = false) (hcs : kc ≤ 600000 ∧ ks ≤ 7302250) (hs : hw_Sims R) (hL : L ≤ 384) : ∀ (n i : Nat) (x3 : Int32) (σ τ : hw_St) (H : Heap) (locs : List Loc) (ls : Array Slot), i ≤ L → L - i < n → x3 = nI i → R σ τ → hw_W (hw_EH l D cA ad) σ H → hw_W (hw_EM l D cA ad) τ H → va_S (fun q : Nat => s.heap.size ≤ q) s.heap H locs → lv_has ls 4 [(3, .int x3), (2, .ref (ad 200)), (1, .ref (ad 0)), (0, .ref b)] → W p l e room_1 s m #[Value.ref b] below meth c H locs kc ks (lw_Z below #[Value.ref b] s) (F0 m 18 ls []) := by
  intro n
  induction n with
  | zero => intro i x3 σ τ H locs ls _ h; omega
  | succ n ih =>
    intro i x3 σ τ H locs ls hiL hn ex3 hR hH hM hS hl
    have LC' := LC
    obtain ⟨hx, hb, hml, hown, hts, hK, hApH, hApM, hHM, hnH, hnM, hN, hCH, hCM, hX, hbl⟩ := LC'
    have hbA : ¬ (fun q : Nat => s.heap.size ≤ q) b := Nat.not_le.mpr hbl
    refine lv_iload_n hx hb dL_law_18 rfl (lv_at hl 0 rfl) ?_
    refine lv_aload_n hx hb dL_law_19 rfl (lv_at hl 3 rfl) ?_
    refine va_slen hx hb hX hbl hbA hS dL_law_20 ?_
    refine lv_bipush (v := 6) hx hb dL_law_21 (by decide) ?_
    refine lv_isub hx hb dL_law_23 ?_
    have hcmp : (Int32.ofNat L - 6 < x3) ↔ ¬ (i + 6 ≤ L) := by
      rw [ex3, show Int32.ofNat L = nI L from rfl, Int32.lt_iff_toInt_lt, nI_toInt (by omega), show (6 : Int32) = nI 6 from rfl, pk_sub_toInt (by omega) (by omega)]
      omega
    refine lv_icmp_gt (tgt := 1447) hx hb dL_law_24 (by decide) (fun cc => ?_) (fun cc => ?_)
    · refine lv_iconst (v := 1) hx hb dL_law_1447 (by decide) ?_
      refine va_forget (fun q hq => hS.2.2 q hq) ?_
      refine W.widen hcs.1 hcs.2 ?_
      exact lw_ret hx hb hr hlocks dL_law_1448
    · have hi : i + 6 ≤ L := Classical.byContradiction (fun h => cc (hcmp.mpr h))
      have hin0 : vp_in x3 L := by rw [ex3]; exact vp_in_nI (by omega) (by omega)
      refine lv_aload_n hx hb dL_law_27 rfl (lv_at hl 3 rfl) ?_
      refine lv_iload_n hx hb dL_law_28 rfl (lv_at hl 0 rfl) ?_
      refine va_sld hx hb hX hbl hbA hS hin0 dL_law_29 ?_
      refine lv_bipush (v := 63) hx hb dL_law_30 (by decide) ?_
      refine lv_iand hx hb dL_law_32 ?_
      refine law_body LC hcs hs hL x3 ex3 hi σ τ hR (fun σ τ H locs ls hR hH hM hS hl => ?_) H locs ls hH hM hS hl _
      refine lv_iinc (v := nI (i + 6)) (lv' := [(3, .int (nI (i + 6))), (2, .ref (ad 200)), (1, .ref (ad 0)), (0, .ref b)]) hx hb dL_law_1441 hl (k := 0) rfl (by rw [ex3]; exact nI_add i 6) (by decide) rfl (fun ls hl => ?_)
      refine lv_goto (tgt := 18) hx hb dL_law_1444 (by decide) ?_
      exact ih (i + 6) _ σ τ H locs ls hi (by omega) rfl hR hH hM hS hl
