/-! states, cells, worlds -/
abbrev hw_St : Type := Nat → Nat → Int32
def hw_upA (σ : hw_St) (t : Nat) (f : Nat → Int32) : hw_St := fun a => if a = t then f else σ a
def hw_up (σ : hw_St) (t k : Nat) (v : Int32) : hw_St := hw_upA σ t (upd (σ t) k v)
def hw_nm {α β : Type} (a : α) (f : α → β) : β := f a
def hw_gd {α : Type} (b : Bool) (x : Option α) : Option α := if b = true then x else none
def hw_inb (i : Int32) (n : Nat) : Bool := decide (¬ (i < 0 ∨ n ≤ i.toNatClampNeg))
theorem hw_inb_in {i : Int32} {n : Nat} (h : hw_inb i n = true) : vp_in i n := of_decide_eq_true (p := ¬ (i < 0 ∨ n ≤ i.toNatClampNeg)) h
def hw_nz (y : Int32) : Bool := decide (¬ y = 0)
def hw_isb (x : Int32) : Bool := decide (x = 0 ∨ x = 1)
def hw_rem (x y : Int32) : Int32 := x - x / y * y
def hw_ushr (x y : Int32) : Int32 := (x.toUInt32 >>> (y.toUInt32 &&& Int32.toUInt32 31)).toInt32
def hw_i2c (x : Int32) : Int32 := (x.toUInt32 % 65536).toInt32
def hw_max (x y : Int32) : Int32 := if x < y then y else x
def hw_min (x y : Int32) : Int32 := if y < x then y else x
def hw_abs (x : Int32) : Int32 := if 0 ≤ x then x else 0 - x
def hw_cpo (sp dp n : Int32) (n0 n1 : Nat) : Bool := decide (¬ sp < 0 ∧ ¬ dp < 0 ∧ ¬ n < 0 ∧ sp.toNatClampNeg + n.toNatClampNeg ≤ n0 ∧ dp.toNatClampNeg + n.toNatClampNeg ≤ n1)
/-- a reference by its tag; 999 is null -/
def hw_rv (ad : Nat → Nat) (t : Nat) : Value := if t = 999 then .null else .ref (ad t)
theorem hw_rv_ref {ad : Nat → Nat} {t : Nat} (h : t ≠ 999) : hw_rv ad t = .ref (ad t) := if_neg h
theorem hw_rv_cat (ad : Nat → Nat) (t : Nat) : (hw_rv ad t).category = 1 := by
  unfold hw_rv; split <;> rfl
def hw_fv (ad : Nat → Nat) (ci t : Nat) (f : Nat → Int32) (k : Nat) : Value := if hw_fk ci k = 0 then .int (f k) else if hw_fk ci k = 1 then hw_rv ad (hw_fl t k) else hw_rv ad (f k).toNatClampNeg
def hw_fs (ad : Nat → Nat) (ci t : Nat) (f : Nat → Int32) : List Value := (List.range (hw_nf ci)).map (hw_fv ad ci t f)
def hw_re (cA : Nat → ClassId) (ad : Nat → Nat) (t : Nat) (f : Nat → Int32) : va_E :=
  if hw_kd t < 10 then .inr (hw_kd t, hw_fs ad (hw_kd t) t f)
  else if hw_kd t < 20 then .inl (cA (hw_kd t), hw_ln t, .inl f)
  else .inl (cA (hw_kd t), hw_ln t, .inr (.inr (.inr (.inr (fun j => some (ad (hw_el t j)))))))
def hw_ty (cA : Nat → ClassId) : List (ClassId × FieldType) := [(cA 10, .int), (cA 11, .byte), (cA 12, .char), (cA 13, .boolean), (cA 20, .object "HumWire$Law"), (cA 21, .object "HumWire$Wire"), (cA 22, .object "HumWire$Sheet"), (cA 23, .object "HumWire$Slot")]
def hw_ws (TL : List Nat) (cA : Nat → ClassId) (ad : Nat → Nat) (σ : hw_St) : va_W := TL.map (fun t => (ad t, hw_re cA ad t (σ t)))
/-- launch, classes and slots, array classes, tags, addresses -/
abbrev hw_E : Type := Launch × va_G × (Nat → ClassId) × List Nat × (Nat → Nat)
abbrev hw_eL (E : hw_E) : Launch := E.1
abbrev hw_eD (E : hw_E) : va_G := E.2.1
abbrev hw_eC (E : hw_E) : Nat → ClassId := E.2.2.1
abbrev hw_eT (E : hw_E) : List Nat := E.2.2.2.1
abbrev hw_ea (E : hw_E) : Nat → Nat := E.2.2.2.2
def hw_W (E : hw_E) (σ : hw_St) (H : Heap) : Prop := va_P (hw_eD E) vwCl (hw_ws (hw_eT E) (hw_eC E) (hw_ea E) σ) H
def hw_A (E : hw_E) : Nat → Prop := fun q => ∃ t, t ∈ hw_eT E ∧ q = hw_ea E t
def hw_Ap (E : hw_E) : Prop := (∀ (i j t : Nat), (hw_eT E)[i]? = some t → (hw_eT E)[j]? = some t → i = j) ∧ ∀ t ∈ hw_eT E, ∀ u ∈ hw_eT E, hw_ea E t = hw_ea E u → t = u
def hw_Cs (E : hw_E) (U : State) (H : Heap) : Prop :=
  va_Z "HumWire" "KIND_ABOVE" "[I" (.ref (hw_ea E 950)) (hw_A E) U H ∧ va_T .int (hw_ea E 950) 6 (fun j => .int (hw_ka.getD j 0)) (hw_A E) U H ∧
  vk_S 6 hw_sl hw_sb (fun i => hw_ea E (900 + i)) (fun i => hw_ea E (910 + i)) (hw_A E) U H ∧ va_Z "java/lang/String" "COMPACT_STRINGS" "Z" (.int 1) (hw_A E) U H ∧ va_Zq "jdk/internal/util/Preconditions" "SIOOBE_FORMATTER" "Ljava/util/function/BiFunction;" (hw_A E) U H
theorem hw_Cs.moved {E : hw_E} {u U : State} {H : Heap} (hvm : u.vm.Alike U.vm) (h : hw_Cs E u H) : hw_Cs E U H :=
  ⟨h.1.moved hvm, h.2.1.moved hvm, h.2.2.1.moved hvm, h.2.2.2.1.moved hvm, h.2.2.2.2.moved hvm⟩
theorem hw_Cs.kept {E : hw_E} {U : State} {H H1 : Heap} (h : hw_Cs E U H) (hq : ∀ a : Nat, a < H.size → ¬ hw_A E a → H1[a]? = H[a]?) : hw_Cs E U H1 :=
  ⟨h.1.kept hq, h.2.1.kept hq, h.2.2.1.kept hq, h.2.2.2.1.kept hq, h.2.2.2.2.kept hq⟩
/-- words that want the tables' own warmth: nest mates' private methods, String constants -/
def hw_Nw (E : hw_E) (U : State) : Prop :=
  va_Nw (.methodLinkNest RX2 65 yX6_isWithin RX6) U ∧ va_Nw (.methodLinkNest RX2 74 yX6_within RX6) U ∧ va_Nw (.methodLinkNest RX3 34 yX6_isWithin RX6) U ∧
  vk_R RX1 67 "band" (hw_ea E 900) U ∧ vk_R RX1 73 "push" (hw_ea E 901) U ∧ vk_R RX1 75 "tire" (hw_ea E 902) U ∧ vk_R RX1 121 "eos" (hw_ea E 903) U ∧ vk_R RX1 123 "as" (hw_ea E 904) U ∧ vk_R RX1 125 "slh" (hw_ea E 905) U
theorem hw_Nw.warm {E : hw_E} {s U : State} (hW : s.WarmedH U.vm) (h : hw_Nw E s) : hw_Nw E U := by
  obtain ⟨h1, h2, h3, h4, h5, h6, h7, h8, h9⟩ := h
  exact ⟨va_Nw.warmM hW h1, va_Nw.warmM hW h2, va_Nw.warmM hW h3, h4.warm hW, h5.warm hW, h6.warm hW, h7.warm hW, h8.warm hW, h9.warm hW⟩
theorem hw_Nw.same {E : hw_E} {u U : State} (hv : U.vm = u.vm) (h : hw_Nw E u) : hw_Nw E U := by
  obtain ⟨h1, h2, h3, h4, h5, h6, h7, h8, h9⟩ := h
  exact ⟨h1.same rfl hv.symm, h2.same rfl hv.symm, h3.same rfl hv.symm, h4.same hv, h5.same hv, h6.same hv, h7.same hv, h8.same hv, h9.same hv⟩
def hw_Wd (E : hw_E) (σ : hw_St) (U : State) : Prop := hw_W E σ U.heap ∧ va_K (hw_eD E) vwCl (hw_ty (hw_eC E)) U ∧ hw_Ap E ∧ hw_Nw E U ∧ hw_Cs E U U.heap
def hw_rm (d : Nat) : Room := { frames := d + 1, cells := 0, slots := 0, locals := 40 * (d + 1) }
def hw_Q {α : Type} (E : hw_E) (rr : α → Option Value) (r : α) (σ : hw_St) : Array Value → State → Outcome → State → Prop := fun _ st oc t => oc = .returned (rr r) ∧ hw_W E σ t.heap ∧ va_F (hw_A E) st t
/-- the contract: where the pure function X gives an answer, the method gives it -/
def hw_M {α : Type} (E : hw_E) (y : MethodName) (cc : ByteArray) (mL : Nat) (ret : Option FieldType) (d : Nat) (av : List Value) (σ : hw_St) (rr : α → Option Value) (X : Option (α × hw_St)) : Prop :=
  ∀ (r : α) (σ' : hw_St), X = some (r, σ') → Met (hw_eL E) y (.code y cc mL ret :: hw_all) (hw_rm d) (va_Pc av (hw_Wd E σ)) (hw_Q E rr r σ') 0 0 (hw_A E)
abbrev hw_G : Type := hw_E × Program × Env × Room × State × MethodId × Array Value × List Frame × Method × Code
abbrev hw_gE (G : hw_G) : hw_E := G.1
abbrev hw_gp (G : hw_G) : Program := G.2.1
abbrev hw_ge (G : hw_G) : Env := G.2.2.1
abbrev hw_gR (G : hw_G) : Room := G.2.2.2.1
abbrev hw_gs (G : hw_G) : State := G.2.2.2.2.1
abbrev hw_gm (G : hw_G) : MethodId := G.2.2.2.2.2.1
abbrev hw_ga (G : hw_G) : Array Value := G.2.2.2.2.2.2.1
abbrev hw_gb (G : hw_G) : List Frame := G.2.2.2.2.2.2.2.1
abbrev hw_gM_ (G : hw_G) : Method := G.2.2.2.2.2.2.2.2.1
abbrev hw_gc (G : hw_G) : Code := G.2.2.2.2.2.2.2.2.2
def hw_Ok (G : hw_G) (cc : ByteArray) (own : String) (nL d : Nat) (ret : Option FieldType) (TL : List Nat) : Prop :=
  (hw_gp G).tables.exec = Jvm.exec ∧ (hw_gc G).code = cc ∧ (hw_gc G).maxLocals = nL ∧ (hw_gs G).vm.findClass own = some (hw_gm G).cls ∧ (∀ w ∈ hw_all, w.before (hw_ga G) (hw_gs G) = true) ∧ va_K (hw_eD (hw_gE G)) vwCl (hw_ty (hw_eC (hw_gE G))) (hw_gs G) ∧ hw_Ap (hw_gE G) ∧ hw_Nw (hw_gE G) (hw_gs G) ∧ hw_Cs (hw_gE G) (hw_gs G) (hw_gs G).heap ∧ (hw_gM_ G).locks = false ∧ (hw_gM_ G).sig.returnType = ret ∧ hw_gR G = hw_rm d ∧ hw_eT (hw_gE G) = TL
def hw_c1 (lv : List (Nat × Value)) (st : List Value) : Prop := (∀ q ∈ lv, q.2.category = 1) ∧ ∀ v ∈ st, v.category = 1
abbrev hw_WW {α : Type} (G : hw_G) (rr : α → Option Value) (r : α) (σ' : hw_St) (H : Heap) (locs : List Loc) (g : JFrame) : Prop :=
  W (hw_gp G) (hw_eL (hw_gE G)) (hw_ge G) (hw_gR G) (hw_gs G) (hw_gm G) (hw_ga G) (hw_gb G) (hw_gM_ G) (hw_gc G) H locs 0 0 (MQ (hw_gb G) (hw_Q (hw_gE G) rr r σ') (hw_ga G) (hw_gs G) 0 0 (hw_A (hw_gE G))) g
/-- the judgement: from pc on, with these locals, this stack, this state, the machine does what X says -/
def hw_K {α : Type} (G : hw_G) (nL : Nat) (rr : α → Option Value) (X : Option (α × hw_St)) (pc : Nat) (lv : List (Nat × Value)) (st : List Value) (σ : hw_St) : Prop :=
  ∀ (r : α) (σ' : hw_St), X = some (r, σ') → hw_c1 lv st → ∀ (H : Heap) (locs : List Loc) (ls : Array Slot), hw_W (hw_gE G) σ H → va_S (hw_A (hw_gE G)) (hw_gs G).heap H locs → lv_has ls nL lv → hw_WW G rr r σ' H locs (F0 (hw_gm G) pc ls st)
def hw_ri (r : Int32) : Option Value := some (.int r)
def hw_r0 (_ : Unit) : Option Value := none
def hw_rq (ad : Nat → Nat) (t : Nat) : Option Value := some (hw_rv ad t)
/-! the world's list -/
theorem hw_ws_at {TL : List Nat} {cA : Nat → ClassId} {ad : Nat → Nat} {σ : hw_St} {i t : Nat} (h : TL[i]? = some t) : (hw_ws TL cA ad σ)[i]? = some (ad t, hw_re cA ad t (σ t)) := by
  simp [hw_ws, h]
theorem hw_ws_of {TL : List Nat} {cA : Nat → ClassId} {ad : Nat → Nat} {σ : hw_St} {i : Nat} {q : Nat × va_E} (h : (hw_ws TL cA ad σ)[i]? = some q) : ∃ t, TL[i]? = some t ∧ q = (ad t, hw_re cA ad t (σ t)) := by
  rw [hw_ws, List.getElem?_map] at h
  cases hi : TL[i]? with
  | none => rw [hi] at h; cases h
  | some t => rw [hi] at h; exact ⟨t, rfl, (Option.some.inj h).symm⟩
theorem hw_ws_set {E : hw_E} (hA : hw_Ap E) {σ : hw_St} {i t : Nat} {f : Nat → Int32} (h : (hw_eT E)[i]? = some t) : (hw_ws (hw_eT E) (hw_eC E) (hw_ea E) σ).set i (hw_ea E t, hw_re (hw_eC E) (hw_ea E) t f) = hw_ws (hw_eT E) (hw_eC E) (hw_ea E) (hw_upA σ t f) := by
  apply List.ext_getElem?
  intro j
  rw [List.getElem?_set]
  by_cases hj : i = j
  · subst hj
    have hl : i < (hw_ws (hw_eT E) (hw_eC E) (hw_ea E) σ).length := (List.getElem?_eq_some_iff.mp (hw_ws_at h)).1
    rw [if_pos rfl, if_pos hl, hw_ws_at h]
    simp [hw_upA]
  · rw [if_neg hj]
    cases hc : (hw_eT E)[j]? with
    | none => simp [hw_ws, hc]
    | some u =>
      have hne : u ≠ t := fun e => hj (hA.1 i j t h (by rw [hc, e]))
      rw [hw_ws_at hc, hw_ws_at hc]
      simp [hw_upA, hne]
theorem hw_D {E : hw_E} (hA : hw_Ap E) (σ : hw_St) : va_D (hw_A E) (hw_ws (hw_eT E) (hw_eC E) (hw_ea E) σ) := by
  refine ⟨fun i j p q hp hq e => ?_, fun k q h => ?_⟩
  · obtain ⟨t, h1, rfl⟩ := hw_ws_of hp
    obtain ⟨u, h2, rfl⟩ := hw_ws_of hq
    have : t = u := hA.2 t (List.mem_of_getElem? h1) u (List.mem_of_getElem? h2) e
    subst this
    exact hA.1 i j t h1 h2
  · obtain ⟨t, h1, rfl⟩ := hw_ws_of h
    exact ⟨t, List.mem_of_getElem? h1, rfl⟩
theorem hw_tag {TL : List Nat} {t c : Nat} (h : hw_T TL t c) : ∃ i : Nat, TL[i]? = some t := List.getElem?_of_mem h.1
theorem hw_kd999 : hw_kd 999 = 99 := by decide
theorem hw_T.ne {TL : List Nat} {t c : Nat} (h : hw_T TL t c) (hc : c < 90) : t ≠ 999 := fun e => by
  have h2 := h.2
  rw [e, hw_kd999] at h2
  omega
theorem hw_re_o {cA : Nat → ClassId} {ad : Nat → Nat} {t c : Nat} {f : Nat → Int32} (h : hw_kd t = c) (hc : c < 10) : hw_re cA ad t f = .inr (c, hw_fs ad c t f) := by
  subst h; unfold hw_re; rw [if_pos hc]
theorem hw_re_i {cA : Nat → ClassId} {ad : Nat → Nat} {t c : Nat} {f : Nat → Int32} (h : hw_kd t = c) (hc : ¬ c < 10) (hd : c < 20) : hw_re cA ad t f = .inl (cA c, hw_ln t, .inl f) := by
  subst h; unfold hw_re; rw [if_neg hc, if_pos hd]
theorem hw_re_q {cA : Nat → ClassId} {ad : Nat → Nat} {t c : Nat} {f : Nat → Int32} (h : hw_kd t = c) (hc : ¬ c < 10) (hd : ¬ c < 20) : hw_re cA ad t f = .inl (cA c, hw_ln t, .inr (.inr (.inr (.inr (fun j => some (ad (hw_el t j))))))) := by
  subst h; unfold hw_re; rw [if_neg hc, if_neg hd]
theorem hw_rg {α : Type} (N : Nat) (g : Nat → α) (j : Nat) : ((List.range N).map g)[j]? = if j < N then some (g j) else none := by
  rw [List.getElem?_map]
  by_cases h : j < N
  · rw [if_pos h, List.getElem?_range h]; rfl
  · rw [if_neg h, List.getElem?_eq_none (by rw [List.length_range]; omega)]; rfl
theorem hw_fs_at {ad : Nat → Nat} {ci t k : Nat} {f : Nat → Int32} (h : k < hw_nf ci) : (hw_fs ad ci t f)[k]? = some (hw_fv ad ci t f k) := by
  rw [hw_fs, hw_rg, if_pos h]
theorem hw_fs_len (ad : Nat → Nat) (ci t : Nat) (f : Nat → Int32) : (hw_fs ad ci t f).length = hw_nf ci := by
  rw [hw_fs, List.length_map, List.length_range]
theorem hw_fs_set {ad : Nat → Nat} {ci t k : Nat} {f : Nat → Int32} {x : Int32} {v : Value} (h : k < hw_nf ci) (hv : hw_fv ad ci t (upd f k x) k = v) : (hw_fs ad ci t f).set k v = hw_fs ad ci t (upd f k x) := by
  apply List.ext_getElem?
  intro j
  rw [List.getElem?_set]
  by_cases hj : k = j
  · subst hj
    rw [if_pos rfl, if_pos (by rw [hw_fs_len]; exact h), hw_fs_at h, hv]
  · rw [if_neg hj, hw_fs, hw_fs, hw_rg, hw_rg]
    have hu : upd f k x j = f j := by unfold upd; rw [if_neg (fun e => hj e.symm)]
    have e : hw_fv ad ci t f j = hw_fv ad ci t (upd f k x) j := by
      unfold hw_fv
      rw [hu]
    rw [e]
