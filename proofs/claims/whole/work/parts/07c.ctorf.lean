theorem dv_X0 : ∀ j, j < 4 → defaultValue (tyX0 j) = vp_V [.int 0, .int 0, .null, .int 0] j := by decide
theorem dv_X1 : ∀ j, j < 7 → defaultValue (tyX1 j) = vp_V [.null, .int 0, .null, .int 0, .int 0, .int 0, .int 0] j := by decide
theorem dv_X2 : ∀ j, j < 10 → defaultValue (tyX2 j) = vp_V [.null, .null, .null, .null, .null, .int 0, .int 0, .int 0, .int 0, .int 0] j := by decide
theorem dv_X3 : ∀ j, j < 3 → defaultValue (tyX3 j) = vp_V [.int 0, .int 0, .null] j := by decide
theorem dv_X4 : ∀ j, j < 4 → defaultValue (tyX4 j) = vp_V [.int 0, .int 0, .null, .null] j := by decide
theorem dv_X5 : ∀ j, j < 7 → defaultValue (tyX5 j) = vp_V [.int 0, .int 0, .int 0, .int 0, .int 0, .int 0, .int 0] j := by decide
theorem dv_X6 : ∀ j, j < 12 → defaultValue (tyX6 j) = vp_V [.null, .null, .null, .int 0, .null, .null, .int 0, .null, .null, .null, .null, .int 0] j := by decide
theorem dv_X7 : ∀ j, j < 37 → defaultValue (tyX7 j) = vp_V [.null, .null, .null, .int 0, .null, .int 0, .int 0, .int 0, .null, .null, .int 0, .int 0, .int 0, .int 0, .int 0, .int 0, .int 0, .null, .null, .null, .int 0, .int 0, .null, .int 0, .null, .null, .null, .null, .null, .null, .null, .null, .null, .null, .null, .null, .int 0] j := by decide
theorem lf_X4_15 : hw_LF RX4 15 RX4 TX4 4 4 1 0 := ⟨by decide, by decide, mw_89, rfl⟩
theorem lf_X4_21 : hw_LF RX4 21 RX4 TX4 4 4 2 1 := ⟨by decide, by decide, mw_91, rfl⟩
theorem lf_X4_28 : hw_LF RX4 28 RX4 TX4 4 4 3 1 := ⟨by decide, by decide, mw_93, rfl⟩
theorem W_X5_init : hw_MW yX5_init cX5_init 1 none 0 := ⟨mw_45, mw_15, by decide, by decide +kernel⟩
theorem hw_in_X5_init : Cond.instanceMethod yX5_init ∈ hw_all := mw_44
theorem W_X0_init : hw_MW yX0_init cX0_init 1 none 0 := ⟨mw_50, mw_29, by decide, by decide +kernel⟩
theorem hw_in_X0_init : Cond.instanceMethod yX0_init ∈ hw_all := mw_49
theorem W_X3_init : hw_MW yX3_init cX3_init 1 none 0 := ⟨mw_80, mw_41, by decide, by decide +kernel⟩
theorem hw_in_X3_init : Cond.instanceMethod yX3_init ∈ hw_all := mw_79
theorem W_X4_init : hw_MW yX4_init cX4_init 1 none 0 := ⟨mw_86, mw_43, by decide, by decide +kernel⟩
theorem hw_in_X4_init : Cond.instanceMethod yX4_init ∈ hw_all := mw_85
theorem W_X1_init : hw_MW yX1_init cX1_init 2 none 1 := ⟨mw_75, mw_38, by decide, by decide +kernel⟩
theorem hw_in_X1_init : Cond.instanceMethod yX1_init ∈ hw_all := mw_74
theorem W_X2_init : hw_MW yX2_init cX2_init 4 none 2 := ⟨mw_55, mw_33, by decide, by decide +kernel⟩
theorem hw_in_X2_init : Cond.instanceMethod yX2_init ∈ hw_all := mw_54
theorem W_X6_init : hw_MW yX6_init cX6_init 4 none 0 := ⟨mw_8, mw_2, by decide, by decide +kernel⟩
theorem hw_in_X6_init : Cond.instanceMethod yX6_init ∈ hw_all := mw_7
theorem W_X7_init : hw_MW yX7_init cX7_init 2 none 0 := ⟨mw_96, mw_5, by decide, by decide +kernel⟩
theorem hw_in_X7_init : Cond.instanceMethod yX7_init ∈ hw_all := mw_95
theorem objw : Cond.instanceMethod objectInit ∈ hw_all ∧ Cond.code objectInit ⟨#[0xb1]⟩ 1 none ∈ hw_all := ⟨mw_10, mw_11⟩
theorem hw_arrV {cI : ClassId} {N : Nat} {f g : Nat → Value} (h : ∀ j, j < N → f j = g j) : arrV cI N f = arrV cI N g := by
  have e : (fun j : Fin N => f j.val) = fun j => g j.val := funext (fun j => h j.val j.isLt)
  unfold arrV
  rw [e]
set_option maxRecDepth 20000 in
theorem fill_loop {p : Program} {l : Launch} {e : Env} {R : Room} {s : State} {m : MethodId} {below : List Frame} {meth : Method} {c : Code} {D : va_G} {cA : Nat → ClassId} {A : Nat → Prop} {args : Array Value} {h0 : Nat} {x : Int32} {cells slots : Nat} {Q : State → Prop} (I : hw_Ic p s m args c cJ7_fill_53178 RJ7 4 D cA A s.heap)
    (kk : ∀ (H : Heap) (locs : List Loc) (ls : Array Slot), hw_V D A s.heap [(h0, .inl (cA 10, 24, .inl (fun _ => x)))] H locs → W p l e R s m args below meth c H locs cells slots Q (F0 m 20 ls [])) : ∀ (n i : Nat) (f : Nat → Int32) (H : Heap) (locs : List Loc) (ls : Array Slot), i ≤ 24 → 24 - i < n → (∀ j, j < i → f j = x) → hw_V D A s.heap [(h0, .inl (cA 10, 24, .inl f))] H locs → lv_has ls 4 [(3, .int 24), (2, .int (nI i)), (1, .int x), (0, .ref h0)] → W p l e R s m args below meth c H locs cells slots Q (F0 m 5 ls []) := by
  intro n
  induction n with
  | zero => intro i f H locs ls _ h; omega
  | succ n ih =>
    intro i f H locs ls hi hn hf V hl
    refine lv_iload_n I.1 I.2.1 dJ7_fill_53178_5 rfl (lv_at hl 1 rfl) ?_
    refine lv_iload_n I.1 I.2.1 dJ7_fill_53178_6 rfl (lv_at hl 0 rfl) ?_
    refine lv_icmp_ge (tgt := 20) I.1 I.2.1 dJ7_fill_53178_7 (by decide) (fun z => ?_) (fun z => ?_)
    · refine kk H locs ls ?_
      have h24 : i = 24 := by
        have : ¬ i < 24 := fun h => nI_ge h (by omega) z
        omega
      obtain ⟨V1, V2, V3⟩ := V
      refine ⟨fun k q hq => ?_, ⟨fun a b p q ha hb e => ?_, fun k q hq => ?_⟩, V3⟩
      · have hk : k = 0 := by
          have := (List.getElem?_eq_some_iff.mp hq).1
          simp at this
          omega
        subst hk
        cases hq
        have h := V1 0 _ rfl
        show H[h0]? = some (vp_cell _ _)
        have h2 : H[h0]? = some (vp_cell (cA 10) (24, .inl f)) := h
        rw [h2, vp_cell_i, vp_cell_i]
        rw [hw_arrV (g := fun _ => Value.int x) (fun j hj => by rw [hf j (by omega)])]
      · have h1 := (List.getElem?_eq_some_iff.mp ha).1
        have h2 := (List.getElem?_eq_some_iff.mp hb).1
        simp at h1 h2
        omega
      · have hk : k = 0 := by
          have := (List.getElem?_eq_some_iff.mp hq).1
          simp at this
          omega
        subst hk
        cases hq
        exact V2.2 0 (h0, .inl (cA 10, 24, .inl f)) rfl
    · have hlt : i < 24 := Classical.byContradiction (fun h => z (nI_le (a := 24) (by omega) (by omega)))
      refine lv_aload_n I.1 I.2.1 dJ7_fill_53178_10 rfl (lv_at hl 3 rfl) ?_
      refine lv_iload_n I.1 I.2.1 dJ7_fill_53178_11 rfl (lv_at hl 1 rfl) ?_
      refine lv_iload_n I.1 I.2.1 dJ7_fill_53178_12 rfl (lv_at hl 2 rfl) ?_
      refine hw_i_iast (q0 := 0) (j := i) I V rfl (vp_in_nI hlt (by omega)) (nI_clamp (by omega)) rfl dJ7_fill_53178_13 (fun H locs V => ?_)
      refine lv_iinc (v := nI (i + 1)) (lv' := [(2, .int (nI (i + 1))), (3, .int 24), (1, .int x), (0, .ref h0)]) I.1 I.2.1 dJ7_fill_53178_14 hl (k := 1) rfl (nI_1 i) (by decide) rfl (fun ls hl => ?_)
      refine lv_goto (tgt := 5) I.1 I.2.1 dJ7_fill_53178_17 (by decide) ?_
      refine ih (i + 1) _ H locs ls (by omega) (by omega) (fun j hj => ?_) V (lv_sub hl [1, 0, 2, 3] rfl)
      unfold upd
      split
      · rfl
      · exact hf j (by omega)
set_option maxRecDepth 20000 in
theorem I_J7_fill_53178 (l : Launch) (D : va_G) (cA : Nat → ClassId) (h0 : Nat) (h1 : Int32) : hw_IM l D cA yJ7_fill_53178 cJ7_fill_53178 4 1 20 0 0 [.ref h0, .int h1] [(h0, .inl (cA 10, 24, .inl (fun _ => 0)))] (fun wq => wq = [(h0, .inl (cA 10, 24, .inl (fun _ => h1)))]) := by
  refine hw_ientry (own := RJ7) (by decide) rfl (hw_cV rfl (hw_cV rfl hw_cN)) (hw_l8 rfl) ?_
  intro p e s m below meth c A ls I hr hlocks hname V hl
  have hl : lv_has ls 4 [(0, .ref h0), (1, .int h1)] := hl
  refine lv_iconst (v := 0) I.1 I.2.1 dJ7_fill_53178_0 (by decide) ?_
  refine lv_istore_n (lv' := [(2, .int 0), (0, .ref h0), (1, .int h1)]) I.1 I.2.1 dJ7_fill_53178_1 rfl hl (by decide) rfl (fun ls hl => ?_)
  refine lv_aload_n I.1 I.2.1 dJ7_fill_53178_2 rfl (lv_at hl 1 rfl) ?_
  refine hw_i_alen (v := 24) (q0 := 0) (t0 := 0) I V (fun _ => rfl) rfl (by decide) dJ7_fill_53178_3 ?_
  refine lv_istore_n (lv' := [(3, .int 24), (2, .int 0), (0, .ref h0), (1, .int h1)]) I.1 I.2.1 dJ7_fill_53178_4 rfl hl (by decide) rfl (fun ls hl => ?_)
  refine fill_loop I (fun H locs ls V => hw_iret0 (B := fun wq => wq = [(h0, .inl (cA 10, 24, .inl (fun _ => h1)))]) I hr hlocks V rfl ⟨Nat.le_refl _, Nat.le_refl _⟩ dJ7_fill_53178_20) 25 0 _ _ _ ls (by omega) (by omega) (fun j hj => absurd hj (Nat.not_lt_zero j)) V (lv_sub hl [0, 1, 3, 2] rfl)
