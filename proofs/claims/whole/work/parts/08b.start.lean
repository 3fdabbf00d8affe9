theorem hw_t1 {w : Cond} (i : Nat) (h : tables_1_1[i]? = some w) : w ∈ lw_tbl := List.mem_append_right _ (List.mem_append_left _ (List.mem_of_getElem? h))
theorem hw_t2 {w : Cond} (i : Nat) (h : tables_1_2[i]? = some w) : w ∈ lw_tbl := List.mem_append_right _ (List.mem_append_right _ (List.mem_append_left _ (List.mem_of_getElem? h)))
theorem hw_t3 {w : Cond} (i : Nat) (h : tables_1_3[i]? = some w) : w ∈ lw_tbl := List.mem_append_right _ (List.mem_append_right _ (List.mem_append_right _ (List.mem_append_left _ (List.mem_of_getElem? h))))
theorem hw_t4 {w : Cond} (i : Nat) (h : tables_1_4[i]? = some w) : w ∈ lw_tbl := List.mem_append_right _ (List.mem_append_right _ (List.mem_append_right _ (List.mem_append_right _ (List.mem_append_left _ (List.mem_of_getElem? h)))))
theorem hw_t5 {w : Cond} (i : Nat) (h : tables_1_5[i]? = some w) : w ∈ lw_tbl := List.mem_append_right _ (List.mem_append_right _ (List.mem_append_right _ (List.mem_append_right _ (List.mem_append_right _ (List.mem_append_left _ (List.mem_of_getElem? h))))))
theorem hw_t6 {w : Cond} (i : Nat) (h : tables_1_6[i]? = some w) : w ∈ lw_tbl := List.mem_append_right _ (List.mem_append_right _ (List.mem_append_right _ (List.mem_append_right _ (List.mem_append_right _ (List.mem_append_right _ (List.mem_of_getElem? h))))))
theorem tn_RX2_65 : Cond.methodLinkNest RX2 65 yX6_isWithin RX6 ∈ lw_tbl := hw_t2 44 rfl
theorem tn_RX2_74 : Cond.methodLinkNest RX2 74 yX6_within RX6 ∈ lw_tbl := hw_t2 105 rfl
theorem tn_RX3_34 : Cond.methodLinkNest RX3 34 yX6_isWithin RX6 ∈ lw_tbl := hw_t3 22 rfl
theorem tn_RX6_15 : Cond.methodLinkNest RX6 15 yX5_init RX6 ∈ lw_tbl := hw_t1 27 rfl
theorem tn_RX6_49 : Cond.methodLinkNest RX6 49 yX0_init RX6 ∈ lw_tbl := hw_t1 71 rfl
theorem tn_RX6_75 : Cond.methodLinkNest RX6 75 yX3_init RX6 ∈ lw_tbl := hw_t1 175 rfl
theorem tn_RX6_76 : Cond.methodLinkNest RX6 76 yX4_init RX6 ∈ lw_tbl := hw_t1 192 rfl
theorem tn_RX2_54 : Cond.methodLinkNest RX2 54 yX5_init RX6 ∈ lw_tbl := hw_t1 105 rfl
theorem tn_RX4_20 : Cond.methodLinkNest RX4 20 yX5_init RX6 ∈ lw_tbl := hw_t1 197 rfl
theorem tn_RX4_27 : Cond.methodLinkNest RX4 27 yX3_init RX6 ∈ lw_tbl := hw_t1 199 rfl
theorem ts_67 : Cond.stringRef RX1 67 "band" ∈ lw_tbl := hw_t3 57 rfl
theorem ts_73 : Cond.stringRef RX1 73 "push" ∈ lw_tbl := hw_t3 110 rfl
theorem ts_75 : Cond.stringRef RX1 75 "tire" ∈ lw_tbl := hw_t3 111 rfl
theorem ts_121 : Cond.stringRef RX1 121 "eos" ∈ lw_tbl := hw_t3 157 rfl
theorem ts_123 : Cond.stringRef RX1 123 "as" ∈ lw_tbl := hw_t3 158 rfl
theorem ts_125 : Cond.stringRef RX1 125 "slh" ∈ lw_tbl := hw_t3 159 rfl
theorem tl_KA : Cond.laysStatic "HumWire" "KIND_ABOVE" "[I" ∈ lw_tbl := hw_t2 61 rfl
theorem tl_CS : Cond.laysStatic "java/lang/String" "COMPACT_STRINGS" "Z" ∈ lw_tbl := hw_t3 71 rfl
theorem tl_SF : Cond.laysStatic "jdk/internal/util/Preconditions" "SIOOBE_FORMATTER" "Ljava/util/function/BiFunction;" ∈ lw_tbl := hw_t3 87 rfl
theorem ti_SF : Cond.initialized "jdk/internal/util/Preconditions" ∈ lw_tbl := hw_t1 13 rfl
theorem ti_S : Cond.initialized "java/lang/String" ∈ lw_tbl := hw_t1 11 rfl
theorem ti_H : Cond.initialized "HumWire" ∈ lw_tbl := hw_t1 1 rfl
theorem ta_Law : Cond.arrayOver (.object "HumWire$Law") ∈ lw_tbl := hw_t1 69 rfl
theorem ta_Wire : Cond.arrayOver (.object "HumWire$Wire") ∈ lw_tbl := hw_t1 100 rfl
theorem ta_Sheet : Cond.arrayOver (.object "HumWire$Sheet") ∈ lw_tbl := hw_t1 65 rfl
theorem ta_Slot : Cond.arrayOver (.object "HumWire$Slot") ∈ lw_tbl := hw_t1 67 rfl
theorem hw_arrP {ty : FieldType} {s : State} {args : Array Value} (h : (Cond.arrayClass ty).before args s = true) (hty : ∀ C, ty ≠ .object C) : ∃ c, ArrOfT s c ty ∧ va_RA s c ty := by
  obtain ⟨c, k, comp, h1, h2, h3⟩ := Cond.arrayClass_spec h
  refine ⟨c, fun N z => ⟨(fun k h => by cases h), k, h2, comp, h3⟩, ?_⟩
  cases ty with
  | object C => exact absurd rfl (hty C)
  | _ => exact h1
theorem hw_arrQ {n : String} {s : State} {args : Array Value} (h : (Cond.arrayOver (.object n)).before args s = true) : ∃ c, ArrOfT s c (.object n) ∧ va_RA s c (.object n) := by
  obtain ⟨comp, c, k, h1, h2, h3, h4, h5⟩ := Cond.arrayOver_spec h
  exact ⟨c, fun N z => ⟨(fun k h => by cases h), k, h3, comp, h4⟩, k, comp, h3, h4, h1, h5⟩
theorem hw_start_K {s : State} {args : Array Value} (hts : ∀ w ∈ hw_all, w.before args s = true) (ht0 : ∀ w ∈ lw_tbl, w.before args s = true) : ∃ (D : va_G) (cA : Nat → ClassId), va_K D vwCl (hw_ty cA) s := by
  obtain ⟨c0, iS0, hK0⟩ := u_known (C := RX0) (T := TX0) (N := 4) (n := 4) hts inX0 (hts (.instantiable RX0 4) mw_28)
  obtain ⟨c1, iS1, hK1⟩ := u_known (C := RX1) (T := TX1) (N := 7) (n := 7) hts inX1 (hts (.instantiable RX1 7) mw_37)
  obtain ⟨c2, iS2, hK2⟩ := u_known (C := RX2) (T := TX2) (N := 10) (n := 10) hts inX2 (hts (.instantiable RX2 10) mw_32)
  obtain ⟨c3, iS3, hK3⟩ := u_known (C := RX3) (T := TX3) (N := 3) (n := 3) hts inX3 (hts (.instantiable RX3 3) mw_40)
  obtain ⟨c4, iS4, hK4⟩ := u_known (C := RX4) (T := TX4) (N := 4) (n := 4) hts inX4 (hts (.instantiable RX4 4) mw_42)
  obtain ⟨c5, iS5, hK5⟩ := u_known (C := RX5) (T := TX5) (N := 7) (n := 7) hts inX5 (hts (.instantiable RX5 7) mw_14)
  obtain ⟨c6, iS6, hK6⟩ := u_known (C := RX6) (T := TX6) (N := 12) (n := 12) hts inX6 (hts (.instantiable RX6 12) mw_1)
  obtain ⟨c7, iS7, hK7⟩ := u_known (C := RX7) (T := TX7) (N := 37) (n := 37) hts inX7 (hts (.instantiable RX7 37) mw_4)
  obtain ⟨a10, ha10⟩ := hw_arrP (hts (.arrayClass .int) mw_24) (fun _ h => by cases h)
  obtain ⟨a11, ha11⟩ := hw_arrP (hts (.arrayClass .byte) mw_17) (fun _ h => by cases h)
  obtain ⟨a12, ha12⟩ := hw_arrP (hts (.arrayClass .char) mw_104) (fun _ h => by cases h)
  obtain ⟨a13, ha13⟩ := hw_arrP (hts (.arrayClass .boolean) mw_109) (fun _ h => by cases h)
  obtain ⟨a20, ha20⟩ := hw_arrQ (ht0 _ ta_Law)
  obtain ⟨a21, ha21⟩ := hw_arrQ (ht0 _ ta_Wire)
  obtain ⟨a22, ha22⟩ := hw_arrQ (ht0 _ ta_Sheet)
  obtain ⟨a23, ha23⟩ := hw_arrQ (ht0 _ ta_Slot)
  refine ⟨(fun k => match k with | 0 => c0 | 1 => c1 | 2 => c2 | 3 => c3 | 4 => c4 | 5 => c5 | 6 => c6 | _ => c7, fun k => match k with | 0 => iS0 | 1 => iS1 | 2 => iS2 | 3 => iS3 | 4 => iS4 | 5 => iS5 | 6 => iS6 | _ => iS7), fun k => match k with | 10 => a10 | 11 => a11 | 12 => a12 | 13 => a13 | 20 => a20 | 21 => a21 | 22 => a22 | _ => a23, ?_, ?_⟩
  · intro k q hq
    match k, hq with
    | 0, hq => cases hq; exact hK0
    | 1, hq => cases hq; exact hK1
    | 2, hq => cases hq; exact hK2
    | 3, hq => cases hq; exact hK3
    | 4, hq => cases hq; exact hK4
    | 5, hq => cases hq; exact hK5
    | 6, hq => cases hq; exact hK6
    | 7, hq => cases hq; exact hK7
    | k + 8, hq => simp [vwCl] at hq
  · intro k q hq
    match k, hq with
    | 0, hq => cases hq; exact ha10
    | 1, hq => cases hq; exact ha11
    | 2, hq => cases hq; exact ha12
    | 3, hq => cases hq; exact ha13
    | 4, hq => cases hq; exact ha20
    | 5, hq => cases hq; exact ha21
    | 6, hq => cases hq; exact ha22
    | 7, hq => cases hq; exact ha23
    | k + 8, hq => simp [hw_ty] at hq
def hw_tm (i : Nat) : Term := .string "HumWire$Reader" (([67, 73, 75, 121, 123, 125] : List Nat).getD i 0)
theorem hw_start_N {s : State} {args : Array Value} (ht0 : ∀ w ∈ lw_tbl, w.before args s = true) : hw_N0 s ∧ hw_AO s := ⟨⟨va_Nw.of rfl (ht0 _ tn_RX6_15), va_Nw.of rfl (ht0 _ tn_RX6_49), va_Nw.of rfl (ht0 _ tn_RX6_75), va_Nw.of rfl (ht0 _ tn_RX6_76), va_Nw.of rfl (ht0 _ tn_RX2_54), va_Nw.of rfl (ht0 _ tn_RX4_20), va_Nw.of rfl (ht0 _ tn_RX4_27)⟩, ⟨va_AO.of (ht0 _ ta_Law), va_AO.of (ht0 _ ta_Wire), va_AO.of (ht0 _ ta_Sheet), va_AO.of (ht0 _ ta_Slot)⟩⟩
set_option maxRecDepth 20000 in
set_option maxHeartbeats 4000000 in
theorem hw_start_S {s : State} {args : Array Value} (hgv : (Jvm.Cond.and given_1 narrow_1).before args s = true) : ∃ adK adV : Nat → Nat, vk_S 6 hw_sl hw_sb adK adV (fun q => s.heap.size ≤ q) s s.heap ∧ ∀ i : Nat, i < 6 → (hw_tm i).eval args s none [] s = some (.ref (adK i)) := by
  have hs := flat_of_before _ hgv
  have co6 : ∀ {Q : Nat → Prop}, Q 0 → Q 1 → Q 2 → Q 3 → Q 4 → Q 5 → ∀ i : Nat, i < 6 → Q i := by
    intro Q h0 h1 h2 h3 h4 h5 i hi
    match i, hi with
    | 0, _ => exact h0
    | 1, _ => exact h1
    | 2, _ => exact h2
    | 3, _ => exact h3
    | 4, _ => exact h4
    | 5, _ => exact h5
    | i + 6, h => omega
  refine vk_Sof (tm := hw_tm) (by decide) ?_ ?_ ?_ ?_ ?_ ?_ (fun a h => Nat.not_le.mpr h)
  · exact co6 (hs _ (by decide +kernel)) (hs _ (by decide +kernel)) (hs _ (by decide +kernel)) (hs _ (by decide +kernel)) (hs _ (by decide +kernel)) (hs _ (by decide +kernel))
  · exact co6 (hs _ (by decide +kernel)) (hs _ (by decide +kernel)) (hs _ (by decide +kernel)) (hs _ (by decide +kernel)) (hs _ (by decide +kernel)) (hs _ (by decide +kernel))
  · exact co6 (hs _ (by decide +kernel)) (hs _ (by decide +kernel)) (hs _ (by decide +kernel)) (hs _ (by decide +kernel)) (hs _ (by decide +kernel)) (hs _ (by decide +kernel))
  · exact co6 (hs _ (by decide +kernel)) (hs _ (by decide +kernel)) (hs _ (by decide +kernel)) (hs _ (by decide +kernel)) (hs _ (by decide +kernel)) (hs _ (by decide +kernel))
  · refine co6 ?_ ?_ ?_ ?_ ?_ ?_
    · intro j hj
      match j, hj with
      | 0, _ => exact hs _ (by decide +kernel)
      | 1, _ => exact hs _ (by decide +kernel)
      | 2, _ => exact hs _ (by decide +kernel)
      | 3, _ => exact hs _ (by decide +kernel)
      | j + 4, h => exact absurd h (by show ¬ (j + 4 < 4); omega)
    · intro j hj
      match j, hj with
      | 0, _ => exact hs _ (by decide +kernel)
      | 1, _ => exact hs _ (by decide +kernel)
      | 2, _ => exact hs _ (by decide +kernel)
      | 3, _ => exact hs _ (by decide +kernel)
      | j + 4, h => exact absurd h (by show ¬ (j + 4 < 4); omega)
    · intro j hj
      match j, hj with
      | 0, _ => exact hs _ (by decide +kernel)
      | 1, _ => exact hs _ (by decide +kernel)
      | 2, _ => exact hs _ (by decide +kernel)
      | 3, _ => exact hs _ (by decide +kernel)
      | j + 4, h => exact absurd h (by show ¬ (j + 4 < 4); omega)
    · intro j hj
      match j, hj with
      | 0, _ => exact hs _ (by decide +kernel)
      | 1, _ => exact hs _ (by decide +kernel)
      | 2, _ => exact hs _ (by decide +kernel)
      | j + 3, h => exact absurd h (by show ¬ (j + 3 < 3); omega)
    · intro j hj
      match j, hj with
      | 0, _ => exact hs _ (by decide +kernel)
      | 1, _ => exact hs _ (by decide +kernel)
      | j + 2, h => exact absurd h (by show ¬ (j + 2 < 2); omega)
    · intro j hj
      match j, hj with
      | 0, _ => exact hs _ (by decide +kernel)
      | 1, _ => exact hs _ (by decide +kernel)
      | 2, _ => exact hs _ (by decide +kernel)
      | j + 3, h => exact absurd h (by show ¬ (j + 3 < 3); omega)
  · intro i j hi hj hne
    match i, j, hi, hj, hne with
    | 0, 0, _, _, h => exact absurd rfl h
    | 0, 1, _, _, _ => exact Or.inl (hs _ (by decide +kernel))
    | 0, 2, _, _, _ => exact Or.inl (hs _ (by decide +kernel))
    | 0, 3, _, _, _ => exact Or.inl (hs _ (by decide +kernel))
    | 0, 4, _, _, _ => exact Or.inl (hs _ (by decide +kernel))
    | 0, 5, _, _, _ => exact Or.inl (hs _ (by decide +kernel))
    | 1, 0, _, _, _ => exact Or.inr (hs _ (by decide +kernel))
    | 1, 1, _, _, h => exact absurd rfl h
    | 1, 2, _, _, _ => exact Or.inl (hs _ (by decide +kernel))
    | 1, 3, _, _, _ => exact Or.inl (hs _ (by decide +kernel))
    | 1, 4, _, _, _ => exact Or.inl (hs _ (by decide +kernel))
    | 1, 5, _, _, _ => exact Or.inl (hs _ (by decide +kernel))
    | 2, 0, _, _, _ => exact Or.inr (hs _ (by decide +kernel))
    | 2, 1, _, _, _ => exact Or.inr (hs _ (by decide +kernel))
    | 2, 2, _, _, h => exact absurd rfl h
    | 2, 3, _, _, _ => exact Or.inl (hs _ (by decide +kernel))
    | 2, 4, _, _, _ => exact Or.inl (hs _ (by decide +kernel))
    | 2, 5, _, _, _ => exact Or.inl (hs _ (by decide +kernel))
    | 3, 0, _, _, _ => exact Or.inr (hs _ (by decide +kernel))
    | 3, 1, _, _, _ => exact Or.inr (hs _ (by decide +kernel))
    | 3, 2, _, _, _ => exact Or.inr (hs _ (by decide +kernel))
    | 3, 3, _, _, h => exact absurd rfl h
    | 3, 4, _, _, _ => exact Or.inl (hs _ (by decide +kernel))
    | 3, 5, _, _, _ => exact Or.inl (hs _ (by decide +kernel))
    | 4, 0, _, _, _ => exact Or.inr (hs _ (by decide +kernel))
    | 4, 1, _, _, _ => exact Or.inr (hs _ (by decide +kernel))
    | 4, 2, _, _, _ => exact Or.inr (hs _ (by decide +kernel))
    | 4, 3, _, _, _ => exact Or.inr (hs _ (by decide +kernel))
    | 4, 4, _, _, h => exact absurd rfl h
    | 4, 5, _, _, _ => exact Or.inl (hs _ (by decide +kernel))
    | 5, 0, _, _, _ => exact Or.inr (hs _ (by decide +kernel))
    | 5, 1, _, _, _ => exact Or.inr (hs _ (by decide +kernel))
    | 5, 2, _, _, _ => exact Or.inr (hs _ (by decide +kernel))
    | 5, 3, _, _, _ => exact Or.inr (hs _ (by decide +kernel))
    | 5, 4, _, _, _ => exact Or.inr (hs _ (by decide +kernel))
    | 5, 5, _, _, h => exact absurd rfl h
    | i + 6, _, h, _, _ => exact absurd h (by omega)
    | _, j + 6, _, h, _ => exact absurd h (by omega)
set_option maxRecDepth 20000 in
set_option maxHeartbeats 4000000 in
theorem hw_start_C {s : State} {args : Array Value} (ht0 : ∀ w ∈ lw_tbl, w.before args s = true) (hgv : (Jvm.Cond.and given_1 narrow_1).before args s = true) : ∃ ad : Nat → Nat, ∀ E : hw_E, (∀ t, 900 ≤ t → hw_ea E t = ad t) → (∀ q, hw_A E q → s.heap.size ≤ q) → hw_Cs E s s.heap ∧ hw_Nw E s := by
  have hs := flat_of_before _ hgv
  obtain ⟨adK, adV, hS, hev⟩ := hw_start_S hgv
  have hA : ∀ a : Nat, a < s.heap.size → ¬ (fun q => s.heap.size ≤ q) a := fun a h => Nat.not_le.mpr h
  obtain ⟨tK, hK1, hK2⟩ := va_Tof (tm := .static "HumWire" "KIND_ABOVE" "[I") (ty := .int) (N := 6) (f := fun j => .int (hw_ka.getD j 0)) (by decide) (hs _ (by decide +kernel)) (va_eqt (hs (.eq (.length (.static "HumWire" "KIND_ABOVE" "[I")) (.int 6)) (by decide +kernel))) (fun j hj => by
    match j, hj with
    | 0, _ => exact va_eqt (hs _ (by decide +kernel))
    | 1, _ => exact va_eqt (hs _ (by decide +kernel))
    | 2, _ => exact va_eqt (hs _ (by decide +kernel))
    | 3, _ => exact va_eqt (hs _ (by decide +kernel))
    | 4, _ => exact va_eqt (hs _ (by decide +kernel))
    | 5, _ => exact va_eqt (hs _ (by decide +kernel))
    | j + 6, h => omega) hA
  have hZ := va_Zref (ht0 _ tl_KA) (ht0 _ ti_H) hK1 hA
  have hCS := va_Zof (ht0 _ tl_CS) (ht0 _ ti_S) (va_eqi (hs (.eq (.static "java/lang/String" "COMPACT_STRINGS" "Z") (.int 1)) (by decide +kernel))) hA
  have hSF := va_Zqof (ht0 _ tl_SF) (ht0 _ ti_SF) (hs _ (by decide +kernel)) hA
  refine ⟨fun t => if t = 950 then tK else if t < 910 then adK (t - 900) else adV (t - 910), fun E hE hE2 => ?_⟩
  have e0 : hw_ea E 950 = tK := hE 950 (by decide)
  have eK : ∀ i, i < 6 → hw_ea E (900 + i) = adK i := fun i hi => by
    rw [hE _ (by omega)]
    show (if 900 + i = 950 then tK else if 900 + i < 910 then adK (900 + i - 900) else adV (900 + i - 910)) = adK i
    rw [if_neg (by omega), if_pos (by omega), show 900 + i - 900 = i by omega]
  have eV : ∀ i, i < 6 → hw_ea E (910 + i) = adV i := fun i hi => by
    rw [hE _ (by omega)]
    show (if 910 + i = 950 then tK else if 910 + i < 910 then adK (910 + i - 900) else adV (910 + i - 910)) = adV i
    rw [if_neg (by omega), if_neg (by omega), show 910 + i - 910 = i by omega]
  refine ⟨⟨by rw [e0]; exact hZ.narrow hE2, by rw [e0]; exact hK2.narrow hE2, ?_, hCS.narrow hE2, ?_⟩, ?_⟩
  · have h := hS.narrow hE2
    refine ⟨fun i hi => ?_, fun i j hi hj e => h.2 i j hi hj (by rw [← eK i hi, ← eK j hj]; exact e)⟩
    show va_O _ (hw_ea E (900 + i)) _ _ _ ∧ va_OF _ _ _ _ (hw_ea E (900 + i)) _ _ _ ∧ va_OF _ _ _ (.ref (hw_ea E (910 + i))) (hw_ea E (900 + i)) _ _ _ ∧ va_T _ (hw_ea E (910 + i)) _ _ _ _ _
    rw [eK i hi, eV i hi]
    exact h.1 i hi
  · rcases hSF with h | ⟨t, h⟩
    · exact Or.inl (h.narrow hE2)
    · exact Or.inr ⟨t, h.narrow hE2⟩
  · refine ⟨va_Nw.of rfl (ht0 _ tn_RX2_65), va_Nw.of rfl (ht0 _ tn_RX2_74), va_Nw.of rfl (ht0 _ tn_RX3_34), ?_, ?_, ?_, ?_, ?_, ?_⟩
    · rw [show hw_ea E 900 = adK 0 from eK 0 (by decide)]; exact vk_R.of (ht0 _ ts_67) (hev 0 (by decide))
    · rw [show hw_ea E 901 = adK 1 from eK 1 (by decide)]; exact vk_R.of (ht0 _ ts_73) (hev 1 (by decide))
    · rw [show hw_ea E 902 = adK 2 from eK 2 (by decide)]; exact vk_R.of (ht0 _ ts_75) (hev 2 (by decide))
    · rw [show hw_ea E 903 = adK 3 from eK 3 (by decide)]; exact vk_R.of (ht0 _ ts_121) (hev 3 (by decide))
    · rw [show hw_ea E 904 = adK 4 from eK 4 (by decide)]; exact vk_R.of (ht0 _ ts_123) (hev 4 (by decide))
    · rw [show hw_ea E 905 = adK 5 from eK 5 (by decide)]; exact vk_R.of (ht0 _ ts_125) (hev 5 (by decide))
