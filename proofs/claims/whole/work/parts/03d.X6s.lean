/-! HumWire isWithin(III)Z, level 1 -/
def F_X6_isWithin  (a0 : Int32) (a1 : Int32) (a2 : Int32) (s0 : hw_St) : Option (Int32 × hw_St) := if a0 < a1 then (some ((0 : Int32), s0)) else (if a2 < a0 then (some ((0 : Int32), s0)) else (some ((1 : Int32), s0)))
set_option maxRecDepth 20000 in
theorem M_X6_isWithin (E : hw_E) (hE : hw_eT E = hw_TH) (a0 : Int32) (a1 : Int32) (a2 : Int32) (s0 : hw_St) : hw_M E yX6_isWithin cX6_isWithin 3 (some .boolean) 1 [.int a0, .int a1, .int a2] s0 hw_ri (F_X6_isWithin a0 a1 a2 s0) := by
  refine hw_entry (own := RX6) (TL := hw_TH) (by decide) rfl hE (hw_cI (hw_cI (hw_cI hw_cN))) (hw_l8 rfl) (fun G hG C => ?_)
  subst hG
  have hTL := hE
  show hw_K G 3 hw_ri _ 0 [(0, .int a0), (1, .int a1), (2, .int a2)] [] s0
  unfold F_X6_isWithin
  refine hw_iload_n C dX6_isWithin_0 rfl 0 rfl ?_
  refine hw_iload_n C dX6_isWithin_1 rfl 1 rfl ?_
  refine hw_icmp_lt C dX6_isWithin_2 (tgt := 14) (by decide) (fun c1 => ?_) (fun c1 => ?_)
  · refine hw_iconst C dX6_isWithin_14 (v := 0) (by decide) ?_
    exact hw_zret1 C (by decide) dX6_isWithin_15
  · refine hw_iload_n C dX6_isWithin_5 rfl 0 rfl ?_
    refine hw_iload_n C dX6_isWithin_6 rfl 2 rfl ?_
    refine hw_icmp_gt C dX6_isWithin_7 (tgt := 14) (by decide) (fun c2 => ?_) (fun c2 => ?_)
    · refine hw_iconst C dX6_isWithin_14 (v := 0) (by decide) ?_
      exact hw_zret1 C (by decide) dX6_isWithin_15
    · refine hw_iconst C dX6_isWithin_10 (v := 1) (by decide) ?_
      refine hw_goto C dX6_isWithin_11 (tgt := 15) (by decide) ?_
      exact hw_zret1 C (by decide) dX6_isWithin_15
/-! HumWire within(III)I, level 1 -/
def F_X6_within  (a0 : Int32) (a1 : Int32) (a2 : Int32) (s0 : hw_St) : Option (Int32 × hw_St) := some ((hw_max a1 (hw_min a2 a0)), s0)
set_option maxRecDepth 20000 in
theorem M_X6_within (E : hw_E) (hE : hw_eT E = hw_TH) (a0 : Int32) (a1 : Int32) (a2 : Int32) (s0 : hw_St) : hw_M E yX6_within cX6_within 3 (some .int) 1 [.int a0, .int a1, .int a2] s0 hw_ri (F_X6_within a0 a1 a2 s0) := by
  refine hw_entry (own := RX6) (TL := hw_TH) (by decide) rfl hE (hw_cI (hw_cI (hw_cI hw_cN))) (hw_l8 rfl) (fun G hG C => ?_)
  subst hG
  have hTL := hE
  show hw_K G 3 hw_ri _ 0 [(0, .int a0), (1, .int a1), (2, .int a2)] [] s0
  unfold F_X6_within
  refine hw_iload_n C dX6_within_0 rfl 1 rfl ?_
  refine hw_iload_n C dX6_within_1 rfl 2 rfl ?_
  refine hw_iload_n C dX6_within_2 rfl 0 rfl ?_
  refine hw_mmin C mw_299 mathw_min (hw_l8 rfl) dX6_within_3 ?_
  refine hw_mmax C mw_303 mathw_max (hw_l8 rfl) dX6_within_6 ?_
  exact hw_iret C dX6_within_9
/-! HumWire isKind(I)Z, level 2 -/
def F_X6_isKind  (a0 : Int32) (s0 : hw_St) : Option (Int32 × hw_St) := hw_bd (F_X6_isWithin a0 (0 : Int32) (5 : Int32) s0) (fun r1 s2 => hw_gd (hw_isb r1) (some (r1, s2)))
set_option maxRecDepth 20000 in
theorem M_X6_isKind (E : hw_E) (hE : hw_eT E = hw_TH) (a0 : Int32) (s0 : hw_St) : hw_M E yX6_isKind cX6_isKind 1 (some .boolean) 2 [.int a0] s0 hw_ri (F_X6_isKind a0 s0) := by
  refine hw_entry (own := RX6) (TL := hw_TH) (by decide) rfl hE (hw_cI hw_cN) (hw_l8 rfl) (fun G hG C => ?_)
  subst hG
  have hTL := hE
  show hw_K G 1 hw_ri _ 0 [(0, .int a0)] [] s0
  unfold F_X6_isKind
  refine hw_iload_n C dX6_isKind_0 rfl 0 rfl ?_
  refine hw_iconst C dX6_isKind_1 (v := 0) (by decide) ?_
  refine hw_iconst C dX6_isKind_2 (v := 5) (by decide) ?_
  refine hw_callSi C (M_X6_isWithin (hw_gE G) hTL a0 (0 : Int32) (5 : Int32) s0) W_X6_isWithin SS_X6_isWithin mw_133 (by decide) rfl ⟨rfl, hw_l8 rfl⟩ dX6_isKind_3 (fun r1 s2 => ?_)
  exact hw_zret C dX6_isKind_6
/-! HumWire isThick(I)Z, level 2 -/
def F_X6_isThick  (a0 : Int32) (s0 : hw_St) : Option (Int32 × hw_St) := hw_bd (F_X6_isWithin a0 (1 : Int32) (9 : Int32) s0) (fun r1 s2 => hw_gd (hw_isb r1) (some (r1, s2)))
set_option maxRecDepth 20000 in
theorem M_X6_isThick (E : hw_E) (hE : hw_eT E = hw_TH) (a0 : Int32) (s0 : hw_St) : hw_M E yX6_isThick cX6_isThick 1 (some .boolean) 2 [.int a0] s0 hw_ri (F_X6_isThick a0 s0) := by
  refine hw_entry (own := RX6) (TL := hw_TH) (by decide) rfl hE (hw_cI hw_cN) (hw_l8 rfl) (fun G hG C => ?_)
  subst hG
  have hTL := hE
  show hw_K G 1 hw_ri _ 0 [(0, .int a0)] [] s0
  unfold F_X6_isThick
  refine hw_iload_n C dX6_isThick_0 rfl 0 rfl ?_
  refine hw_iconst C dX6_isThick_1 (v := 1) (by decide) ?_
  refine hw_bipush C dX6_isThick_2 (v := 9) (by decide) ?_
  refine hw_callSi C (M_X6_isWithin (hw_gE G) hTL a0 (1 : Int32) (9 : Int32) s0) W_X6_isWithin SS_X6_isWithin mw_133 (by decide) rfl ⟨rfl, hw_l8 rfl⟩ dX6_isThick_4 (fun r1 s2 => ?_)
  exact hw_zret C dX6_isThick_7
/-! HumWire isOwn(I)Z, level 2 -/
def F_X6_isOwn  (a0 : Int32) (s0 : hw_St) : Option (Int32 × hw_St) := hw_bd (F_X6_isWithin a0 (1 : Int32) (999 : Int32) s0) (fun r1 s2 => hw_gd (hw_isb r1) (some (r1, s2)))
set_option maxRecDepth 20000 in
theorem M_X6_isOwn (E : hw_E) (hE : hw_eT E = hw_TH) (a0 : Int32) (s0 : hw_St) : hw_M E yX6_isOwn cX6_isOwn 1 (some .boolean) 2 [.int a0] s0 hw_ri (F_X6_isOwn a0 s0) := by
  refine hw_entry (own := RX6) (TL := hw_TH) (by decide) rfl hE (hw_cI hw_cN) (hw_l8 rfl) (fun G hG C => ?_)
  subst hG
  have hTL := hE
  show hw_K G 1 hw_ri _ 0 [(0, .int a0)] [] s0
  unfold F_X6_isOwn
  refine hw_iload_n C dX6_isOwn_0 rfl 0 rfl ?_
  refine hw_iconst C dX6_isOwn_1 (v := 1) (by decide) ?_
  refine hw_sipush C dX6_isOwn_2 (v := 999) (by decide) ?_
  refine hw_callSi C (M_X6_isWithin (hw_gE G) hTL a0 (1 : Int32) (999 : Int32) s0) W_X6_isWithin SS_X6_isWithin mw_133 (by decide) rfl ⟨rfl, hw_l8 rfl⟩ dX6_isOwn_5 (fun r1 s2 => ?_)
  exact hw_zret C dX6_isOwn_8
/-! HumWire isHour(I)Z, level 2 -/
def F_X6_isHour  (a0 : Int32) (s0 : hw_St) : Option (Int32 × hw_St) := hw_bd (F_X6_isWithin a0 (0 : Int32) (23 : Int32) s0) (fun r1 s2 => hw_gd (hw_isb r1) (some (r1, s2)))
set_option maxRecDepth 20000 in
theorem M_X6_isHour (E : hw_E) (hE : hw_eT E = hw_TH) (a0 : Int32) (s0 : hw_St) : hw_M E yX6_isHour cX6_isHour 1 (some .boolean) 2 [.int a0] s0 hw_ri (F_X6_isHour a0 s0) := by
  refine hw_entry (own := RX6) (TL := hw_TH) (by decide) rfl hE (hw_cI hw_cN) (hw_l8 rfl) (fun G hG C => ?_)
  subst hG
  have hTL := hE
  show hw_K G 1 hw_ri _ 0 [(0, .int a0)] [] s0
  unfold F_X6_isHour
  refine hw_iload_n C dX6_isHour_0 rfl 0 rfl ?_
  refine hw_iconst C dX6_isHour_1 (v := 0) (by decide) ?_
  refine hw_bipush C dX6_isHour_2 (v := 23) (by decide) ?_
  refine hw_callSi C (M_X6_isWithin (hw_gE G) hTL a0 (0 : Int32) (23 : Int32) s0) W_X6_isWithin SS_X6_isWithin mw_133 (by decide) rfl ⟨rfl, hw_l8 rfl⟩ dX6_isHour_4 (fun r1 s2 => ?_)
  exact hw_zret C dX6_isHour_7
/-! HumWire isWind(I)Z, level 2 -/
def F_X6_isWind  (a0 : Int32) (s0 : hw_St) : Option (Int32 × hw_St) := hw_bd (F_X6_isWithin a0 (0 : Int32) (99 : Int32) s0) (fun r1 s2 => hw_gd (hw_isb r1) (some (r1, s2)))
set_option maxRecDepth 20000 in
theorem M_X6_isWind (E : hw_E) (hE : hw_eT E = hw_TH) (a0 : Int32) (s0 : hw_St) : hw_M E yX6_isWind cX6_isWind 1 (some .boolean) 2 [.int a0] s0 hw_ri (F_X6_isWind a0 s0) := by
  refine hw_entry (own := RX6) (TL := hw_TH) (by decide) rfl hE (hw_cI hw_cN) (hw_l8 rfl) (fun G hG C => ?_)
  subst hG
  have hTL := hE
  show hw_K G 1 hw_ri _ 0 [(0, .int a0)] [] s0
  unfold F_X6_isWind
  refine hw_iload_n C dX6_isWind_0 rfl 0 rfl ?_
  refine hw_iconst C dX6_isWind_1 (v := 0) (by decide) ?_
  refine hw_bipush C dX6_isWind_2 (v := 99) (by decide) ?_
  refine hw_callSi C (M_X6_isWithin (hw_gE G) hTL a0 (0 : Int32) (99 : Int32) s0) W_X6_isWithin SS_X6_isWithin mw_133 (by decide) rfl ⟨rfl, hw_l8 rfl⟩ dX6_isWind_4 (fun r1 s2 => ?_)
  exact hw_zret C dX6_isWind_7
/-! HumWire isSheet(I)Z, level 2 -/
def F_X6_isSheet  (a0 : Int32) (s0 : hw_St) : Option (Int32 × hw_St) := hw_bd (F_X6_isWithin a0 (0 : Int32) (3 : Int32) s0) (fun r1 s2 => hw_gd (hw_isb r1) (some (r1, s2)))
set_option maxRecDepth 20000 in
theorem M_X6_isSheet (E : hw_E) (hE : hw_eT E = hw_TH) (a0 : Int32) (s0 : hw_St) : hw_M E yX6_isSheet cX6_isSheet 1 (some .boolean) 2 [.int a0] s0 hw_ri (F_X6_isSheet a0 s0) := by
  refine hw_entry (own := RX6) (TL := hw_TH) (by decide) rfl hE (hw_cI hw_cN) (hw_l8 rfl) (fun G hG C => ?_)
  subst hG
  have hTL := hE
  show hw_K G 1 hw_ri _ 0 [(0, .int a0)] [] s0
  unfold F_X6_isSheet
  refine hw_iload_n C dX6_isSheet_0 rfl 0 rfl ?_
  refine hw_iconst C dX6_isSheet_1 (v := 0) (by decide) ?_
  refine hw_iconst C dX6_isSheet_2 (v := 3) (by decide) ?_
  refine hw_callSi C (M_X6_isWithin (hw_gE G) hTL a0 (0 : Int32) (3 : Int32) s0) W_X6_isWithin SS_X6_isWithin mw_133 (by decide) rfl ⟨rfl, hw_l8 rfl⟩ dX6_isSheet_3 (fun r1 s2 => ?_)
  exact hw_zret C dX6_isSheet_6
/-! HumWire isSlot(I)Z, level 2 -/
def F_X6_isSlot  (a0 : Int32) (s0 : hw_St) : Option (Int32 × hw_St) := hw_bd (F_X6_isWithin a0 (0 : Int32) (4 : Int32) s0) (fun r1 s2 => hw_gd (hw_isb r1) (some (r1, s2)))
set_option maxRecDepth 20000 in
theorem M_X6_isSlot (E : hw_E) (hE : hw_eT E = hw_TH) (a0 : Int32) (s0 : hw_St) : hw_M E yX6_isSlot cX6_isSlot 1 (some .boolean) 2 [.int a0] s0 hw_ri (F_X6_isSlot a0 s0) := by
  refine hw_entry (own := RX6) (TL := hw_TH) (by decide) rfl hE (hw_cI hw_cN) (hw_l8 rfl) (fun G hG C => ?_)
  subst hG
  have hTL := hE
  show hw_K G 1 hw_ri _ 0 [(0, .int a0)] [] s0
  unfold F_X6_isSlot
  refine hw_iload_n C dX6_isSlot_0 rfl 0 rfl ?_
  refine hw_iconst C dX6_isSlot_1 (v := 0) (by decide) ?_
  refine hw_iconst C dX6_isSlot_2 (v := 4) (by decide) ?_
  refine hw_callSi C (M_X6_isWithin (hw_gE G) hTL a0 (0 : Int32) (4 : Int32) s0) W_X6_isWithin SS_X6_isWithin mw_133 (by decide) rfl ⟨rfl, hw_l8 rfl⟩ dX6_isSlot_3 (fun r1 s2 => ?_)
  exact hw_zret C dX6_isSlot_6
/-! HumWire canBeSet(II)Z, level 3 -/
def F_X6_canBeSet  (a0 : Int32) (a1 : Int32) (s0 : hw_St) : Option (Int32 × hw_St) := if a0 = (1 : Int32) then (hw_bd (F_X6_isThick a1 s0) (fun r1 s2 => hw_gd (hw_isb r1) (some (r1, s2)))) else (if a0 = (2 : Int32) then (hw_bd (F_X6_isOwn a1 s0) (fun r4 s5 => hw_gd (hw_isb r4) (some (r4, s5)))) else (if a0 = (3 : Int32) then (hw_bd (F_X6_isWithin a1 (0 : Int32) (9 : Int32) s0) (fun r7 s8 => hw_gd (hw_isb r7) (some (r7, s8)))) else (if a0 = (4 : Int32) then (hw_bd (F_X6_isWithin a1 (0 : Int32) (9999 : Int32) s0) (fun r10 s11 => hw_gd (hw_isb r10) (some (r10, s11)))) else (some ((0 : Int32), s0)))))
set_option maxRecDepth 20000 in
theorem M_X6_canBeSet (E : hw_E) (hE : hw_eT E = hw_TH) (a0 : Int32) (a1 : Int32) (s0 : hw_St) : hw_M E yX6_canBeSet cX6_canBeSet 2 (some .boolean) 3 [.int a0, .int a1] s0 hw_ri (F_X6_canBeSet a0 a1 s0) := by
  refine hw_entry (own := RX6) (TL := hw_TH) (by decide) rfl hE (hw_cI (hw_cI hw_cN)) (hw_l8 rfl) (fun G hG C => ?_)
  subst hG
  have hTL := hE
  show hw_K G 2 hw_ri _ 0 [(0, .int a0), (1, .int a1)] [] s0
  unfold F_X6_canBeSet
  refine hw_iload_n C dX6_canBeSet_0 rfl 0 rfl ?_
  refine hw_ifK (fun c3 => ?_) (fun c3 => ?_)
  · refine hw_tabIn C dX6_canBeSet_1 c3 (off := 31) (tgt := 32) (by decide) ?_
    refine hw_iload_n C dX6_canBeSet_32 rfl 1 rfl ?_
    refine hw_callSi C (M_X6_isThick (hw_gE G) hTL a1 s0) W_X6_isThick SS_X6_isThick mw_136 (by decide) rfl ⟨rfl, hw_l8 rfl⟩ dX6_canBeSet_33 (fun r1 s2 => ?_)
    exact hw_zret C dX6_canBeSet_36
  · refine hw_ifK (fun c6 => ?_) (fun c6 => ?_)
    · refine hw_tabIn C dX6_canBeSet_1 c6 (off := 36) (tgt := 37) (by decide) ?_
      refine hw_iload_n C dX6_canBeSet_37 rfl 1 rfl ?_
      refine hw_callSi C (M_X6_isOwn (hw_gE G) hTL a1 s0) W_X6_isOwn SS_X6_isOwn mw_139 (by decide) rfl ⟨rfl, hw_l8 rfl⟩ dX6_canBeSet_38 (fun r4 s5 => ?_)
      exact hw_zret C dX6_canBeSet_41
    · refine hw_ifK (fun c9 => ?_) (fun c9 => ?_)
      · refine hw_tabIn C dX6_canBeSet_1 c9 (off := 41) (tgt := 42) (by decide) ?_
        refine hw_iload_n C dX6_canBeSet_42 rfl 1 rfl ?_
        refine hw_iconst C dX6_canBeSet_43 (v := 0) (by decide) ?_
        refine hw_bipush C dX6_canBeSet_44 (v := 9) (by decide) ?_
        refine hw_callSi C (M_X6_isWithin (hw_gE G) hTL a1 (0 : Int32) (9 : Int32) s0) W_X6_isWithin SS_X6_isWithin mw_133 (by decide) rfl ⟨rfl, hw_l8 rfl⟩ dX6_canBeSet_46 (fun r7 s8 => ?_)
        exact hw_zret C dX6_canBeSet_49
      · refine hw_ifK (fun c12 => ?_) (fun c12 => ?_)
        · refine hw_tabIn C dX6_canBeSet_1 c12 (off := 49) (tgt := 50) (by decide) ?_
          refine hw_iload_n C dX6_canBeSet_50 rfl 1 rfl ?_
          refine hw_iconst C dX6_canBeSet_51 (v := 0) (by decide) ?_
          refine hw_sipush C dX6_canBeSet_52 (v := 9999) (by decide) ?_
          refine hw_callSi C (M_X6_isWithin (hw_gE G) hTL a1 (0 : Int32) (9999 : Int32) s0) W_X6_isWithin SS_X6_isWithin mw_133 (by decide) rfl ⟨rfl, hw_l8 rfl⟩ dX6_canBeSet_55 (fun r10 s11 => ?_)
          exact hw_zret C dX6_canBeSet_58
        · refine hw_tabD C dX6_canBeSet_1 (cs := [1, 2, 3, 4]) (by decide) (List.forall_mem_cons.mpr ⟨hw_ni c3 (z := 1) (by decide), List.forall_mem_cons.mpr ⟨hw_ni c6 (z := 2) (by decide), List.forall_mem_cons.mpr ⟨hw_ni c9 (z := 3) (by decide), List.forall_mem_cons.mpr ⟨hw_ni c12 (z := 4) (by decide), fun _ h => absurd h List.not_mem_nil⟩⟩⟩⟩) (tgt := 59) (by decide) ?_
          refine hw_iconst C dX6_canBeSet_59 (v := 0) (by decide) ?_
          exact hw_zret1 C (by decide) dX6_canBeSet_60
/-! HumWire isOfKind(II)Z, level 3 -/
def S_X6_isOfKind_4  (w4 : Int32 → Int32 → Int32 → hw_St → Option (Int32 × hw_St)) (l1 : Int32) (l2 : Int32) (l3 : Int32) (s0 : hw_St) : Option (Int32 × hw_St) := if (6 : Int32) ≤ l3 then (some ((0 : Int32), s0)) else (hw_bd (F_X6_isKind l2 s0) (fun r2 s3 => if r2 = 0 then (some ((0 : Int32), s3)) else (if l2 = l1 then (some ((1 : Int32), s3)) else (hw_gd (hw_inb l2 6) (hw_nm (hw_ka.getD l2.toNatClampNeg 0) (fun x7 => w4 l1 x7 (l3 + 1) s3))))))
def L_X6_isOfKind_4  : Nat → Int32 → Int32 → Int32 → hw_St → Option (Int32 × hw_St)
  | 0 => fun _ _ _ _ => none
  | n + 1 => S_X6_isOfKind_4  (L_X6_isOfKind_4  n)
def F_X6_isOfKind  (a0 : Int32) (a1 : Int32) (s0 : hw_St) : Option (Int32 × hw_St) := L_X6_isOfKind_4 130 a1 a0 (0 : Int32) s0
set_option maxRecDepth 20000 in
theorem KS_X6_isOfKind_4 {G : hw_G} (C : hw_Ok G cX6_isOfKind RX6 4 3 (some .boolean) hw_TH) (hTL : hw_eT (hw_gE G) = hw_TH) (w4 : Int32 → Int32 → Int32 → hw_St → Option (Int32 × hw_St)) (H_w4 : ∀ (l1 : Int32) (l2 : Int32) (l3 : Int32) (s0 : hw_St), hw_K G 4 hw_ri (w4 l1 l2 l3 s0) 4 [(1, .int l1), (2, .int l2), (3, .int l3)] [] s0) (l1 : Int32) (l2 : Int32) (l3 : Int32) (s0 : hw_St) : hw_K G 4 hw_ri (S_X6_isOfKind_4 w4 l1 l2 l3 s0) 4 [(1, .int l1), (2, .int l2), (3, .int l3)] [] s0 := by
  unfold S_X6_isOfKind_4
  refine hw_iload_n C dX6_isOfKind_4 rfl 2 rfl ?_
  refine hw_bipush C dX6_isOfKind_5 (v := 6) (by decide) ?_
  refine hw_icmp_ge C dX6_isOfKind_7 (tgt := 36) (by decide) (fun c1 => ?_) (fun c1 => ?_)
  · refine hw_iconst C dX6_isOfKind_36 (v := 0) (by decide) ?_
    exact hw_zret1 C (by decide) dX6_isOfKind_37
  · refine hw_iload_n C dX6_isOfKind_10 rfl 1 rfl ?_
    refine hw_callSi C (M_X6_isKind (hw_gE G) hTL l2 s0) W_X6_isKind SS_X6_isKind mw_130 (by decide) rfl ⟨rfl, hw_l8 rfl⟩ dX6_isOfKind_11 (fun r2 s3 => ?_)
    refine hw_if_eq C dX6_isOfKind_14 (tgt := 36) (by decide) (fun c4 => ?_) (fun c4 => ?_)
    · refine hw_iconst C dX6_isOfKind_36 (v := 0) (by decide) ?_
      exact hw_zret1 C (by decide) dX6_isOfKind_37
    · refine hw_iload_n C dX6_isOfKind_17 rfl 1 rfl ?_
      refine hw_iload_n C dX6_isOfKind_18 rfl 0 rfl ?_
      refine hw_icmp_ne C dX6_isOfKind_19 (tgt := 24) (by decide) (fun c5 => ?_) (fun c5 => ?_)
      · refine hw_gets C mw_214 dX6_isOfKind_24 ?_
        refine hw_iload_n C dX6_isOfKind_27 rfl 1 rfl ?_
        refine hw_ialdK C dX6_isOfKind_28 (fun h6 => ?_)
        refine hw_istore_nN C dX6_isOfKind_29 rfl (by decide) (fun _ => rfl) (fun x7 => ?_)
        refine hw_iinc C dX6_isOfKind_30 2 rfl (v := 1) (by decide) (by decide) rfl ?_
        refine hw_goto C dX6_isOfKind_33 (tgt := 4) (by decide) ?_
        exact hw_lv [2, 1, 0] rfl (H_w4 l1 x7 (l3 + 1) s3)
      · refine hw_iconst C dX6_isOfKind_22 (v := 1) (by decide) ?_
        exact hw_zret1 C (by decide) dX6_isOfKind_23
theorem KL_X6_isOfKind_4 {G : hw_G} (C : hw_Ok G cX6_isOfKind RX6 4 3 (some .boolean) hw_TH) (hTL : hw_eT (hw_gE G) = hw_TH) : ∀ (n_ : Nat) (l1 : Int32) (l2 : Int32) (l3 : Int32) (s0 : hw_St), hw_K G 4 hw_ri (L_X6_isOfKind_4 n_ l1 l2 l3 s0) 4 [(1, .int l1), (2, .int l2), (3, .int l3)] [] s0 := by
  intro n_
  induction n_ with
  | zero => intros; exact hw_nil
  | succ n_ ih => intro l1 l2 l3 s0; exact KS_X6_isOfKind_4 C hTL (L_X6_isOfKind_4 n_) ih l1 l2 l3 s0
set_option maxRecDepth 20000 in
theorem M_X6_isOfKind (E : hw_E) (hE : hw_eT E = hw_TH) (a0 : Int32) (a1 : Int32) (s0 : hw_St) : hw_M E yX6_isOfKind cX6_isOfKind 4 (some .boolean) 3 [.int a0, .int a1] s0 hw_ri (F_X6_isOfKind a0 a1 s0) := by
  refine hw_entry (own := RX6) (TL := hw_TH) (by decide) rfl hE (hw_cI (hw_cI hw_cN)) (hw_l8 rfl) (fun G hG C => ?_)
  subst hG
  have hTL := hE
  show hw_K G 4 hw_ri _ 0 [(0, .int a0), (1, .int a1)] [] s0
  unfold F_X6_isOfKind
  refine hw_iload_n C dX6_isOfKind_0 rfl 0 rfl ?_
  refine hw_istore_n C dX6_isOfKind_1 rfl (by decide) rfl ?_
  refine hw_iconst C dX6_isOfKind_2 (v := 0) (by decide) ?_
  refine hw_istore_n C dX6_isOfKind_3 rfl (by decide) rfl ?_
  exact hw_lv [3, 1, 0] rfl (KL_X6_isOfKind_4 C hTL 130 a1 a0 (0 : Int32) s0)
