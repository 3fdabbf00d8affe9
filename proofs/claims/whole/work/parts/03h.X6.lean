/-! HumWire wire(III)I, level 3 -/
def F_X6_wire  (a1 : Int32) (a2 : Int32) (a3 : Int32) (s0 : hw_St) : Option (Int32 × hw_St) := hw_bd (F_X6_isKind a1 s0) (fun r1 s2 => if r1 = 0 then (some ((-1000000001 : Int32), s2)) else (hw_bd (F_X6_isThick a2 s2) (fun r4 s5 => if r4 = 0 then (some ((-1000000001 : Int32), s5)) else (hw_bd (F_X6_isOwn a3 s5) (fun r7 s8 => if r7 = 0 then (some ((-1000000001 : Int32), s8)) else (if (s8 1 6) < (6 : Int32) then (hw_gd (hw_inb (s8 1 6) 6) (hw_gd (hw_gH (hw_el 5 (s8 1 6).toNatClampNeg) 5) (hw_bd (F_X5_begin (hw_el 5 (s8 1 6).toNatClampNeg) a1 a2 a3 s8) (fun _ s13 => hw_nm (hw_up s13 1 6 ((s13 1 6) + (1 : Int32))) (fun s14 => some (((s14 1 6) - (1 : Int32)), s14)))))) else (some ((-1000000003 : Int32), s8))))))))
set_option maxRecDepth 20000 in
theorem M_X6_wire (E : hw_E) (hE : hw_eT E = hw_TH) (a1 : Int32) (a2 : Int32) (a3 : Int32) (s0 : hw_St) : hw_M E yX6_wire cX6_wire 4 (some .int) 3 [hw_rv (hw_ea E) 0, .int a1, .int a2, .int a3] s0 hw_ri (F_X6_wire a1 a2 a3 s0) := by
  refine hw_entry (own := RX6) (TL := hw_TH) (by decide) rfl hE (hw_cR (hw_cI (hw_cI (hw_cI hw_cN)))) (hw_l8 rfl) (fun G hG C => ?_)
  subst hG
  have hTL := hE
  show hw_K G 4 hw_ri _ 0 [(0, hw_rv (hw_ea (hw_gE G)) 0), (1, .int a1), (2, .int a2), (3, .int a3)] [] s0
  unfold F_X6_wire
  refine hw_iload_n C dX6_wire_0 rfl 1 rfl ?_
  refine hw_callSi C (M_X6_isKind (hw_gE G) hTL a1 s0) W_X6_isKind SS_X6_isKind mw_130 (by decide) rfl ⟨rfl, hw_l8 rfl⟩ dX6_wire_1 (fun r1 s2 => ?_)
  refine hw_if_eq C dX6_wire_4 (tgt := 21) (by decide) (fun c3 => ?_) (fun c3 => ?_)
  · refine hw_ldc C mw_126 dX6_wire_21 ?_
    exact hw_iret C dX6_wire_23
  · refine hw_iload_n C dX6_wire_7 rfl 2 rfl ?_
    refine hw_callSi C (M_X6_isThick (hw_gE G) hTL a2 s2) W_X6_isThick SS_X6_isThick mw_136 (by decide) rfl ⟨rfl, hw_l8 rfl⟩ dX6_wire_8 (fun r4 s5 => ?_)
    refine hw_if_eq C dX6_wire_11 (tgt := 21) (by decide) (fun c6 => ?_) (fun c6 => ?_)
    · refine hw_ldc C mw_126 dX6_wire_21 ?_
      exact hw_iret C dX6_wire_23
    · refine hw_iload_n C dX6_wire_14 rfl 3 rfl ?_
      refine hw_callSi C (M_X6_isOwn (hw_gE G) hTL a3 s5) W_X6_isOwn SS_X6_isOwn mw_139 (by decide) rfl ⟨rfl, hw_l8 rfl⟩ dX6_wire_15 (fun r7 s8 => ?_)
      refine hw_if_ne C dX6_wire_18 (tgt := 24) (by decide) (fun c9 => ?_) (fun c9 => ?_)
      · refine hw_aload_n C dX6_wire_24 rfl 0 rfl ?_
        refine hw_getR C cf_X6 lf_X6_59 hw_T0 (t2 := 1) (by decide) dX6_wire_25 ?_
        refine hw_getI C cf_X2 lf_X6_88 hw_T1 dX6_wire_28 ?_
        refine hw_bipush C dX6_wire_31 (v := 6) (by decide) ?_
        refine hw_icmp_lt C dX6_wire_33 (tgt := 39) (by decide) (fun c10 => ?_) (fun c10 => ?_)
        · refine hw_aload_n C dX6_wire_39 rfl 0 rfl ?_
          refine hw_getR C cf_X6 lf_X6_59 hw_T0 (t2 := 1) (by decide) dX6_wire_40 ?_
          refine hw_getR C cf_X2 lf_X6_92 hw_T1 (t2 := 5) (by decide) dX6_wire_43 ?_
          refine hw_aload_n C dX6_wire_46 rfl 0 rfl ?_
          refine hw_getR C cf_X6 lf_X6_59 hw_T0 (t2 := 1) (by decide) dX6_wire_47 ?_
          refine hw_getI C cf_X2 lf_X6_88 hw_T1 dX6_wire_50 ?_
          refine hw_aaldH (t0 := 5) C hw_T5 (by decide) (fun _ => rfl) (by decide) (by decide) dX6_wire_53 (fun T_11 => ?_)
          refine hw_iload_n C dX6_wire_54 rfl 1 rfl ?_
          refine hw_iload_n C dX6_wire_55 rfl 2 rfl ?_
          refine hw_iload_n C dX6_wire_56 rfl 3 rfl ?_
          refine hw_callVv C (M_X5_begin (hw_gE G) hTL (hw_el 5 (s8 1 6).toNatClampNeg) a1 a2 a3 s8) W_X5_begin SV_X5_begin cf_X5 T_11 mw_142 (by decide) rfl ⟨rfl, hw_l8 rfl⟩ dX6_wire_57 (fun r12 s13 => ?_)
          refine hw_aload_n C dX6_wire_60 rfl 0 rfl ?_
          refine hw_getR C cf_X6 lf_X6_59 hw_T0 (t2 := 1) (by decide) dX6_wire_61 ?_
          refine hw_dup C dX6_wire_64 ?_
          refine hw_getI C cf_X2 lf_X6_88 hw_T1 dX6_wire_65 ?_
          refine hw_iconst C dX6_wire_68 (v := 1) (by decide) ?_
          refine hw_iadd C dX6_wire_69 ?_
          refine hw_putI C cf_X2 lf_X6_88 hw_T1 rfl rfl dX6_wire_70 (fun s14 => ?_)
          refine hw_aload_n C dX6_wire_73 rfl 0 rfl ?_
          refine hw_getR C cf_X6 lf_X6_59 hw_T0 (t2 := 1) (by decide) dX6_wire_74 ?_
          refine hw_getI C cf_X2 lf_X6_88 hw_T1 dX6_wire_77 ?_
          refine hw_iconst C dX6_wire_80 (v := 1) (by decide) ?_
          refine hw_isub C dX6_wire_81 ?_
          exact hw_iret C dX6_wire_82
        · refine hw_ldc C mw_128 dX6_wire_36 ?_
          exact hw_iret C dX6_wire_38
      · refine hw_ldc C mw_126 dX6_wire_21 ?_
        exact hw_iret C dX6_wire_23
/-! HumWire told(II)I, level 3 -/
def F_X6_told  (a1 : Int32) (a2 : Int32) (s0 : hw_St) : Option (Int32 × hw_St) := hw_bd (F_X2_wireAt 1 a1 s0) (fun r1 s2 => if r1 = 999 then (some ((-1000000001 : Int32), s2)) else (if a2 = (0 : Int32) then (hw_gd (hw_gH r1 5) (some ((s2 r1 0), s2))) else (if a2 = (1 : Int32) then (hw_gd (hw_gH r1 5) (some ((s2 r1 1), s2))) else (if a2 = (2 : Int32) then (hw_gd (hw_gH r1 5) (some ((s2 r1 2), s2))) else (if a2 = (3 : Int32) then (hw_gd (hw_gH r1 5) (some ((s2 r1 3), s2))) else (if a2 = (4 : Int32) then (hw_gd (hw_gH r1 5) (some ((s2 r1 4), s2))) else (if a2 = (5 : Int32) then (hw_gd (hw_gH r1 5) (if (s2 r1 5) = 0 then (some ((0 : Int32), s2)) else (some ((1 : Int32), s2)))) else (if a2 = (6 : Int32) then (hw_gd (hw_gH r1 5) (some ((s2 r1 6), s2))) else (if a2 = (7 : Int32) then (hw_gd (hw_gH r1 5) (hw_bd (F_X5_loses r1 s2) (fun r28 s29 => some (r28, s29)))) else (if a2 = (8 : Int32) then (hw_gd (hw_gH r1 5) (hw_bd (F_X5_worth r1 s2) (fun r33 s34 => some (r33, s34)))) else (some ((-1000000001 : Int32), s2))))))))))))
set_option maxRecDepth 20000 in
theorem M_X6_told (E : hw_E) (hE : hw_eT E = hw_TH) (a1 : Int32) (a2 : Int32) (s0 : hw_St) : hw_M E yX6_told cX6_told 4 (some .int) 3 [hw_rv (hw_ea E) 0, .int a1, .int a2] s0 hw_ri (F_X6_told a1 a2 s0) := by
  refine hw_entry (own := RX6) (TL := hw_TH) (by decide) rfl hE (hw_cR (hw_cI (hw_cI hw_cN))) (hw_l8 rfl) (fun G hG C => ?_)
  subst hG
  have hTL := hE
  show hw_K G 4 hw_ri _ 0 [(0, hw_rv (hw_ea (hw_gE G)) 0), (1, .int a1), (2, .int a2)] [] s0
  unfold F_X6_told
  refine hw_aload_n C dX6_told_0 rfl 0 rfl ?_
  refine hw_getR C cf_X6 lf_X6_59 hw_T0 (t2 := 1) (by decide) dX6_told_1 ?_
  refine hw_iload_n C dX6_told_4 rfl 1 rfl ?_
  refine hw_callVq C (M_X2_wireAt (hw_gE G) hTL 1 a1 s0) W_X2_wireAt SV_X2_wireAt cf_X2 hw_T1 mw_174 (by decide) rfl ⟨rfl, hw_l8 rfl⟩ dX6_told_5 (fun r1 s2 => ?_)
  refine hw_astore_n C dX6_told_8 rfl (by decide) rfl ?_
  refine hw_aload_n C dX6_told_9 rfl 0 rfl ?_
  refine hw_ifnonnull C dX6_told_10 (tgt := 16) (by decide) (fun c3 => ?_) (fun c3 => ?_)
  · refine hw_iload_n C dX6_told_16 rfl 3 rfl ?_
    refine hw_ifK (fun c6 => ?_) (fun c6 => ?_)
    · refine hw_tabIn C dX6_told_17 c6 (off := 51) (tgt := 68) (by decide) ?_
      refine hw_aload_n C dX6_told_68 rfl 0 rfl ?_
      refine hw_gdK (fun h5 => ?_)
      have T_4 := hw_gH_T h5
      refine hw_getI C cf_X5 lf_X6_104 T_4 dX6_told_69 ?_
      exact hw_iret C dX6_told_72
    · refine hw_ifK (fun c9 => ?_) (fun c9 => ?_)
      · refine hw_tabIn C dX6_told_17 c9 (off := 56) (tgt := 73) (by decide) ?_
        refine hw_aload_n C dX6_told_73 rfl 0 rfl ?_
        refine hw_gdK (fun h8 => ?_)
        have T_7 := hw_gH_T h8
        refine hw_getI C cf_X5 lf_X6_107 T_7 dX6_told_74 ?_
        exact hw_iret C dX6_told_77
      · refine hw_ifK (fun c12 => ?_) (fun c12 => ?_)
        · refine hw_tabIn C dX6_told_17 c12 (off := 61) (tgt := 78) (by decide) ?_
          refine hw_aload_n C dX6_told_78 rfl 0 rfl ?_
          refine hw_gdK (fun h11 => ?_)
          have T_10 := hw_gH_T h11
          refine hw_getI C cf_X5 lf_X6_110 T_10 dX6_told_79 ?_
          exact hw_iret C dX6_told_82
        · refine hw_ifK (fun c15 => ?_) (fun c15 => ?_)
          · refine hw_tabIn C dX6_told_17 c15 (off := 66) (tgt := 83) (by decide) ?_
            refine hw_aload_n C dX6_told_83 rfl 0 rfl ?_
            refine hw_gdK (fun h14 => ?_)
            have T_13 := hw_gH_T h14
            refine hw_getI C cf_X5 lf_X6_113 T_13 dX6_told_84 ?_
            exact hw_iret C dX6_told_87
          · refine hw_ifK (fun c18 => ?_) (fun c18 => ?_)
            · refine hw_tabIn C dX6_told_17 c18 (off := 71) (tgt := 88) (by decide) ?_
              refine hw_aload_n C dX6_told_88 rfl 0 rfl ?_
              refine hw_gdK (fun h17 => ?_)
              have T_16 := hw_gH_T h17
              refine hw_getI C cf_X5 lf_X6_116 T_16 dX6_told_89 ?_
              exact hw_iret C dX6_told_92
            · refine hw_ifK (fun c22 => ?_) (fun c22 => ?_)
              · refine hw_tabIn C dX6_told_17 c22 (off := 76) (tgt := 93) (by decide) ?_
                refine hw_aload_n C dX6_told_93 rfl 0 rfl ?_
                refine hw_gdK (fun h20 => ?_)
                have T_19 := hw_gH_T h20
                refine hw_getI C cf_X5 lf_X6_119 T_19 dX6_told_94 ?_
                refine hw_if_eq C dX6_told_97 (tgt := 104) (by decide) (fun c21 => ?_) (fun c21 => ?_)
                · refine hw_iconst C dX6_told_104 (v := 0) (by decide) ?_
                  exact hw_iret C dX6_told_105
                · refine hw_iconst C dX6_told_100 (v := 1) (by decide) ?_
                  refine hw_goto C dX6_told_101 (tgt := 105) (by decide) ?_
                  exact hw_iret C dX6_told_105
              · refine hw_ifK (fun c25 => ?_) (fun c25 => ?_)
                · refine hw_tabIn C dX6_told_17 c25 (off := 89) (tgt := 106) (by decide) ?_
                  refine hw_aload_n C dX6_told_106 rfl 0 rfl ?_
                  refine hw_gdK (fun h24 => ?_)
                  have T_23 := hw_gH_T h24
                  refine hw_getI C cf_X5 lf_X6_122 T_23 dX6_told_107 ?_
                  exact hw_iret C dX6_told_110
                · refine hw_ifK (fun c30 => ?_) (fun c30 => ?_)
                  · refine hw_tabIn C dX6_told_17 c30 (off := 94) (tgt := 111) (by decide) ?_
                    refine hw_aload_n C dX6_told_111 rfl 0 rfl ?_
                    refine hw_gdK (fun h27 => ?_)
                    have T_26 := hw_gH_T h27
                    refine hw_callVi C (M_X5_loses (hw_gE G) hTL r1 s2) W_X5_loses SV_X5_loses cf_X5 T_26 mw_178 (by decide) rfl ⟨rfl, hw_l8 rfl⟩ dX6_told_112 (fun r28 s29 => ?_)
                    exact hw_iret C dX6_told_115
                  · refine hw_ifK (fun c35 => ?_) (fun c35 => ?_)
                    · refine hw_tabIn C dX6_told_17 c35 (off := 99) (tgt := 116) (by decide) ?_
                      refine hw_aload_n C dX6_told_116 rfl 0 rfl ?_
                      refine hw_gdK (fun h32 => ?_)
                      have T_31 := hw_gH_T h32
                      refine hw_callVi C (M_X5_worth (hw_gE G) hTL r1 s2) W_X5_worth SV_X5_worth cf_X5 T_31 mw_182 (by decide) rfl ⟨rfl, hw_l8 rfl⟩ dX6_told_117 (fun r33 s34 => ?_)
                      exact hw_iret C dX6_told_120
                    · refine hw_tabD C dX6_told_17 (cs := [0, 1, 2, 3, 4, 5, 6, 7, 8]) (by decide) (List.forall_mem_cons.mpr ⟨hw_ni c6 (z := 0) (by decide), List.forall_mem_cons.mpr ⟨hw_ni c9 (z := 1) (by decide), List.forall_mem_cons.mpr ⟨hw_ni c12 (z := 2) (by decide), List.forall_mem_cons.mpr ⟨hw_ni c15 (z := 3) (by decide), List.forall_mem_cons.mpr ⟨hw_ni c18 (z := 4) (by decide), List.forall_mem_cons.mpr ⟨hw_ni c22 (z := 5) (by decide), List.forall_mem_cons.mpr ⟨hw_ni c25 (z := 6) (by decide), List.forall_mem_cons.mpr ⟨hw_ni c30 (z := 7) (by decide), List.forall_mem_cons.mpr ⟨hw_ni c35 (z := 8) (by decide), fun _ h => absurd h List.not_mem_nil⟩⟩⟩⟩⟩⟩⟩⟩⟩) (tgt := 121) (by decide) ?_
                      refine hw_ldc C mw_126 dX6_told_121 ?_
                      exact hw_iret C dX6_told_123
  · refine hw_ldc C mw_126 dX6_told_13 ?_
    exact hw_iret C dX6_told_15
/-! HumWire as(II)I, level 4 -/
def F_X6_as  (a1 : Int32) (a2 : Int32) (s0 : hw_St) : Option (Int32 × hw_St) := hw_bd (F_X2_wireAt 1 a1 s0) (fun r1 s2 => if r1 = 999 then (some ((-1000000001 : Int32), s2)) else (hw_bd (F_X6_isKind a2 s2) (fun r4 s5 => if r4 = 0 then (some ((-1000000001 : Int32), s5)) else (hw_gd (hw_gH r1 5) (hw_bd (F_X6_isOfKind (s5 r1 0) a2 s5) (fun r9 s10 => if r9 = 0 then (some ((-1000000012 : Int32), s10)) else (some ((s10 r1 2), s10))))))))
set_option maxRecDepth 20000 in
theorem M_X6_as (E : hw_E) (hE : hw_eT E = hw_TH) (a1 : Int32) (a2 : Int32) (s0 : hw_St) : hw_M E yX6_as cX6_as 4 (some .int) 4 [hw_rv (hw_ea E) 0, .int a1, .int a2] s0 hw_ri (F_X6_as a1 a2 s0) := by
  refine hw_entry (own := RX6) (TL := hw_TH) (by decide) rfl hE (hw_cR (hw_cI (hw_cI hw_cN))) (hw_l8 rfl) (fun G hG C => ?_)
  subst hG
  have hTL := hE
  show hw_K G 4 hw_ri _ 0 [(0, hw_rv (hw_ea (hw_gE G)) 0), (1, .int a1), (2, .int a2)] [] s0
  unfold F_X6_as
  refine hw_aload_n C dX6_as_0 rfl 0 rfl ?_
  refine hw_getR C cf_X6 lf_X6_59 hw_T0 (t2 := 1) (by decide) dX6_as_1 ?_
  refine hw_iload_n C dX6_as_4 rfl 1 rfl ?_
  refine hw_callVq C (M_X2_wireAt (hw_gE G) hTL 1 a1 s0) W_X2_wireAt SV_X2_wireAt cf_X2 hw_T1 mw_174 (by decide) rfl ⟨rfl, hw_l8 rfl⟩ dX6_as_5 (fun r1 s2 => ?_)
  refine hw_astore_n C dX6_as_8 rfl (by decide) rfl ?_
  refine hw_aload_n C dX6_as_9 rfl 0 rfl ?_
  refine hw_ifnull C dX6_as_10 (tgt := 20) (by decide) (fun c3 => ?_) (fun c3 => ?_)
  · refine hw_ldc C mw_126 dX6_as_20 ?_
    exact hw_iret C dX6_as_22
  · refine hw_iload_n C dX6_as_13 rfl 3 rfl ?_
    refine hw_callSi C (M_X6_isKind (hw_gE G) hTL a2 s2) W_X6_isKind SS_X6_isKind mw_130 (by decide) rfl ⟨rfl, hw_l8 rfl⟩ dX6_as_14 (fun r4 s5 => ?_)
    refine hw_if_ne C dX6_as_17 (tgt := 23) (by decide) (fun c6 => ?_) (fun c6 => ?_)
    · refine hw_aload_n C dX6_as_23 rfl 0 rfl ?_
      refine hw_gdK (fun h8 => ?_)
      have T_7 := hw_gH_T h8
      refine hw_getI C cf_X5 lf_X6_104 T_7 dX6_as_24 ?_
      refine hw_iload_n C dX6_as_27 rfl 3 rfl ?_
      refine hw_callSi C (M_X6_isOfKind (hw_gE G) hTL (s5 r1 0) a2 s5) W_X6_isOfKind SS_X6_isOfKind mw_211 (by decide) rfl ⟨rfl, hw_l8 rfl⟩ dX6_as_28 (fun r9 s10 => ?_)
      refine hw_if_eq C dX6_as_31 (tgt := 41) (by decide) (fun c11 => ?_) (fun c11 => ?_)
      · refine hw_ldc C mw_210 dX6_as_41 ?_
        exact hw_iret C dX6_as_43
      · refine hw_aload_n C dX6_as_34 rfl 0 rfl ?_
        refine hw_getI C cf_X5 lf_X6_110 T_7 dX6_as_35 ?_
        refine hw_goto C dX6_as_38 (tgt := 43) (by decide) ?_
        exact hw_iret C dX6_as_43
    · refine hw_ldc C mw_126 dX6_as_20 ?_
      exact hw_iret C dX6_as_22
/-! HumWire turns(II)I, level 3 -/
def F_X6_turns  (a1 : Int32) (a2 : Int32) (s0 : hw_St) : Option (Int32 × hw_St) := hw_bd (F_X2_wireAt 1 a1 s0) (fun r1 s2 => if r1 = 999 then (some ((-1000000001 : Int32), s2)) else (hw_bd (F_X6_isKind a2 s2) (fun r4 s5 => if r4 = 0 then (some ((-1000000001 : Int32), s5)) else (hw_gd (hw_gH r1 5) (hw_nm (s5 r1 0) (fun x9 => hw_nm (hw_up s5 r1 0 a2) (fun s10 => some (x9, s10))))))))
set_option maxRecDepth 20000 in
theorem M_X6_turns (E : hw_E) (hE : hw_eT E = hw_TH) (a1 : Int32) (a2 : Int32) (s0 : hw_St) : hw_M E yX6_turns cX6_turns 5 (some .int) 3 [hw_rv (hw_ea E) 0, .int a1, .int a2] s0 hw_ri (F_X6_turns a1 a2 s0) := by
  refine hw_entry (own := RX6) (TL := hw_TH) (by decide) rfl hE (hw_cR (hw_cI (hw_cI hw_cN))) (hw_l8 rfl) (fun G hG C => ?_)
  subst hG
  have hTL := hE
  show hw_K G 5 hw_ri _ 0 [(0, hw_rv (hw_ea (hw_gE G)) 0), (1, .int a1), (2, .int a2)] [] s0
  unfold F_X6_turns
  refine hw_aload_n C dX6_turns_0 rfl 0 rfl ?_
  refine hw_getR C cf_X6 lf_X6_59 hw_T0 (t2 := 1) (by decide) dX6_turns_1 ?_
  refine hw_iload_n C dX6_turns_4 rfl 1 rfl ?_
  refine hw_callVq C (M_X2_wireAt (hw_gE G) hTL 1 a1 s0) W_X2_wireAt SV_X2_wireAt cf_X2 hw_T1 mw_174 (by decide) rfl ⟨rfl, hw_l8 rfl⟩ dX6_turns_5 (fun r1 s2 => ?_)
  refine hw_astore_n C dX6_turns_8 rfl (by decide) rfl ?_
  refine hw_aload_n C dX6_turns_9 rfl 0 rfl ?_
  refine hw_ifnull C dX6_turns_10 (tgt := 20) (by decide) (fun c3 => ?_) (fun c3 => ?_)
  · refine hw_ldc C mw_126 dX6_turns_20 ?_
    exact hw_iret C dX6_turns_22
  · refine hw_iload_n C dX6_turns_13 rfl 3 rfl ?_
    refine hw_callSi C (M_X6_isKind (hw_gE G) hTL a2 s2) W_X6_isKind SS_X6_isKind mw_130 (by decide) rfl ⟨rfl, hw_l8 rfl⟩ dX6_turns_14 (fun r4 s5 => ?_)
    refine hw_if_ne C dX6_turns_17 (tgt := 23) (by decide) (fun c6 => ?_) (fun c6 => ?_)
    · refine hw_aload_n C dX6_turns_23 rfl 0 rfl ?_
      refine hw_gdK (fun h8 => ?_)
      have T_7 := hw_gH_T h8
      refine hw_getI C cf_X5 lf_X6_104 T_7 dX6_turns_24 ?_
      refine hw_istoreN C dX6_turns_27 (by decide) (fun _ => rfl) (fun x9 => ?_)
      refine hw_aload_n C dX6_turns_29 rfl 1 rfl ?_
      refine hw_iload_n C dX6_turns_30 rfl 4 rfl ?_
      refine hw_putI C cf_X5 lf_X6_104 T_7 rfl rfl dX6_turns_31 (fun s10 => ?_)
      refine hw_iload C dX6_turns_34 0 rfl ?_
      exact hw_iret C dX6_turns_36
    · refine hw_ldc C mw_126 dX6_turns_20 ?_
      exact hw_iret C dX6_turns_22
/-! HumWire set(III)I, level 4 -/
def F_X6_set  (a1 : Int32) (a2 : Int32) (a3 : Int32) (s0 : hw_St) : Option (Int32 × hw_St) := hw_bd (F_X2_wireAt 1 a1 s0) (fun r1 s2 => if r1 = 999 then (some ((-1000000001 : Int32), s2)) else (hw_bd (F_X6_canBeSet a2 a3 s2) (fun r4 s5 => if r4 = 0 then (some ((-1000000001 : Int32), s5)) else (hw_gd (hw_gH r1 5) (hw_bd (F_X5_change r1 a2 a3 s5) (fun r9 s10 => some (r9, s10)))))))
set_option maxRecDepth 20000 in
theorem M_X6_set (E : hw_E) (hE : hw_eT E = hw_TH) (a1 : Int32) (a2 : Int32) (a3 : Int32) (s0 : hw_St) : hw_M E yX6_set cX6_set 5 (some .int) 4 [hw_rv (hw_ea E) 0, .int a1, .int a2, .int a3] s0 hw_ri (F_X6_set a1 a2 a3 s0) := by
  refine hw_entry (own := RX6) (TL := hw_TH) (by decide) rfl hE (hw_cR (hw_cI (hw_cI (hw_cI hw_cN)))) (hw_l8 rfl) (fun G hG C => ?_)
  subst hG
  have hTL := hE
  show hw_K G 5 hw_ri _ 0 [(0, hw_rv (hw_ea (hw_gE G)) 0), (1, .int a1), (2, .int a2), (3, .int a3)] [] s0
  unfold F_X6_set
  refine hw_aload_n C dX6_set_0 rfl 0 rfl ?_
  refine hw_getR C cf_X6 lf_X6_59 hw_T0 (t2 := 1) (by decide) dX6_set_1 ?_
  refine hw_iload_n C dX6_set_4 rfl 1 rfl ?_
  refine hw_callVq C (M_X2_wireAt (hw_gE G) hTL 1 a1 s0) W_X2_wireAt SV_X2_wireAt cf_X2 hw_T1 mw_174 (by decide) rfl ⟨rfl, hw_l8 rfl⟩ dX6_set_5 (fun r1 s2 => ?_)
  refine hw_astore C dX6_set_8 (by decide) rfl ?_
  refine hw_aload C dX6_set_10 0 rfl ?_
  refine hw_ifnull C dX6_set_12 (tgt := 23) (by decide) (fun c3 => ?_) (fun c3 => ?_)
  · refine hw_ldc C mw_126 dX6_set_23 ?_
    exact hw_iret C dX6_set_25
  · refine hw_iload_n C dX6_set_15 rfl 3 rfl ?_
    refine hw_iload_n C dX6_set_16 rfl 4 rfl ?_
    refine hw_callSi C (M_X6_canBeSet (hw_gE G) hTL a2 a3 s2) W_X6_canBeSet SS_X6_canBeSet mw_239 (by decide) rfl ⟨rfl, hw_l8 rfl⟩ dX6_set_17 (fun r4 s5 => ?_)
    refine hw_if_ne C dX6_set_20 (tgt := 26) (by decide) (fun c6 => ?_) (fun c6 => ?_)
    · refine hw_aload C dX6_set_26 0 rfl ?_
      refine hw_iload_n C dX6_set_28 rfl 3 rfl ?_
      refine hw_iload_n C dX6_set_29 rfl 4 rfl ?_
      refine hw_gdK (fun h8 => ?_)
      have T_7 := hw_gH_T h8
      refine hw_callVi C (M_X5_change (hw_gE G) hTL r1 a2 a3 s5) W_X5_change SV_X5_change cf_X5 T_7 mw_242 (by decide) rfl ⟨rfl, hw_l8 rfl⟩ dX6_set_30 (fun r9 s10 => ?_)
      exact hw_iret C dX6_set_33
    · refine hw_ldc C mw_126 dX6_set_23 ?_
      exact hw_iret C dX6_set_25
/-! HumWire wind(II)I, level 3 -/
def F_X6_wind  (a1 : Int32) (a2 : Int32) (s0 : hw_St) : Option (Int32 × hw_St) := hw_bd (F_X6_isHour a1 s0) (fun r1 s2 => if r1 = 0 then (some ((-1000000001 : Int32), s2)) else (hw_bd (F_X6_isWind a2 s2) (fun r4 s5 => if r4 = 0 then (some ((-1000000001 : Int32), s5)) else (hw_gd (hw_inb a1 24) (hw_nm (s5 3 a1.toNatClampNeg) (fun x8 => hw_gd (hw_inb a1 24) (hw_nm (hw_up s5 3 a1.toNatClampNeg a2) (fun s9 => some (x8, s9)))))))))
set_option maxRecDepth 20000 in
theorem M_X6_wind (E : hw_E) (hE : hw_eT E = hw_TH) (a1 : Int32) (a2 : Int32) (s0 : hw_St) : hw_M E yX6_wind cX6_wind 4 (some .int) 3 [hw_rv (hw_ea E) 0, .int a1, .int a2] s0 hw_ri (F_X6_wind a1 a2 s0) := by
  refine hw_entry (own := RX6) (TL := hw_TH) (by decide) rfl hE (hw_cR (hw_cI (hw_cI hw_cN))) (hw_l8 rfl) (fun G hG C => ?_)
  subst hG
  have hTL := hE
  show hw_K G 4 hw_ri _ 0 [(0, hw_rv (hw_ea (hw_gE G)) 0), (1, .int a1), (2, .int a2)] [] s0
  unfold F_X6_wind
  refine hw_iload_n C dX6_wind_0 rfl 1 rfl ?_
  refine hw_callSi C (M_X6_isHour (hw_gE G) hTL a1 s0) W_X6_isHour SS_X6_isHour mw_255 (by decide) rfl ⟨rfl, hw_l8 rfl⟩ dX6_wind_1 (fun r1 s2 => ?_)
  refine hw_if_eq C dX6_wind_4 (tgt := 14) (by decide) (fun c3 => ?_) (fun c3 => ?_)
  · refine hw_ldc C mw_126 dX6_wind_14 ?_
    exact hw_iret C dX6_wind_16
  · refine hw_iload_n C dX6_wind_7 rfl 2 rfl ?_
    refine hw_callSi C (M_X6_isWind (hw_gE G) hTL a2 s2) W_X6_isWind SS_X6_isWind mw_258 (by decide) rfl ⟨rfl, hw_l8 rfl⟩ dX6_wind_8 (fun r4 s5 => ?_)
    refine hw_if_ne C dX6_wind_11 (tgt := 17) (by decide) (fun c6 => ?_) (fun c6 => ?_)
    · refine hw_aload_n C dX6_wind_17 rfl 0 rfl ?_
      refine hw_getR C cf_X6 lf_X6_59 hw_T0 (t2 := 1) (by decide) dX6_wind_18 ?_
      refine hw_getR C cf_X2 lf_X6_150 hw_T1 (t2 := 3) (by decide) dX6_wind_21 ?_
      refine hw_iload_n C dX6_wind_24 rfl 1 rfl ?_
      refine hw_iald C hw_T3 (by decide) dX6_wind_25 (fun h7 => ?_)
      refine hw_istore_nN C dX6_wind_26 rfl (by decide) (fun _ => rfl) (fun x8 => ?_)
      refine hw_aload_n C dX6_wind_27 rfl 1 rfl ?_
      refine hw_getR C cf_X6 lf_X6_59 hw_T0 (t2 := 1) (by decide) dX6_wind_28 ?_
      refine hw_getR C cf_X2 lf_X6_150 hw_T1 (t2 := 3) (by decide) dX6_wind_31 ?_
      refine hw_iload_n C dX6_wind_34 rfl 2 rfl ?_
      refine hw_iload_n C dX6_wind_35 rfl 3 rfl ?_
      refine hw_iast C hw_T3 (by decide) dX6_wind_36 (fun h10 s9 => ?_)
      refine hw_iload_n C dX6_wind_37 rfl 0 rfl ?_
      exact hw_iret C dX6_wind_38
    · refine hw_ldc C mw_126 dX6_wind_14 ?_
      exact hw_iret C dX6_wind_16
/-! HumWire windAt(I)I, level 3 -/
def F_X6_windAt  (a1 : Int32) (s0 : hw_St) : Option (Int32 × hw_St) := hw_bd (F_X6_isHour a1 s0) (fun r1 s2 => if r1 = 0 then (some ((-1000000001 : Int32), s2)) else (hw_gd (hw_inb a1 24) (some ((s2 3 a1.toNatClampNeg), s2))))
set_option maxRecDepth 20000 in
theorem M_X6_windAt (E : hw_E) (hE : hw_eT E = hw_TH) (a1 : Int32) (s0 : hw_St) : hw_M E yX6_windAt cX6_windAt 2 (some .int) 3 [hw_rv (hw_ea E) 0, .int a1] s0 hw_ri (F_X6_windAt a1 s0) := by
  refine hw_entry (own := RX6) (TL := hw_TH) (by decide) rfl hE (hw_cR (hw_cI hw_cN)) (hw_l8 rfl) (fun G hG C => ?_)
  subst hG
  have hTL := hE
  show hw_K G 2 hw_ri _ 0 [(0, hw_rv (hw_ea (hw_gE G)) 0), (1, .int a1)] [] s0
  unfold F_X6_windAt
  refine hw_iload_n C dX6_windAt_0 rfl 1 rfl ?_
  refine hw_callSi C (M_X6_isHour (hw_gE G) hTL a1 s0) W_X6_isHour SS_X6_isHour mw_255 (by decide) rfl ⟨rfl, hw_l8 rfl⟩ dX6_windAt_1 (fun r1 s2 => ?_)
  refine hw_if_eq C dX6_windAt_4 (tgt := 19) (by decide) (fun c3 => ?_) (fun c3 => ?_)
  · refine hw_ldc C mw_126 dX6_windAt_19 ?_
    exact hw_iret C dX6_windAt_21
  · refine hw_aload_n C dX6_windAt_7 rfl 0 rfl ?_
    refine hw_getR C cf_X6 lf_X6_59 hw_T0 (t2 := 1) (by decide) dX6_windAt_8 ?_
    refine hw_getR C cf_X2 lf_X6_150 hw_T1 (t2 := 3) (by decide) dX6_windAt_11 ?_
    refine hw_iload_n C dX6_windAt_14 rfl 1 rfl ?_
    refine hw_iald C hw_T3 (by decide) dX6_windAt_15 (fun h4 => ?_)
    refine hw_goto C dX6_windAt_16 (tgt := 21) (by decide) ?_
    exact hw_iret C dX6_windAt_21
/-! HumWire limit(I)I, level 2 -/
def F_X6_limit  (a1 : Int32) (s0 : hw_St) : Option (Int32 × hw_St) := hw_bd (F_X6_isWithin a1 (0 : Int32) (9999 : Int32) s0) (fun r1 s2 => if r1 = 0 then (some ((-1000000001 : Int32), s2)) else (hw_nm (s2 1 8) (fun x4 => hw_nm (hw_up s2 1 8 a1) (fun s5 => some (x4, s5)))))
set_option maxRecDepth 20000 in
theorem M_X6_limit (E : hw_E) (hE : hw_eT E = hw_TH) (a1 : Int32) (s0 : hw_St) : hw_M E yX6_limit cX6_limit 3 (some .int) 2 [hw_rv (hw_ea E) 0, .int a1] s0 hw_ri (F_X6_limit a1 s0) := by
  refine hw_entry (own := RX6) (TL := hw_TH) (by decide) rfl hE (hw_cR (hw_cI hw_cN)) (hw_l8 rfl) (fun G hG C => ?_)
  subst hG
  have hTL := hE
  show hw_K G 3 hw_ri _ 0 [(0, hw_rv (hw_ea (hw_gE G)) 0), (1, .int a1)] [] s0
  unfold F_X6_limit
  refine hw_iload_n C dX6_limit_0 rfl 1 rfl ?_
  refine hw_iconst C dX6_limit_1 (v := 0) (by decide) ?_
  refine hw_sipush C dX6_limit_2 (v := 9999) (by decide) ?_
  refine hw_callSi C (M_X6_isWithin (hw_gE G) hTL a1 (0 : Int32) (9999 : Int32) s0) W_X6_isWithin SS_X6_isWithin mw_133 (by decide) rfl ⟨rfl, hw_l8 rfl⟩ dX6_limit_5 (fun r1 s2 => ?_)
  refine hw_if_ne C dX6_limit_8 (tgt := 14) (by decide) (fun c3 => ?_) (fun c3 => ?_)
  · refine hw_aload_n C dX6_limit_14 rfl 0 rfl ?_
    refine hw_getR C cf_X6 lf_X6_59 hw_T0 (t2 := 1) (by decide) dX6_limit_15 ?_
    refine hw_getI C cf_X2 lf_X6_157 hw_T1 dX6_limit_18 ?_
    refine hw_istore_nN C dX6_limit_21 rfl (by decide) (fun _ => rfl) (fun x4 => ?_)
    refine hw_aload_n C dX6_limit_22 rfl 1 rfl ?_
    refine hw_getR C cf_X6 lf_X6_59 hw_T0 (t2 := 1) (by decide) dX6_limit_23 ?_
    refine hw_iload_n C dX6_limit_26 rfl 2 rfl ?_
    refine hw_putI C cf_X2 lf_X6_157 hw_T1 rfl rfl dX6_limit_27 (fun s5 => ?_)
    refine hw_iload_n C dX6_limit_30 rfl 0 rfl ?_
    exact hw_iret C dX6_limit_31
  · refine hw_ldc C mw_126 dX6_limit_11 ?_
    exact hw_iret C dX6_limit_13
/-! HumWire deal(II)I, level 3 -/
def S_X6_deal_25  (w25 : Int32 → Int32 → Int32 → Int32 → hw_St → Option (Int32 × hw_St)) (l1 : Int32) (l2 : Int32) (l3 : Int32) (l4 : Int32) (s0 : hw_St) : Option (Int32 × hw_St) := if l2 ≤ l4 then (some (l3, s0)) else (hw_bd (F_X2_drawWind 1 (hw_rem (l1 + l4) (24 : Int32)) s0) (fun r8 s9 => w25 l1 l2 r8 (l4 + 1) s9))
def L_X6_deal_25  : Nat → Int32 → Int32 → Int32 → Int32 → hw_St → Option (Int32 × hw_St)
  | 0 => fun _ _ _ _ _ => none
  | n + 1 => S_X6_deal_25  (L_X6_deal_25  n)
def F_X6_deal  (a1 : Int32) (a2 : Int32) (s0 : hw_St) : Option (Int32 × hw_St) := hw_bd (F_X6_isHour a1 s0) (fun r1 s2 => if r1 = 0 then (some ((-1000000001 : Int32), s2)) else (hw_bd (F_X6_isWithin a2 (1 : Int32) (24 : Int32) s2) (fun r4 s5 => if r4 = 0 then (some ((-1000000001 : Int32), s5)) else (L_X6_deal_25 130 a1 a2 (0 : Int32) (0 : Int32) s5))))
set_option maxRecDepth 20000 in
theorem KS_X6_deal_25 {G : hw_G} (C : hw_Ok G cX6_deal RX6 5 3 (some .int) hw_TH) (hTL : hw_eT (hw_gE G) = hw_TH) (w25 : Int32 → Int32 → Int32 → Int32 → hw_St → Option (Int32 × hw_St)) (H_w25 : ∀ (l1 : Int32) (l2 : Int32) (l3 : Int32) (l4 : Int32) (s0 : hw_St), hw_K G 5 hw_ri (w25 l1 l2 l3 l4 s0) 25 [(0, hw_rv (hw_ea (hw_gE G)) 0), (1, .int l1), (2, .int l2), (3, .int l3), (4, .int l4)] [] s0) (l1 : Int32) (l2 : Int32) (l3 : Int32) (l4 : Int32) (s0 : hw_St) : hw_K G 5 hw_ri (S_X6_deal_25 w25 l1 l2 l3 l4 s0) 25 [(0, hw_rv (hw_ea (hw_gE G)) 0), (1, .int l1), (2, .int l2), (3, .int l3), (4, .int l4)] [] s0 := by
  unfold S_X6_deal_25
  refine hw_iload C dX6_deal_25 4 rfl ?_
  refine hw_iload_n C dX6_deal_27 rfl 2 rfl ?_
  refine hw_icmp_ge C dX6_deal_28 (tgt := 52) (by decide) (fun c7 => ?_) (fun c7 => ?_)
  · refine hw_iload_n C dX6_deal_52 rfl 3 rfl ?_
    exact hw_iret C dX6_deal_53
  · refine hw_aload_n C dX6_deal_31 rfl 0 rfl ?_
    refine hw_getR C cf_X6 lf_X6_59 hw_T0 (t2 := 1) (by decide) dX6_deal_32 ?_
    refine hw_iload_n C dX6_deal_35 rfl 1 rfl ?_
    refine hw_iload C dX6_deal_36 4 rfl ?_
    refine hw_iadd C dX6_deal_38 ?_
    refine hw_bipush C dX6_deal_39 (v := 24) (by decide) ?_
    refine hw_iremC C dX6_deal_41 (by decide) ?_
    refine hw_callVi C (M_X2_drawWind (hw_gE G) hTL 1 (hw_rem (l1 + l4) (24 : Int32)) s0) W_X2_drawWind SV_X2_drawWind cf_X2 hw_T1 mw_292 (by decide) rfl ⟨rfl, hw_l8 rfl⟩ dX6_deal_42 (fun r8 s9 => ?_)
    refine hw_istore_n C dX6_deal_45 rfl (by decide) rfl ?_
    refine hw_iinc C dX6_deal_46 4 rfl (v := 1) (by decide) (by decide) rfl ?_
    refine hw_goto C dX6_deal_49 (tgt := 25) (by decide) ?_
    exact hw_lv [2, 3, 4, 1, 0] rfl (H_w25 l1 l2 r8 (l4 + 1) s9)
theorem KL_X6_deal_25 {G : hw_G} (C : hw_Ok G cX6_deal RX6 5 3 (some .int) hw_TH) (hTL : hw_eT (hw_gE G) = hw_TH) : ∀ (n_ : Nat) (l1 : Int32) (l2 : Int32) (l3 : Int32) (l4 : Int32) (s0 : hw_St), hw_K G 5 hw_ri (L_X6_deal_25 n_ l1 l2 l3 l4 s0) 25 [(0, hw_rv (hw_ea (hw_gE G)) 0), (1, .int l1), (2, .int l2), (3, .int l3), (4, .int l4)] [] s0 := by
  intro n_
  induction n_ with
  | zero => intros; exact hw_nil
  | succ n_ ih => intro l1 l2 l3 l4 s0; exact KS_X6_deal_25 C hTL (L_X6_deal_25 n_) ih l1 l2 l3 l4 s0
set_option maxRecDepth 20000 in
theorem M_X6_deal (E : hw_E) (hE : hw_eT E = hw_TH) (a1 : Int32) (a2 : Int32) (s0 : hw_St) : hw_M E yX6_deal cX6_deal 5 (some .int) 3 [hw_rv (hw_ea E) 0, .int a1, .int a2] s0 hw_ri (F_X6_deal a1 a2 s0) := by
  refine hw_entry (own := RX6) (TL := hw_TH) (by decide) rfl hE (hw_cR (hw_cI (hw_cI hw_cN))) (hw_l8 rfl) (fun G hG C => ?_)
  subst hG
  have hTL := hE
  show hw_K G 5 hw_ri _ 0 [(0, hw_rv (hw_ea (hw_gE G)) 0), (1, .int a1), (2, .int a2)] [] s0
  unfold F_X6_deal
  refine hw_iload_n C dX6_deal_0 rfl 1 rfl ?_
  refine hw_callSi C (M_X6_isHour (hw_gE G) hTL a1 s0) W_X6_isHour SS_X6_isHour mw_255 (by decide) rfl ⟨rfl, hw_l8 rfl⟩ dX6_deal_1 (fun r1 s2 => ?_)
  refine hw_if_eq C dX6_deal_4 (tgt := 17) (by decide) (fun c3 => ?_) (fun c3 => ?_)
  · refine hw_ldc C mw_126 dX6_deal_17 ?_
    exact hw_iret C dX6_deal_19
  · refine hw_iload_n C dX6_deal_7 rfl 2 rfl ?_
    refine hw_iconst C dX6_deal_8 (v := 1) (by decide) ?_
    refine hw_bipush C dX6_deal_9 (v := 24) (by decide) ?_
    refine hw_callSi C (M_X6_isWithin (hw_gE G) hTL a2 (1 : Int32) (24 : Int32) s2) W_X6_isWithin SS_X6_isWithin mw_133 (by decide) rfl ⟨rfl, hw_l8 rfl⟩ dX6_deal_11 (fun r4 s5 => ?_)
    refine hw_if_ne C dX6_deal_14 (tgt := 20) (by decide) (fun c6 => ?_) (fun c6 => ?_)
    · refine hw_iconst C dX6_deal_20 (v := 0) (by decide) ?_
      refine hw_istore_n C dX6_deal_21 rfl (by decide) rfl ?_
      refine hw_iconst C dX6_deal_22 (v := 0) (by decide) ?_
      refine hw_istore C dX6_deal_23 (by decide) rfl ?_
      exact hw_lv [2, 3, 4, 1, 0] rfl (KL_X6_deal_25 C hTL 130 a1 a2 (0 : Int32) (0 : Int32) s5)
    · refine hw_ldc C mw_126 dX6_deal_17 ?_
      exact hw_iret C dX6_deal_19
/-! HumWire seed(I)I, level 1 -/
def F_X6_seed  (a1 : Int32) (s0 : hw_St) : Option (Int32 × hw_St) := hw_nm (s0 1 9) (fun x1 => hw_nm (hw_up s0 1 9 a1) (fun s2 => some (x1, s2)))
set_option maxRecDepth 20000 in
theorem M_X6_seed (E : hw_E) (hE : hw_eT E = hw_TH) (a1 : Int32) (s0 : hw_St) : hw_M E yX6_seed cX6_seed 3 (some .int) 1 [hw_rv (hw_ea E) 0, .int a1] s0 hw_ri (F_X6_seed a1 s0) := by
  refine hw_entry (own := RX6) (TL := hw_TH) (by decide) rfl hE (hw_cR (hw_cI hw_cN)) (hw_l8 rfl) (fun G hG C => ?_)
  subst hG
  have hTL := hE
  show hw_K G 3 hw_ri _ 0 [(0, hw_rv (hw_ea (hw_gE G)) 0), (1, .int a1)] [] s0
  unfold F_X6_seed
  refine hw_aload_n C dX6_seed_0 rfl 0 rfl ?_
  refine hw_getR C cf_X6 lf_X6_59 hw_T0 (t2 := 1) (by decide) dX6_seed_1 ?_
  refine hw_getI C cf_X2 lf_X6_164 hw_T1 dX6_seed_4 ?_
  refine hw_istore_nN C dX6_seed_7 rfl (by decide) (fun _ => rfl) (fun x1 => ?_)
  refine hw_aload_n C dX6_seed_8 rfl 1 rfl ?_
  refine hw_getR C cf_X6 lf_X6_59 hw_T0 (t2 := 1) (by decide) dX6_seed_9 ?_
  refine hw_iload_n C dX6_seed_12 rfl 2 rfl ?_
  refine hw_putI C cf_X2 lf_X6_164 hw_T1 rfl rfl dX6_seed_13 (fun s2 => ?_)
  refine hw_iload_n C dX6_seed_16 rfl 0 rfl ?_
  exact hw_iret C dX6_seed_17
/-! HumWire by(III)I, level 5 -/
def F_X6_by  (a1 : Int32) (a2 : Int32) (a3 : Int32) (s0 : hw_St) : Option (Int32 × hw_St) := hw_bd (F_X2_wireAt 1 a1 s0) (fun r1 s2 => if r1 = 999 then (some ((-1000000001 : Int32), s2)) else (hw_bd (F_X6_isWind a2 s2) (fun r4 s5 => if r4 = 0 then (some ((-1000000001 : Int32), s5)) else (if a3 = (0 : Int32) then (hw_gd (hw_gH r1 5) (hw_bd (F_X5_air r1 a2 s5) (fun r9 s10 => some (r9, s10)))) else (if a3 = (1 : Int32) then (hw_gd (hw_gH r1 5) (hw_bd (F_X5_eddy r1 a2 s5) (fun r14 s15 => some (r14, s15)))) else (if a3 = (2 : Int32) then (hw_gd (hw_gH r1 5) (hw_bd (F_X5_off r1 a2 s5) (fun r19 s20 => some (r19, s20)))) else (if a3 = (3 : Int32) then (hw_bd (F_X2_bandOf 1 r1 a2 s5) (fun r22 s23 => some (r22, s23))) else (if a3 = (4 : Int32) then (hw_bd (F_X2_growth 1 r1 a2 s5) (fun r25 s26 => some (r25, s26))) else (if a3 = (5 : Int32) then (hw_bd (F_X2_holds 1 r1 a2 s5) (fun r28 s29 => if r28 = 0 then (hw_gd (hw_gH r1 5) (hw_bd (F_X5_eddy r1 a2 s29) (fun r33 s34 => some (r33, s34)))) else (hw_gd (hw_gH r1 5) (some ((s29 r1 2), s29))))) else (some ((-1000000001 : Int32), s5)))))))))))
set_option maxRecDepth 20000 in
theorem M_X6_by (E : hw_E) (hE : hw_eT E = hw_TH) (a1 : Int32) (a2 : Int32) (a3 : Int32) (s0 : hw_St) : hw_M E yX6_by cX6_by 5 (some .int) 5 [hw_rv (hw_ea E) 0, .int a1, .int a2, .int a3] s0 hw_ri (F_X6_by a1 a2 a3 s0) := by
  refine hw_entry (own := RX6) (TL := hw_TH) (by decide) rfl hE (hw_cR (hw_cI (hw_cI (hw_cI hw_cN)))) (hw_l8 rfl) (fun G hG C => ?_)
  subst hG
  have hTL := hE
  show hw_K G 5 hw_ri _ 0 [(0, hw_rv (hw_ea (hw_gE G)) 0), (1, .int a1), (2, .int a2), (3, .int a3)] [] s0
  unfold F_X6_by
  refine hw_aload_n C dX6_by_0 rfl 0 rfl ?_
  refine hw_getR C cf_X6 lf_X6_59 hw_T0 (t2 := 1) (by decide) dX6_by_1 ?_
  refine hw_iload_n C dX6_by_4 rfl 1 rfl ?_
  refine hw_callVq C (M_X2_wireAt (hw_gE G) hTL 1 a1 s0) W_X2_wireAt SV_X2_wireAt cf_X2 hw_T1 mw_174 (by decide) rfl ⟨rfl, hw_l8 rfl⟩ dX6_by_5 (fun r1 s2 => ?_)
  refine hw_astore C dX6_by_8 (by decide) rfl ?_
  refine hw_aload C dX6_by_10 0 rfl ?_
  refine hw_ifnull C dX6_by_12 (tgt := 22) (by decide) (fun c3 => ?_) (fun c3 => ?_)
  · refine hw_ldc C mw_126 dX6_by_22 ?_
    exact hw_iret C dX6_by_24
  · refine hw_iload_n C dX6_by_15 rfl 3 rfl ?_
    refine hw_callSi C (M_X6_isWind (hw_gE G) hTL a2 s2) W_X6_isWind SS_X6_isWind mw_258 (by decide) rfl ⟨rfl, hw_l8 rfl⟩ dX6_by_16 (fun r4 s5 => ?_)
    refine hw_if_ne C dX6_by_19 (tgt := 25) (by decide) (fun c6 => ?_) (fun c6 => ?_)
    · refine hw_iload_n C dX6_by_25 rfl 4 rfl ?_
      refine hw_ifK (fun c11 => ?_) (fun c11 => ?_)
      · refine hw_tabIn C dX6_by_26 c11 (off := 38) (tgt := 64) (by decide) ?_
        refine hw_aload C dX6_by_64 0 rfl ?_
        refine hw_iload_n C dX6_by_66 rfl 3 rfl ?_
        refine hw_gdK (fun h8 => ?_)
        have T_7 := hw_gH_T h8
        refine hw_callVi C (M_X5_air (hw_gE G) hTL r1 a2 s5) W_X5_air SV_X5_air cf_X5 T_7 mw_331 (by decide) rfl ⟨rfl, hw_l8 rfl⟩ dX6_by_67 (fun r9 s10 => ?_)
        exact hw_iret C dX6_by_70
      · refine hw_ifK (fun c16 => ?_) (fun c16 => ?_)
        · refine hw_tabIn C dX6_by_26 c16 (off := 45) (tgt := 71) (by decide) ?_
          refine hw_aload C dX6_by_71 0 rfl ?_
          refine hw_iload_n C dX6_by_73 rfl 3 rfl ?_
          refine hw_gdK (fun h13 => ?_)
          have T_12 := hw_gH_T h13
          refine hw_callVi C (M_X5_eddy (hw_gE G) hTL r1 a2 s5) W_X5_eddy SV_X5_eddy cf_X5 T_12 mw_335 (by decide) rfl ⟨rfl, hw_l8 rfl⟩ dX6_by_74 (fun r14 s15 => ?_)
          exact hw_iret C dX6_by_77
        · refine hw_ifK (fun c21 => ?_) (fun c21 => ?_)
          · refine hw_tabIn C dX6_by_26 c21 (off := 52) (tgt := 78) (by decide) ?_
            refine hw_aload C dX6_by_78 0 rfl ?_
            refine hw_iload_n C dX6_by_80 rfl 3 rfl ?_
            refine hw_gdK (fun h18 => ?_)
            have T_17 := hw_gH_T h18
            refine hw_callVi C (M_X5_off (hw_gE G) hTL r1 a2 s5) W_X5_off SV_X5_off cf_X5 T_17 mw_340 (by decide) rfl ⟨rfl, hw_l8 rfl⟩ dX6_by_81 (fun r19 s20 => ?_)
            exact hw_iret C dX6_by_84
          · refine hw_ifK (fun c24 => ?_) (fun c24 => ?_)
            · refine hw_tabIn C dX6_by_26 c24 (off := 59) (tgt := 85) (by decide) ?_
              refine hw_aload_n C dX6_by_85 rfl 1 rfl ?_
              refine hw_getR C cf_X6 lf_X6_59 hw_T0 (t2 := 1) (by decide) dX6_by_86 ?_
              refine hw_aload C dX6_by_89 0 rfl ?_
              refine hw_iload_n C dX6_by_91 rfl 3 rfl ?_
              refine hw_callVi C (M_X2_bandOf (hw_gE G) hTL 1 r1 a2 s5) W_X2_bandOf SV_X2_bandOf cf_X2 hw_T1 mw_348 (by decide) rfl ⟨rfl, hw_l8 rfl⟩ dX6_by_92 (fun r22 s23 => ?_)
              exact hw_iret C dX6_by_95
            · refine hw_ifK (fun c27 => ?_) (fun c27 => ?_)
              · refine hw_tabIn C dX6_by_26 c27 (off := 70) (tgt := 96) (by decide) ?_
                refine hw_aload_n C dX6_by_96 rfl 1 rfl ?_
                refine hw_getR C cf_X6 lf_X6_59 hw_T0 (t2 := 1) (by decide) dX6_by_97 ?_
                refine hw_aload C dX6_by_100 0 rfl ?_
                refine hw_iload_n C dX6_by_102 rfl 3 rfl ?_
                refine hw_callVi C (M_X2_growth (hw_gE G) hTL 1 r1 a2 s5) W_X2_growth SV_X2_growth cf_X2 hw_T1 mw_372 (by decide) rfl ⟨rfl, hw_l8 rfl⟩ dX6_by_103 (fun r25 s26 => ?_)
                exact hw_iret C dX6_by_106
              · refine hw_ifK (fun c37 => ?_) (fun c37 => ?_)
                · refine hw_tabIn C dX6_by_26 c37 (off := 81) (tgt := 107) (by decide) ?_
                  refine hw_aload_n C dX6_by_107 rfl 1 rfl ?_
                  refine hw_getR C cf_X6 lf_X6_59 hw_T0 (t2 := 1) (by decide) dX6_by_108 ?_
                  refine hw_aload C dX6_by_111 0 rfl ?_
                  refine hw_iload_n C dX6_by_113 rfl 3 rfl ?_
                  refine hw_callVi C (M_X2_holds (hw_gE G) hTL 1 r1 a2 s5) W_X2_holds SV_X2_holds cf_X2 hw_T1 mw_377 (by decide) rfl ⟨rfl, hw_l8 rfl⟩ dX6_by_114 (fun r28 s29 => ?_)
                  refine hw_if_eq C dX6_by_117 (tgt := 128) (by decide) (fun c30 => ?_) (fun c30 => ?_)
                  · refine hw_aload C dX6_by_128 0 rfl ?_
                    refine hw_iload_n C dX6_by_130 rfl 3 rfl ?_
                    refine hw_gdK (fun h32 => ?_)
                    have T_31 := hw_gH_T h32
                    refine hw_callVi C (M_X5_eddy (hw_gE G) hTL r1 a2 s29) W_X5_eddy SV_X5_eddy cf_X5 T_31 mw_335 (by decide) rfl ⟨rfl, hw_l8 rfl⟩ dX6_by_131 (fun r33 s34 => ?_)
                    exact hw_iret C dX6_by_134
                  · refine hw_aload C dX6_by_120 0 rfl ?_
                    refine hw_gdK (fun h36 => ?_)
                    have T_35 := hw_gH_T h36
                    refine hw_getI C cf_X5 lf_X6_110 T_35 dX6_by_122 ?_
                    refine hw_goto C dX6_by_125 (tgt := 134) (by decide) ?_
                    exact hw_iret C dX6_by_134
                · refine hw_tabD C dX6_by_26 (cs := [0, 1, 2, 3, 4, 5]) (by decide) (List.forall_mem_cons.mpr ⟨hw_ni c11 (z := 0) (by decide), List.forall_mem_cons.mpr ⟨hw_ni c16 (z := 1) (by decide), List.forall_mem_cons.mpr ⟨hw_ni c21 (z := 2) (by decide), List.forall_mem_cons.mpr ⟨hw_ni c24 (z := 3) (by decide), List.forall_mem_cons.mpr ⟨hw_ni c27 (z := 4) (by decide), List.forall_mem_cons.mpr ⟨hw_ni c37 (z := 5) (by decide), fun _ h => absurd h List.not_mem_nil⟩⟩⟩⟩⟩⟩) (tgt := 135) (by decide) ?_
                  refine hw_ldc C mw_126 dX6_by_135 ?_
                  exact hw_iret C dX6_by_137
    · refine hw_ldc C mw_126 dX6_by_22 ?_
      exact hw_iret C dX6_by_24
/-! HumWire tick(II)I, level 6 -/
def F_X6_tick  (a1 : Int32) (a2 : Int32) (s0 : hw_St) : Option (Int32 × hw_St) := hw_bd (F_X2_wireAt 1 a1 s0) (fun r1 s2 => if r1 = 999 then (some ((-1000000001 : Int32), s2)) else (hw_bd (F_X6_isWind a2 s2) (fun r4 s5 => if r4 = 0 then (some ((-1000000001 : Int32), s5)) else (hw_bd (F_X2_blowOn 1 r1 a2 s5) (fun r7 s8 => some (r7, s8))))))
set_option maxRecDepth 20000 in
theorem M_X6_tick (E : hw_E) (hE : hw_eT E = hw_TH) (a1 : Int32) (a2 : Int32) (s0 : hw_St) : hw_M E yX6_tick cX6_tick 4 (some .int) 6 [hw_rv (hw_ea E) 0, .int a1, .int a2] s0 hw_ri (F_X6_tick a1 a2 s0) := by
  refine hw_entry (own := RX6) (TL := hw_TH) (by decide) rfl hE (hw_cR (hw_cI (hw_cI hw_cN))) (hw_l8 rfl) (fun G hG C => ?_)
  subst hG
  have hTL := hE
  show hw_K G 4 hw_ri _ 0 [(0, hw_rv (hw_ea (hw_gE G)) 0), (1, .int a1), (2, .int a2)] [] s0
  unfold F_X6_tick
  refine hw_aload_n C dX6_tick_0 rfl 0 rfl ?_
  refine hw_getR C cf_X6 lf_X6_59 hw_T0 (t2 := 1) (by decide) dX6_tick_1 ?_
  refine hw_iload_n C dX6_tick_4 rfl 1 rfl ?_
  refine hw_callVq C (M_X2_wireAt (hw_gE G) hTL 1 a1 s0) W_X2_wireAt SV_X2_wireAt cf_X2 hw_T1 mw_174 (by decide) rfl ⟨rfl, hw_l8 rfl⟩ dX6_tick_5 (fun r1 s2 => ?_)
  refine hw_astore_n C dX6_tick_8 rfl (by decide) rfl ?_
  refine hw_aload_n C dX6_tick_9 rfl 0 rfl ?_
  refine hw_ifnull C dX6_tick_10 (tgt := 20) (by decide) (fun c3 => ?_) (fun c3 => ?_)
  · refine hw_ldc C mw_126 dX6_tick_20 ?_
    exact hw_iret C dX6_tick_22
  · refine hw_iload_n C dX6_tick_13 rfl 3 rfl ?_
    refine hw_callSi C (M_X6_isWind (hw_gE G) hTL a2 s2) W_X6_isWind SS_X6_isWind mw_258 (by decide) rfl ⟨rfl, hw_l8 rfl⟩ dX6_tick_14 (fun r4 s5 => ?_)
    refine hw_if_ne C dX6_tick_17 (tgt := 23) (by decide) (fun c6 => ?_) (fun c6 => ?_)
    · refine hw_aload_n C dX6_tick_23 rfl 1 rfl ?_
      refine hw_getR C cf_X6 lf_X6_59 hw_T0 (t2 := 1) (by decide) dX6_tick_24 ?_
      refine hw_aload_n C dX6_tick_27 rfl 0 rfl ?_
      refine hw_iload_n C dX6_tick_28 rfl 3 rfl ?_
      refine hw_callVi C (M_X2_blowOn (hw_gE G) hTL 1 r1 a2 s5) W_X2_blowOn SV_X2_blowOn cf_X2 hw_T1 mw_427 (by decide) rfl ⟨rfl, hw_l8 rfl⟩ dX6_tick_29 (fun r7 s8 => ?_)
      exact hw_iret C dX6_tick_32
    · refine hw_ldc C mw_126 dX6_tick_20 ?_
      exact hw_iret C dX6_tick_22
/-! HumWire run(I)I, level 7 -/
def S_X6_run_15  (w15 : Int32 → Int32 → hw_St → Option (Int32 × hw_St)) (l1 : Int32) (l2 : Int32) (s0 : hw_St) : Option (Int32 × hw_St) := if l1 ≤ l2 then (some ((s0 1 7), s0)) else (hw_bd (F_X2_passHour 1 s0) (fun _ s6 => w15 l1 (l2 + 1) s6))
def L_X6_run_15  : Nat → Int32 → Int32 → hw_St → Option (Int32 × hw_St)
  | 0 => fun _ _ _ => none
  | n + 1 => S_X6_run_15  (L_X6_run_15  n)
def F_X6_run  (a1 : Int32) (s0 : hw_St) : Option (Int32 × hw_St) := hw_bd (F_X6_isWithin a1 (1 : Int32) (60 : Int32) s0) (fun r1 s2 => if r1 = 0 then (some ((-1000000001 : Int32), s2)) else (L_X6_run_15 130 a1 (0 : Int32) s2))
set_option maxRecDepth 20000 in
theorem KS_X6_run_15 {G : hw_G} (C : hw_Ok G cX6_run RX6 3 7 (some .int) hw_TH) (hTL : hw_eT (hw_gE G) = hw_TH) (w15 : Int32 → Int32 → hw_St → Option (Int32 × hw_St)) (H_w15 : ∀ (l1 : Int32) (l2 : Int32) (s0 : hw_St), hw_K G 3 hw_ri (w15 l1 l2 s0) 15 [(0, hw_rv (hw_ea (hw_gE G)) 0), (1, .int l1), (2, .int l2)] [] s0) (l1 : Int32) (l2 : Int32) (s0 : hw_St) : hw_K G 3 hw_ri (S_X6_run_15 w15 l1 l2 s0) 15 [(0, hw_rv (hw_ea (hw_gE G)) 0), (1, .int l1), (2, .int l2)] [] s0 := by
  unfold S_X6_run_15
  refine hw_iload_n C dX6_run_15 rfl 2 rfl ?_
  refine hw_iload_n C dX6_run_16 rfl 1 rfl ?_
  refine hw_icmp_ge C dX6_run_17 (tgt := 33) (by decide) (fun c4 => ?_) (fun c4 => ?_)
  · refine hw_aload_n C dX6_run_33 rfl 0 rfl ?_
    refine hw_getR C cf_X6 lf_X6_59 hw_T0 (t2 := 1) (by decide) dX6_run_34 ?_
    refine hw_getI C cf_X2 lf_X6_193 hw_T1 dX6_run_37 ?_
    exact hw_iret C dX6_run_40
  · refine hw_aload_n C dX6_run_20 rfl 0 rfl ?_
    refine hw_getR C cf_X6 lf_X6_59 hw_T0 (t2 := 1) (by decide) dX6_run_21 ?_
    refine hw_callVv C (M_X2_passHour (hw_gE G) hTL 1 s0) W_X2_passHour SV_X2_passHour cf_X2 hw_T1 mw_453 (by decide) rfl ⟨rfl, hw_l8 rfl⟩ dX6_run_24 (fun r5 s6 => ?_)
    refine hw_iinc C dX6_run_27 2 rfl (v := 1) (by decide) (by decide) rfl ?_
    refine hw_goto C dX6_run_30 (tgt := 15) (by decide) ?_
    exact hw_lv [1, 2, 0] rfl (H_w15 l1 (l2 + 1) s6)
theorem KL_X6_run_15 {G : hw_G} (C : hw_Ok G cX6_run RX6 3 7 (some .int) hw_TH) (hTL : hw_eT (hw_gE G) = hw_TH) : ∀ (n_ : Nat) (l1 : Int32) (l2 : Int32) (s0 : hw_St), hw_K G 3 hw_ri (L_X6_run_15 n_ l1 l2 s0) 15 [(0, hw_rv (hw_ea (hw_gE G)) 0), (1, .int l1), (2, .int l2)] [] s0 := by
  intro n_
  induction n_ with
  | zero => intros; exact hw_nil
  | succ n_ ih => intro l1 l2 s0; exact KS_X6_run_15 C hTL (L_X6_run_15 n_) ih l1 l2 s0
set_option maxRecDepth 20000 in
theorem M_X6_run (E : hw_E) (hE : hw_eT E = hw_TH) (a1 : Int32) (s0 : hw_St) : hw_M E yX6_run cX6_run 3 (some .int) 7 [hw_rv (hw_ea E) 0, .int a1] s0 hw_ri (F_X6_run a1 s0) := by
  refine hw_entry (own := RX6) (TL := hw_TH) (by decide) rfl hE (hw_cR (hw_cI hw_cN)) (hw_l8 rfl) (fun G hG C => ?_)
  subst hG
  have hTL := hE
  show hw_K G 3 hw_ri _ 0 [(0, hw_rv (hw_ea (hw_gE G)) 0), (1, .int a1)] [] s0
  unfold F_X6_run
  refine hw_iload_n C dX6_run_0 rfl 1 rfl ?_
  refine hw_iconst C dX6_run_1 (v := 1) (by decide) ?_
  refine hw_bipush C dX6_run_2 (v := 60) (by decide) ?_
  refine hw_callSi C (M_X6_isWithin (hw_gE G) hTL a1 (1 : Int32) (60 : Int32) s0) W_X6_isWithin SS_X6_isWithin mw_133 (by decide) rfl ⟨rfl, hw_l8 rfl⟩ dX6_run_4 (fun r1 s2 => ?_)
  refine hw_if_ne C dX6_run_7 (tgt := 13) (by decide) (fun c3 => ?_) (fun c3 => ?_)
  · refine hw_iconst C dX6_run_13 (v := 0) (by decide) ?_
    refine hw_istore_n C dX6_run_14 rfl (by decide) rfl ?_
    exact hw_lv [1, 2, 0] rfl (KL_X6_run_15 C hTL 130 a1 (0 : Int32) s2)
  · refine hw_ldc C mw_126 dX6_run_10 ?_
    exact hw_iret C dX6_run_12
/-! HumWire thinkLine(ZZ)I, level 6 -/
def B_X6_thinkLine_82  (w5 : Int32 → Int32 → Int32 → Int32 → hw_St → Option (Int32 × hw_St)) (l1 : Int32) (l2 : Int32) (l3 : Int32) (l4 : Int32) (s0 : hw_St) : Option (Int32 × hw_St) := w5 l1 l2 l3 (l4 + 1) s0
def B_X6_thinkLine_59  (w5 : Int32 → Int32 → Int32 → Int32 → hw_St → Option (Int32 × hw_St)) (l1 : Int32) (l2 : Int32) (l3 : Int32) (l4 : Int32) (l5 : Int32) (s0 : hw_St) : Option (Int32 × hw_St) := if l3 = 0 then (if (s0 11 5) = 0 then (B_X6_thinkLine_82 w5 l1 l2 l3 l4 s0) else (if l2 = 0 then (some (l5, s0)) else (B_X6_thinkLine_82 w5 l1 l2 (1 : Int32) l4 s0))) else (B_X6_thinkLine_82 w5 l1 l2 l3 l4 s0)
def B_X6_thinkLine_26  (w5 : Int32 → Int32 → Int32 → Int32 → hw_St → Option (Int32 × hw_St)) (l1 : Int32) (l2 : Int32) (l3 : Int32) (l4 : Int32) (k0 : Int32) (s0 : hw_St) : Option (Int32 × hw_St) := hw_bd (F_X2_blowOn 1 11 k0 s0) (fun r3 s4 => if l3 = 0 then (B_X6_thinkLine_59 w5 l1 l2 l3 l4 k0 s4) else (if (s4 11 5) = 0 then (some (k0, s4)) else (B_X6_thinkLine_59 w5 l1 l2 l3 l4 k0 s4)))
def S_X6_thinkLine_5  (w5 : Int32 → Int32 → Int32 → Int32 → hw_St → Option (Int32 × hw_St)) (l1 : Int32) (l2 : Int32) (l3 : Int32) (l4 : Int32) (s0 : hw_St) : Option (Int32 × hw_St) := if (99 : Int32) < l4 then (some ((-1000000005 : Int32), s0)) else (if l1 = 0 then (B_X6_thinkLine_26 w5 l1 l2 l3 l4 l4 s0) else (B_X6_thinkLine_26 w5 l1 l2 l3 l4 ((99 : Int32) - l4) s0))
def L_X6_thinkLine_5  : Nat → Int32 → Int32 → Int32 → Int32 → hw_St → Option (Int32 × hw_St)
  | 0 => fun _ _ _ _ _ => none
  | n + 1 => S_X6_thinkLine_5  (L_X6_thinkLine_5  n)
def F_X6_thinkLine  (a1 : Int32) (a2 : Int32) (s0 : hw_St) : Option (Int32 × hw_St) := L_X6_thinkLine_5 130 a1 a2 (0 : Int32) (0 : Int32) s0
set_option maxRecDepth 20000 in
theorem KB_X6_thinkLine_82 {G : hw_G} (C : hw_Ok G cX6_thinkLine RX6 6 6 (some .int) hw_TH) (hTL : hw_eT (hw_gE G) = hw_TH) (w5 : Int32 → Int32 → Int32 → Int32 → hw_St → Option (Int32 × hw_St)) (H_w5 : ∀ (l1 : Int32) (l2 : Int32) (l3 : Int32) (l4 : Int32) (s0 : hw_St), hw_K G 6 hw_ri (w5 l1 l2 l3 l4 s0) 5 [(0, hw_rv (hw_ea (hw_gE G)) 0), (1, .int l1), (2, .int l2), (3, .int l3), (4, .int l4)] [] s0) (l1 : Int32) (l2 : Int32) (l3 : Int32) (l4 : Int32) (s0 : hw_St) : hw_K G 6 hw_ri (B_X6_thinkLine_82 w5 l1 l2 l3 l4 s0) 82 [(0, hw_rv (hw_ea (hw_gE G)) 0), (1, .int l1), (2, .int l2), (3, .int l3), (4, .int l4)] [] s0 := by
  unfold B_X6_thinkLine_82
  refine hw_iinc C dX6_thinkLine_82 4 rfl (v := 1) (by decide) (by decide) rfl ?_
  refine hw_goto C dX6_thinkLine_85 (tgt := 5) (by decide) ?_
  exact hw_lv [1, 2, 3, 4, 0] rfl (H_w5 l1 l2 l3 (l4 + 1) s0)
set_option maxRecDepth 20000 in
theorem KB_X6_thinkLine_59 {G : hw_G} (C : hw_Ok G cX6_thinkLine RX6 6 6 (some .int) hw_TH) (hTL : hw_eT (hw_gE G) = hw_TH) (w5 : Int32 → Int32 → Int32 → Int32 → hw_St → Option (Int32 × hw_St)) (H_w5 : ∀ (l1 : Int32) (l2 : Int32) (l3 : Int32) (l4 : Int32) (s0 : hw_St), hw_K G 6 hw_ri (w5 l1 l2 l3 l4 s0) 5 [(0, hw_rv (hw_ea (hw_gE G)) 0), (1, .int l1), (2, .int l2), (3, .int l3), (4, .int l4)] [] s0) (l1 : Int32) (l2 : Int32) (l3 : Int32) (l4 : Int32) (l5 : Int32) (s0 : hw_St) : hw_K G 6 hw_ri (B_X6_thinkLine_59 w5 l1 l2 l3 l4 l5 s0) 59 [(0, hw_rv (hw_ea (hw_gE G)) 0), (1, .int l1), (2, .int l2), (3, .int l3), (4, .int l4), (5, .int l5)] [] s0 := by
  unfold B_X6_thinkLine_59
  refine hw_iload_n C dX6_thinkLine_59 rfl 3 rfl ?_
  refine hw_if_ne C dX6_thinkLine_60 (tgt := 82) (by decide) (fun c7 => ?_) (fun c7 => ?_)
  · exact hw_lv [0, 1, 2, 3, 4] rfl (KB_X6_thinkLine_82 C hTL w5 H_w5 l1 l2 l3 l4 s0)
  · refine hw_aload_n C dX6_thinkLine_63 rfl 0 rfl ?_
    refine hw_getR C cf_X6 lf_X6_16 hw_T0 (t2 := 11) (by decide) dX6_thinkLine_64 ?_
    refine hw_getI C cf_X5 lf_X6_119 hw_T11 dX6_thinkLine_67 ?_
    refine hw_if_eq C dX6_thinkLine_70 (tgt := 82) (by decide) (fun c8 => ?_) (fun c8 => ?_)
    · exact hw_lv [0, 1, 2, 3, 4] rfl (KB_X6_thinkLine_82 C hTL w5 H_w5 l1 l2 l3 l4 s0)
    · refine hw_iload_n C dX6_thinkLine_73 rfl 2 rfl ?_
      refine hw_if_ne C dX6_thinkLine_74 (tgt := 80) (by decide) (fun c9 => ?_) (fun c9 => ?_)
      · refine hw_iconst C dX6_thinkLine_80 (v := 1) (by decide) ?_
        refine hw_istore_n C dX6_thinkLine_81 rfl (by decide) rfl ?_
        exact hw_lv [1, 2, 3, 0, 4] rfl (KB_X6_thinkLine_82 C hTL w5 H_w5 l1 l2 (1 : Int32) l4 s0)
      · refine hw_iload C dX6_thinkLine_77 5 rfl ?_
        exact hw_iret C dX6_thinkLine_79
set_option maxRecDepth 20000 in
theorem KB_X6_thinkLine_26 {G : hw_G} (C : hw_Ok G cX6_thinkLine RX6 6 6 (some .int) hw_TH) (hTL : hw_eT (hw_gE G) = hw_TH) (w5 : Int32 → Int32 → Int32 → Int32 → hw_St → Option (Int32 × hw_St)) (H_w5 : ∀ (l1 : Int32) (l2 : Int32) (l3 : Int32) (l4 : Int32) (s0 : hw_St), hw_K G 6 hw_ri (w5 l1 l2 l3 l4 s0) 5 [(0, hw_rv (hw_ea (hw_gE G)) 0), (1, .int l1), (2, .int l2), (3, .int l3), (4, .int l4)] [] s0) (l1 : Int32) (l2 : Int32) (l3 : Int32) (l4 : Int32) (k0 : Int32) (s0 : hw_St) : hw_K G 6 hw_ri (B_X6_thinkLine_26 w5 l1 l2 l3 l4 k0 s0) 26 [(0, hw_rv (hw_ea (hw_gE G)) 0), (1, .int l1), (2, .int l2), (3, .int l3), (4, .int l4)] [.int k0] s0 := by
  unfold B_X6_thinkLine_26
  refine hw_istore C dX6_thinkLine_26 (by decide) rfl ?_
  refine hw_aload_n C dX6_thinkLine_28 rfl 1 rfl ?_
  refine hw_getR C cf_X6 lf_X6_59 hw_T0 (t2 := 1) (by decide) dX6_thinkLine_29 ?_
  refine hw_aload_n C dX6_thinkLine_32 rfl 1 rfl ?_
  refine hw_getR C cf_X6 lf_X6_16 hw_T0 (t2 := 11) (by decide) dX6_thinkLine_33 ?_
  refine hw_iload C dX6_thinkLine_36 0 rfl ?_
  refine hw_callVi C (M_X2_blowOn (hw_gE G) hTL 1 11 k0 s0) W_X2_blowOn SV_X2_blowOn cf_X2 hw_T1 mw_427 (by decide) rfl ⟨rfl, hw_l8 rfl⟩ dX6_thinkLine_38 (fun r3 s4 => ?_)
  refine hw_pop C dX6_thinkLine_41 ?_
  refine hw_iload_n C dX6_thinkLine_42 rfl 4 rfl ?_
  refine hw_if_eq C dX6_thinkLine_43 (tgt := 59) (by decide) (fun c5 => ?_) (fun c5 => ?_)
  · exact hw_lv [1, 2, 3, 4, 5, 0] rfl (KB_X6_thinkLine_59 C hTL w5 H_w5 l1 l2 l3 l4 k0 s4)
  · refine hw_aload_n C dX6_thinkLine_46 rfl 1 rfl ?_
    refine hw_getR C cf_X6 lf_X6_16 hw_T0 (t2 := 11) (by decide) dX6_thinkLine_47 ?_
    refine hw_getI C cf_X5 lf_X6_119 hw_T11 dX6_thinkLine_50 ?_
    refine hw_if_ne C dX6_thinkLine_53 (tgt := 59) (by decide) (fun c6 => ?_) (fun c6 => ?_)
    · exact hw_lv [1, 2, 3, 4, 5, 0] rfl (KB_X6_thinkLine_59 C hTL w5 H_w5 l1 l2 l3 l4 k0 s4)
    · refine hw_iload C dX6_thinkLine_56 0 rfl ?_
      exact hw_iret C dX6_thinkLine_58
set_option maxRecDepth 20000 in
theorem KS_X6_thinkLine_5 {G : hw_G} (C : hw_Ok G cX6_thinkLine RX6 6 6 (some .int) hw_TH) (hTL : hw_eT (hw_gE G) = hw_TH) (w5 : Int32 → Int32 → Int32 → Int32 → hw_St → Option (Int32 × hw_St)) (H_w5 : ∀ (l1 : Int32) (l2 : Int32) (l3 : Int32) (l4 : Int32) (s0 : hw_St), hw_K G 6 hw_ri (w5 l1 l2 l3 l4 s0) 5 [(0, hw_rv (hw_ea (hw_gE G)) 0), (1, .int l1), (2, .int l2), (3, .int l3), (4, .int l4)] [] s0) (l1 : Int32) (l2 : Int32) (l3 : Int32) (l4 : Int32) (s0 : hw_St) : hw_K G 6 hw_ri (S_X6_thinkLine_5 w5 l1 l2 l3 l4 s0) 5 [(0, hw_rv (hw_ea (hw_gE G)) 0), (1, .int l1), (2, .int l2), (3, .int l3), (4, .int l4)] [] s0 := by
  unfold S_X6_thinkLine_5
  refine hw_iload C dX6_thinkLine_5 4 rfl ?_
  refine hw_bipush C dX6_thinkLine_7 (v := 99) (by decide) ?_
  refine hw_icmp_gt C dX6_thinkLine_9 (tgt := 88) (by decide) (fun c1 => ?_) (fun c1 => ?_)
  · refine hw_ldc C mw_478 dX6_thinkLine_88 ?_
    exact hw_iret C dX6_thinkLine_90
  · refine hw_iload_n C dX6_thinkLine_12 rfl 1 rfl ?_
    refine hw_if_eq C dX6_thinkLine_13 (tgt := 24) (by decide) (fun c2 => ?_) (fun c2 => ?_)
    · refine hw_iload C dX6_thinkLine_24 4 rfl ?_
      exact hw_lv [0, 1, 2, 3, 4] rfl (KB_X6_thinkLine_26 C hTL w5 H_w5 l1 l2 l3 l4 l4 s0)
    · refine hw_bipush C dX6_thinkLine_16 (v := 99) (by decide) ?_
      refine hw_iload C dX6_thinkLine_18 4 rfl ?_
      refine hw_isub C dX6_thinkLine_20 ?_
      refine hw_goto C dX6_thinkLine_21 (tgt := 26) (by decide) ?_
      exact hw_lv [0, 1, 2, 3, 4] rfl (KB_X6_thinkLine_26 C hTL w5 H_w5 l1 l2 l3 l4 ((99 : Int32) - l4) s0)
theorem KL_X6_thinkLine_5 {G : hw_G} (C : hw_Ok G cX6_thinkLine RX6 6 6 (some .int) hw_TH) (hTL : hw_eT (hw_gE G) = hw_TH) : ∀ (n_ : Nat) (l1 : Int32) (l2 : Int32) (l3 : Int32) (l4 : Int32) (s0 : hw_St), hw_K G 6 hw_ri (L_X6_thinkLine_5 n_ l1 l2 l3 l4 s0) 5 [(0, hw_rv (hw_ea (hw_gE G)) 0), (1, .int l1), (2, .int l2), (3, .int l3), (4, .int l4)] [] s0 := by
  intro n_
  induction n_ with
  | zero => intros; exact hw_nil
  | succ n_ ih => intro l1 l2 l3 l4 s0; exact KS_X6_thinkLine_5 C hTL (L_X6_thinkLine_5 n_) ih l1 l2 l3 l4 s0
set_option maxRecDepth 20000 in
theorem M_X6_thinkLine (E : hw_E) (hE : hw_eT E = hw_TH) (a1 : Int32) (a2 : Int32) (s0 : hw_St) : hw_M E yX6_thinkLine cX6_thinkLine 6 (some .int) 6 [hw_rv (hw_ea E) 0, .int a1, .int a2] s0 hw_ri (F_X6_thinkLine a1 a2 s0) := by
  refine hw_entry (own := RX6) (TL := hw_TH) (by decide) rfl hE (hw_cR (hw_cI (hw_cI hw_cN))) (hw_l8 rfl) (fun G hG C => ?_)
  subst hG
  have hTL := hE
  show hw_K G 6 hw_ri _ 0 [(0, hw_rv (hw_ea (hw_gE G)) 0), (1, .int a1), (2, .int a2)] [] s0
  unfold F_X6_thinkLine
  refine hw_iconst C dX6_thinkLine_0 (v := 0) (by decide) ?_
  refine hw_istore_n C dX6_thinkLine_1 rfl (by decide) rfl ?_
  refine hw_iconst C dX6_thinkLine_2 (v := 0) (by decide) ?_
  refine hw_istore C dX6_thinkLine_3 (by decide) rfl ?_
  exact hw_lv [2, 3, 4, 1, 0] rfl (KL_X6_thinkLine_5 C hTL 130 a1 a2 (0 : Int32) (0 : Int32) s0)
/-! HumWire line(II)I, level 7 -/
def B_X6_line_64  (k0 : Int32) (k1 : Int32) (s0 : hw_St) : Option (Int32 × hw_St) := hw_bd (F_X6_thinkLine k1 k0 s0) (fun r12 s13 => some (r12, s13))
def B_X6_line_52  (l2 : Int32) (k0 : Int32) (s0 : hw_St) : Option (Int32 × hw_St) := if (hw_rem l2 (2 : Int32)) = (1 : Int32) then (B_X6_line_64 (1 : Int32) k0 s0) else (B_X6_line_64 (0 : Int32) k0 s0)
def F_X6_line  (a1 : Int32) (a2 : Int32) (s0 : hw_St) : Option (Int32 × hw_St) := hw_bd (F_X2_wireAt 1 a1 s0) (fun r1 s2 => if r1 = 999 then (some ((-1000000001 : Int32), s2)) else (hw_bd (F_X6_isWithin a2 (0 : Int32) (3 : Int32) s2) (fun r4 s5 => if r4 = 0 then (some ((-1000000001 : Int32), s5)) else (hw_bd (F_X5_become 11 r1 s5) (fun _ s8 => hw_gd (hw_isb (0 : Int32)) (hw_nm (hw_up s8 11 5 (0 : Int32)) (fun s9 => if a2 < (2 : Int32) then (B_X6_line_52 a2 (0 : Int32) s9) else (B_X6_line_52 a2 (1 : Int32) s9))))))))
set_option maxRecDepth 20000 in
theorem KB_X6_line_64 {G : hw_G} (C : hw_Ok G cX6_line RX6 4 7 (some .int) hw_TH) (hTL : hw_eT (hw_gE G) = hw_TH) (k0 : Int32) (k1 : Int32) (s0 : hw_St) : hw_K G 4 hw_ri (B_X6_line_64 k0 k1 s0) 64 [] [.int k0, .int k1, hw_rv (hw_ea (hw_gE G)) 0] s0 := by
  unfold B_X6_line_64
  refine hw_callVi C (M_X6_thinkLine (hw_gE G) hTL k1 k0 s0) W_X6_thinkLine SV_X6_thinkLine cf_X6 hw_T0 mw_474 (by decide) rfl ⟨rfl, hw_l8 rfl⟩ dX6_line_64 (fun r12 s13 => ?_)
  exact hw_iret C dX6_line_67
set_option maxRecDepth 20000 in
theorem KB_X6_line_52 {G : hw_G} (C : hw_Ok G cX6_line RX6 4 7 (some .int) hw_TH) (hTL : hw_eT (hw_gE G) = hw_TH) (l2 : Int32) (k0 : Int32) (s0 : hw_St) : hw_K G 4 hw_ri (B_X6_line_52 l2 k0 s0) 52 [(2, .int l2)] [.int k0, hw_rv (hw_ea (hw_gE G)) 0] s0 := by
  unfold B_X6_line_52
  refine hw_iload_n C dX6_line_52 rfl 0 rfl ?_
  refine hw_iconst C dX6_line_53 (v := 2) (by decide) ?_
  refine hw_iremC C dX6_line_54 (by decide) ?_
  refine hw_iconst C dX6_line_55 (v := 1) (by decide) ?_
  refine hw_icmp_ne C dX6_line_56 (tgt := 63) (by decide) (fun c11 => ?_) (fun c11 => ?_)
  · refine hw_iconst C dX6_line_63 (v := 0) (by decide) ?_
    exact hw_lv [] rfl (KB_X6_line_64 C hTL (0 : Int32) k0 s0)
  · refine hw_iconst C dX6_line_59 (v := 1) (by decide) ?_
    refine hw_goto C dX6_line_60 (tgt := 64) (by decide) ?_
    exact hw_lv [] rfl (KB_X6_line_64 C hTL (1 : Int32) k0 s0)
set_option maxRecDepth 20000 in
theorem M_X6_line (E : hw_E) (hE : hw_eT E = hw_TH) (a1 : Int32) (a2 : Int32) (s0 : hw_St) : hw_M E yX6_line cX6_line 4 (some .int) 7 [hw_rv (hw_ea E) 0, .int a1, .int a2] s0 hw_ri (F_X6_line a1 a2 s0) := by
  refine hw_entry (own := RX6) (TL := hw_TH) (by decide) rfl hE (hw_cR (hw_cI (hw_cI hw_cN))) (hw_l8 rfl) (fun G hG C => ?_)
  subst hG
  have hTL := hE
  show hw_K G 4 hw_ri _ 0 [(0, hw_rv (hw_ea (hw_gE G)) 0), (1, .int a1), (2, .int a2)] [] s0
  unfold F_X6_line
  refine hw_aload_n C dX6_line_0 rfl 0 rfl ?_
  refine hw_getR C cf_X6 lf_X6_59 hw_T0 (t2 := 1) (by decide) dX6_line_1 ?_
  refine hw_iload_n C dX6_line_4 rfl 1 rfl ?_
  refine hw_callVq C (M_X2_wireAt (hw_gE G) hTL 1 a1 s0) W_X2_wireAt SV_X2_wireAt cf_X2 hw_T1 mw_174 (by decide) rfl ⟨rfl, hw_l8 rfl⟩ dX6_line_5 (fun r1 s2 => ?_)
  refine hw_astore_n C dX6_line_8 rfl (by decide) rfl ?_
  refine hw_aload_n C dX6_line_9 rfl 0 rfl ?_
  refine hw_ifnull C dX6_line_10 (tgt := 22) (by decide) (fun c3 => ?_) (fun c3 => ?_)
  · refine hw_ldc C mw_126 dX6_line_22 ?_
    exact hw_iret C dX6_line_24
  · refine hw_iload_n C dX6_line_13 rfl 3 rfl ?_
    refine hw_iconst C dX6_line_14 (v := 0) (by decide) ?_
    refine hw_iconst C dX6_line_15 (v := 3) (by decide) ?_
    refine hw_callSi C (M_X6_isWithin (hw_gE G) hTL a2 (0 : Int32) (3 : Int32) s2) W_X6_isWithin SS_X6_isWithin mw_133 (by decide) rfl ⟨rfl, hw_l8 rfl⟩ dX6_line_16 (fun r4 s5 => ?_)
    refine hw_if_ne C dX6_line_19 (tgt := 25) (by decide) (fun c6 => ?_) (fun c6 => ?_)
    · refine hw_aload_n C dX6_line_25 rfl 1 rfl ?_
      refine hw_getR C cf_X6 lf_X6_16 hw_T0 (t2 := 11) (by decide) dX6_line_26 ?_
      refine hw_aload_n C dX6_line_29 rfl 0 rfl ?_
      refine hw_callVv C (M_X5_become (hw_gE G) hTL 11 r1 s5) W_X5_become SV_X5_become cf_X5 hw_T11 mw_470 (by decide) rfl ⟨rfl, hw_l8 rfl⟩ dX6_line_30 (fun r7 s8 => ?_)
      refine hw_aload_n C dX6_line_33 rfl 1 rfl ?_
      refine hw_getR C cf_X6 lf_X6_16 hw_T0 (t2 := 11) (by decide) dX6_line_34 ?_
      refine hw_iconst C dX6_line_37 (v := 0) (by decide) ?_
      refine hw_putZ C cf_X5 lf_X6_119 hw_T11 rfl rfl dX6_line_38 (fun s9 => ?_)
      refine hw_aload_n C dX6_line_41 rfl 1 rfl ?_
      refine hw_iload_n C dX6_line_42 rfl 3 rfl ?_
      refine hw_iconst C dX6_line_43 (v := 2) (by decide) ?_
      refine hw_icmp_lt C dX6_line_44 (tgt := 51) (by decide) (fun c10 => ?_) (fun c10 => ?_)
      · refine hw_iconst C dX6_line_51 (v := 0) (by decide) ?_
        exact hw_lv [3] rfl (KB_X6_line_52 C hTL a2 (0 : Int32) s9)
      · refine hw_iconst C dX6_line_47 (v := 1) (by decide) ?_
        refine hw_goto C dX6_line_48 (tgt := 52) (by decide) ?_
        exact hw_lv [3] rfl (KB_X6_line_52 C hTL a2 (1 : Int32) s9)
    · refine hw_ldc C mw_126 dX6_line_22 ?_
      exact hw_iret C dX6_line_24
/-! HumWire thinkDay(I)I, level 6 -/
def B_X6_thinkDay_51  (w7 : Int32 → Int32 → Int32 → Int32 → hw_St → Option (Int32 × hw_St)) (l1 : Int32) (l3 : Int32) (l4 : Int32) (k0 : Int32) (k1 : Int32) (s0 : hw_St) : Option (Int32 × hw_St) := hw_nm (k1 + k0) (fun x9 => hw_nm (hw_max l3 (s0 11 4)) (fun x10 => w7 l1 x9 x10 (l4 + 1) s0))
def S_X6_thinkDay_7  (w7 : Int32 → Int32 → Int32 → Int32 → hw_St → Option (Int32 × hw_St)) (l1 : Int32) (l2 : Int32) (l3 : Int32) (l4 : Int32) (s0 : hw_St) : Option (Int32 × hw_St) := if (24 : Int32) ≤ l4 then (if l1 = 0 then (some (l2, s0)) else (if l1 = (1 : Int32) then (some ((s0 11 6), s0)) else (some (l3, s0)))) else (hw_bd (F_X2_windIn 1 l4 s0) (fun r4 s5 => hw_bd (F_X2_blowOn 1 11 r4 s5) (fun r6 s7 => if (s7 11 5) = 0 then (B_X6_thinkDay_51 w7 l1 l3 l4 (0 : Int32) l2 s7) else (B_X6_thinkDay_51 w7 l1 l3 l4 (1 : Int32) l2 s7))))
def L_X6_thinkDay_7  : Nat → Int32 → Int32 → Int32 → Int32 → hw_St → Option (Int32 × hw_St)
  | 0 => fun _ _ _ _ _ => none
  | n + 1 => S_X6_thinkDay_7  (L_X6_thinkDay_7  n)
def F_X6_thinkDay  (a1 : Int32) (s0 : hw_St) : Option (Int32 × hw_St) := L_X6_thinkDay_7 130 a1 (0 : Int32) (0 : Int32) (0 : Int32) s0
set_option maxRecDepth 20000 in
theorem KB_X6_thinkDay_51 {G : hw_G} (C : hw_Ok G cX6_thinkDay RX6 5 6 (some .int) hw_TH) (hTL : hw_eT (hw_gE G) = hw_TH) (w7 : Int32 → Int32 → Int32 → Int32 → hw_St → Option (Int32 × hw_St)) (H_w7 : ∀ (l1 : Int32) (l2 : Int32) (l3 : Int32) (l4 : Int32) (s0 : hw_St), hw_K G 5 hw_ri (w7 l1 l2 l3 l4 s0) 7 [(0, hw_rv (hw_ea (hw_gE G)) 0), (1, .int l1), (2, .int l2), (3, .int l3), (4, .int l4)] [] s0) (l1 : Int32) (l3 : Int32) (l4 : Int32) (k0 : Int32) (k1 : Int32) (s0 : hw_St) : hw_K G 5 hw_ri (B_X6_thinkDay_51 w7 l1 l3 l4 k0 k1 s0) 51 [(0, hw_rv (hw_ea (hw_gE G)) 0), (1, .int l1), (3, .int l3), (4, .int l4)] [.int k0, .int k1] s0 := by
  unfold B_X6_thinkDay_51
  refine hw_iadd C dX6_thinkDay_51 ?_
  refine hw_istore_nN C dX6_thinkDay_52 rfl (by decide) (fun _ => rfl) (fun x9 => ?_)
  refine hw_iload_n C dX6_thinkDay_53 rfl 3 rfl ?_
  refine hw_aload_n C dX6_thinkDay_54 rfl 1 rfl ?_
  refine hw_getR C cf_X6 lf_X6_16 hw_T0 (t2 := 11) (by decide) dX6_thinkDay_55 ?_
  refine hw_getI C cf_X5 lf_X6_116 hw_T11 dX6_thinkDay_58 ?_
  refine hw_mmax C mw_303 mathw_max (hw_l8 rfl) dX6_thinkDay_61 ?_
  refine hw_istore_nN C dX6_thinkDay_64 rfl (by decide) (fun _ => rfl) (fun x10 => ?_)
  refine hw_iinc C dX6_thinkDay_65 4 rfl (v := 1) (by decide) (by decide) rfl ?_
  refine hw_goto C dX6_thinkDay_68 (tgt := 7) (by decide) ?_
  exact hw_lv [3, 4, 2, 1, 0] rfl (H_w7 l1 x9 x10 (l4 + 1) s0)
set_option maxRecDepth 20000 in
theorem KS_X6_thinkDay_7 {G : hw_G} (C : hw_Ok G cX6_thinkDay RX6 5 6 (some .int) hw_TH) (hTL : hw_eT (hw_gE G) = hw_TH) (w7 : Int32 → Int32 → Int32 → Int32 → hw_St → Option (Int32 × hw_St)) (H_w7 : ∀ (l1 : Int32) (l2 : Int32) (l3 : Int32) (l4 : Int32) (s0 : hw_St), hw_K G 5 hw_ri (w7 l1 l2 l3 l4 s0) 7 [(0, hw_rv (hw_ea (hw_gE G)) 0), (1, .int l1), (2, .int l2), (3, .int l3), (4, .int l4)] [] s0) (l1 : Int32) (l2 : Int32) (l3 : Int32) (l4 : Int32) (s0 : hw_St) : hw_K G 5 hw_ri (S_X6_thinkDay_7 w7 l1 l2 l3 l4 s0) 7 [(0, hw_rv (hw_ea (hw_gE G)) 0), (1, .int l1), (2, .int l2), (3, .int l3), (4, .int l4)] [] s0 := by
  unfold S_X6_thinkDay_7
  refine hw_iload C dX6_thinkDay_7 4 rfl ?_
  refine hw_bipush C dX6_thinkDay_9 (v := 24) (by decide) ?_
  refine hw_icmp_ge C dX6_thinkDay_11 (tgt := 71) (by decide) (fun c1 => ?_) (fun c1 => ?_)
  · refine hw_iload_n C dX6_thinkDay_71 rfl 1 rfl ?_
    refine hw_if_ne C dX6_thinkDay_72 (tgt := 79) (by decide) (fun c2 => ?_) (fun c2 => ?_)
    · refine hw_iload_n C dX6_thinkDay_79 rfl 1 rfl ?_
      refine hw_iconst C dX6_thinkDay_80 (v := 1) (by decide) ?_
      refine hw_icmp_ne C dX6_thinkDay_81 (tgt := 94) (by decide) (fun c3 => ?_) (fun c3 => ?_)
      · refine hw_iload_n C dX6_thinkDay_94 rfl 3 rfl ?_
        exact hw_iret C dX6_thinkDay_95
      · refine hw_aload_n C dX6_thinkDay_84 rfl 0 rfl ?_
        refine hw_getR C cf_X6 lf_X6_16 hw_T0 (t2 := 11) (by decide) dX6_thinkDay_85 ?_
        refine hw_getI C cf_X5 lf_X6_122 hw_T11 dX6_thinkDay_88 ?_
        refine hw_goto C dX6_thinkDay_91 (tgt := 95) (by decide) ?_
        exact hw_iret C dX6_thinkDay_95
    · refine hw_iload_n C dX6_thinkDay_75 rfl 2 rfl ?_
      refine hw_goto C dX6_thinkDay_76 (tgt := 95) (by decide) ?_
      exact hw_iret C dX6_thinkDay_95
  · refine hw_aload_n C dX6_thinkDay_14 rfl 0 rfl ?_
    refine hw_getR C cf_X6 lf_X6_59 hw_T0 (t2 := 1) (by decide) dX6_thinkDay_15 ?_
    refine hw_aload_n C dX6_thinkDay_18 rfl 0 rfl ?_
    refine hw_getR C cf_X6 lf_X6_16 hw_T0 (t2 := 11) (by decide) dX6_thinkDay_19 ?_
    refine hw_aload_n C dX6_thinkDay_22 rfl 0 rfl ?_
    refine hw_getR C cf_X6 lf_X6_59 hw_T0 (t2 := 1) (by decide) dX6_thinkDay_23 ?_
    refine hw_iload C dX6_thinkDay_26 4 rfl ?_
    refine hw_callVi C (M_X2_windIn (hw_gE G) hTL 1 l4 s0) W_X2_windIn SV_X2_windIn cf_X2 hw_T1 mw_500 (by decide) rfl ⟨rfl, hw_l8 rfl⟩ dX6_thinkDay_28 (fun r4 s5 => ?_)
    refine hw_callVi C (M_X2_blowOn (hw_gE G) hTL 1 11 r4 s5) W_X2_blowOn SV_X2_blowOn cf_X2 hw_T1 mw_427 (by decide) rfl ⟨rfl, hw_l8 rfl⟩ dX6_thinkDay_31 (fun r6 s7 => ?_)
    refine hw_pop C dX6_thinkDay_34 ?_
    refine hw_iload_n C dX6_thinkDay_35 rfl 2 rfl ?_
    refine hw_aload_n C dX6_thinkDay_36 rfl 0 rfl ?_
    refine hw_getR C cf_X6 lf_X6_16 hw_T0 (t2 := 11) (by decide) dX6_thinkDay_37 ?_
    refine hw_getI C cf_X5 lf_X6_119 hw_T11 dX6_thinkDay_40 ?_
    refine hw_if_eq C dX6_thinkDay_43 (tgt := 50) (by decide) (fun c8 => ?_) (fun c8 => ?_)
    · refine hw_iconst C dX6_thinkDay_50 (v := 0) (by decide) ?_
      exact hw_lv [0, 1, 3, 4] rfl (KB_X6_thinkDay_51 C hTL w7 H_w7 l1 l3 l4 (0 : Int32) l2 s7)
    · refine hw_iconst C dX6_thinkDay_46 (v := 1) (by decide) ?_
      refine hw_goto C dX6_thinkDay_47 (tgt := 51) (by decide) ?_
      exact hw_lv [0, 1, 3, 4] rfl (KB_X6_thinkDay_51 C hTL w7 H_w7 l1 l3 l4 (1 : Int32) l2 s7)
theorem KL_X6_thinkDay_7 {G : hw_G} (C : hw_Ok G cX6_thinkDay RX6 5 6 (some .int) hw_TH) (hTL : hw_eT (hw_gE G) = hw_TH) : ∀ (n_ : Nat) (l1 : Int32) (l2 : Int32) (l3 : Int32) (l4 : Int32) (s0 : hw_St), hw_K G 5 hw_ri (L_X6_thinkDay_7 n_ l1 l2 l3 l4 s0) 7 [(0, hw_rv (hw_ea (hw_gE G)) 0), (1, .int l1), (2, .int l2), (3, .int l3), (4, .int l4)] [] s0 := by
  intro n_
  induction n_ with
  | zero => intros; exact hw_nil
  | succ n_ ih => intro l1 l2 l3 l4 s0; exact KS_X6_thinkDay_7 C hTL (L_X6_thinkDay_7 n_) ih l1 l2 l3 l4 s0
set_option maxRecDepth 20000 in
theorem M_X6_thinkDay (E : hw_E) (hE : hw_eT E = hw_TH) (a1 : Int32) (s0 : hw_St) : hw_M E yX6_thinkDay cX6_thinkDay 5 (some .int) 6 [hw_rv (hw_ea E) 0, .int a1] s0 hw_ri (F_X6_thinkDay a1 s0) := by
  refine hw_entry (own := RX6) (TL := hw_TH) (by decide) rfl hE (hw_cR (hw_cI hw_cN)) (hw_l8 rfl) (fun G hG C => ?_)
  subst hG
  have hTL := hE
  show hw_K G 5 hw_ri _ 0 [(0, hw_rv (hw_ea (hw_gE G)) 0), (1, .int a1)] [] s0
  unfold F_X6_thinkDay
  refine hw_iconst C dX6_thinkDay_0 (v := 0) (by decide) ?_
  refine hw_istore_n C dX6_thinkDay_1 rfl (by decide) rfl ?_
  refine hw_iconst C dX6_thinkDay_2 (v := 0) (by decide) ?_
  refine hw_istore_n C dX6_thinkDay_3 rfl (by decide) rfl ?_
  refine hw_iconst C dX6_thinkDay_4 (v := 0) (by decide) ?_
  refine hw_istore C dX6_thinkDay_5 (by decide) rfl ?_
  exact hw_lv [3, 4, 2, 1, 0] rfl (KL_X6_thinkDay_7 C hTL 130 a1 (0 : Int32) (0 : Int32) (0 : Int32) s0)
/-! HumWire day(II)I, level 7 -/
def F_X6_day  (a1 : Int32) (a2 : Int32) (s0 : hw_St) : Option (Int32 × hw_St) := hw_bd (F_X2_wireAt 1 a1 s0) (fun r1 s2 => if r1 = 999 then (some ((-1000000001 : Int32), s2)) else (hw_bd (F_X6_isWithin a2 (0 : Int32) (2 : Int32) s2) (fun r4 s5 => if r4 = 0 then (some ((-1000000001 : Int32), s5)) else (hw_bd (F_X5_become 11 r1 s5) (fun _ s8 => hw_bd (F_X6_thinkDay a2 s8) (fun r9 s10 => some (r9, s10)))))))
set_option maxRecDepth 20000 in
theorem M_X6_day (E : hw_E) (hE : hw_eT E = hw_TH) (a1 : Int32) (a2 : Int32) (s0 : hw_St) : hw_M E yX6_day cX6_day 4 (some .int) 7 [hw_rv (hw_ea E) 0, .int a1, .int a2] s0 hw_ri (F_X6_day a1 a2 s0) := by
  refine hw_entry (own := RX6) (TL := hw_TH) (by decide) rfl hE (hw_cR (hw_cI (hw_cI hw_cN))) (hw_l8 rfl) (fun G hG C => ?_)
  subst hG
  have hTL := hE
  show hw_K G 4 hw_ri _ 0 [(0, hw_rv (hw_ea (hw_gE G)) 0), (1, .int a1), (2, .int a2)] [] s0
  unfold F_X6_day
  refine hw_aload_n C dX6_day_0 rfl 0 rfl ?_
  refine hw_getR C cf_X6 lf_X6_59 hw_T0 (t2 := 1) (by decide) dX6_day_1 ?_
  refine hw_iload_n C dX6_day_4 rfl 1 rfl ?_
  refine hw_callVq C (M_X2_wireAt (hw_gE G) hTL 1 a1 s0) W_X2_wireAt SV_X2_wireAt cf_X2 hw_T1 mw_174 (by decide) rfl ⟨rfl, hw_l8 rfl⟩ dX6_day_5 (fun r1 s2 => ?_)
  refine hw_astore_n C dX6_day_8 rfl (by decide) rfl ?_
  refine hw_aload_n C dX6_day_9 rfl 0 rfl ?_
  refine hw_ifnull C dX6_day_10 (tgt := 22) (by decide) (fun c3 => ?_) (fun c3 => ?_)
  · refine hw_ldc C mw_126 dX6_day_22 ?_
    exact hw_iret C dX6_day_24
  · refine hw_iload_n C dX6_day_13 rfl 3 rfl ?_
    refine hw_iconst C dX6_day_14 (v := 0) (by decide) ?_
    refine hw_iconst C dX6_day_15 (v := 2) (by decide) ?_
    refine hw_callSi C (M_X6_isWithin (hw_gE G) hTL a2 (0 : Int32) (2 : Int32) s2) W_X6_isWithin SS_X6_isWithin mw_133 (by decide) rfl ⟨rfl, hw_l8 rfl⟩ dX6_day_16 (fun r4 s5 => ?_)
    refine hw_if_ne C dX6_day_19 (tgt := 25) (by decide) (fun c6 => ?_) (fun c6 => ?_)
    · refine hw_aload_n C dX6_day_25 rfl 1 rfl ?_
      refine hw_getR C cf_X6 lf_X6_16 hw_T0 (t2 := 11) (by decide) dX6_day_26 ?_
      refine hw_aload_n C dX6_day_29 rfl 0 rfl ?_
      refine hw_callVv C (M_X5_become (hw_gE G) hTL 11 r1 s5) W_X5_become SV_X5_become cf_X5 hw_T11 mw_470 (by decide) rfl ⟨rfl, hw_l8 rfl⟩ dX6_day_30 (fun r7 s8 => ?_)
      refine hw_aload_n C dX6_day_33 rfl 1 rfl ?_
      refine hw_iload_n C dX6_day_34 rfl 3 rfl ?_
      refine hw_callVi C (M_X6_thinkDay (hw_gE G) hTL a2 s8) W_X6_thinkDay SV_X6_thinkDay cf_X6 hw_T0 mw_496 (by decide) rfl ⟨rfl, hw_l8 rfl⟩ dX6_day_35 (fun r9 s10 => ?_)
      exact hw_iret C dX6_day_38
    · refine hw_ldc C mw_126 dX6_day_22 ?_
      exact hw_iret C dX6_day_24
/-! HumWire life(II)I, level 6 -/
def S_X6_life_37  (w37 : Int32 → Int32 → hw_St → Option (Int32 × hw_St)) (l2 : Int32) (l4 : Int32) (s0 : hw_St) : Option (Int32 × hw_St) := if (500 : Int32) ≤ l4 then (if (s0 11 6) < l2 then (some ((-1000000005 : Int32), s0)) else (some ((500 : Int32), s0))) else (if (s0 11 6) < l2 then (hw_bd (F_X2_windIn 1 l4 s0) (fun r12 s13 => hw_bd (F_X2_blowOn 1 11 r12 s13) (fun r14 s15 => w37 l2 (l4 + 1) s15))) else (some (l4, s0)))
def L_X6_life_37  : Nat → Int32 → Int32 → hw_St → Option (Int32 × hw_St)
  | 0 => fun _ _ _ => none
  | n + 1 => S_X6_life_37  (L_X6_life_37  n)
def F_X6_life  (a1 : Int32) (a2 : Int32) (s0 : hw_St) : Option (Int32 × hw_St) := hw_bd (F_X2_wireAt 1 a1 s0) (fun r1 s2 => if r1 = 999 then (some ((-1000000001 : Int32), s2)) else (hw_bd (F_X6_isWithin a2 (0 : Int32) (99999 : Int32) s2) (fun r4 s5 => if r4 = 0 then (some ((-1000000001 : Int32), s5)) else (hw_bd (F_X5_become 11 r1 s5) (fun _ s8 => L_X6_life_37 600 a2 (0 : Int32) s8)))))
set_option maxRecDepth 20000 in
theorem KS_X6_life_37 {G : hw_G} (C : hw_Ok G cX6_life RX6 5 6 (some .int) hw_TH) (hTL : hw_eT (hw_gE G) = hw_TH) (w37 : Int32 → Int32 → hw_St → Option (Int32 × hw_St)) (H_w37 : ∀ (l2 : Int32) (l4 : Int32) (s0 : hw_St), hw_K G 5 hw_ri (w37 l2 l4 s0) 37 [(0, hw_rv (hw_ea (hw_gE G)) 0), (2, .int l2), (4, .int l4)] [] s0) (l2 : Int32) (l4 : Int32) (s0 : hw_St) : hw_K G 5 hw_ri (S_X6_life_37 w37 l2 l4 s0) 37 [(0, hw_rv (hw_ea (hw_gE G)) 0), (2, .int l2), (4, .int l4)] [] s0 := by
  unfold S_X6_life_37
  refine hw_iload C dX6_life_37 2 rfl ?_
  refine hw_sipush C dX6_life_39 (v := 500) (by decide) ?_
  refine hw_icmp_ge C dX6_life_42 (tgt := 86) (by decide) (fun c9 => ?_) (fun c9 => ?_)
  · refine hw_aload_n C dX6_life_86 rfl 0 rfl ?_
    refine hw_getR C cf_X6 lf_X6_16 hw_T0 (t2 := 11) (by decide) dX6_life_87 ?_
    refine hw_getI C cf_X5 lf_X6_122 hw_T11 dX6_life_90 ?_
    refine hw_iload_n C dX6_life_93 rfl 1 rfl ?_
    refine hw_icmp_lt C dX6_life_94 (tgt := 103) (by decide) (fun c10 => ?_) (fun c10 => ?_)
    · refine hw_ldc C mw_478 dX6_life_103 ?_
      exact hw_iret C dX6_life_105
    · refine hw_sipush C dX6_life_97 (v := 500) (by decide) ?_
      refine hw_goto C dX6_life_100 (tgt := 105) (by decide) ?_
      exact hw_iret C dX6_life_105
  · refine hw_aload_n C dX6_life_45 rfl 0 rfl ?_
    refine hw_getR C cf_X6 lf_X6_16 hw_T0 (t2 := 11) (by decide) dX6_life_46 ?_
    refine hw_getI C cf_X5 lf_X6_122 hw_T11 dX6_life_49 ?_
    refine hw_iload_n C dX6_life_52 rfl 1 rfl ?_
    refine hw_icmp_lt C dX6_life_53 (tgt := 59) (by decide) (fun c11 => ?_) (fun c11 => ?_)
    · refine hw_aload_n C dX6_life_59 rfl 0 rfl ?_
      refine hw_getR C cf_X6 lf_X6_59 hw_T0 (t2 := 1) (by decide) dX6_life_60 ?_
      refine hw_aload_n C dX6_life_63 rfl 0 rfl ?_
      refine hw_getR C cf_X6 lf_X6_16 hw_T0 (t2 := 11) (by decide) dX6_life_64 ?_
      refine hw_aload_n C dX6_life_67 rfl 0 rfl ?_
      refine hw_getR C cf_X6 lf_X6_59 hw_T0 (t2 := 1) (by decide) dX6_life_68 ?_
      refine hw_iload C dX6_life_71 2 rfl ?_
      refine hw_callVi C (M_X2_windIn (hw_gE G) hTL 1 l4 s0) W_X2_windIn SV_X2_windIn cf_X2 hw_T1 mw_500 (by decide) rfl ⟨rfl, hw_l8 rfl⟩ dX6_life_73 (fun r12 s13 => ?_)
      refine hw_callVi C (M_X2_blowOn (hw_gE G) hTL 1 11 r12 s13) W_X2_blowOn SV_X2_blowOn cf_X2 hw_T1 mw_427 (by decide) rfl ⟨rfl, hw_l8 rfl⟩ dX6_life_76 (fun r14 s15 => ?_)
      refine hw_pop C dX6_life_79 ?_
      refine hw_iinc C dX6_life_80 2 rfl (v := 1) (by decide) (by decide) rfl ?_
      refine hw_goto C dX6_life_83 (tgt := 37) (by decide) ?_
      exact hw_lv [1, 2, 0] rfl (H_w37 l2 (l4 + 1) s15)
    · refine hw_iload C dX6_life_56 2 rfl ?_
      exact hw_iret C dX6_life_58
theorem KL_X6_life_37 {G : hw_G} (C : hw_Ok G cX6_life RX6 5 6 (some .int) hw_TH) (hTL : hw_eT (hw_gE G) = hw_TH) : ∀ (n_ : Nat) (l2 : Int32) (l4 : Int32) (s0 : hw_St), hw_K G 5 hw_ri (L_X6_life_37 n_ l2 l4 s0) 37 [(0, hw_rv (hw_ea (hw_gE G)) 0), (2, .int l2), (4, .int l4)] [] s0 := by
  intro n_
  induction n_ with
  | zero => intros; exact hw_nil
  | succ n_ ih => intro l2 l4 s0; exact KS_X6_life_37 C hTL (L_X6_life_37 n_) ih l2 l4 s0
set_option maxRecDepth 20000 in
theorem M_X6_life (E : hw_E) (hE : hw_eT E = hw_TH) (a1 : Int32) (a2 : Int32) (s0 : hw_St) : hw_M E yX6_life cX6_life 5 (some .int) 6 [hw_rv (hw_ea E) 0, .int a1, .int a2] s0 hw_ri (F_X6_life a1 a2 s0) := by
  refine hw_entry (own := RX6) (TL := hw_TH) (by decide) rfl hE (hw_cR (hw_cI (hw_cI hw_cN))) (hw_l8 rfl) (fun G hG C => ?_)
  subst hG
  have hTL := hE
  show hw_K G 5 hw_ri _ 0 [(0, hw_rv (hw_ea (hw_gE G)) 0), (1, .int a1), (2, .int a2)] [] s0
  unfold F_X6_life
  refine hw_aload_n C dX6_life_0 rfl 0 rfl ?_
  refine hw_getR C cf_X6 lf_X6_59 hw_T0 (t2 := 1) (by decide) dX6_life_1 ?_
  refine hw_iload_n C dX6_life_4 rfl 1 rfl ?_
  refine hw_callVq C (M_X2_wireAt (hw_gE G) hTL 1 a1 s0) W_X2_wireAt SV_X2_wireAt cf_X2 hw_T1 mw_174 (by decide) rfl ⟨rfl, hw_l8 rfl⟩ dX6_life_5 (fun r1 s2 => ?_)
  refine hw_astore_n C dX6_life_8 rfl (by decide) rfl ?_
  refine hw_aload_n C dX6_life_9 rfl 0 rfl ?_
  refine hw_ifnull C dX6_life_10 (tgt := 23) (by decide) (fun c3 => ?_) (fun c3 => ?_)
  · refine hw_ldc C mw_126 dX6_life_23 ?_
    exact hw_iret C dX6_life_25
  · refine hw_iload_n C dX6_life_13 rfl 3 rfl ?_
    refine hw_iconst C dX6_life_14 (v := 0) (by decide) ?_
    refine hw_ldc C mw_519 dX6_life_15 ?_
    refine hw_callSi C (M_X6_isWithin (hw_gE G) hTL a2 (0 : Int32) (99999 : Int32) s2) W_X6_isWithin SS_X6_isWithin mw_133 (by decide) rfl ⟨rfl, hw_l8 rfl⟩ dX6_life_17 (fun r4 s5 => ?_)
    refine hw_if_ne C dX6_life_20 (tgt := 26) (by decide) (fun c6 => ?_) (fun c6 => ?_)
    · refine hw_aload_n C dX6_life_26 rfl 1 rfl ?_
      refine hw_getR C cf_X6 lf_X6_16 hw_T0 (t2 := 11) (by decide) dX6_life_27 ?_
      refine hw_aload_n C dX6_life_30 rfl 0 rfl ?_
      refine hw_callVv C (M_X5_become (hw_gE G) hTL 11 r1 s5) W_X5_become SV_X5_become cf_X5 hw_T11 mw_470 (by decide) rfl ⟨rfl, hw_l8 rfl⟩ dX6_life_31 (fun r7 s8 => ?_)
      refine hw_iconst C dX6_life_34 (v := 0) (by decide) ?_
      refine hw_istore C dX6_life_35 (by decide) rfl ?_
      exact hw_lv [2, 4, 0] rfl (KL_X6_life_37 C hTL 600 a2 (0 : Int32) s8)
    · refine hw_ldc C mw_126 dX6_life_23 ?_
      exact hw_iret C dX6_life_25
/-! HumWire harp(II)I, level 7 -/
def B_X6_harp_88  (w34 : Int32 → Nat → Int32 → Int32 → Int32 → hw_St → Option (Int32 × hw_St)) (l2 : Int32) (l3 : Nat) (l4 : Int32) (l5 : Int32) (l6 : Int32) (s0 : hw_St) : Option (Int32 × hw_St) := w34 l2 l3 l4 l5 (l6 + 5) s0
def B_X6_harp_94  (l2 : Int32) (l4 : Int32) (l5 : Int32) (s0 : hw_St) : Option (Int32 × hw_St) := if l2 = 0 then (some (l4, s0)) else (some (l5, s0))
def S_X6_harp_34  (w34 : Int32 → Nat → Int32 → Int32 → Int32 → hw_St → Option (Int32 × hw_St)) (l2 : Int32) (l3 : Nat) (l4 : Int32) (l5 : Int32) (l6 : Int32) (s0 : hw_St) : Option (Int32 × hw_St) := if (500 : Int32) < l6 then (B_X6_harp_94 l2 l4 l5 s0) else (if (24 : Int32) ≤ l5 then (B_X6_harp_94 l2 l4 l5 s0) else (hw_bd (F_X5_become 11 l3 s0) (fun _ s10 => hw_nm (hw_up s10 11 2 l6) (fun s11 => hw_bd (F_X6_thinkDay (0 : Int32) s11) (fun r12 s13 => if r12 ≤ l5 then (B_X6_harp_88 w34 l2 l3 l4 l5 l6 s13) else (B_X6_harp_88 w34 l2 l3 l6 r12 l6 s13))))))
def L_X6_harp_34  : Nat → Int32 → Nat → Int32 → Int32 → Int32 → hw_St → Option (Int32 × hw_St)
  | 0 => fun _ _ _ _ _ _ => none
  | n + 1 => S_X6_harp_34  (L_X6_harp_34  n)
def F_X6_harp  (a1 : Int32) (a2 : Int32) (s0 : hw_St) : Option (Int32 × hw_St) := hw_bd (F_X2_wireAt 1 a1 s0) (fun r1 s2 => if r1 = 999 then (some ((-1000000001 : Int32), s2)) else (hw_bd (F_X6_isWithin a2 (0 : Int32) (1 : Int32) s2) (fun r4 s5 => if r4 = 0 then (some ((-1000000001 : Int32), s5)) else (L_X6_harp_34 130 a2 r1 (0 : Int32) (-1 : Int32) (5 : Int32) s5))))
set_option maxRecDepth 20000 in
theorem KB_X6_harp_88 {G : hw_G} (C : hw_Ok G cX6_harp RX6 8 7 (some .int) hw_TH) (hTL : hw_eT (hw_gE G) = hw_TH) (w34 : Int32 → Nat → Int32 → Int32 → Int32 → hw_St → Option (Int32 × hw_St)) (H_w34 : ∀ (l2 : Int32) (l3 : Nat) (l4 : Int32) (l5 : Int32) (l6 : Int32) (s0 : hw_St), hw_K G 8 hw_ri (w34 l2 l3 l4 l5 l6 s0) 34 [(0, hw_rv (hw_ea (hw_gE G)) 0), (2, .int l2), (3, hw_rv (hw_ea (hw_gE G)) l3), (4, .int l4), (5, .int l5), (6, .int l6)] [] s0) (l2 : Int32) (l3 : Nat) (l4 : Int32) (l5 : Int32) (l6 : Int32) (s0 : hw_St) : hw_K G 8 hw_ri (B_X6_harp_88 w34 l2 l3 l4 l5 l6 s0) 88 [(0, hw_rv (hw_ea (hw_gE G)) 0), (2, .int l2), (3, hw_rv (hw_ea (hw_gE G)) l3), (4, .int l4), (5, .int l5), (6, .int l6)] [] s0 := by
  unfold B_X6_harp_88
  refine hw_iinc C dX6_harp_88 5 rfl (v := 5) (by decide) (by decide) rfl ?_
  refine hw_goto C dX6_harp_91 (tgt := 34) (by decide) ?_
  exact hw_lv [1, 2, 3, 4, 5, 0] rfl (H_w34 l2 l3 l4 l5 (l6 + 5) s0)
set_option maxRecDepth 20000 in
theorem KB_X6_harp_94 {G : hw_G} (C : hw_Ok G cX6_harp RX6 8 7 (some .int) hw_TH) (hTL : hw_eT (hw_gE G) = hw_TH) (l2 : Int32) (l4 : Int32) (l5 : Int32) (s0 : hw_St) : hw_K G 8 hw_ri (B_X6_harp_94 l2 l4 l5 s0) 94 [(2, .int l2), (4, .int l4), (5, .int l5)] [] s0 := by
  unfold B_X6_harp_94
  refine hw_iload_n C dX6_harp_94 rfl 0 rfl ?_
  refine hw_if_ne C dX6_harp_95 (tgt := 103) (by decide) (fun c15 => ?_) (fun c15 => ?_)
  · refine hw_iload C dX6_harp_103 2 rfl ?_
    exact hw_iret C dX6_harp_105
  · refine hw_iload C dX6_harp_98 1 rfl ?_
    refine hw_goto C dX6_harp_100 (tgt := 105) (by decide) ?_
    exact hw_iret C dX6_harp_105
set_option maxRecDepth 20000 in
theorem KS_X6_harp_34 {G : hw_G} (C : hw_Ok G cX6_harp RX6 8 7 (some .int) hw_TH) (hTL : hw_eT (hw_gE G) = hw_TH) (w34 : Int32 → Nat → Int32 → Int32 → Int32 → hw_St → Option (Int32 × hw_St)) (H_w34 : ∀ (l2 : Int32) (l3 : Nat) (l4 : Int32) (l5 : Int32) (l6 : Int32) (s0 : hw_St), hw_K G 8 hw_ri (w34 l2 l3 l4 l5 l6 s0) 34 [(0, hw_rv (hw_ea (hw_gE G)) 0), (2, .int l2), (3, hw_rv (hw_ea (hw_gE G)) l3), (4, .int l4), (5, .int l5), (6, .int l6)] [] s0) (l2 : Int32) (l3 : Nat) (l4 : Int32) (l5 : Int32) (l6 : Int32) (s0 : hw_St) : hw_K G 8 hw_ri (S_X6_harp_34 w34 l2 l3 l4 l5 l6 s0) 34 [(0, hw_rv (hw_ea (hw_gE G)) 0), (2, .int l2), (3, hw_rv (hw_ea (hw_gE G)) l3), (4, .int l4), (5, .int l5), (6, .int l6)] [] s0 := by
  unfold S_X6_harp_34
  refine hw_iload C dX6_harp_34 5 rfl ?_
  refine hw_sipush C dX6_harp_36 (v := 500) (by decide) ?_
  refine hw_icmp_gt C dX6_harp_39 (tgt := 94) (by decide) (fun c7 => ?_) (fun c7 => ?_)
  · exact hw_lv [1, 3, 4] rfl (KB_X6_harp_94 C hTL l2 l4 l5 s0)
  · refine hw_iload C dX6_harp_42 4 rfl ?_
    refine hw_bipush C dX6_harp_44 (v := 24) (by decide) ?_
    refine hw_icmp_ge C dX6_harp_46 (tgt := 94) (by decide) (fun c8 => ?_) (fun c8 => ?_)
    · exact hw_lv [1, 3, 4] rfl (KB_X6_harp_94 C hTL l2 l4 l5 s0)
    · refine hw_aload_n C dX6_harp_49 rfl 0 rfl ?_
      refine hw_getR C cf_X6 lf_X6_16 hw_T0 (t2 := 11) (by decide) dX6_harp_50 ?_
      refine hw_aload_n C dX6_harp_53 rfl 2 rfl ?_
      refine hw_callVv C (M_X5_become (hw_gE G) hTL 11 l3 s0) W_X5_become SV_X5_become cf_X5 hw_T11 mw_470 (by decide) rfl ⟨rfl, hw_l8 rfl⟩ dX6_harp_54 (fun r9 s10 => ?_)
      refine hw_aload_n C dX6_harp_57 rfl 0 rfl ?_
      refine hw_getR C cf_X6 lf_X6_16 hw_T0 (t2 := 11) (by decide) dX6_harp_58 ?_
      refine hw_iload C dX6_harp_61 5 rfl ?_
      refine hw_putI C cf_X5 lf_X6_110 hw_T11 rfl rfl dX6_harp_63 (fun s11 => ?_)
      refine hw_aload_n C dX6_harp_66 rfl 0 rfl ?_
      refine hw_iconst C dX6_harp_67 (v := 0) (by decide) ?_
      refine hw_callVi C (M_X6_thinkDay (hw_gE G) hTL (0 : Int32) s11) W_X6_thinkDay SV_X6_thinkDay cf_X6 hw_T0 mw_496 (by decide) rfl ⟨rfl, hw_l8 rfl⟩ dX6_harp_68 (fun r12 s13 => ?_)
      refine hw_istore C dX6_harp_71 (by decide) rfl ?_
      refine hw_iload C dX6_harp_73 0 rfl ?_
      refine hw_iload C dX6_harp_75 5 rfl ?_
      refine hw_icmp_le C dX6_harp_77 (tgt := 88) (by decide) (fun c14 => ?_) (fun c14 => ?_)
      · exact hw_lv [1, 2, 3, 4, 5, 6] rfl (KB_X6_harp_88 C hTL w34 H_w34 l2 l3 l4 l5 l6 s13)
      · refine hw_iload C dX6_harp_80 0 rfl ?_
        refine hw_istore C dX6_harp_82 (by decide) rfl ?_
        refine hw_iload C dX6_harp_84 6 rfl ?_
        refine hw_istore C dX6_harp_86 (by decide) rfl ?_
        exact hw_lv [3, 4, 5, 0, 1, 6] rfl (KB_X6_harp_88 C hTL w34 H_w34 l2 l3 l6 r12 l6 s13)
theorem KL_X6_harp_34 {G : hw_G} (C : hw_Ok G cX6_harp RX6 8 7 (some .int) hw_TH) (hTL : hw_eT (hw_gE G) = hw_TH) : ∀ (n_ : Nat) (l2 : Int32) (l3 : Nat) (l4 : Int32) (l5 : Int32) (l6 : Int32) (s0 : hw_St), hw_K G 8 hw_ri (L_X6_harp_34 n_ l2 l3 l4 l5 l6 s0) 34 [(0, hw_rv (hw_ea (hw_gE G)) 0), (2, .int l2), (3, hw_rv (hw_ea (hw_gE G)) l3), (4, .int l4), (5, .int l5), (6, .int l6)] [] s0 := by
  intro n_
  induction n_ with
  | zero => intros; exact hw_nil
  | succ n_ ih => intro l2 l3 l4 l5 l6 s0; exact KS_X6_harp_34 C hTL (L_X6_harp_34 n_) ih l2 l3 l4 l5 l6 s0
set_option maxRecDepth 20000 in
theorem M_X6_harp (E : hw_E) (hE : hw_eT E = hw_TH) (a1 : Int32) (a2 : Int32) (s0 : hw_St) : hw_M E yX6_harp cX6_harp 8 (some .int) 7 [hw_rv (hw_ea E) 0, .int a1, .int a2] s0 hw_ri (F_X6_harp a1 a2 s0) := by
  refine hw_entry (own := RX6) (TL := hw_TH) (by decide) rfl hE (hw_cR (hw_cI (hw_cI hw_cN))) (hw_l8 rfl) (fun G hG C => ?_)
  subst hG
  have hTL := hE
  show hw_K G 8 hw_ri _ 0 [(0, hw_rv (hw_ea (hw_gE G)) 0), (1, .int a1), (2, .int a2)] [] s0
  unfold F_X6_harp
  refine hw_aload_n C dX6_harp_0 rfl 0 rfl ?_
  refine hw_getR C cf_X6 lf_X6_59 hw_T0 (t2 := 1) (by decide) dX6_harp_1 ?_
  refine hw_iload_n C dX6_harp_4 rfl 1 rfl ?_
  refine hw_callVq C (M_X2_wireAt (hw_gE G) hTL 1 a1 s0) W_X2_wireAt SV_X2_wireAt cf_X2 hw_T1 mw_174 (by decide) rfl ⟨rfl, hw_l8 rfl⟩ dX6_harp_5 (fun r1 s2 => ?_)
  refine hw_astore_n C dX6_harp_8 rfl (by decide) rfl ?_
  refine hw_aload_n C dX6_harp_9 rfl 0 rfl ?_
  refine hw_ifnull C dX6_harp_10 (tgt := 22) (by decide) (fun c3 => ?_) (fun c3 => ?_)
  · refine hw_ldc C mw_126 dX6_harp_22 ?_
    exact hw_iret C dX6_harp_24
  · refine hw_iload_n C dX6_harp_13 rfl 3 rfl ?_
    refine hw_iconst C dX6_harp_14 (v := 0) (by decide) ?_
    refine hw_iconst C dX6_harp_15 (v := 1) (by decide) ?_
    refine hw_callSi C (M_X6_isWithin (hw_gE G) hTL a2 (0 : Int32) (1 : Int32) s2) W_X6_isWithin SS_X6_isWithin mw_133 (by decide) rfl ⟨rfl, hw_l8 rfl⟩ dX6_harp_16 (fun r4 s5 => ?_)
    refine hw_if_ne C dX6_harp_19 (tgt := 25) (by decide) (fun c6 => ?_) (fun c6 => ?_)
    · refine hw_iconst C dX6_harp_25 (v := 0) (by decide) ?_
      refine hw_istore C dX6_harp_26 (by decide) rfl ?_
      refine hw_iconst C dX6_harp_28 (v := -1) (by decide) ?_
      refine hw_istore C dX6_harp_29 (by decide) rfl ?_
      refine hw_iconst C dX6_harp_31 (v := 5) (by decide) ?_
      refine hw_istore C dX6_harp_32 (by decide) rfl ?_
      exact hw_lv [4, 6, 3, 2, 1, 0] rfl (KL_X6_harp_34 C hTL 130 a2 r1 (0 : Int32) (-1 : Int32) (5 : Int32) s5)
    · refine hw_ldc C mw_126 dX6_harp_22 ?_
      exact hw_iret C dX6_harp_24
/-! HumWire lumps(II)I, level 7 -/
def S_X6_lumps_29  (w29 : Int32 → Nat → Int32 → hw_St → Option (Int32 × hw_St)) (l2 : Int32) (l3 : Nat) (l4 : Int32) (s0 : hw_St) : Option (Int32 × hw_St) := if (9 : Int32) < l4 then (some ((-1000000005 : Int32), s0)) else (hw_bd (F_X5_become 11 l3 s0) (fun _ s9 => hw_nm (hw_up s9 11 3 l4) (fun s10 => hw_bd (F_X6_thinkDay (1 : Int32) s10) (fun r11 s12 => if l2 < r11 then (w29 l2 l3 (l4 + 1) s12) else (some (l4, s12))))))
def L_X6_lumps_29  : Nat → Int32 → Nat → Int32 → hw_St → Option (Int32 × hw_St)
  | 0 => fun _ _ _ _ => none
  | n + 1 => S_X6_lumps_29  (L_X6_lumps_29  n)
def F_X6_lumps  (a1 : Int32) (a2 : Int32) (s0 : hw_St) : Option (Int32 × hw_St) := hw_bd (F_X2_wireAt 1 a1 s0) (fun r1 s2 => if r1 = 999 then (some ((-1000000001 : Int32), s2)) else (hw_bd (F_X6_isWithin a2 (0 : Int32) (99999 : Int32) s2) (fun r4 s5 => if r4 = 0 then (some ((-1000000001 : Int32), s5)) else (L_X6_lumps_29 130 a2 r1 (0 : Int32) s5))))
set_option maxRecDepth 20000 in
theorem KS_X6_lumps_29 {G : hw_G} (C : hw_Ok G cX6_lumps RX6 5 7 (some .int) hw_TH) (hTL : hw_eT (hw_gE G) = hw_TH) (w29 : Int32 → Nat → Int32 → hw_St → Option (Int32 × hw_St)) (H_w29 : ∀ (l2 : Int32) (l3 : Nat) (l4 : Int32) (s0 : hw_St), hw_K G 5 hw_ri (w29 l2 l3 l4 s0) 29 [(0, hw_rv (hw_ea (hw_gE G)) 0), (2, .int l2), (3, hw_rv (hw_ea (hw_gE G)) l3), (4, .int l4)] [] s0) (l2 : Int32) (l3 : Nat) (l4 : Int32) (s0 : hw_St) : hw_K G 5 hw_ri (S_X6_lumps_29 w29 l2 l3 l4 s0) 29 [(0, hw_rv (hw_ea (hw_gE G)) 0), (2, .int l2), (3, hw_rv (hw_ea (hw_gE G)) l3), (4, .int l4)] [] s0 := by
  unfold S_X6_lumps_29
  refine hw_iload C dX6_lumps_29 3 rfl ?_
  refine hw_bipush C dX6_lumps_31 (v := 9) (by decide) ?_
  refine hw_icmp_gt C dX6_lumps_33 (tgt := 71) (by decide) (fun c7 => ?_) (fun c7 => ?_)
  · refine hw_ldc C mw_478 dX6_lumps_71 ?_
    exact hw_iret C dX6_lumps_73
  · refine hw_aload_n C dX6_lumps_36 rfl 0 rfl ?_
    refine hw_getR C cf_X6 lf_X6_16 hw_T0 (t2 := 11) (by decide) dX6_lumps_37 ?_
    refine hw_aload_n C dX6_lumps_40 rfl 2 rfl ?_
    refine hw_callVv C (M_X5_become (hw_gE G) hTL 11 l3 s0) W_X5_become SV_X5_become cf_X5 hw_T11 mw_470 (by decide) rfl ⟨rfl, hw_l8 rfl⟩ dX6_lumps_41 (fun r8 s9 => ?_)
    refine hw_aload_n C dX6_lumps_44 rfl 0 rfl ?_
    refine hw_getR C cf_X6 lf_X6_16 hw_T0 (t2 := 11) (by decide) dX6_lumps_45 ?_
    refine hw_iload C dX6_lumps_48 3 rfl ?_
    refine hw_putI C cf_X5 lf_X6_113 hw_T11 rfl rfl dX6_lumps_50 (fun s10 => ?_)
    refine hw_aload_n C dX6_lumps_53 rfl 0 rfl ?_
    refine hw_iconst C dX6_lumps_54 (v := 1) (by decide) ?_
    refine hw_callVi C (M_X6_thinkDay (hw_gE G) hTL (1 : Int32) s10) W_X6_thinkDay SV_X6_thinkDay cf_X6 hw_T0 mw_496 (by decide) rfl ⟨rfl, hw_l8 rfl⟩ dX6_lumps_55 (fun r11 s12 => ?_)
    refine hw_iload_n C dX6_lumps_58 rfl 1 rfl ?_
    refine hw_icmp_gt C dX6_lumps_59 (tgt := 65) (by decide) (fun c13 => ?_) (fun c13 => ?_)
    · refine hw_iinc C dX6_lumps_65 3 rfl (v := 1) (by decide) (by decide) rfl ?_
      refine hw_goto C dX6_lumps_68 (tgt := 29) (by decide) ?_
      exact hw_lv [1, 2, 3, 0] rfl (H_w29 l2 l3 (l4 + 1) s12)
    · refine hw_iload C dX6_lumps_62 3 rfl ?_
      exact hw_iret C dX6_lumps_64
theorem KL_X6_lumps_29 {G : hw_G} (C : hw_Ok G cX6_lumps RX6 5 7 (some .int) hw_TH) (hTL : hw_eT (hw_gE G) = hw_TH) : ∀ (n_ : Nat) (l2 : Int32) (l3 : Nat) (l4 : Int32) (s0 : hw_St), hw_K G 5 hw_ri (L_X6_lumps_29 n_ l2 l3 l4 s0) 29 [(0, hw_rv (hw_ea (hw_gE G)) 0), (2, .int l2), (3, hw_rv (hw_ea (hw_gE G)) l3), (4, .int l4)] [] s0 := by
  intro n_
  induction n_ with
  | zero => intros; exact hw_nil
  | succ n_ ih => intro l2 l3 l4 s0; exact KS_X6_lumps_29 C hTL (L_X6_lumps_29 n_) ih l2 l3 l4 s0
set_option maxRecDepth 20000 in
theorem M_X6_lumps (E : hw_E) (hE : hw_eT E = hw_TH) (a1 : Int32) (a2 : Int32) (s0 : hw_St) : hw_M E yX6_lumps cX6_lumps 5 (some .int) 7 [hw_rv (hw_ea E) 0, .int a1, .int a2] s0 hw_ri (F_X6_lumps a1 a2 s0) := by
  refine hw_entry (own := RX6) (TL := hw_TH) (by decide) rfl hE (hw_cR (hw_cI (hw_cI hw_cN))) (hw_l8 rfl) (fun G hG C => ?_)
  subst hG
  have hTL := hE
  show hw_K G 5 hw_ri _ 0 [(0, hw_rv (hw_ea (hw_gE G)) 0), (1, .int a1), (2, .int a2)] [] s0
  unfold F_X6_lumps
  refine hw_aload_n C dX6_lumps_0 rfl 0 rfl ?_
  refine hw_getR C cf_X6 lf_X6_59 hw_T0 (t2 := 1) (by decide) dX6_lumps_1 ?_
  refine hw_iload_n C dX6_lumps_4 rfl 1 rfl ?_
  refine hw_callVq C (M_X2_wireAt (hw_gE G) hTL 1 a1 s0) W_X2_wireAt SV_X2_wireAt cf_X2 hw_T1 mw_174 (by decide) rfl ⟨rfl, hw_l8 rfl⟩ dX6_lumps_5 (fun r1 s2 => ?_)
  refine hw_astore_n C dX6_lumps_8 rfl (by decide) rfl ?_
  refine hw_aload_n C dX6_lumps_9 rfl 0 rfl ?_
  refine hw_ifnull C dX6_lumps_10 (tgt := 23) (by decide) (fun c3 => ?_) (fun c3 => ?_)
  · refine hw_ldc C mw_126 dX6_lumps_23 ?_
    exact hw_iret C dX6_lumps_25
  · refine hw_iload_n C dX6_lumps_13 rfl 3 rfl ?_
    refine hw_iconst C dX6_lumps_14 (v := 0) (by decide) ?_
    refine hw_ldc C mw_519 dX6_lumps_15 ?_
    refine hw_callSi C (M_X6_isWithin (hw_gE G) hTL a2 (0 : Int32) (99999 : Int32) s2) W_X6_isWithin SS_X6_isWithin mw_133 (by decide) rfl ⟨rfl, hw_l8 rfl⟩ dX6_lumps_17 (fun r4 s5 => ?_)
    refine hw_if_ne C dX6_lumps_20 (tgt := 26) (by decide) (fun c6 => ?_) (fun c6 => ?_)
    · refine hw_iconst C dX6_lumps_26 (v := 0) (by decide) ?_
      refine hw_istore C dX6_lumps_27 (by decide) rfl ?_
      exact hw_lv [2, 4, 1, 0] rfl (KL_X6_lumps_29 C hTL 130 a2 r1 (0 : Int32) s5)
    · refine hw_ldc C mw_126 dX6_lumps_23 ?_
      exact hw_iret C dX6_lumps_25
/-! HumWire blown(III)I, level 3 -/
def B_X6_blown_80  (w41 : Int32 → Int32 → Nat → Int32 → Int32 → Int32 → Int32 → hw_St → Option (Int32 × hw_St)) (l2 : Int32) (l3 : Int32) (l4 : Nat) (l5 : Int32) (l6 : Int32) (l7 : Int32) (l8 : Int32) (s0 : hw_St) : Option (Int32 × hw_St) := w41 l2 l3 l4 l5 l6 l7 (l8 + 1) s0
def B_X6_blown_71  (w41 : Int32 → Int32 → Nat → Int32 → Int32 → Int32 → Int32 → hw_St → Option (Int32 × hw_St)) (l2 : Int32) (l3 : Int32) (l4 : Nat) (l7 : Int32) (l8 : Int32) (k0 : Int32) (s0 : hw_St) : Option (Int32 × hw_St) := B_X6_blown_80 w41 l2 l3 l4 k0 l8 (l7 + 1) l8 s0
def S_X6_blown_41  (w41 : Int32 → Int32 → Nat → Int32 → Int32 → Int32 → Int32 → hw_St → Option (Int32 × hw_St)) (l2 : Int32) (l3 : Int32) (l4 : Nat) (l5 : Int32) (l6 : Int32) (l7 : Int32) (l8 : Int32) (s0 : hw_St) : Option (Int32 × hw_St) := if (99 : Int32) < l8 then (if l3 = 0 then (some (l5, s0)) else (if l3 = (1 : Int32) then (some (l6, s0)) else (some (l7, s0)))) else (hw_gd (hw_gH l4 5) (hw_bd (F_X5_eddy l4 l8 s0) (fun r12 s13 => if r12 = l2 then (if l7 = 0 then (B_X6_blown_71 w41 l2 l3 l4 l7 l8 l8 s13) else (B_X6_blown_71 w41 l2 l3 l4 l7 l8 l5 s13)) else (B_X6_blown_80 w41 l2 l3 l4 l5 l6 l7 l8 s13))))
def L_X6_blown_41  : Nat → Int32 → Int32 → Nat → Int32 → Int32 → Int32 → Int32 → hw_St → Option (Int32 × hw_St)
  | 0 => fun _ _ _ _ _ _ _ _ => none
  | n + 1 => S_X6_blown_41  (L_X6_blown_41  n)
def F_X6_blown  (a1 : Int32) (a2 : Int32) (a3 : Int32) (s0 : hw_St) : Option (Int32 × hw_St) := hw_bd (F_X2_wireAt 1 a1 s0) (fun r1 s2 => if r1 = 999 then (some ((-1000000001 : Int32), s2)) else (hw_bd (F_X6_isWithin a3 (0 : Int32) (2 : Int32) s2) (fun r4 s5 => if r4 = 0 then (some ((-1000000001 : Int32), s5)) else (L_X6_blown_41 130 a2 a3 r1 (-1000000005 : Int32) (-1000000005 : Int32) (0 : Int32) (0 : Int32) s5))))
set_option maxRecDepth 20000 in
theorem KB_X6_blown_80 {G : hw_G} (C : hw_Ok G cX6_blown RX6 9 3 (some .int) hw_TH) (hTL : hw_eT (hw_gE G) = hw_TH) (w41 : Int32 → Int32 → Nat → Int32 → Int32 → Int32 → Int32 → hw_St → Option (Int32 × hw_St)) (H_w41 : ∀ (l2 : Int32) (l3 : Int32) (l4 : Nat) (l5 : Int32) (l6 : Int32) (l7 : Int32) (l8 : Int32) (s0 : hw_St), hw_K G 9 hw_ri (w41 l2 l3 l4 l5 l6 l7 l8 s0) 41 [(2, .int l2), (3, .int l3), (4, hw_rv (hw_ea (hw_gE G)) l4), (5, .int l5), (6, .int l6), (7, .int l7), (8, .int l8)] [] s0) (l2 : Int32) (l3 : Int32) (l4 : Nat) (l5 : Int32) (l6 : Int32) (l7 : Int32) (l8 : Int32) (s0 : hw_St) (T_l4 : hw_T hw_TH l4 5) : hw_K G 9 hw_ri (B_X6_blown_80 w41 l2 l3 l4 l5 l6 l7 l8 s0) 80 [(2, .int l2), (3, .int l3), (4, hw_rv (hw_ea (hw_gE G)) l4), (5, .int l5), (6, .int l6), (7, .int l7), (8, .int l8)] [] s0 := by
  unfold B_X6_blown_80
  refine hw_iinc C dX6_blown_80 6 rfl (v := 1) (by decide) (by decide) rfl ?_
  refine hw_goto C dX6_blown_83 (tgt := 41) (by decide) ?_
  exact hw_lv [1, 2, 3, 4, 5, 6, 0] rfl (H_w41 l2 l3 l4 l5 l6 l7 (l8 + 1) s0)
set_option maxRecDepth 20000 in
theorem KB_X6_blown_71 {G : hw_G} (C : hw_Ok G cX6_blown RX6 9 3 (some .int) hw_TH) (hTL : hw_eT (hw_gE G) = hw_TH) (w41 : Int32 → Int32 → Nat → Int32 → Int32 → Int32 → Int32 → hw_St → Option (Int32 × hw_St)) (H_w41 : ∀ (l2 : Int32) (l3 : Int32) (l4 : Nat) (l5 : Int32) (l6 : Int32) (l7 : Int32) (l8 : Int32) (s0 : hw_St), hw_K G 9 hw_ri (w41 l2 l3 l4 l5 l6 l7 l8 s0) 41 [(2, .int l2), (3, .int l3), (4, hw_rv (hw_ea (hw_gE G)) l4), (5, .int l5), (6, .int l6), (7, .int l7), (8, .int l8)] [] s0) (l2 : Int32) (l3 : Int32) (l4 : Nat) (l7 : Int32) (l8 : Int32) (k0 : Int32) (s0 : hw_St) (T_l4 : hw_T hw_TH l4 5) : hw_K G 9 hw_ri (B_X6_blown_71 w41 l2 l3 l4 l7 l8 k0 s0) 71 [(2, .int l2), (3, .int l3), (4, hw_rv (hw_ea (hw_gE G)) l4), (7, .int l7), (8, .int l8)] [.int k0] s0 := by
  unfold B_X6_blown_71
  refine hw_istore C dX6_blown_71 (by decide) rfl ?_
  refine hw_iload C dX6_blown_73 5 rfl ?_
  refine hw_istore C dX6_blown_75 (by decide) rfl ?_
  refine hw_iinc C dX6_blown_77 5 rfl (v := 1) (by decide) (by decide) rfl ?_
  exact hw_lv [3, 4, 5, 2, 1, 0, 6] rfl (KB_X6_blown_80 C hTL w41 H_w41 l2 l3 l4 k0 l8 (l7 + 1) l8 s0 T_l4)
set_option maxRecDepth 20000 in
theorem KS_X6_blown_41 {G : hw_G} (C : hw_Ok G cX6_blown RX6 9 3 (some .int) hw_TH) (hTL : hw_eT (hw_gE G) = hw_TH) (w41 : Int32 → Int32 → Nat → Int32 → Int32 → Int32 → Int32 → hw_St → Option (Int32 × hw_St)) (H_w41 : ∀ (l2 : Int32) (l3 : Int32) (l4 : Nat) (l5 : Int32) (l6 : Int32) (l7 : Int32) (l8 : Int32) (s0 : hw_St), hw_K G 9 hw_ri (w41 l2 l3 l4 l5 l6 l7 l8 s0) 41 [(2, .int l2), (3, .int l3), (4, hw_rv (hw_ea (hw_gE G)) l4), (5, .int l5), (6, .int l6), (7, .int l7), (8, .int l8)] [] s0) (l2 : Int32) (l3 : Int32) (l4 : Nat) (l5 : Int32) (l6 : Int32) (l7 : Int32) (l8 : Int32) (s0 : hw_St) : hw_K G 9 hw_ri (S_X6_blown_41 w41 l2 l3 l4 l5 l6 l7 l8 s0) 41 [(2, .int l2), (3, .int l3), (4, hw_rv (hw_ea (hw_gE G)) l4), (5, .int l5), (6, .int l6), (7, .int l7), (8, .int l8)] [] s0 := by
  unfold S_X6_blown_41
  refine hw_iload C dX6_blown_41 6 rfl ?_
  refine hw_bipush C dX6_blown_43 (v := 99) (by decide) ?_
  refine hw_icmp_gt C dX6_blown_45 (tgt := 86) (by decide) (fun c7 => ?_) (fun c7 => ?_)
  · refine hw_iload_n C dX6_blown_86 rfl 1 rfl ?_
    refine hw_if_ne C dX6_blown_87 (tgt := 95) (by decide) (fun c8 => ?_) (fun c8 => ?_)
    · refine hw_iload_n C dX6_blown_95 rfl 1 rfl ?_
      refine hw_iconst C dX6_blown_96 (v := 1) (by decide) ?_
      refine hw_icmp_ne C dX6_blown_97 (tgt := 105) (by decide) (fun c9 => ?_) (fun c9 => ?_)
      · refine hw_iload C dX6_blown_105 5 rfl ?_
        exact hw_iret C dX6_blown_107
      · refine hw_iload C dX6_blown_100 4 rfl ?_
        refine hw_goto C dX6_blown_102 (tgt := 107) (by decide) ?_
        exact hw_iret C dX6_blown_107
    · refine hw_iload C dX6_blown_90 3 rfl ?_
      refine hw_goto C dX6_blown_92 (tgt := 107) (by decide) ?_
      exact hw_iret C dX6_blown_107
  · refine hw_aload C dX6_blown_48 2 rfl ?_
    refine hw_iload C dX6_blown_50 6 rfl ?_
    refine hw_gdK (fun h11 => ?_)
    have T_10 := hw_gH_T h11
    refine hw_callVi C (M_X5_eddy (hw_gE G) hTL l4 l8 s0) W_X5_eddy SV_X5_eddy cf_X5 T_10 mw_335 (by decide) rfl ⟨rfl, hw_l8 rfl⟩ dX6_blown_52 (fun r12 s13 => ?_)
    refine hw_iload_n C dX6_blown_55 rfl 0 rfl ?_
    refine hw_icmp_ne C dX6_blown_56 (tgt := 80) (by decide) (fun c14 => ?_) (fun c14 => ?_)
    · exact hw_lv [0, 1, 2, 3, 4, 5, 6] rfl (KB_X6_blown_80 C hTL w41 H_w41 l2 l3 l4 l5 l6 l7 l8 s13 T_10)
    · refine hw_iload C dX6_blown_59 5 rfl ?_
      refine hw_if_ne C dX6_blown_61 (tgt := 69) (by decide) (fun c15 => ?_) (fun c15 => ?_)
      · refine hw_iload C dX6_blown_69 3 rfl ?_
        exact hw_lv [0, 1, 2, 5, 6] rfl (KB_X6_blown_71 C hTL w41 H_w41 l2 l3 l4 l7 l8 l5 s13 T_10)
      · refine hw_iload C dX6_blown_64 6 rfl ?_
        refine hw_goto C dX6_blown_66 (tgt := 71) (by decide) ?_
        exact hw_lv [0, 1, 2, 5, 6] rfl (KB_X6_blown_71 C hTL w41 H_w41 l2 l3 l4 l7 l8 l8 s13 T_10)
theorem KL_X6_blown_41 {G : hw_G} (C : hw_Ok G cX6_blown RX6 9 3 (some .int) hw_TH) (hTL : hw_eT (hw_gE G) = hw_TH) : ∀ (n_ : Nat) (l2 : Int32) (l3 : Int32) (l4 : Nat) (l5 : Int32) (l6 : Int32) (l7 : Int32) (l8 : Int32) (s0 : hw_St), hw_K G 9 hw_ri (L_X6_blown_41 n_ l2 l3 l4 l5 l6 l7 l8 s0) 41 [(2, .int l2), (3, .int l3), (4, hw_rv (hw_ea (hw_gE G)) l4), (5, .int l5), (6, .int l6), (7, .int l7), (8, .int l8)] [] s0 := by
  intro n_
  induction n_ with
  | zero => intros; exact hw_nil
  | succ n_ ih => intro l2 l3 l4 l5 l6 l7 l8 s0; exact KS_X6_blown_41 C hTL (L_X6_blown_41 n_) ih l2 l3 l4 l5 l6 l7 l8 s0
set_option maxRecDepth 20000 in
theorem M_X6_blown (E : hw_E) (hE : hw_eT E = hw_TH) (a1 : Int32) (a2 : Int32) (a3 : Int32) (s0 : hw_St) : hw_M E yX6_blown cX6_blown 9 (some .int) 3 [hw_rv (hw_ea E) 0, .int a1, .int a2, .int a3] s0 hw_ri (F_X6_blown a1 a2 a3 s0) := by
  refine hw_entry (own := RX6) (TL := hw_TH) (by decide) rfl hE (hw_cR (hw_cI (hw_cI (hw_cI hw_cN)))) (hw_l8 rfl) (fun G hG C => ?_)
  subst hG
  have hTL := hE
  show hw_K G 9 hw_ri _ 0 [(0, hw_rv (hw_ea (hw_gE G)) 0), (1, .int a1), (2, .int a2), (3, .int a3)] [] s0
  unfold F_X6_blown
  refine hw_aload_n C dX6_blown_0 rfl 0 rfl ?_
  refine hw_getR C cf_X6 lf_X6_59 hw_T0 (t2 := 1) (by decide) dX6_blown_1 ?_
  refine hw_iload_n C dX6_blown_4 rfl 1 rfl ?_
  refine hw_callVq C (M_X2_wireAt (hw_gE G) hTL 1 a1 s0) W_X2_wireAt SV_X2_wireAt cf_X2 hw_T1 mw_174 (by decide) rfl ⟨rfl, hw_l8 rfl⟩ dX6_blown_5 (fun r1 s2 => ?_)
  refine hw_astore C dX6_blown_8 (by decide) rfl ?_
  refine hw_aload C dX6_blown_10 0 rfl ?_
  refine hw_ifnull C dX6_blown_12 (tgt := 24) (by decide) (fun c3 => ?_) (fun c3 => ?_)
  · refine hw_ldc C mw_126 dX6_blown_24 ?_
    exact hw_iret C dX6_blown_26
  · refine hw_iload_n C dX6_blown_15 rfl 4 rfl ?_
    refine hw_iconst C dX6_blown_16 (v := 0) (by decide) ?_
    refine hw_iconst C dX6_blown_17 (v := 2) (by decide) ?_
    refine hw_callSi C (M_X6_isWithin (hw_gE G) hTL a3 (0 : Int32) (2 : Int32) s2) W_X6_isWithin SS_X6_isWithin mw_133 (by decide) rfl ⟨rfl, hw_l8 rfl⟩ dX6_blown_18 (fun r4 s5 => ?_)
    refine hw_if_ne C dX6_blown_21 (tgt := 27) (by decide) (fun c6 => ?_) (fun c6 => ?_)
    · refine hw_ldc C mw_478 dX6_blown_27 ?_
      refine hw_istore C dX6_blown_29 (by decide) rfl ?_
      refine hw_ldc C mw_478 dX6_blown_31 ?_
      refine hw_istore C dX6_blown_33 (by decide) rfl ?_
      refine hw_iconst C dX6_blown_35 (v := 0) (by decide) ?_
      refine hw_istore C dX6_blown_36 (by decide) rfl ?_
      refine hw_iconst C dX6_blown_38 (v := 0) (by decide) ?_
      refine hw_istore C dX6_blown_39 (by decide) rfl ?_
      exact hw_lv [7, 8, 4, 3, 2, 1, 0] rfl (KL_X6_blown_41 C hTL 130 a2 a3 r1 (-1000000005 : Int32) (-1000000005 : Int32) (0 : Int32) (0 : Int32) s5)
    · refine hw_ldc C mw_126 dX6_blown_24 ?_
      exact hw_iret C dX6_blown_26
/-! HumWire tonesOn(LHumWire$Sheet;I)I, level 6 -/
def B_X6_tonesOn_74  (w21 : Nat → Int32 → Int32 → hw_St → Option (Int32 × hw_St)) (t1 : Nat) (l3 : Int32) (l4 : Int32) (s0 : hw_St) : Option (Int32 × hw_St) := w21 t1 l3 (l4 + 1) s0
def S_X6_tonesOn_21  (w21 : Nat → Int32 → Int32 → hw_St → Option (Int32 × hw_St)) (t1 : Nat) (l3 : Int32) (l4 : Int32) (s0 : hw_St) : Option (Int32 × hw_St) := if (24 : Int32) ≤ l4 then (some (l3, s0)) else (hw_bd (F_X2_windIn 1 l4 s0) (fun r5 s6 => hw_bd (F_X2_blowOn 1 11 r5 s6) (fun r7 s8 => hw_bd (F_X3_hasNumber t1 l4 s8) (fun r9 s10 => if r9 = 0 then (B_X6_tonesOn_74 w21 t1 l3 l4 s10) else (hw_gd (hw_gH (hw_fl t1 2) 10) (hw_gd (hw_inb l4 (hw_ln (hw_fl t1 2))) (if (s10 (hw_fl t1 2) l4.toNatClampNeg) = r7 then (B_X6_tonesOn_74 w21 t1 (l3 + 1) l4 s10) else (B_X6_tonesOn_74 w21 t1 l3 l4 s10))))))))
def L_X6_tonesOn_21  : Nat → Nat → Int32 → Int32 → hw_St → Option (Int32 × hw_St)
  | 0 => fun _ _ _ _ => none
  | n + 1 => S_X6_tonesOn_21  (L_X6_tonesOn_21  n)
def F_X6_tonesOn  (t1 : Nat) (a2 : Int32) (s0 : hw_St) : Option (Int32 × hw_St) := hw_gd (hw_gH t1 3) (hw_gd (hw_inb a2 6) (hw_gd (hw_gH (hw_el 5 a2.toNatClampNeg) 5) (hw_bd (F_X5_become 11 (hw_el 5 a2.toNatClampNeg) s0) (fun _ s3 => L_X6_tonesOn_21 130 t1 (0 : Int32) (0 : Int32) s3))))
set_option maxRecDepth 20000 in
theorem KB_X6_tonesOn_74 {G : hw_G} (C : hw_Ok G cX6_tonesOn RX6 6 6 (some .int) hw_TH) (hTL : hw_eT (hw_gE G) = hw_TH) (w21 : Nat → Int32 → Int32 → hw_St → Option (Int32 × hw_St)) (H_w21 : ∀ (t1 : Nat) (l3 : Int32) (l4 : Int32) (s0 : hw_St) (T1 : hw_T hw_TH t1 3), hw_K G 6 hw_ri (w21 t1 l3 l4 s0) 21 [(0, hw_rv (hw_ea (hw_gE G)) 0), (1, hw_rv (hw_ea (hw_gE G)) t1), (3, .int l3), (4, .int l4)] [] s0) (t1 : Nat) (l3 : Int32) (l4 : Int32) (s0 : hw_St) (T1 : hw_T hw_TH t1 3) : hw_K G 6 hw_ri (B_X6_tonesOn_74 w21 t1 l3 l4 s0) 74 [(0, hw_rv (hw_ea (hw_gE G)) 0), (1, hw_rv (hw_ea (hw_gE G)) t1), (3, .int l3), (4, .int l4)] [] s0 := by
  unfold B_X6_tonesOn_74
  refine hw_iinc C dX6_tonesOn_74 3 rfl (v := 1) (by decide) (by decide) rfl ?_
  refine hw_goto C dX6_tonesOn_77 (tgt := 21) (by decide) ?_
  exact hw_lv [1, 2, 3, 0] rfl (H_w21 t1 l3 (l4 + 1) s0 T1)
set_option maxRecDepth 20000 in
theorem KS_X6_tonesOn_21 {G : hw_G} (C : hw_Ok G cX6_tonesOn RX6 6 6 (some .int) hw_TH) (hTL : hw_eT (hw_gE G) = hw_TH) (w21 : Nat → Int32 → Int32 → hw_St → Option (Int32 × hw_St)) (H_w21 : ∀ (t1 : Nat) (l3 : Int32) (l4 : Int32) (s0 : hw_St) (T1 : hw_T hw_TH t1 3), hw_K G 6 hw_ri (w21 t1 l3 l4 s0) 21 [(0, hw_rv (hw_ea (hw_gE G)) 0), (1, hw_rv (hw_ea (hw_gE G)) t1), (3, .int l3), (4, .int l4)] [] s0) (t1 : Nat) (l3 : Int32) (l4 : Int32) (s0 : hw_St) (T1 : hw_T hw_TH t1 3) : hw_K G 6 hw_ri (S_X6_tonesOn_21 w21 t1 l3 l4 s0) 21 [(0, hw_rv (hw_ea (hw_gE G)) 0), (1, hw_rv (hw_ea (hw_gE G)) t1), (3, .int l3), (4, .int l4)] [] s0 := by
  unfold S_X6_tonesOn_21
  refine hw_iload C dX6_tonesOn_21 3 rfl ?_
  refine hw_bipush C dX6_tonesOn_23 (v := 24) (by decide) ?_
  refine hw_icmp_ge C dX6_tonesOn_25 (tgt := 80) (by decide) (fun c4 => ?_) (fun c4 => ?_)
  · refine hw_iload_n C dX6_tonesOn_80 rfl 2 rfl ?_
    exact hw_iret C dX6_tonesOn_81
  · refine hw_aload_n C dX6_tonesOn_28 rfl 0 rfl ?_
    refine hw_getR C cf_X6 lf_X6_59 hw_T0 (t2 := 1) (by decide) dX6_tonesOn_29 ?_
    refine hw_aload_n C dX6_tonesOn_32 rfl 0 rfl ?_
    refine hw_getR C cf_X6 lf_X6_16 hw_T0 (t2 := 11) (by decide) dX6_tonesOn_33 ?_
    refine hw_aload_n C dX6_tonesOn_36 rfl 0 rfl ?_
    refine hw_getR C cf_X6 lf_X6_59 hw_T0 (t2 := 1) (by decide) dX6_tonesOn_37 ?_
    refine hw_iload C dX6_tonesOn_40 3 rfl ?_
    refine hw_callVi C (M_X2_windIn (hw_gE G) hTL 1 l4 s0) W_X2_windIn SV_X2_windIn cf_X2 hw_T1 mw_500 (by decide) rfl ⟨rfl, hw_l8 rfl⟩ dX6_tonesOn_42 (fun r5 s6 => ?_)
    refine hw_callVi C (M_X2_blowOn (hw_gE G) hTL 1 11 r5 s6) W_X2_blowOn SV_X2_blowOn cf_X2 hw_T1 mw_427 (by decide) rfl ⟨rfl, hw_l8 rfl⟩ dX6_tonesOn_45 (fun r7 s8 => ?_)
    refine hw_istore C dX6_tonesOn_48 (by decide) rfl ?_
    refine hw_aload_n C dX6_tonesOn_50 rfl 2 rfl ?_
    refine hw_iload C dX6_tonesOn_51 4 rfl ?_
    refine hw_callVi C (M_X3_hasNumber (hw_gE G) hTL t1 l4 s8) W_X3_hasNumber SV_X3_hasNumber cf_X3 T1 mw_566 (by decide) rfl ⟨rfl, hw_l8 rfl⟩ dX6_tonesOn_53 (fun r9 s10 => ?_)
    refine hw_if_eq C dX6_tonesOn_56 (tgt := 74) (by decide) (fun c11 => ?_) (fun c11 => ?_)
    · exact hw_lv [1, 2, 3, 4] rfl (KB_X6_tonesOn_74 C hTL w21 H_w21 t1 l3 l4 s10 T1)
    · refine hw_aload_n C dX6_tonesOn_59 rfl 2 rfl ?_
      refine hw_getR C cf_X3 lf_X6_258 T1 rfl dX6_tonesOn_60 ?_
      refine hw_iload C dX6_tonesOn_63 4 rfl ?_
      refine hw_gdK (fun h13 => ?_)
      have T_12 := hw_gH_T h13
      refine hw_iald C T_12 rfl dX6_tonesOn_65 (fun h14 => ?_)
      refine hw_iload C dX6_tonesOn_66 0 rfl ?_
      refine hw_icmp_ne C dX6_tonesOn_68 (tgt := 74) (by decide) (fun c15 => ?_) (fun c15 => ?_)
      · exact hw_lv [1, 2, 3, 4] rfl (KB_X6_tonesOn_74 C hTL w21 H_w21 t1 l3 l4 s10 T1)
      · refine hw_iinc C dX6_tonesOn_71 3 rfl (v := 1) (by decide) (by decide) rfl ?_
        exact hw_lv [2, 3, 0, 4] rfl (KB_X6_tonesOn_74 C hTL w21 H_w21 t1 (l3 + 1) l4 s10 T1)
theorem KL_X6_tonesOn_21 {G : hw_G} (C : hw_Ok G cX6_tonesOn RX6 6 6 (some .int) hw_TH) (hTL : hw_eT (hw_gE G) = hw_TH) : ∀ (n_ : Nat) (t1 : Nat) (l3 : Int32) (l4 : Int32) (s0 : hw_St) (T1 : hw_T hw_TH t1 3), hw_K G 6 hw_ri (L_X6_tonesOn_21 n_ t1 l3 l4 s0) 21 [(0, hw_rv (hw_ea (hw_gE G)) 0), (1, hw_rv (hw_ea (hw_gE G)) t1), (3, .int l3), (4, .int l4)] [] s0 := by
  intro n_
  induction n_ with
  | zero => intros; exact hw_nil
  | succ n_ ih => intro t1 l3 l4 s0 T1; exact KS_X6_tonesOn_21 C hTL (L_X6_tonesOn_21 n_) ih t1 l3 l4 s0 T1
set_option maxRecDepth 20000 in
theorem M_X6_tonesOn (E : hw_E) (hE : hw_eT E = hw_TH) (t1 : Nat) (a2 : Int32) (s0 : hw_St) : hw_M E yX6_tonesOn cX6_tonesOn 6 (some .int) 6 [hw_rv (hw_ea E) 0, hw_rv (hw_ea E) t1, .int a2] s0 hw_ri (F_X6_tonesOn t1 a2 s0) := by
  refine hw_entry (own := RX6) (TL := hw_TH) (by decide) rfl hE (hw_cR (hw_cR (hw_cI hw_cN))) (hw_l8 rfl) (fun G hG C => ?_)
  subst hG
  have hTL := hE
  show hw_K G 6 hw_ri _ 0 [(0, hw_rv (hw_ea (hw_gE G)) 0), (1, hw_rv (hw_ea (hw_gE G)) t1), (2, .int a2)] [] s0
  unfold F_X6_tonesOn
  refine hw_gdK (fun h_T1 => ?_)
  have T1 := hw_gH_T h_T1
  refine hw_aload_n C dX6_tonesOn_0 rfl 0 rfl ?_
  refine hw_getR C cf_X6 lf_X6_16 hw_T0 (t2 := 11) (by decide) dX6_tonesOn_1 ?_
  refine hw_aload_n C dX6_tonesOn_4 rfl 0 rfl ?_
  refine hw_getR C cf_X6 lf_X6_59 hw_T0 (t2 := 1) (by decide) dX6_tonesOn_5 ?_
  refine hw_getR C cf_X2 lf_X6_92 hw_T1 (t2 := 5) (by decide) dX6_tonesOn_8 ?_
  refine hw_iload_n C dX6_tonesOn_11 rfl 2 rfl ?_
  refine hw_aaldH (t0 := 5) C hw_T5 (by decide) (fun _ => rfl) (by decide) (by decide) dX6_tonesOn_12 (fun T_1 => ?_)
  refine hw_callVv C (M_X5_become (hw_gE G) hTL 11 (hw_el 5 a2.toNatClampNeg) s0) W_X5_become SV_X5_become cf_X5 hw_T11 mw_470 (by decide) rfl ⟨rfl, hw_l8 rfl⟩ dX6_tonesOn_13 (fun r2 s3 => ?_)
  refine hw_iconst C dX6_tonesOn_16 (v := 0) (by decide) ?_
  refine hw_istore_n C dX6_tonesOn_17 rfl (by decide) rfl ?_
  refine hw_iconst C dX6_tonesOn_18 (v := 0) (by decide) ?_
  refine hw_istore C dX6_tonesOn_19 (by decide) rfl ?_
  exact hw_lv [2, 3, 1, 0] rfl (KL_X6_tonesOn_21 C hTL 130 t1 (0 : Int32) (0 : Int32) s3 T1)
/-! HumWire heard(I)I, level 7 -/
def B_X6_heard_71  (w33 : Int32 → Int32 → Int32 → Int32 → hw_St → Option (Int32 × hw_St)) (l1 : Int32) (l2 : Int32) (l3 : Int32) (l4 : Int32) (s0 : hw_St) : Option (Int32 × hw_St) := w33 l1 l2 l3 (l4 + 1) s0
def S_X6_heard_33  (w33 : Int32 → Int32 → Int32 → Int32 → hw_St → Option (Int32 × hw_St)) (l1 : Int32) (l2 : Int32) (l3 : Int32) (l4 : Int32) (s0 : hw_St) : Option (Int32 × hw_St) := if (s0 1 6) ≤ l4 then (some (l2, s0)) else (hw_gd (hw_inb l1 4) (hw_gd (hw_gH (hw_el 14 l1.toNatClampNeg) 3) (hw_bd (F_X6_tonesOn (hw_el 14 l1.toNatClampNeg) l4 s0) (fun r10 s11 => if r10 ≤ l3 then (B_X6_heard_71 w33 l1 l2 l3 l4 s11) else (B_X6_heard_71 w33 l1 l4 r10 l4 s11)))))
def L_X6_heard_33  : Nat → Int32 → Int32 → Int32 → Int32 → hw_St → Option (Int32 × hw_St)
  | 0 => fun _ _ _ _ _ => none
  | n + 1 => S_X6_heard_33  (L_X6_heard_33  n)
def F_X6_heard  (a1 : Int32) (s0 : hw_St) : Option (Int32 × hw_St) := hw_bd (F_X6_isSheet a1 s0) (fun r1 s2 => if r1 = 0 then (some ((-1000000001 : Int32), s2)) else (hw_gd (hw_inb a1 4) (hw_gd (hw_gH (hw_el 14 a1.toNatClampNeg) 3) (hw_bd (F_X3_isMissing (hw_el 14 a1.toNatClampNeg) s2) (fun r5 s6 => if r5 = 0 then (L_X6_heard_33 130 a1 (-1000000005 : Int32) (-1 : Int32) (0 : Int32) s6) else (some ((-1000000011 : Int32), s6)))))))
set_option maxRecDepth 20000 in
theorem KB_X6_heard_71 {G : hw_G} (C : hw_Ok G cX6_heard RX6 6 7 (some .int) hw_TH) (hTL : hw_eT (hw_gE G) = hw_TH) (w33 : Int32 → Int32 → Int32 → Int32 → hw_St → Option (Int32 × hw_St)) (H_w33 : ∀ (l1 : Int32) (l2 : Int32) (l3 : Int32) (l4 : Int32) (s0 : hw_St), hw_K G 6 hw_ri (w33 l1 l2 l3 l4 s0) 33 [(0, hw_rv (hw_ea (hw_gE G)) 0), (1, .int l1), (2, .int l2), (3, .int l3), (4, .int l4)] [] s0) (l1 : Int32) (l2 : Int32) (l3 : Int32) (l4 : Int32) (s0 : hw_St) : hw_K G 6 hw_ri (B_X6_heard_71 w33 l1 l2 l3 l4 s0) 71 [(0, hw_rv (hw_ea (hw_gE G)) 0), (1, .int l1), (2, .int l2), (3, .int l3), (4, .int l4)] [] s0 := by
  unfold B_X6_heard_71
  refine hw_iinc C dX6_heard_71 4 rfl (v := 1) (by decide) (by decide) rfl ?_
  refine hw_goto C dX6_heard_74 (tgt := 33) (by decide) ?_
  exact hw_lv [1, 2, 3, 4, 0] rfl (H_w33 l1 l2 l3 (l4 + 1) s0)
set_option maxRecDepth 20000 in
theorem KS_X6_heard_33 {G : hw_G} (C : hw_Ok G cX6_heard RX6 6 7 (some .int) hw_TH) (hTL : hw_eT (hw_gE G) = hw_TH) (w33 : Int32 → Int32 → Int32 → Int32 → hw_St → Option (Int32 × hw_St)) (H_w33 : ∀ (l1 : Int32) (l2 : Int32) (l3 : Int32) (l4 : Int32) (s0 : hw_St), hw_K G 6 hw_ri (w33 l1 l2 l3 l4 s0) 33 [(0, hw_rv (hw_ea (hw_gE G)) 0), (1, .int l1), (2, .int l2), (3, .int l3), (4, .int l4)] [] s0) (l1 : Int32) (l2 : Int32) (l3 : Int32) (l4 : Int32) (s0 : hw_St) : hw_K G 6 hw_ri (S_X6_heard_33 w33 l1 l2 l3 l4 s0) 33 [(0, hw_rv (hw_ea (hw_gE G)) 0), (1, .int l1), (2, .int l2), (3, .int l3), (4, .int l4)] [] s0 := by
  unfold S_X6_heard_33
  refine hw_iload C dX6_heard_33 4 rfl ?_
  refine hw_aload_n C dX6_heard_35 rfl 0 rfl ?_
  refine hw_getR C cf_X6 lf_X6_59 hw_T0 (t2 := 1) (by decide) dX6_heard_36 ?_
  refine hw_getI C cf_X2 lf_X6_88 hw_T1 dX6_heard_39 ?_
  refine hw_icmp_ge C dX6_heard_42 (tgt := 77) (by decide) (fun c8 => ?_) (fun c8 => ?_)
  · refine hw_iload_n C dX6_heard_77 rfl 2 rfl ?_
    exact hw_iret C dX6_heard_78
  · refine hw_aload_n C dX6_heard_45 rfl 0 rfl ?_
    refine hw_aload_n C dX6_heard_46 rfl 0 rfl ?_
    refine hw_getR C cf_X6 lf_X6_30 hw_T0 (t2 := 14) (by decide) dX6_heard_47 ?_
    refine hw_iload_n C dX6_heard_50 rfl 1 rfl ?_
    refine hw_aaldH (t0 := 6) C hw_T14 (by decide) (fun _ => rfl) (by decide) (by decide) dX6_heard_51 (fun T_9 => ?_)
    refine hw_iload C dX6_heard_52 4 rfl ?_
    refine hw_callVi C (M_X6_tonesOn (hw_gE G) hTL (hw_el 14 l1.toNatClampNeg) l4 s0) W_X6_tonesOn SV_X6_tonesOn cf_X6 hw_T0 mw_561 (by decide) rfl ⟨rfl, hw_l8 rfl⟩ dX6_heard_54 (fun r10 s11 => ?_)
    refine hw_istore C dX6_heard_57 (by decide) rfl ?_
    refine hw_iload C dX6_heard_59 0 rfl ?_
    refine hw_iload_n C dX6_heard_61 rfl 4 rfl ?_
    refine hw_icmp_le C dX6_heard_62 (tgt := 71) (by decide) (fun c12 => ?_) (fun c12 => ?_)
    · exact hw_lv [1, 2, 3, 4, 5] rfl (KB_X6_heard_71 C hTL w33 H_w33 l1 l2 l3 l4 s11)
    · refine hw_iload C dX6_heard_65 0 rfl ?_
      refine hw_istore_n C dX6_heard_67 rfl (by decide) rfl ?_
      refine hw_iload C dX6_heard_68 5 rfl ?_
      refine hw_istore_n C dX6_heard_70 rfl (by decide) rfl ?_
      exact hw_lv [3, 4, 0, 1, 5] rfl (KB_X6_heard_71 C hTL w33 H_w33 l1 l4 r10 l4 s11)
theorem KL_X6_heard_33 {G : hw_G} (C : hw_Ok G cX6_heard RX6 6 7 (some .int) hw_TH) (hTL : hw_eT (hw_gE G) = hw_TH) : ∀ (n_ : Nat) (l1 : Int32) (l2 : Int32) (l3 : Int32) (l4 : Int32) (s0 : hw_St), hw_K G 6 hw_ri (L_X6_heard_33 n_ l1 l2 l3 l4 s0) 33 [(0, hw_rv (hw_ea (hw_gE G)) 0), (1, .int l1), (2, .int l2), (3, .int l3), (4, .int l4)] [] s0 := by
  intro n_
  induction n_ with
  | zero => intros; exact hw_nil
  | succ n_ ih => intro l1 l2 l3 l4 s0; exact KS_X6_heard_33 C hTL (L_X6_heard_33 n_) ih l1 l2 l3 l4 s0
set_option maxRecDepth 20000 in
theorem M_X6_heard (E : hw_E) (hE : hw_eT E = hw_TH) (a1 : Int32) (s0 : hw_St) : hw_M E yX6_heard cX6_heard 6 (some .int) 7 [hw_rv (hw_ea E) 0, .int a1] s0 hw_ri (F_X6_heard a1 s0) := by
  refine hw_entry (own := RX6) (TL := hw_TH) (by decide) rfl hE (hw_cR (hw_cI hw_cN)) (hw_l8 rfl) (fun G hG C => ?_)
  subst hG
  have hTL := hE
  show hw_K G 6 hw_ri _ 0 [(0, hw_rv (hw_ea (hw_gE G)) 0), (1, .int a1)] [] s0
  unfold F_X6_heard
  refine hw_iload_n C dX6_heard_0 rfl 1 rfl ?_
  refine hw_callSi C (M_X6_isSheet (hw_gE G) hTL a1 s0) W_X6_isSheet SS_X6_isSheet mw_554 (by decide) rfl ⟨rfl, hw_l8 rfl⟩ dX6_heard_1 (fun r1 s2 => ?_)
  refine hw_if_ne C dX6_heard_4 (tgt := 10) (by decide) (fun c3 => ?_) (fun c3 => ?_)
  · refine hw_aload_n C dX6_heard_10 rfl 0 rfl ?_
    refine hw_getR C cf_X6 lf_X6_30 hw_T0 (t2 := 14) (by decide) dX6_heard_11 ?_
    refine hw_iload_n C dX6_heard_14 rfl 1 rfl ?_
    refine hw_aaldH (t0 := 6) C hw_T14 (by decide) (fun _ => rfl) (by decide) (by decide) dX6_heard_15 (fun T_4 => ?_)
    refine hw_callVi C (M_X3_isMissing (hw_gE G) hTL (hw_el 14 a1.toNatClampNeg) s2) W_X3_isMissing SV_X3_isMissing cf_X3 T_4 mw_557 (by decide) rfl ⟨rfl, hw_l8 rfl⟩ dX6_heard_16 (fun r5 s6 => ?_)
    refine hw_if_eq C dX6_heard_19 (tgt := 25) (by decide) (fun c7 => ?_) (fun c7 => ?_)
    · refine hw_ldc C mw_478 dX6_heard_25 ?_
      refine hw_istore_n C dX6_heard_27 rfl (by decide) rfl ?_
      refine hw_iconst C dX6_heard_28 (v := -1) (by decide) ?_
      refine hw_istore_n C dX6_heard_29 rfl (by decide) rfl ?_
      refine hw_iconst C dX6_heard_30 (v := 0) (by decide) ?_
      refine hw_istore C dX6_heard_31 (by decide) rfl ?_
      exact hw_lv [3, 4, 2, 1, 0] rfl (KL_X6_heard_33 C hTL 130 a1 (-1000000005 : Int32) (-1 : Int32) (0 : Int32) s6)
    · refine hw_ldc C mw_553 dX6_heard_22 ?_
      exact hw_iret C dX6_heard_24
  · refine hw_ldc C mw_126 dX6_heard_7 ?_
    exact hw_iret C dX6_heard_9
/-! HumWire putBytes(I)V, level 1 -/
def S_X6_putBytes_3  (w3 : Int32 → Int32 → hw_St → Option (Unit × hw_St)) (l1 : Int32) (l2 : Int32) (s0 : hw_St) : Option (Unit × hw_St) := if l2 < 0 then (some ((), s0)) else (if (96 : Int32) ≤ (s0 0 6) then (some ((), s0)) else (hw_gd (hw_inb (s0 0 6) 96) (hw_nm (hw_up s0 12 (s0 0 6).toNatClampNeg (hw_ushr l1 l2).toInt8.toInt32.toInt8.toInt32) (fun s3 => hw_nm (hw_up s3 0 6 ((s3 0 6) + (1 : Int32))) (fun s5 => w3 l1 (l2 + -8) s5)))))
def L_X6_putBytes_3  : Nat → Int32 → Int32 → hw_St → Option (Unit × hw_St)
  | 0 => fun _ _ _ => none
  | n + 1 => S_X6_putBytes_3  (L_X6_putBytes_3  n)
def F_X6_putBytes  (a1 : Int32) (s0 : hw_St) : Option (Unit × hw_St) := L_X6_putBytes_3 130 a1 (24 : Int32) s0
set_option maxRecDepth 20000 in
theorem KS_X6_putBytes_3 {G : hw_G} (C : hw_Ok G cX6_putBytes RX6 3 1 none hw_TH) (hTL : hw_eT (hw_gE G) = hw_TH) (w3 : Int32 → Int32 → hw_St → Option (Unit × hw_St)) (H_w3 : ∀ (l1 : Int32) (l2 : Int32) (s0 : hw_St), hw_K G 3 hw_r0 (w3 l1 l2 s0) 3 [(0, hw_rv (hw_ea (hw_gE G)) 0), (1, .int l1), (2, .int l2)] [] s0) (l1 : Int32) (l2 : Int32) (s0 : hw_St) : hw_K G 3 hw_r0 (S_X6_putBytes_3 w3 l1 l2 s0) 3 [(0, hw_rv (hw_ea (hw_gE G)) 0), (1, .int l1), (2, .int l2)] [] s0 := by
  unfold S_X6_putBytes_3
  refine hw_iload_n C dX6_putBytes_3 rfl 2 rfl ?_
  refine hw_if_lt C dX6_putBytes_4 (tgt := 45) (by decide) (fun c1 => ?_) (fun c1 => ?_)
  · exact hw_vret C dX6_putBytes_45
  · refine hw_aload_n C dX6_putBytes_7 rfl 0 rfl ?_
    refine hw_getI C cf_X6 lf_X6_24 hw_T0 dX6_putBytes_8 ?_
    refine hw_bipush C dX6_putBytes_11 (v := 96) (by decide) ?_
    refine hw_icmp_ge C dX6_putBytes_13 (tgt := 45) (by decide) (fun c2 => ?_) (fun c2 => ?_)
    · exact hw_vret C dX6_putBytes_45
    · refine hw_aload_n C dX6_putBytes_16 rfl 0 rfl ?_
      refine hw_getR C cf_X6 lf_X6_20 hw_T0 (t2 := 12) (by decide) dX6_putBytes_17 ?_
      refine hw_aload_n C dX6_putBytes_20 rfl 0 rfl ?_
      refine hw_getI C cf_X6 lf_X6_24 hw_T0 dX6_putBytes_21 ?_
      refine hw_iload_n C dX6_putBytes_24 rfl 1 rfl ?_
      refine hw_iload_n C dX6_putBytes_25 rfl 2 rfl ?_
      refine hw_iushr C dX6_putBytes_26 ?_
      refine hw_c_i2b C dX6_putBytes_27 ?_
      refine hw_bast C hw_T12 (by decide) dX6_putBytes_28 (fun h4 s3 => ?_)
      refine hw_aload_n C dX6_putBytes_29 rfl 0 rfl ?_
      refine hw_dup C dX6_putBytes_30 ?_
      refine hw_getI C cf_X6 lf_X6_24 hw_T0 dX6_putBytes_31 ?_
      refine hw_iconst C dX6_putBytes_34 (v := 1) (by decide) ?_
      refine hw_iadd C dX6_putBytes_35 ?_
      refine hw_putI C cf_X6 lf_X6_24 hw_T0 rfl rfl dX6_putBytes_36 (fun s5 => ?_)
      refine hw_iinc C dX6_putBytes_39 2 rfl (v := -8) (by decide) (by decide) rfl ?_
      refine hw_goto C dX6_putBytes_42 (tgt := 3) (by decide) ?_
      exact hw_lv [1, 2, 0] rfl (H_w3 l1 (l2 + -8) s5)
theorem KL_X6_putBytes_3 {G : hw_G} (C : hw_Ok G cX6_putBytes RX6 3 1 none hw_TH) (hTL : hw_eT (hw_gE G) = hw_TH) : ∀ (n_ : Nat) (l1 : Int32) (l2 : Int32) (s0 : hw_St), hw_K G 3 hw_r0 (L_X6_putBytes_3 n_ l1 l2 s0) 3 [(0, hw_rv (hw_ea (hw_gE G)) 0), (1, .int l1), (2, .int l2)] [] s0 := by
  intro n_
  induction n_ with
  | zero => intros; exact hw_nil
  | succ n_ ih => intro l1 l2 s0; exact KS_X6_putBytes_3 C hTL (L_X6_putBytes_3 n_) ih l1 l2 s0
set_option maxRecDepth 20000 in
theorem M_X6_putBytes (E : hw_E) (hE : hw_eT E = hw_TH) (a1 : Int32) (s0 : hw_St) : hw_M E yX6_putBytes cX6_putBytes 3 none 1 [hw_rv (hw_ea E) 0, .int a1] s0 hw_r0 (F_X6_putBytes a1 s0) := by
  refine hw_entry (own := RX6) (TL := hw_TH) (by decide) rfl hE (hw_cR (hw_cI hw_cN)) (hw_l8 rfl) (fun G hG C => ?_)
  subst hG
  have hTL := hE
  show hw_K G 3 hw_r0 _ 0 [(0, hw_rv (hw_ea (hw_gE G)) 0), (1, .int a1)] [] s0
  unfold F_X6_putBytes
  refine hw_bipush C dX6_putBytes_0 (v := 24) (by decide) ?_
  refine hw_istore_n C dX6_putBytes_2 rfl (by decide) rfl ?_
  exact hw_lv [1, 2, 0] rfl (KL_X6_putBytes_3 C hTL 130 a1 (24 : Int32) s0)
/-! HumWire feed(III)I, level 2 -/
def F_X6_feed  (a1 : Int32) (a2 : Int32) (a3 : Int32) (s0 : hw_St) : Option (Int32 × hw_St) := if ((s0 0 6) + (12 : Int32)) ≤ (96 : Int32) then (hw_bd (F_X6_putBytes a1 s0) (fun _ s3 => hw_bd (F_X6_putBytes a2 s3) (fun _ s5 => hw_bd (F_X6_putBytes a3 s5) (fun _ s7 => some ((s7 0 6), s7))))) else (some ((-1000000003 : Int32), s0))
set_option maxRecDepth 20000 in
theorem M_X6_feed (E : hw_E) (hE : hw_eT E = hw_TH) (a1 : Int32) (a2 : Int32) (a3 : Int32) (s0 : hw_St) : hw_M E yX6_feed cX6_feed 4 (some .int) 2 [hw_rv (hw_ea E) 0, .int a1, .int a2, .int a3] s0 hw_ri (F_X6_feed a1 a2 a3 s0) := by
  refine hw_entry (own := RX6) (TL := hw_TH) (by decide) rfl hE (hw_cR (hw_cI (hw_cI (hw_cI hw_cN)))) (hw_l8 rfl) (fun G hG C => ?_)
  subst hG
  have hTL := hE
  show hw_K G 4 hw_ri _ 0 [(0, hw_rv (hw_ea (hw_gE G)) 0), (1, .int a1), (2, .int a2), (3, .int a3)] [] s0
  unfold F_X6_feed
  refine hw_aload_n C dX6_feed_0 rfl 0 rfl ?_
  refine hw_getI C cf_X6 lf_X6_24 hw_T0 dX6_feed_1 ?_
  refine hw_bipush C dX6_feed_4 (v := 12) (by decide) ?_
  refine hw_iadd C dX6_feed_6 ?_
  refine hw_bipush C dX6_feed_7 (v := 96) (by decide) ?_
  refine hw_icmp_le C dX6_feed_9 (tgt := 15) (by decide) (fun c1 => ?_) (fun c1 => ?_)
  · refine hw_aload_n C dX6_feed_15 rfl 0 rfl ?_
    refine hw_iload_n C dX6_feed_16 rfl 1 rfl ?_
    refine hw_callVv C (M_X6_putBytes (hw_gE G) hTL a1 s0) W_X6_putBytes SV_X6_putBytes cf_X6 hw_T0 mw_587 (by decide) rfl ⟨rfl, hw_l8 rfl⟩ dX6_feed_17 (fun r2 s3 => ?_)
    refine hw_aload_n C dX6_feed_20 rfl 0 rfl ?_
    refine hw_iload_n C dX6_feed_21 rfl 2 rfl ?_
    refine hw_callVv C (M_X6_putBytes (hw_gE G) hTL a2 s3) W_X6_putBytes SV_X6_putBytes cf_X6 hw_T0 mw_587 (by decide) rfl ⟨rfl, hw_l8 rfl⟩ dX6_feed_22 (fun r4 s5 => ?_)
    refine hw_aload_n C dX6_feed_25 rfl 0 rfl ?_
    refine hw_iload_n C dX6_feed_26 rfl 3 rfl ?_
    refine hw_callVv C (M_X6_putBytes (hw_gE G) hTL a3 s5) W_X6_putBytes SV_X6_putBytes cf_X6 hw_T0 mw_587 (by decide) rfl ⟨rfl, hw_l8 rfl⟩ dX6_feed_27 (fun r6 s7 => ?_)
    refine hw_aload_n C dX6_feed_30 rfl 0 rfl ?_
    refine hw_getI C cf_X6 lf_X6_24 hw_T0 dX6_feed_31 ?_
    exact hw_iret C dX6_feed_34
  · refine hw_ldc C mw_128 dX6_feed_12 ?_
    exact hw_iret C dX6_feed_14
/-! HumWire trim(I)I, level 2 -/
def F_X6_trim  (a1 : Int32) (s0 : hw_St) : Option (Int32 × hw_St) := hw_bd (F_X6_isWithin a1 (0 : Int32) (s0 0 6) s0) (fun r1 s2 => if r1 = 0 then (some ((-1000000001 : Int32), s2)) else (hw_nm (hw_up s2 0 6 a1) (fun s4 => some (a1, s4))))
set_option maxRecDepth 20000 in
theorem M_X6_trim (E : hw_E) (hE : hw_eT E = hw_TH) (a1 : Int32) (s0 : hw_St) : hw_M E yX6_trim cX6_trim 2 (some .int) 2 [hw_rv (hw_ea E) 0, .int a1] s0 hw_ri (F_X6_trim a1 s0) := by
  refine hw_entry (own := RX6) (TL := hw_TH) (by decide) rfl hE (hw_cR (hw_cI hw_cN)) (hw_l8 rfl) (fun G hG C => ?_)
  subst hG
  have hTL := hE
  show hw_K G 2 hw_ri _ 0 [(0, hw_rv (hw_ea (hw_gE G)) 0), (1, .int a1)] [] s0
  unfold F_X6_trim
  refine hw_iload_n C dX6_trim_0 rfl 1 rfl ?_
  refine hw_iconst C dX6_trim_1 (v := 0) (by decide) ?_
  refine hw_aload_n C dX6_trim_2 rfl 0 rfl ?_
  refine hw_getI C cf_X6 lf_X6_24 hw_T0 dX6_trim_3 ?_
  refine hw_callSi C (M_X6_isWithin (hw_gE G) hTL a1 (0 : Int32) (s0 0 6) s0) W_X6_isWithin SS_X6_isWithin mw_133 (by decide) rfl ⟨rfl, hw_l8 rfl⟩ dX6_trim_6 (fun r1 s2 => ?_)
  refine hw_if_ne C dX6_trim_9 (tgt := 15) (by decide) (fun c3 => ?_) (fun c3 => ?_)
  · refine hw_aload_n C dX6_trim_15 rfl 0 rfl ?_
    refine hw_iload_n C dX6_trim_16 rfl 1 rfl ?_
    refine hw_putI C cf_X6 lf_X6_24 hw_T0 rfl rfl dX6_trim_17 (fun s4 => ?_)
    refine hw_iload_n C dX6_trim_20 rfl 1 rfl ?_
    exact hw_iret C dX6_trim_21
  · refine hw_ldc C mw_126 dX6_trim_12 ?_
    exact hw_iret C dX6_trim_14
/-! HumWire text()I, level 112 -/
def B_X6_text_32  (k0 : Int32) (s0 : hw_St) : Option (Int32 × hw_St) := hw_gd (hw_inb k0 15) (hw_gd (hw_gH (hw_el 9 k0.toNatClampNeg) 0) (hw_bd (F_X1_takesIn 12 (s0 0 6) (hw_el 9 k0.toNatClampNeg) s0) (fun r5 s6 => hw_nm (hw_up s6 0 6 (0 : Int32)) (fun s7 => if r5 = 0 then (some (((-100 : Int32) - (s7 13 6)), s7)) else (if (s7 1 5) < (14 : Int32) then (hw_gd (hw_inb (s7 (hw_el 9 k0.toNatClampNeg) 0) 3) (hw_nm (hw_up s7 7 (s7 (hw_el 9 k0.toNatClampNeg) 0).toNatClampNeg (s7 1 5)) (fun s10 => hw_nm (hw_up s10 1 5 ((s10 1 5) + (1 : Int32))) (fun s12 => some (((s12 1 5) - (1 : Int32)), s12))))) else (some ((-1000000003 : Int32), s7)))))))
def F_X6_text  (s0 : hw_St) : Option (Int32 × hw_St) := hw_bd (F_X6_isWithin (s0 1 5) (0 : Int32) (14 : Int32) s0) (fun r1 s2 => if r1 = 0 then (B_X6_text_32 (14 : Int32) s2) else (B_X6_text_32 (s2 1 5) s2))
set_option maxRecDepth 20000 in
theorem KB_X6_text_32 {G : hw_G} (C : hw_Ok G cX6_text RX6 3 112 (some .int) hw_TH) (hTL : hw_eT (hw_gE G) = hw_TH) (k0 : Int32) (s0 : hw_St) : hw_K G 3 hw_ri (B_X6_text_32 k0 s0) 32 [(0, hw_rv (hw_ea (hw_gE G)) 0)] [.int k0, hw_rv (hw_ea (hw_gE G)) 9] s0 := by
  unfold B_X6_text_32
  refine hw_aaldH (t0 := 4) C hw_T9 (by decide) (fun _ => rfl) (by decide) (by decide) dX6_text_32 (fun T_4 => ?_)
  refine hw_astore_n C dX6_text_33 rfl (by decide) rfl ?_
  refine hw_aload_n C dX6_text_34 rfl 1 rfl ?_
  refine hw_getR C cf_X6 lf_X6_71 hw_T0 (t2 := 13) (by decide) dX6_text_35 ?_
  refine hw_aload_n C dX6_text_38 rfl 1 rfl ?_
  refine hw_getR C cf_X6 lf_X6_20 hw_T0 (t2 := 12) (by decide) dX6_text_39 ?_
  refine hw_aload_n C dX6_text_42 rfl 1 rfl ?_
  refine hw_getI C cf_X6 lf_X6_24 hw_T0 dX6_text_43 ?_
  refine hw_aload_n C dX6_text_46 rfl 0 rfl ?_
  refine hw_callVi C (M_X1_takesIn (hw_gE G) hTL 12 (s0 0 6) (hw_el 9 k0.toNatClampNeg) s0) W_X1_takesIn SV_X1_takesIn cf_X1 hw_T13 mw_612 (by decide) rfl ⟨rfl, hw_l8 rfl⟩ dX6_text_47 (fun r5 s6 => ?_)
  refine hw_istore_n C dX6_text_50 rfl (by decide) rfl ?_
  refine hw_aload_n C dX6_text_51 rfl 2 rfl ?_
  refine hw_iconst C dX6_text_52 (v := 0) (by decide) ?_
  refine hw_putI C cf_X6 lf_X6_24 hw_T0 rfl rfl dX6_text_53 (fun s7 => ?_)
  refine hw_iload_n C dX6_text_56 rfl 0 rfl ?_
  refine hw_if_ne C dX6_text_57 (tgt := 71) (by decide) (fun c8 => ?_) (fun c8 => ?_)
  · refine hw_aload_n C dX6_text_71 rfl 2 rfl ?_
    refine hw_getR C cf_X6 lf_X6_59 hw_T0 (t2 := 1) (by decide) dX6_text_72 ?_
    refine hw_getI C cf_X2 lf_X6_228 hw_T1 dX6_text_75 ?_
    refine hw_bipush C dX6_text_78 (v := 14) (by decide) ?_
    refine hw_icmp_lt C dX6_text_80 (tgt := 86) (by decide) (fun c9 => ?_) (fun c9 => ?_)
    · refine hw_aload_n C dX6_text_86 rfl 2 rfl ?_
      refine hw_getR C cf_X6 lf_X6_59 hw_T0 (t2 := 1) (by decide) dX6_text_87 ?_
      refine hw_getR C cf_X2 lf_X6_238 hw_T1 (t2 := 7) (by decide) dX6_text_90 ?_
      refine hw_aload_n C dX6_text_93 rfl 1 rfl ?_
      refine hw_getI C cf_X0 lf_X6_241 T_4 dX6_text_94 ?_
      refine hw_aload_n C dX6_text_97 rfl 2 rfl ?_
      refine hw_getR C cf_X6 lf_X6_59 hw_T0 (t2 := 1) (by decide) dX6_text_98 ?_
      refine hw_getI C cf_X2 lf_X6_228 hw_T1 dX6_text_101 ?_
      refine hw_iast C hw_T7 (by decide) dX6_text_104 (fun h11 s10 => ?_)
      refine hw_aload_n C dX6_text_105 rfl 2 rfl ?_
      refine hw_getR C cf_X6 lf_X6_59 hw_T0 (t2 := 1) (by decide) dX6_text_106 ?_
      refine hw_dup C dX6_text_109 ?_
      refine hw_getI C cf_X2 lf_X6_228 hw_T1 dX6_text_110 ?_
      refine hw_iconst C dX6_text_113 (v := 1) (by decide) ?_
      refine hw_iadd C dX6_text_114 ?_
      refine hw_putI C cf_X2 lf_X6_228 hw_T1 rfl rfl dX6_text_115 (fun s12 => ?_)
      refine hw_aload_n C dX6_text_118 rfl 2 rfl ?_
      refine hw_getR C cf_X6 lf_X6_59 hw_T0 (t2 := 1) (by decide) dX6_text_119 ?_
      refine hw_getI C cf_X2 lf_X6_228 hw_T1 dX6_text_122 ?_
      refine hw_iconst C dX6_text_125 (v := 1) (by decide) ?_
      refine hw_isub C dX6_text_126 ?_
      exact hw_iret C dX6_text_127
    · refine hw_ldc C mw_128 dX6_text_83 ?_
      exact hw_iret C dX6_text_85
  · refine hw_bipush C dX6_text_60 (v := -100) (by decide) ?_
    refine hw_aload_n C dX6_text_62 rfl 2 rfl ?_
    refine hw_getR C cf_X6 lf_X6_71 hw_T0 (t2 := 13) (by decide) dX6_text_63 ?_
    refine hw_getI C cf_X1 lf_X6_235 hw_T13 dX6_text_66 ?_
    refine hw_isub C dX6_text_69 ?_
    exact hw_iret C dX6_text_70
set_option maxRecDepth 20000 in
theorem M_X6_text (E : hw_E) (hE : hw_eT E = hw_TH) (s0 : hw_St) : hw_M E yX6_text cX6_text 3 (some .int) 112 [hw_rv (hw_ea E) 0] s0 hw_ri (F_X6_text  s0) := by
  refine hw_entry (own := RX6) (TL := hw_TH) (by decide) rfl hE (hw_cR hw_cN) (hw_l8 rfl) (fun G hG C => ?_)
  subst hG
  have hTL := hE
  show hw_K G 3 hw_ri _ 0 [(0, hw_rv (hw_ea (hw_gE G)) 0)] [] s0
  unfold F_X6_text
  refine hw_aload_n C dX6_text_0 rfl 0 rfl ?_
  refine hw_getR C cf_X6 lf_X6_50 hw_T0 (t2 := 9) (by decide) dX6_text_1 ?_
  refine hw_aload_n C dX6_text_4 rfl 0 rfl ?_
  refine hw_getR C cf_X6 lf_X6_59 hw_T0 (t2 := 1) (by decide) dX6_text_5 ?_
  refine hw_getI C cf_X2 lf_X6_228 hw_T1 dX6_text_8 ?_
  refine hw_iconst C dX6_text_11 (v := 0) (by decide) ?_
  refine hw_bipush C dX6_text_12 (v := 14) (by decide) ?_
  refine hw_callSi C (M_X6_isWithin (hw_gE G) hTL (s0 1 5) (0 : Int32) (14 : Int32) s0) W_X6_isWithin SS_X6_isWithin mw_133 (by decide) rfl ⟨rfl, hw_l8 rfl⟩ dX6_text_14 (fun r1 s2 => ?_)
  refine hw_if_eq C dX6_text_17 (tgt := 30) (by decide) (fun c3 => ?_) (fun c3 => ?_)
  · refine hw_bipush C dX6_text_30 (v := 14) (by decide) ?_
    exact hw_lv [0] rfl (KB_X6_text_32 C hTL (14 : Int32) s2)
  · refine hw_aload_n C dX6_text_20 rfl 0 rfl ?_
    refine hw_getR C cf_X6 lf_X6_59 hw_T0 (t2 := 1) (by decide) dX6_text_21 ?_
    refine hw_getI C cf_X2 lf_X6_228 hw_T1 dX6_text_24 ?_
    refine hw_goto C dX6_text_27 (tgt := 32) (by decide) ?_
    exact hw_lv [0] rfl (KB_X6_text_32 C hTL (s2 1 5) s2)
/-! HumWire textTold(II)I, level 2 -/
def F_X6_textTold  (a1 : Int32) (a2 : Int32) (s0 : hw_St) : Option (Int32 × hw_St) := hw_bd (F_X6_isWithin a1 (0 : Int32) ((s0 1 5) - (1 : Int32)) s0) (fun r1 s2 => if r1 = 0 then (some ((-1000000001 : Int32), s2)) else (hw_bd (F_X6_isWithin a2 (0 : Int32) (1 : Int32) s2) (fun r4 s5 => if r4 = 0 then (some ((-1000000001 : Int32), s5)) else (if a2 = 0 then (hw_gd (hw_inb a1 15) (hw_gd (hw_gH (hw_el 9 a1.toNatClampNeg) 0) (some ((s5 (hw_el 9 a1.toNatClampNeg) 0), s5)))) else (hw_gd (hw_inb a1 15) (hw_gd (hw_gH (hw_el 9 a1.toNatClampNeg) 0) (some ((s5 (hw_el 9 a1.toNatClampNeg) 1), s5))))))))
set_option maxRecDepth 20000 in
theorem M_X6_textTold (E : hw_E) (hE : hw_eT E = hw_TH) (a1 : Int32) (a2 : Int32) (s0 : hw_St) : hw_M E yX6_textTold cX6_textTold 3 (some .int) 2 [hw_rv (hw_ea E) 0, .int a1, .int a2] s0 hw_ri (F_X6_textTold a1 a2 s0) := by
  refine hw_entry (own := RX6) (TL := hw_TH) (by decide) rfl hE (hw_cR (hw_cI (hw_cI hw_cN))) (hw_l8 rfl) (fun G hG C => ?_)
  subst hG
  have hTL := hE
  show hw_K G 3 hw_ri _ 0 [(0, hw_rv (hw_ea (hw_gE G)) 0), (1, .int a1), (2, .int a2)] [] s0
  unfold F_X6_textTold
  refine hw_iload_n C dX6_textTold_0 rfl 1 rfl ?_
  refine hw_iconst C dX6_textTold_1 (v := 0) (by decide) ?_
  refine hw_aload_n C dX6_textTold_2 rfl 0 rfl ?_
  refine hw_getR C cf_X6 lf_X6_59 hw_T0 (t2 := 1) (by decide) dX6_textTold_3 ?_
  refine hw_getI C cf_X2 lf_X6_228 hw_T1 dX6_textTold_6 ?_
  refine hw_iconst C dX6_textTold_9 (v := 1) (by decide) ?_
  refine hw_isub C dX6_textTold_10 ?_
  refine hw_callSi C (M_X6_isWithin (hw_gE G) hTL a1 (0 : Int32) ((s0 1 5) - (1 : Int32)) s0) W_X6_isWithin SS_X6_isWithin mw_133 (by decide) rfl ⟨rfl, hw_l8 rfl⟩ dX6_textTold_11 (fun r1 s2 => ?_)
  refine hw_if_eq C dX6_textTold_14 (tgt := 26) (by decide) (fun c3 => ?_) (fun c3 => ?_)
  · refine hw_ldc C mw_126 dX6_textTold_26 ?_
    exact hw_iret C dX6_textTold_28
  · refine hw_iload_n C dX6_textTold_17 rfl 2 rfl ?_
    refine hw_iconst C dX6_textTold_18 (v := 0) (by decide) ?_
    refine hw_iconst C dX6_textTold_19 (v := 1) (by decide) ?_
    refine hw_callSi C (M_X6_isWithin (hw_gE G) hTL a2 (0 : Int32) (1 : Int32) s2) W_X6_isWithin SS_X6_isWithin mw_133 (by decide) rfl ⟨rfl, hw_l8 rfl⟩ dX6_textTold_20 (fun r4 s5 => ?_)
    refine hw_if_ne C dX6_textTold_23 (tgt := 29) (by decide) (fun c6 => ?_) (fun c6 => ?_)
    · refine hw_iload_n C dX6_textTold_29 rfl 2 rfl ?_
      refine hw_if_ne C dX6_textTold_30 (tgt := 45) (by decide) (fun c7 => ?_) (fun c7 => ?_)
      · refine hw_aload_n C dX6_textTold_45 rfl 0 rfl ?_
        refine hw_getR C cf_X6 lf_X6_50 hw_T0 (t2 := 9) (by decide) dX6_textTold_46 ?_
        refine hw_iload_n C dX6_textTold_49 rfl 1 rfl ?_
        refine hw_aaldH (t0 := 4) C hw_T9 (by decide) (fun _ => rfl) (by decide) (by decide) dX6_textTold_50 (fun T_8 => ?_)
        refine hw_getI C cf_X0 lf_X6_244 T_8 dX6_textTold_51 ?_
        exact hw_iret C dX6_textTold_54
      · refine hw_aload_n C dX6_textTold_33 rfl 0 rfl ?_
        refine hw_getR C cf_X6 lf_X6_50 hw_T0 (t2 := 9) (by decide) dX6_textTold_34 ?_
        refine hw_iload_n C dX6_textTold_37 rfl 1 rfl ?_
        refine hw_aaldH (t0 := 4) C hw_T9 (by decide) (fun _ => rfl) (by decide) (by decide) dX6_textTold_38 (fun T_9 => ?_)
        refine hw_getI C cf_X0 lf_X6_241 T_9 dX6_textTold_39 ?_
        refine hw_goto C dX6_textTold_42 (tgt := 54) (by decide) ?_
        exact hw_iret C dX6_textTold_54
    · refine hw_ldc C mw_126 dX6_textTold_26 ?_
      exact hw_iret C dX6_textTold_28
/-! HumWire why(I)I, level 2 -/
def F_X6_why  (a1 : Int32) (s0 : hw_St) : Option (Int32 × hw_St) := hw_bd (F_X6_isWithin a1 (0 : Int32) (2 : Int32) s0) (fun r1 s2 => if r1 = 0 then (some ((-1000000001 : Int32), s2)) else (hw_gd (hw_inb a1 3) (some ((s2 7 a1.toNatClampNeg), s2))))
set_option maxRecDepth 20000 in
theorem M_X6_why (E : hw_E) (hE : hw_eT E = hw_TH) (a1 : Int32) (s0 : hw_St) : hw_M E yX6_why cX6_why 2 (some .int) 2 [hw_rv (hw_ea E) 0, .int a1] s0 hw_ri (F_X6_why a1 s0) := by
  refine hw_entry (own := RX6) (TL := hw_TH) (by decide) rfl hE (hw_cR (hw_cI hw_cN)) (hw_l8 rfl) (fun G hG C => ?_)
  subst hG
  have hTL := hE
  show hw_K G 2 hw_ri _ 0 [(0, hw_rv (hw_ea (hw_gE G)) 0), (1, .int a1)] [] s0
  unfold F_X6_why
  refine hw_iload_n C dX6_why_0 rfl 1 rfl ?_
  refine hw_iconst C dX6_why_1 (v := 0) (by decide) ?_
  refine hw_iconst C dX6_why_2 (v := 2) (by decide) ?_
  refine hw_callSi C (M_X6_isWithin (hw_gE G) hTL a1 (0 : Int32) (2 : Int32) s0) W_X6_isWithin SS_X6_isWithin mw_133 (by decide) rfl ⟨rfl, hw_l8 rfl⟩ dX6_why_3 (fun r1 s2 => ?_)
  refine hw_if_eq C dX6_why_6 (tgt := 21) (by decide) (fun c3 => ?_) (fun c3 => ?_)
  · refine hw_ldc C mw_126 dX6_why_21 ?_
    exact hw_iret C dX6_why_23
  · refine hw_aload_n C dX6_why_9 rfl 0 rfl ?_
    refine hw_getR C cf_X6 lf_X6_59 hw_T0 (t2 := 1) (by decide) dX6_why_10 ?_
    refine hw_getR C cf_X2 lf_X6_238 hw_T1 (t2 := 7) (by decide) dX6_why_13 ?_
    refine hw_iload_n C dX6_why_16 rfl 1 rfl ?_
    refine hw_iald C hw_T7 (by decide) dX6_why_17 (fun h4 => ?_)
    refine hw_goto C dX6_why_18 (tgt := 23) (by decide) ?_
    exact hw_iret C dX6_why_23
/-! HumWire sheet(III)I, level 3 -/
def F_X6_sheet  (a1 : Int32) (a2 : Int32) (a3 : Int32) (s0 : hw_St) : Option (Int32 × hw_St) := hw_bd (F_X6_isSheet a1 s0) (fun r1 s2 => if r1 = 0 then (some ((-1000000001 : Int32), s2)) else (hw_bd (F_X6_isWithin a2 (-1 : Int32) (1 : Int32) s2) (fun r4 s5 => if r4 = 0 then (some ((-1000000001 : Int32), s5)) else (if a2 = (-1 : Int32) then (hw_gd (hw_inb a1 4) (hw_gd (hw_gH (hw_el 14 a1.toNatClampNeg) 3) (hw_bd (F_X3_begin (hw_el 14 a1.toNatClampNeg) (-1 : Int32) (0 : Int32) s5) (fun _ s15 => some ((0 : Int32), s15))))) else (if a3 ≤ (24 : Int32) then (if 0 ≤ a3 then (hw_gd (hw_inb a1 4) (hw_gd (hw_gH (hw_el 14 a1.toNatClampNeg) 3) (hw_bd (F_X3_begin (hw_el 14 a1.toNatClampNeg) a2 a3 s5) (fun _ s12 => some (a3, s12))))) else (some ((-1000000014 : Int32), s5))) else (some ((-1000000001 : Int32), s5)))))))
set_option maxRecDepth 20000 in
theorem M_X6_sheet (E : hw_E) (hE : hw_eT E = hw_TH) (a1 : Int32) (a2 : Int32) (a3 : Int32) (s0 : hw_St) : hw_M E yX6_sheet cX6_sheet 4 (some .int) 3 [hw_rv (hw_ea E) 0, .int a1, .int a2, .int a3] s0 hw_ri (F_X6_sheet a1 a2 a3 s0) := by
  refine hw_entry (own := RX6) (TL := hw_TH) (by decide) rfl hE (hw_cR (hw_cI (hw_cI (hw_cI hw_cN)))) (hw_l8 rfl) (fun G hG C => ?_)
  subst hG
  have hTL := hE
  show hw_K G 4 hw_ri _ 0 [(0, hw_rv (hw_ea (hw_gE G)) 0), (1, .int a1), (2, .int a2), (3, .int a3)] [] s0
  unfold F_X6_sheet
  refine hw_iload_n C dX6_sheet_0 rfl 1 rfl ?_
  refine hw_callSi C (M_X6_isSheet (hw_gE G) hTL a1 s0) W_X6_isSheet SS_X6_isSheet mw_554 (by decide) rfl ⟨rfl, hw_l8 rfl⟩ dX6_sheet_1 (fun r1 s2 => ?_)
  refine hw_if_eq C dX6_sheet_4 (tgt := 16) (by decide) (fun c3 => ?_) (fun c3 => ?_)
  · refine hw_ldc C mw_126 dX6_sheet_16 ?_
    exact hw_iret C dX6_sheet_18
  · refine hw_iload_n C dX6_sheet_7 rfl 2 rfl ?_
    refine hw_iconst C dX6_sheet_8 (v := -1) (by decide) ?_
    refine hw_iconst C dX6_sheet_9 (v := 1) (by decide) ?_
    refine hw_callSi C (M_X6_isWithin (hw_gE G) hTL a2 (-1 : Int32) (1 : Int32) s2) W_X6_isWithin SS_X6_isWithin mw_133 (by decide) rfl ⟨rfl, hw_l8 rfl⟩ dX6_sheet_10 (fun r4 s5 => ?_)
    refine hw_if_ne C dX6_sheet_13 (tgt := 19) (by decide) (fun c6 => ?_) (fun c6 => ?_)
    · refine hw_iload_n C dX6_sheet_19 rfl 2 rfl ?_
      refine hw_iconst C dX6_sheet_20 (v := -1) (by decide) ?_
      refine hw_icmp_ne C dX6_sheet_21 (tgt := 37) (by decide) (fun c7 => ?_) (fun c7 => ?_)
      · refine hw_iload_n C dX6_sheet_37 rfl 3 rfl ?_
        refine hw_bipush C dX6_sheet_38 (v := 24) (by decide) ?_
        refine hw_icmp_le C dX6_sheet_40 (tgt := 46) (by decide) (fun c8 => ?_) (fun c8 => ?_)
        · refine hw_iload_n C dX6_sheet_46 rfl 3 rfl ?_
          refine hw_if_ge C dX6_sheet_47 (tgt := 53) (by decide) (fun c9 => ?_) (fun c9 => ?_)
          · refine hw_aload_n C dX6_sheet_53 rfl 0 rfl ?_
            refine hw_getR C cf_X6 lf_X6_30 hw_T0 (t2 := 14) (by decide) dX6_sheet_54 ?_
            refine hw_iload_n C dX6_sheet_57 rfl 1 rfl ?_
            refine hw_aaldH (t0 := 6) C hw_T14 (by decide) (fun _ => rfl) (by decide) (by decide) dX6_sheet_58 (fun T_10 => ?_)
            refine hw_iload_n C dX6_sheet_59 rfl 2 rfl ?_
            refine hw_iload_n C dX6_sheet_60 rfl 3 rfl ?_
            refine hw_callVv C (M_X3_begin (hw_gE G) hTL (hw_el 14 a1.toNatClampNeg) a2 a3 s5) W_X3_begin SV_X3_begin cf_X3 T_10 mw_881 (by decide) rfl ⟨rfl, hw_l8 rfl⟩ dX6_sheet_61 (fun r11 s12 => ?_)
            refine hw_iload_n C dX6_sheet_64 rfl 3 rfl ?_
            exact hw_iret C dX6_sheet_65
          · refine hw_ldc C mw_880 dX6_sheet_50 ?_
            exact hw_iret C dX6_sheet_52
        · refine hw_ldc C mw_126 dX6_sheet_43 ?_
          exact hw_iret C dX6_sheet_45
      · refine hw_aload_n C dX6_sheet_24 rfl 0 rfl ?_
        refine hw_getR C cf_X6 lf_X6_30 hw_T0 (t2 := 14) (by decide) dX6_sheet_25 ?_
        refine hw_iload_n C dX6_sheet_28 rfl 1 rfl ?_
        refine hw_aaldH (t0 := 6) C hw_T14 (by decide) (fun _ => rfl) (by decide) (by decide) dX6_sheet_29 (fun T_13 => ?_)
        refine hw_iconst C dX6_sheet_30 (v := -1) (by decide) ?_
        refine hw_iconst C dX6_sheet_31 (v := 0) (by decide) ?_
        refine hw_callVv C (M_X3_begin (hw_gE G) hTL (hw_el 14 a1.toNatClampNeg) (-1 : Int32) (0 : Int32) s5) W_X3_begin SV_X3_begin cf_X3 T_13 mw_881 (by decide) rfl ⟨rfl, hw_l8 rfl⟩ dX6_sheet_32 (fun r14 s15 => ?_)
        refine hw_iconst C dX6_sheet_35 (v := 0) (by decide) ?_
        exact hw_iret C dX6_sheet_36
    · refine hw_ldc C mw_126 dX6_sheet_16 ?_
      exact hw_iret C dX6_sheet_18
/-! HumWire mark(III)I, level 3 -/
def B_X6_mark_90  (l2 : Int32) (l3 : Int32) (l4 : Nat) (s0 : hw_St) : Option (Int32 × hw_St) := hw_gd (hw_gH (hw_fl l4 2) 10) (hw_gd (hw_inb l2 (hw_ln (hw_fl l4 2))) (hw_nm (hw_up s0 (hw_fl l4 2) l2.toNatClampNeg l3) (fun s23 => some ((1 : Int32), s23))))
def F_X6_mark  (a1 : Int32) (a2 : Int32) (a3 : Int32) (s0 : hw_St) : Option (Int32 × hw_St) := hw_bd (F_X6_isSheet a1 s0) (fun r1 s2 => if r1 = 0 then (some ((-1000000001 : Int32), s2)) else (hw_gd (hw_inb a1 4) (hw_gd (hw_gH (hw_el 14 a1.toNatClampNeg) 3) (hw_bd (F_X3_isMissing (hw_el 14 a1.toNatClampNeg) s2) (fun r5 s6 => if r5 = 0 then (hw_bd (F_X3_hasPlace (hw_el 14 a1.toNatClampNeg) a2 s6) (fun r8 s9 => if r8 = 0 then (some ((-1000000013 : Int32), s9)) else (if (s9 (hw_el 14 a1.toNatClampNeg) 0) = 0 then (if a3 = (-1000000005 : Int32) then (some ((-1000000012 : Int32), s9)) else (hw_gd (hw_gH (hw_fl (hw_el 14 a1.toNatClampNeg) 2) 10) (hw_gd (hw_inb a2 (hw_ln (hw_fl (hw_el 14 a1.toNatClampNeg) 2))) (hw_nm (hw_up s9 (hw_fl (hw_el 14 a1.toNatClampNeg) 2) a2.toNatClampNeg a3.toInt16.toInt32) (fun s19 => some ((1 : Int32), s19)))))) else (if a3 = (-1000000005 : Int32) then (B_X6_mark_90 a2 a3 (hw_el 14 a1.toNatClampNeg) s9) else (hw_bd (F_X6_isWithin a3 (-99999 : Int32) (99999 : Int32) s9) (fun r13 s14 => if r13 = 0 then (some ((-1000000001 : Int32), s14)) else (B_X6_mark_90 a2 a3 (hw_el 14 a1.toNatClampNeg) s14))))))) else (some ((-1000000011 : Int32), s6)))))))
set_option maxRecDepth 20000 in
theorem KB_X6_mark_90 {G : hw_G} (C : hw_Ok G cX6_mark RX6 5 3 (some .int) hw_TH) (hTL : hw_eT (hw_gE G) = hw_TH) (l2 : Int32) (l3 : Int32) (l4 : Nat) (s0 : hw_St) (T_l4 : hw_T hw_TH l4 3) : hw_K G 5 hw_ri (B_X6_mark_90 l2 l3 l4 s0) 90 [(2, .int l2), (3, .int l3), (4, hw_rv (hw_ea (hw_gE G)) l4)] [] s0 := by
  unfold B_X6_mark_90
  refine hw_aload C dX6_mark_90 2 rfl ?_
  refine hw_getR C cf_X3 lf_X6_258 T_l4 rfl dX6_mark_92 ?_
  refine hw_iload_n C dX6_mark_95 rfl 0 rfl ?_
  refine hw_iload_n C dX6_mark_96 rfl 1 rfl ?_
  refine hw_gdK (fun h22 => ?_)
  have T_21 := hw_gH_T h22
  refine hw_iast C T_21 rfl dX6_mark_97 (fun h24 s23 => ?_)
  refine hw_iconst C dX6_mark_98 (v := 1) (by decide) ?_
  exact hw_iret C dX6_mark_99
set_option maxRecDepth 20000 in
theorem M_X6_mark (E : hw_E) (hE : hw_eT E = hw_TH) (a1 : Int32) (a2 : Int32) (a3 : Int32) (s0 : hw_St) : hw_M E yX6_mark cX6_mark 5 (some .int) 3 [hw_rv (hw_ea E) 0, .int a1, .int a2, .int a3] s0 hw_ri (F_X6_mark a1 a2 a3 s0) := by
  refine hw_entry (own := RX6) (TL := hw_TH) (by decide) rfl hE (hw_cR (hw_cI (hw_cI (hw_cI hw_cN)))) (hw_l8 rfl) (fun G hG C => ?_)
  subst hG
  have hTL := hE
  show hw_K G 5 hw_ri _ 0 [(0, hw_rv (hw_ea (hw_gE G)) 0), (1, .int a1), (2, .int a2), (3, .int a3)] [] s0
  unfold F_X6_mark
  refine hw_iload_n C dX6_mark_0 rfl 1 rfl ?_
  refine hw_callSi C (M_X6_isSheet (hw_gE G) hTL a1 s0) W_X6_isSheet SS_X6_isSheet mw_554 (by decide) rfl ⟨rfl, hw_l8 rfl⟩ dX6_mark_1 (fun r1 s2 => ?_)
  refine hw_if_ne C dX6_mark_4 (tgt := 10) (by decide) (fun c3 => ?_) (fun c3 => ?_)
  · refine hw_aload_n C dX6_mark_10 rfl 0 rfl ?_
    refine hw_getR C cf_X6 lf_X6_30 hw_T0 (t2 := 14) (by decide) dX6_mark_11 ?_
    refine hw_iload_n C dX6_mark_14 rfl 1 rfl ?_
    refine hw_aaldH (t0 := 6) C hw_T14 (by decide) (fun _ => rfl) (by decide) (by decide) dX6_mark_15 (fun T_4 => ?_)
    refine hw_astore C dX6_mark_16 (by decide) rfl ?_
    refine hw_aload C dX6_mark_18 0 rfl ?_
    refine hw_callVi C (M_X3_isMissing (hw_gE G) hTL (hw_el 14 a1.toNatClampNeg) s2) W_X3_isMissing SV_X3_isMissing cf_X3 T_4 mw_557 (by decide) rfl ⟨rfl, hw_l8 rfl⟩ dX6_mark_20 (fun r5 s6 => ?_)
    refine hw_if_eq C dX6_mark_23 (tgt := 29) (by decide) (fun c7 => ?_) (fun c7 => ?_)
    · refine hw_aload C dX6_mark_29 0 rfl ?_
      refine hw_iload_n C dX6_mark_31 rfl 3 rfl ?_
      refine hw_callVi C (M_X3_hasPlace (hw_gE G) hTL (hw_el 14 a1.toNatClampNeg) a2 s6) W_X3_hasPlace SV_X3_hasPlace cf_X3 T_4 mw_898 (by decide) rfl ⟨rfl, hw_l8 rfl⟩ dX6_mark_32 (fun r8 s9 => ?_)
      refine hw_if_ne C dX6_mark_35 (tgt := 41) (by decide) (fun c10 => ?_) (fun c10 => ?_)
      · refine hw_aload C dX6_mark_41 0 rfl ?_
        refine hw_getI C cf_X3 lf_X6_255 T_4 dX6_mark_43 ?_
        refine hw_if_ne C dX6_mark_46 (tgt := 69) (by decide) (fun c11 => ?_) (fun c11 => ?_)
        · refine hw_iload_n C dX6_mark_69 rfl 4 rfl ?_
          refine hw_ldc C mw_478 dX6_mark_70 ?_
          refine hw_icmp_eq C dX6_mark_72 (tgt := 90) (by decide) (fun c12 => ?_) (fun c12 => ?_)
          · exact hw_lv [3, 4, 0] rfl (KB_X6_mark_90 C hTL a2 a3 (hw_el 14 a1.toNatClampNeg) s9 T_4)
          · refine hw_iload_n C dX6_mark_75 rfl 4 rfl ?_
            refine hw_ldcw C mw_897 dX6_mark_76 ?_
            refine hw_ldc C mw_519 dX6_mark_79 ?_
            refine hw_callSi C (M_X6_isWithin (hw_gE G) hTL a3 (-99999 : Int32) (99999 : Int32) s9) W_X6_isWithin SS_X6_isWithin mw_133 (by decide) rfl ⟨rfl, hw_l8 rfl⟩ dX6_mark_81 (fun r13 s14 => ?_)
            refine hw_if_ne C dX6_mark_84 (tgt := 90) (by decide) (fun c15 => ?_) (fun c15 => ?_)
            · exact hw_lv [3, 4, 0] rfl (KB_X6_mark_90 C hTL a2 a3 (hw_el 14 a1.toNatClampNeg) s14 T_4)
            · refine hw_ldc C mw_126 dX6_mark_87 ?_
              exact hw_iret C dX6_mark_89
        · refine hw_iload_n C dX6_mark_49 rfl 4 rfl ?_
          refine hw_ldc C mw_478 dX6_mark_50 ?_
          refine hw_icmp_ne C dX6_mark_52 (tgt := 58) (by decide) (fun c16 => ?_) (fun c16 => ?_)
          · refine hw_aload C dX6_mark_58 0 rfl ?_
            refine hw_getR C cf_X3 lf_X6_258 T_4 rfl dX6_mark_60 ?_
            refine hw_iload_n C dX6_mark_63 rfl 3 rfl ?_
            refine hw_iload_n C dX6_mark_64 rfl 4 rfl ?_
            refine hw_c_i2s C dX6_mark_65 ?_
            refine hw_gdK (fun h18 => ?_)
            have T_17 := hw_gH_T h18
            refine hw_iast C T_17 rfl dX6_mark_66 (fun h20 s19 => ?_)
            refine hw_iconst C dX6_mark_67 (v := 1) (by decide) ?_
            exact hw_iret C dX6_mark_68
          · refine hw_ldc C mw_210 dX6_mark_55 ?_
            exact hw_iret C dX6_mark_57
      · refine hw_ldc C mw_895 dX6_mark_38 ?_
        exact hw_iret C dX6_mark_40
    · refine hw_ldc C mw_553 dX6_mark_26 ?_
      exact hw_iret C dX6_mark_28
  · refine hw_ldc C mw_126 dX6_mark_7 ?_
    exact hw_iret C dX6_mark_9
/-! HumWire pour(I)I, level 4 -/
def B_X6_pour_106  (w32 : Nat → Int32 → Int32 → hw_St → Option (Int32 × hw_St)) (l2 : Nat) (l3 : Int32) (l4 : Int32) (s0 : hw_St) : Option (Int32 × hw_St) := w32 l2 l3 (l4 + 1) s0
def B_X6_pour_104  (w32 : Nat → Int32 → Int32 → hw_St → Option (Int32 × hw_St)) (l2 : Nat) (l4 : Int32) (k0 : Int32) (k1 : Int32) (s0 : hw_St) : Option (Int32 × hw_St) := hw_nm (k1 + k0) (fun x23 => B_X6_pour_106 w32 l2 x23 l4 s0)
def S_X6_pour_32  (w32 : Nat → Int32 → Int32 → hw_St → Option (Int32 × hw_St)) (l2 : Nat) (l3 : Int32) (l4 : Int32) (s0 : hw_St) : Option (Int32 × hw_St) := if (24 : Int32) ≤ l4 then (some (l3, s0)) else (hw_bd (F_X3_hasNumber l2 l4 s0) (fun r9 s10 => if r9 = 0 then (B_X6_pour_106 w32 l2 l3 l4 s10) else (hw_gd (hw_inb l4 24) (hw_nm (s10 3 l4.toNatClampNeg) (fun x13 => hw_gd (hw_gH (hw_fl l2 2) 10) (hw_gd (hw_inb l4 (hw_ln (hw_fl l2 2))) (hw_bd (F_X6_within (s10 (hw_fl l2 2) l4.toNatClampNeg) (0 : Int32) (99 : Int32) s10) (fun r17 s18 => hw_gd (hw_inb l4 24) (hw_nm (hw_up s18 3 l4.toNatClampNeg r17) (fun s19 => hw_gd (hw_inb l4 24) (if (s19 3 l4.toNatClampNeg) = x13 then (B_X6_pour_104 w32 l2 l4 (0 : Int32) l3 s19) else (B_X6_pour_104 w32 l2 l4 (1 : Int32) l3 s19))))))))))))
def L_X6_pour_32  : Nat → Nat → Int32 → Int32 → hw_St → Option (Int32 × hw_St)
  | 0 => fun _ _ _ _ => none
  | n + 1 => S_X6_pour_32  (L_X6_pour_32  n)
def F_X6_pour  (a1 : Int32) (s0 : hw_St) : Option (Int32 × hw_St) := hw_bd (F_X6_isSheet a1 s0) (fun r1 s2 => if r1 = 0 then (some ((-1000000001 : Int32), s2)) else (hw_gd (hw_inb a1 4) (hw_gd (hw_gH (hw_el 14 a1.toNatClampNeg) 3) (hw_bd (F_X3_isMissing (hw_el 14 a1.toNatClampNeg) s2) (fun r5 s6 => if r5 = 0 then (L_X6_pour_32 130 (hw_el 14 a1.toNatClampNeg) (0 : Int32) (0 : Int32) s6) else (some ((-1000000011 : Int32), s6)))))))
set_option maxRecDepth 20000 in
theorem KB_X6_pour_106 {G : hw_G} (C : hw_Ok G cX6_pour RX6 6 4 (some .int) hw_TH) (hTL : hw_eT (hw_gE G) = hw_TH) (w32 : Nat → Int32 → Int32 → hw_St → Option (Int32 × hw_St)) (H_w32 : ∀ (l2 : Nat) (l3 : Int32) (l4 : Int32) (s0 : hw_St) (T_l2 : hw_T hw_TH l2 3), hw_K G 6 hw_ri (w32 l2 l3 l4 s0) 32 [(0, hw_rv (hw_ea (hw_gE G)) 0), (2, hw_rv (hw_ea (hw_gE G)) l2), (3, .int l3), (4, .int l4)] [] s0) (l2 : Nat) (l3 : Int32) (l4 : Int32) (s0 : hw_St) (T_l2 : hw_T hw_TH l2 3) : hw_K G 6 hw_ri (B_X6_pour_106 w32 l2 l3 l4 s0) 106 [(0, hw_rv (hw_ea (hw_gE G)) 0), (2, hw_rv (hw_ea (hw_gE G)) l2), (3, .int l3), (4, .int l4)] [] s0 := by
  unfold B_X6_pour_106
  refine hw_iinc C dX6_pour_106 3 rfl (v := 1) (by decide) (by decide) rfl ?_
  refine hw_goto C dX6_pour_109 (tgt := 32) (by decide) ?_
  exact hw_lv [1, 2, 3, 0] rfl (H_w32 l2 l3 (l4 + 1) s0 T_l2)
set_option maxRecDepth 20000 in
theorem KB_X6_pour_104 {G : hw_G} (C : hw_Ok G cX6_pour RX6 6 4 (some .int) hw_TH) (hTL : hw_eT (hw_gE G) = hw_TH) (w32 : Nat → Int32 → Int32 → hw_St → Option (Int32 × hw_St)) (H_w32 : ∀ (l2 : Nat) (l3 : Int32) (l4 : Int32) (s0 : hw_St) (T_l2 : hw_T hw_TH l2 3), hw_K G 6 hw_ri (w32 l2 l3 l4 s0) 32 [(0, hw_rv (hw_ea (hw_gE G)) 0), (2, hw_rv (hw_ea (hw_gE G)) l2), (3, .int l3), (4, .int l4)] [] s0) (l2 : Nat) (l4 : Int32) (k0 : Int32) (k1 : Int32) (s0 : hw_St) (T_l2 : hw_T hw_TH l2 3) : hw_K G 6 hw_ri (B_X6_pour_104 w32 l2 l4 k0 k1 s0) 104 [(0, hw_rv (hw_ea (hw_gE G)) 0), (2, hw_rv (hw_ea (hw_gE G)) l2), (4, .int l4)] [.int k0, .int k1] s0 := by
  unfold B_X6_pour_104
  refine hw_iadd C dX6_pour_104 ?_
  refine hw_istore_nN C dX6_pour_105 rfl (by decide) (fun _ => rfl) (fun x23 => ?_)
  exact hw_lv [1, 2, 0, 3] rfl (KB_X6_pour_106 C hTL w32 H_w32 l2 x23 l4 s0 T_l2)
set_option maxRecDepth 20000 in
theorem KS_X6_pour_32 {G : hw_G} (C : hw_Ok G cX6_pour RX6 6 4 (some .int) hw_TH) (hTL : hw_eT (hw_gE G) = hw_TH) (w32 : Nat → Int32 → Int32 → hw_St → Option (Int32 × hw_St)) (H_w32 : ∀ (l2 : Nat) (l3 : Int32) (l4 : Int32) (s0 : hw_St) (T_l2 : hw_T hw_TH l2 3), hw_K G 6 hw_ri (w32 l2 l3 l4 s0) 32 [(0, hw_rv (hw_ea (hw_gE G)) 0), (2, hw_rv (hw_ea (hw_gE G)) l2), (3, .int l3), (4, .int l4)] [] s0) (l2 : Nat) (l3 : Int32) (l4 : Int32) (s0 : hw_St) (T_l2 : hw_T hw_TH l2 3) : hw_K G 6 hw_ri (S_X6_pour_32 w32 l2 l3 l4 s0) 32 [(0, hw_rv (hw_ea (hw_gE G)) 0), (2, hw_rv (hw_ea (hw_gE G)) l2), (3, .int l3), (4, .int l4)] [] s0 := by
  unfold S_X6_pour_32
  refine hw_iload C dX6_pour_32 3 rfl ?_
  refine hw_bipush C dX6_pour_34 (v := 24) (by decide) ?_
  refine hw_icmp_ge C dX6_pour_36 (tgt := 112) (by decide) (fun c8 => ?_) (fun c8 => ?_)
  · refine hw_iload_n C dX6_pour_112 rfl 2 rfl ?_
    exact hw_iret C dX6_pour_113
  · refine hw_aload_n C dX6_pour_39 rfl 1 rfl ?_
    refine hw_iload C dX6_pour_40 3 rfl ?_
    refine hw_callVi C (M_X3_hasNumber (hw_gE G) hTL l2 l4 s0) W_X3_hasNumber SV_X3_hasNumber cf_X3 T_l2 mw_566 (by decide) rfl ⟨rfl, hw_l8 rfl⟩ dX6_pour_42 (fun r9 s10 => ?_)
    refine hw_if_eq C dX6_pour_45 (tgt := 106) (by decide) (fun c11 => ?_) (fun c11 => ?_)
    · exact hw_lv [0, 1, 2, 3] rfl (KB_X6_pour_106 C hTL w32 H_w32 l2 l3 l4 s10 T_l2)
    · refine hw_aload_n C dX6_pour_48 rfl 0 rfl ?_
      refine hw_getR C cf_X6 lf_X6_59 hw_T0 (t2 := 1) (by decide) dX6_pour_49 ?_
      refine hw_getR C cf_X2 lf_X6_150 hw_T1 (t2 := 3) (by decide) dX6_pour_52 ?_
      refine hw_iload C dX6_pour_55 3 rfl ?_
      refine hw_iald C hw_T3 (by decide) dX6_pour_57 (fun h12 => ?_)
      refine hw_istoreN C dX6_pour_58 (by decide) (fun _ => rfl) (fun x13 => ?_)
      refine hw_aload_n C dX6_pour_60 rfl 1 rfl ?_
      refine hw_getR C cf_X6 lf_X6_59 hw_T0 (t2 := 1) (by decide) dX6_pour_61 ?_
      refine hw_getR C cf_X2 lf_X6_150 hw_T1 (t2 := 3) (by decide) dX6_pour_64 ?_
      refine hw_iload C dX6_pour_67 4 rfl ?_
      refine hw_aload_n C dX6_pour_69 rfl 2 rfl ?_
      refine hw_getR C cf_X3 lf_X6_258 T_l2 rfl dX6_pour_70 ?_
      refine hw_iload C dX6_pour_73 4 rfl ?_
      refine hw_gdK (fun h15 => ?_)
      have T_14 := hw_gH_T h15
      refine hw_iald C T_14 rfl dX6_pour_75 (fun h16 => ?_)
      refine hw_iconst C dX6_pour_76 (v := 0) (by decide) ?_
      refine hw_bipush C dX6_pour_77 (v := 99) (by decide) ?_
      refine hw_callSi C (M_X6_within (hw_gE G) hTL (s10 (hw_fl l2 2) l4.toNatClampNeg) (0 : Int32) (99 : Int32) s10) W_X6_within SS_X6_within mw_909 (by decide) rfl ⟨rfl, hw_l8 rfl⟩ dX6_pour_79 (fun r17 s18 => ?_)
      refine hw_iast C hw_T3 (by decide) dX6_pour_82 (fun h20 s19 => ?_)
      refine hw_iload_n C dX6_pour_83 rfl 3 rfl ?_
      refine hw_aload_n C dX6_pour_84 rfl 1 rfl ?_
      refine hw_getR C cf_X6 lf_X6_59 hw_T0 (t2 := 1) (by decide) dX6_pour_85 ?_
      refine hw_getR C cf_X2 lf_X6_150 hw_T1 (t2 := 3) (by decide) dX6_pour_88 ?_
      refine hw_iload C dX6_pour_91 4 rfl ?_
      refine hw_iald C hw_T3 (by decide) dX6_pour_93 (fun h21 => ?_)
      refine hw_iload C dX6_pour_94 0 rfl ?_
      refine hw_icmp_ne C dX6_pour_96 (tgt := 103) (by decide) (fun c22 => ?_) (fun c22 => ?_)
      · refine hw_iconst C dX6_pour_103 (v := 1) (by decide) ?_
        exact hw_lv [1, 2, 4] rfl (KB_X6_pour_104 C hTL w32 H_w32 l2 l4 (1 : Int32) l3 s19 T_l2)
      · refine hw_iconst C dX6_pour_99 (v := 0) (by decide) ?_
        refine hw_goto C dX6_pour_100 (tgt := 104) (by decide) ?_
        exact hw_lv [1, 2, 4] rfl (KB_X6_pour_104 C hTL w32 H_w32 l2 l4 (0 : Int32) l3 s19 T_l2)
theorem KL_X6_pour_32 {G : hw_G} (C : hw_Ok G cX6_pour RX6 6 4 (some .int) hw_TH) (hTL : hw_eT (hw_gE G) = hw_TH) : ∀ (n_ : Nat) (l2 : Nat) (l3 : Int32) (l4 : Int32) (s0 : hw_St) (T_l2 : hw_T hw_TH l2 3), hw_K G 6 hw_ri (L_X6_pour_32 n_ l2 l3 l4 s0) 32 [(0, hw_rv (hw_ea (hw_gE G)) 0), (2, hw_rv (hw_ea (hw_gE G)) l2), (3, .int l3), (4, .int l4)] [] s0 := by
  intro n_
  induction n_ with
  | zero => intros; exact hw_nil
  | succ n_ ih => intro l2 l3 l4 s0 T_l2; exact KS_X6_pour_32 C hTL (L_X6_pour_32 n_) ih l2 l3 l4 s0 T_l2
set_option maxRecDepth 20000 in
theorem M_X6_pour (E : hw_E) (hE : hw_eT E = hw_TH) (a1 : Int32) (s0 : hw_St) : hw_M E yX6_pour cX6_pour 6 (some .int) 4 [hw_rv (hw_ea E) 0, .int a1] s0 hw_ri (F_X6_pour a1 s0) := by
  refine hw_entry (own := RX6) (TL := hw_TH) (by decide) rfl hE (hw_cR (hw_cI hw_cN)) (hw_l8 rfl) (fun G hG C => ?_)
  subst hG
  have hTL := hE
  show hw_K G 6 hw_ri _ 0 [(0, hw_rv (hw_ea (hw_gE G)) 0), (1, .int a1)] [] s0
  unfold F_X6_pour
  refine hw_iload_n C dX6_pour_0 rfl 1 rfl ?_
  refine hw_callSi C (M_X6_isSheet (hw_gE G) hTL a1 s0) W_X6_isSheet SS_X6_isSheet mw_554 (by decide) rfl ⟨rfl, hw_l8 rfl⟩ dX6_pour_1 (fun r1 s2 => ?_)
  refine hw_if_ne C dX6_pour_4 (tgt := 10) (by decide) (fun c3 => ?_) (fun c3 => ?_)
  · refine hw_aload_n C dX6_pour_10 rfl 0 rfl ?_
    refine hw_getR C cf_X6 lf_X6_30 hw_T0 (t2 := 14) (by decide) dX6_pour_11 ?_
    refine hw_iload_n C dX6_pour_14 rfl 1 rfl ?_
    refine hw_aaldH (t0 := 6) C hw_T14 (by decide) (fun _ => rfl) (by decide) (by decide) dX6_pour_15 (fun T_4 => ?_)
    refine hw_astore_n C dX6_pour_16 rfl (by decide) rfl ?_
    refine hw_aload_n C dX6_pour_17 rfl 0 rfl ?_
    refine hw_callVi C (M_X3_isMissing (hw_gE G) hTL (hw_el 14 a1.toNatClampNeg) s2) W_X3_isMissing SV_X3_isMissing cf_X3 T_4 mw_557 (by decide) rfl ⟨rfl, hw_l8 rfl⟩ dX6_pour_18 (fun r5 s6 => ?_)
    refine hw_if_eq C dX6_pour_21 (tgt := 27) (by decide) (fun c7 => ?_) (fun c7 => ?_)
    · refine hw_iconst C dX6_pour_27 (v := 0) (by decide) ?_
      refine hw_istore_n C dX6_pour_28 rfl (by decide) rfl ?_
      refine hw_iconst C dX6_pour_29 (v := 0) (by decide) ?_
      refine hw_istore C dX6_pour_30 (by decide) rfl ?_
      exact hw_lv [3, 2, 1, 0] rfl (KL_X6_pour_32 C hTL 130 (hw_el 14 a1.toNatClampNeg) (0 : Int32) (0 : Int32) s6 T_4)
    · refine hw_ldc C mw_553 dX6_pour_24 ?_
      exact hw_iret C dX6_pour_26
  · refine hw_ldc C mw_126 dX6_pour_7 ?_
    exact hw_iret C dX6_pour_9
/-! HumWire reads(II)I, level 4 -/
def B_X6_reads_90  (w45 : Nat → Nat → Int32 → hw_St → Option (Int32 × hw_St)) (l3 : Nat) (l4 : Nat) (l5 : Int32) (s0 : hw_St) : Option (Int32 × hw_St) := w45 l3 l4 (l5 + 1) s0
def S_X6_reads_45  (w45 : Nat → Nat → Int32 → hw_St → Option (Int32 × hw_St)) (l3 : Nat) (l4 : Nat) (l5 : Int32) (s0 : hw_St) : Option (Int32 × hw_St) := if (24 : Int32) ≤ l5 then (some ((-1000000005 : Int32), s0)) else (hw_bd (F_X3_hasNumber l4 l5 s0) (fun r12 s13 => if r12 = 0 then (B_X6_reads_90 w45 l3 l4 l5 s13) else (hw_gd (hw_gH (hw_fl l4 2) 10) (hw_gd (hw_inb l5 (hw_ln (hw_fl l4 2))) (hw_gd (hw_inb l5 24) (hw_gd (hw_gH l3 5) (hw_bd (F_X5_eddy l3 (s13 3 l5.toNatClampNeg) s13) (fun r21 s22 => if (s13 (hw_fl l4 2) l5.toNatClampNeg) = r21 then (B_X6_reads_90 w45 l3 l4 l5 s22) else (some (l5, s22))))))))))
def L_X6_reads_45  : Nat → Nat → Nat → Int32 → hw_St → Option (Int32 × hw_St)
  | 0 => fun _ _ _ _ => none
  | n + 1 => S_X6_reads_45  (L_X6_reads_45  n)
def F_X6_reads  (a1 : Int32) (a2 : Int32) (s0 : hw_St) : Option (Int32 × hw_St) := hw_bd (F_X2_wireAt 1 a2 s0) (fun r1 s2 => hw_bd (F_X6_isSheet a1 s2) (fun r3 s4 => if r3 = 0 then (some ((-1000000001 : Int32), s4)) else (if r1 = 999 then (some ((-1000000001 : Int32), s4)) else (hw_gd (hw_inb a1 4) (hw_gd (hw_gH (hw_el 14 a1.toNatClampNeg) 3) (hw_bd (F_X3_isMissing (hw_el 14 a1.toNatClampNeg) s4) (fun r8 s9 => if r8 = 0 then (L_X6_reads_45 130 r1 (hw_el 14 a1.toNatClampNeg) (0 : Int32) s9) else (some ((-1000000011 : Int32), s9)))))))))
set_option maxRecDepth 20000 in
theorem KB_X6_reads_90 {G : hw_G} (C : hw_Ok G cX6_reads RX6 6 4 (some .int) hw_TH) (hTL : hw_eT (hw_gE G) = hw_TH) (w45 : Nat → Nat → Int32 → hw_St → Option (Int32 × hw_St)) (H_w45 : ∀ (l3 : Nat) (l4 : Nat) (l5 : Int32) (s0 : hw_St) (T_l4 : hw_T hw_TH l4 3), hw_K G 6 hw_ri (w45 l3 l4 l5 s0) 45 [(0, hw_rv (hw_ea (hw_gE G)) 0), (3, hw_rv (hw_ea (hw_gE G)) l3), (4, hw_rv (hw_ea (hw_gE G)) l4), (5, .int l5)] [] s0) (l3 : Nat) (l4 : Nat) (l5 : Int32) (s0 : hw_St) (T_l4 : hw_T hw_TH l4 3) : hw_K G 6 hw_ri (B_X6_reads_90 w45 l3 l4 l5 s0) 90 [(0, hw_rv (hw_ea (hw_gE G)) 0), (3, hw_rv (hw_ea (hw_gE G)) l3), (4, hw_rv (hw_ea (hw_gE G)) l4), (5, .int l5)] [] s0 := by
  unfold B_X6_reads_90
  refine hw_iinc C dX6_reads_90 3 rfl (v := 1) (by decide) (by decide) rfl ?_
  refine hw_goto C dX6_reads_93 (tgt := 45) (by decide) ?_
  exact hw_lv [1, 2, 3, 0] rfl (H_w45 l3 l4 (l5 + 1) s0 T_l4)
set_option maxRecDepth 20000 in
theorem KS_X6_reads_45 {G : hw_G} (C : hw_Ok G cX6_reads RX6 6 4 (some .int) hw_TH) (hTL : hw_eT (hw_gE G) = hw_TH) (w45 : Nat → Nat → Int32 → hw_St → Option (Int32 × hw_St)) (H_w45 : ∀ (l3 : Nat) (l4 : Nat) (l5 : Int32) (s0 : hw_St) (T_l4 : hw_T hw_TH l4 3), hw_K G 6 hw_ri (w45 l3 l4 l5 s0) 45 [(0, hw_rv (hw_ea (hw_gE G)) 0), (3, hw_rv (hw_ea (hw_gE G)) l3), (4, hw_rv (hw_ea (hw_gE G)) l4), (5, .int l5)] [] s0) (l3 : Nat) (l4 : Nat) (l5 : Int32) (s0 : hw_St) (T_l4 : hw_T hw_TH l4 3) : hw_K G 6 hw_ri (S_X6_reads_45 w45 l3 l4 l5 s0) 45 [(0, hw_rv (hw_ea (hw_gE G)) 0), (3, hw_rv (hw_ea (hw_gE G)) l3), (4, hw_rv (hw_ea (hw_gE G)) l4), (5, .int l5)] [] s0 := by
  unfold S_X6_reads_45
  refine hw_iload C dX6_reads_45 3 rfl ?_
  refine hw_bipush C dX6_reads_47 (v := 24) (by decide) ?_
  refine hw_icmp_ge C dX6_reads_49 (tgt := 96) (by decide) (fun c11 => ?_) (fun c11 => ?_)
  · refine hw_ldc C mw_478 dX6_reads_96 ?_
    exact hw_iret C dX6_reads_98
  · refine hw_aload C dX6_reads_52 2 rfl ?_
    refine hw_iload C dX6_reads_54 3 rfl ?_
    refine hw_callVi C (M_X3_hasNumber (hw_gE G) hTL l4 l5 s0) W_X3_hasNumber SV_X3_hasNumber cf_X3 T_l4 mw_566 (by decide) rfl ⟨rfl, hw_l8 rfl⟩ dX6_reads_56 (fun r12 s13 => ?_)
    refine hw_if_eq C dX6_reads_59 (tgt := 90) (by decide) (fun c14 => ?_) (fun c14 => ?_)
    · exact hw_lv [0, 1, 2, 3] rfl (KB_X6_reads_90 C hTL w45 H_w45 l3 l4 l5 s13 T_l4)
    · refine hw_aload C dX6_reads_62 2 rfl ?_
      refine hw_getR C cf_X3 lf_X6_258 T_l4 rfl dX6_reads_64 ?_
      refine hw_iload C dX6_reads_67 3 rfl ?_
      refine hw_gdK (fun h16 => ?_)
      have T_15 := hw_gH_T h16
      refine hw_iald C T_15 rfl dX6_reads_69 (fun h17 => ?_)
      refine hw_aload_n C dX6_reads_70 rfl 1 rfl ?_
      refine hw_aload_n C dX6_reads_71 rfl 0 rfl ?_
      refine hw_getR C cf_X6 lf_X6_59 hw_T0 (t2 := 1) (by decide) dX6_reads_72 ?_
      refine hw_getR C cf_X2 lf_X6_150 hw_T1 (t2 := 3) (by decide) dX6_reads_75 ?_
      refine hw_iload C dX6_reads_78 3 rfl ?_
      refine hw_iald C hw_T3 (by decide) dX6_reads_80 (fun h18 => ?_)
      refine hw_gdK (fun h20 => ?_)
      have T_19 := hw_gH_T h20
      refine hw_callVi C (M_X5_eddy (hw_gE G) hTL l3 (s13 3 l5.toNatClampNeg) s13) W_X5_eddy SV_X5_eddy cf_X5 T_19 mw_335 (by decide) rfl ⟨rfl, hw_l8 rfl⟩ dX6_reads_81 (fun r21 s22 => ?_)
      refine hw_icmp_eq C dX6_reads_84 (tgt := 90) (by decide) (fun c23 => ?_) (fun c23 => ?_)
      · exact hw_lv [0, 1, 2, 3] rfl (KB_X6_reads_90 C hTL w45 H_w45 l3 l4 l5 s22 T_l4)
      · refine hw_iload C dX6_reads_87 3 rfl ?_
        exact hw_iret C dX6_reads_89
theorem KL_X6_reads_45 {G : hw_G} (C : hw_Ok G cX6_reads RX6 6 4 (some .int) hw_TH) (hTL : hw_eT (hw_gE G) = hw_TH) : ∀ (n_ : Nat) (l3 : Nat) (l4 : Nat) (l5 : Int32) (s0 : hw_St) (T_l4 : hw_T hw_TH l4 3), hw_K G 6 hw_ri (L_X6_reads_45 n_ l3 l4 l5 s0) 45 [(0, hw_rv (hw_ea (hw_gE G)) 0), (3, hw_rv (hw_ea (hw_gE G)) l3), (4, hw_rv (hw_ea (hw_gE G)) l4), (5, .int l5)] [] s0 := by
  intro n_
  induction n_ with
  | zero => intros; exact hw_nil
  | succ n_ ih => intro l3 l4 l5 s0 T_l4; exact KS_X6_reads_45 C hTL (L_X6_reads_45 n_) ih l3 l4 l5 s0 T_l4
set_option maxRecDepth 20000 in
theorem M_X6_reads (E : hw_E) (hE : hw_eT E = hw_TH) (a1 : Int32) (a2 : Int32) (s0 : hw_St) : hw_M E yX6_reads cX6_reads 6 (some .int) 4 [hw_rv (hw_ea E) 0, .int a1, .int a2] s0 hw_ri (F_X6_reads a1 a2 s0) := by
  refine hw_entry (own := RX6) (TL := hw_TH) (by decide) rfl hE (hw_cR (hw_cI (hw_cI hw_cN))) (hw_l8 rfl) (fun G hG C => ?_)
  subst hG
  have hTL := hE
  show hw_K G 6 hw_ri _ 0 [(0, hw_rv (hw_ea (hw_gE G)) 0), (1, .int a1), (2, .int a2)] [] s0
  unfold F_X6_reads
  refine hw_aload_n C dX6_reads_0 rfl 0 rfl ?_
  refine hw_getR C cf_X6 lf_X6_59 hw_T0 (t2 := 1) (by decide) dX6_reads_1 ?_
  refine hw_iload_n C dX6_reads_4 rfl 2 rfl ?_
  refine hw_callVq C (M_X2_wireAt (hw_gE G) hTL 1 a2 s0) W_X2_wireAt SV_X2_wireAt cf_X2 hw_T1 mw_174 (by decide) rfl ⟨rfl, hw_l8 rfl⟩ dX6_reads_5 (fun r1 s2 => ?_)
  refine hw_astore_n C dX6_reads_8 rfl (by decide) rfl ?_
  refine hw_iload_n C dX6_reads_9 rfl 2 rfl ?_
  refine hw_callSi C (M_X6_isSheet (hw_gE G) hTL a1 s2) W_X6_isSheet SS_X6_isSheet mw_554 (by decide) rfl ⟨rfl, hw_l8 rfl⟩ dX6_reads_10 (fun r3 s4 => ?_)
  refine hw_if_eq C dX6_reads_13 (tgt := 20) (by decide) (fun c5 => ?_) (fun c5 => ?_)
  · refine hw_ldc C mw_126 dX6_reads_20 ?_
    exact hw_iret C dX6_reads_22
  · refine hw_aload_n C dX6_reads_16 rfl 0 rfl ?_
    refine hw_ifnonnull C dX6_reads_17 (tgt := 23) (by decide) (fun c6 => ?_) (fun c6 => ?_)
    · refine hw_aload_n C dX6_reads_23 rfl 1 rfl ?_
      refine hw_getR C cf_X6 lf_X6_30 hw_T0 (t2 := 14) (by decide) dX6_reads_24 ?_
      refine hw_iload_n C dX6_reads_27 rfl 2 rfl ?_
      refine hw_aaldH (t0 := 6) C hw_T14 (by decide) (fun _ => rfl) (by decide) (by decide) dX6_reads_28 (fun T_7 => ?_)
      refine hw_astore C dX6_reads_29 (by decide) rfl ?_
      refine hw_aload C dX6_reads_31 0 rfl ?_
      refine hw_callVi C (M_X3_isMissing (hw_gE G) hTL (hw_el 14 a1.toNatClampNeg) s4) W_X3_isMissing SV_X3_isMissing cf_X3 T_7 mw_557 (by decide) rfl ⟨rfl, hw_l8 rfl⟩ dX6_reads_33 (fun r8 s9 => ?_)
      refine hw_if_eq C dX6_reads_36 (tgt := 42) (by decide) (fun c10 => ?_) (fun c10 => ?_)
      · refine hw_iconst C dX6_reads_42 (v := 0) (by decide) ?_
        refine hw_istore C dX6_reads_43 (by decide) rfl ?_
        exact hw_lv [3, 2, 1, 0] rfl (KL_X6_reads_45 C hTL 130 r1 (hw_el 14 a1.toNatClampNeg) (0 : Int32) s9 T_7)
      · refine hw_ldc C mw_553 dX6_reads_39 ?_
        exact hw_iret C dX6_reads_41
    · refine hw_ldc C mw_126 dX6_reads_20 ?_
      exact hw_iret C dX6_reads_22
/-! HumWire copy(IIIII)I, level 3 -/
def F_X6_copy  (a1 : Int32) (a2 : Int32) (a3 : Int32) (a4 : Int32) (a5 : Int32) (s0 : hw_St) : Option (Int32 × hw_St) := hw_bd (F_X6_isSheet a1 s0) (fun r1 s2 => if r1 = 0 then (some ((-1000000001 : Int32), s2)) else (hw_bd (F_X6_isSheet a3 s2) (fun r4 s5 => if r4 = 0 then (some ((-1000000001 : Int32), s5)) else (hw_gd (hw_inb a1 4) (hw_gd (hw_gH (hw_el 14 a1.toNatClampNeg) 3) (hw_gd (hw_inb a3 4) (hw_gd (hw_gH (hw_el 14 a3.toNatClampNeg) 3) (hw_bd (F_X3_isMissing (hw_el 14 a1.toNatClampNeg) s5) (fun r9 s10 => if r9 = 0 then (hw_bd (F_X3_isMissing (hw_el 14 a3.toNatClampNeg) s10) (fun r12 s13 => if r12 = 0 then (if (s13 (hw_el 14 a1.toNatClampNeg) 0) = (s13 (hw_el 14 a3.toNatClampNeg) 0) then (hw_bd (F_X3_hasPlaces (hw_el 14 a1.toNatClampNeg) a2 a5 s13) (fun r16 s17 => if r16 = 0 then (some ((-1000000013 : Int32), s17)) else (hw_bd (F_X3_hasPlaces (hw_el 14 a3.toNatClampNeg) a4 a5 s17) (fun r19 s20 => if r19 = 0 then (some ((-1000000013 : Int32), s20)) else (hw_gd (hw_gH (hw_fl (hw_el 14 a1.toNatClampNeg) 2) 10) (hw_gd (hw_gH (hw_fl (hw_el 14 a3.toNatClampNeg) 2) 10) (hw_gd (hw_cpo a2 a4 a5 (hw_ln (hw_fl (hw_el 14 a1.toNatClampNeg) 2)) (hw_ln (hw_fl (hw_el 14 a3.toNatClampNeg) 2))) (hw_nm (hw_upA s20 (hw_fl (hw_el 14 a3.toNatClampNeg) 2) (va_cpy (s20 (hw_fl (hw_el 14 a1.toNatClampNeg) 2)) (s20 (hw_fl (hw_el 14 a3.toNatClampNeg) 2)) a2.toNatClampNeg a4.toNatClampNeg a5.toNatClampNeg)) (fun s26 => some (a5, s26)))))))))) else (some ((-1000000012 : Int32), s13))) else (some ((-1000000011 : Int32), s13)))) else (some ((-1000000011 : Int32), s10)))))))))))
set_option maxRecDepth 20000 in
theorem M_X6_copy (E : hw_E) (hE : hw_eT E = hw_TH) (a1 : Int32) (a2 : Int32) (a3 : Int32) (a4 : Int32) (a5 : Int32) (s0 : hw_St) : hw_M E yX6_copy cX6_copy 8 (some .int) 3 [hw_rv (hw_ea E) 0, .int a1, .int a2, .int a3, .int a4, .int a5] s0 hw_ri (F_X6_copy a1 a2 a3 a4 a5 s0) := by
  refine hw_entry (own := RX6) (TL := hw_TH) (by decide) rfl hE (hw_cR (hw_cI (hw_cI (hw_cI (hw_cI (hw_cI hw_cN)))))) (hw_l8 rfl) (fun G hG C => ?_)
  subst hG
  have hTL := hE
  show hw_K G 8 hw_ri _ 0 [(0, hw_rv (hw_ea (hw_gE G)) 0), (1, .int a1), (2, .int a2), (3, .int a3), (4, .int a4), (5, .int a5)] [] s0
  unfold F_X6_copy
  refine hw_iload_n C dX6_copy_0 rfl 1 rfl ?_
  refine hw_callSi C (M_X6_isSheet (hw_gE G) hTL a1 s0) W_X6_isSheet SS_X6_isSheet mw_554 (by decide) rfl ⟨rfl, hw_l8 rfl⟩ dX6_copy_1 (fun r1 s2 => ?_)
  refine hw_if_eq C dX6_copy_4 (tgt := 14) (by decide) (fun c3 => ?_) (fun c3 => ?_)
  · refine hw_ldc C mw_126 dX6_copy_14 ?_
    exact hw_iret C dX6_copy_16
  · refine hw_iload_n C dX6_copy_7 rfl 3 rfl ?_
    refine hw_callSi C (M_X6_isSheet (hw_gE G) hTL a3 s2) W_X6_isSheet SS_X6_isSheet mw_554 (by decide) rfl ⟨rfl, hw_l8 rfl⟩ dX6_copy_8 (fun r4 s5 => ?_)
    refine hw_if_ne C dX6_copy_11 (tgt := 17) (by decide) (fun c6 => ?_) (fun c6 => ?_)
    · refine hw_aload_n C dX6_copy_17 rfl 0 rfl ?_
      refine hw_getR C cf_X6 lf_X6_30 hw_T0 (t2 := 14) (by decide) dX6_copy_18 ?_
      refine hw_iload_n C dX6_copy_21 rfl 1 rfl ?_
      refine hw_aaldH (t0 := 6) C hw_T14 (by decide) (fun _ => rfl) (by decide) (by decide) dX6_copy_22 (fun T_7 => ?_)
      refine hw_astore C dX6_copy_23 (by decide) rfl ?_
      refine hw_aload_n C dX6_copy_25 rfl 1 rfl ?_
      refine hw_getR C cf_X6 lf_X6_30 hw_T0 (t2 := 14) (by decide) dX6_copy_26 ?_
      refine hw_iload_n C dX6_copy_29 rfl 4 rfl ?_
      refine hw_aaldH (t0 := 6) C hw_T14 (by decide) (fun _ => rfl) (by decide) (by decide) dX6_copy_30 (fun T_8 => ?_)
      refine hw_astore C dX6_copy_31 (by decide) rfl ?_
      refine hw_aload C dX6_copy_33 1 rfl ?_
      refine hw_callVi C (M_X3_isMissing (hw_gE G) hTL (hw_el 14 a1.toNatClampNeg) s5) W_X3_isMissing SV_X3_isMissing cf_X3 T_7 mw_557 (by decide) rfl ⟨rfl, hw_l8 rfl⟩ dX6_copy_35 (fun r9 s10 => ?_)
      refine hw_if_ne C dX6_copy_38 (tgt := 49) (by decide) (fun c11 => ?_) (fun c11 => ?_)
      · refine hw_ldc C mw_553 dX6_copy_49 ?_
        exact hw_iret C dX6_copy_51
      · refine hw_aload C dX6_copy_41 0 rfl ?_
        refine hw_callVi C (M_X3_isMissing (hw_gE G) hTL (hw_el 14 a3.toNatClampNeg) s10) W_X3_isMissing SV_X3_isMissing cf_X3 T_8 mw_557 (by decide) rfl ⟨rfl, hw_l8 rfl⟩ dX6_copy_43 (fun r12 s13 => ?_)
        refine hw_if_eq C dX6_copy_46 (tgt := 52) (by decide) (fun c14 => ?_) (fun c14 => ?_)
        · refine hw_aload C dX6_copy_52 1 rfl ?_
          refine hw_getI C cf_X3 lf_X6_255 T_7 dX6_copy_54 ?_
          refine hw_aload C dX6_copy_57 0 rfl ?_
          refine hw_getI C cf_X3 lf_X6_255 T_8 dX6_copy_59 ?_
          refine hw_icmp_eq C dX6_copy_62 (tgt := 68) (by decide) (fun c15 => ?_) (fun c15 => ?_)
          · refine hw_aload C dX6_copy_68 1 rfl ?_
            refine hw_iload_n C dX6_copy_70 rfl 4 rfl ?_
            refine hw_iload C dX6_copy_71 7 rfl ?_
            refine hw_callVi C (M_X3_hasPlaces (hw_gE G) hTL (hw_el 14 a1.toNatClampNeg) a2 a5 s13) W_X3_hasPlaces SV_X3_hasPlaces cf_X3 T_7 mw_930 (by decide) rfl ⟨rfl, hw_l8 rfl⟩ dX6_copy_73 (fun r16 s17 => ?_)
            refine hw_if_eq C dX6_copy_76 (tgt := 91) (by decide) (fun c18 => ?_) (fun c18 => ?_)
            · refine hw_ldc C mw_895 dX6_copy_91 ?_
              exact hw_iret C dX6_copy_93
            · refine hw_aload C dX6_copy_79 0 rfl ?_
              refine hw_iload C dX6_copy_81 6 rfl ?_
              refine hw_iload C dX6_copy_83 7 rfl ?_
              refine hw_callVi C (M_X3_hasPlaces (hw_gE G) hTL (hw_el 14 a3.toNatClampNeg) a4 a5 s17) W_X3_hasPlaces SV_X3_hasPlaces cf_X3 T_8 mw_930 (by decide) rfl ⟨rfl, hw_l8 rfl⟩ dX6_copy_85 (fun r19 s20 => ?_)
              refine hw_if_ne C dX6_copy_88 (tgt := 94) (by decide) (fun c21 => ?_) (fun c21 => ?_)
              · refine hw_aload C dX6_copy_94 1 rfl ?_
                refine hw_getR C cf_X3 lf_X6_258 T_7 rfl dX6_copy_96 ?_
                refine hw_iload_n C dX6_copy_99 rfl 4 rfl ?_
                refine hw_aload C dX6_copy_100 0 rfl ?_
                refine hw_getR C cf_X3 lf_X6_258 T_8 rfl dX6_copy_102 ?_
                refine hw_iload C dX6_copy_105 6 rfl ?_
                refine hw_iload C dX6_copy_107 7 rfl ?_
                refine hw_gdK (fun h23 => ?_)
                have T_22 := hw_gH_T h23
                refine hw_gdK (fun h25 => ?_)
                have T_24 := hw_gH_T h25
                refine hw_copy C T_22 T_24 rfl rfl mw_926 copyw (hw_l8 rfl) dX6_copy_109 (fun s26 => ?_)
                refine hw_iload C dX6_copy_112 7 rfl ?_
                exact hw_iret C dX6_copy_114
              · refine hw_ldc C mw_895 dX6_copy_91 ?_
                exact hw_iret C dX6_copy_93
          · refine hw_ldc C mw_210 dX6_copy_65 ?_
            exact hw_iret C dX6_copy_67
        · refine hw_ldc C mw_553 dX6_copy_49 ?_
          exact hw_iret C dX6_copy_51
    · refine hw_ldc C mw_126 dX6_copy_14 ?_
      exact hw_iret C dX6_copy_16
/-! HumWire lay(III)I, level 3 -/
def B_X6_lay_70  (l1 : Int32) (l2 : Int32) (l3 : Int32) (s0 : hw_St) : Option (Int32 × hw_St) := hw_gd (hw_inb l1 5) (hw_gd (hw_gH (hw_el 15 l1.toNatClampNeg) 4) (hw_nm (s0 (hw_el 15 l1.toNatClampNeg) 0) (fun x21 => hw_nm (hw_up s0 (hw_el 15 l1.toNatClampNeg) 0 l2) (fun s22 => if l2 = (1 : Int32) then (hw_gd (hw_inb l3 6) (hw_gd (hw_gH (hw_el 5 l3.toNatClampNeg) 5) (hw_gd (hw_gH (hw_fl (hw_el 15 l1.toNatClampNeg) 2) 5) (hw_bd (F_X5_become (hw_fl (hw_el 15 l1.toNatClampNeg) 2) (hw_el 5 l3.toNatClampNeg) s22) (fun _ s36 => some (x21, s36)))))) else (if l2 = (2 : Int32) then (hw_gd (hw_inb l3 4) (hw_gd (hw_gH (hw_el 14 l3.toNatClampNeg) 3) (hw_gd (hw_gH (hw_fl (hw_el 15 l1.toNatClampNeg) 3) 3) (hw_bd (F_X3_become (hw_fl (hw_el 15 l1.toNatClampNeg) 3) (hw_el 14 l3.toNatClampNeg) s22) (fun _ s31 => some (x21, s31)))))) else (if l2 = (3 : Int32) then (hw_nm (hw_up s22 (hw_el 15 l1.toNatClampNeg) 1 l3) (fun s26 => some (x21, s26))) else (some (x21, s22))))))))
def B_X6_lay_50  (l1 : Int32) (l2 : Int32) (l3 : Int32) (s0 : hw_St) : Option (Int32 × hw_St) := if l2 = (2 : Int32) then (hw_gd (hw_inb l3 4) (hw_gd (hw_gH (hw_el 14 l3.toNatClampNeg) 3) (hw_bd (F_X3_isMissing (hw_el 14 l3.toNatClampNeg) s0) (fun r17 s18 => if r17 = 0 then (B_X6_lay_70 l1 l2 l3 s18) else (some ((-1000000011 : Int32), s18)))))) else (B_X6_lay_70 l1 l2 l3 s0)
def B_X6_lay_35  (l1 : Int32) (l2 : Int32) (l3 : Int32) (s0 : hw_St) : Option (Int32 × hw_St) := if l2 = (2 : Int32) then (hw_bd (F_X6_isSheet l3 s0) (fun r12 s13 => if r12 = 0 then (some ((-1000000001 : Int32), s13)) else (B_X6_lay_50 l1 l2 l3 s13))) else (B_X6_lay_50 l1 l2 l3 s0)
def F_X6_lay  (a1 : Int32) (a2 : Int32) (a3 : Int32) (s0 : hw_St) : Option (Int32 × hw_St) := hw_bd (F_X6_isSlot a1 s0) (fun r1 s2 => if r1 = 0 then (some ((-1000000001 : Int32), s2)) else (hw_bd (F_X6_isWithin a2 (0 : Int32) (3 : Int32) s2) (fun r4 s5 => if r4 = 0 then (some ((-1000000001 : Int32), s5)) else (if a2 = (1 : Int32) then (hw_bd (F_X2_wireAt 1 a3 s5) (fun r8 s9 => if r8 = 999 then (some ((-1000000001 : Int32), s9)) else (B_X6_lay_35 a1 a2 a3 s9))) else (B_X6_lay_35 a1 a2 a3 s5)))))
set_option maxRecDepth 20000 in
theorem KB_X6_lay_70 {G : hw_G} (C : hw_Ok G cX6_lay RX6 6 3 (some .int) hw_TH) (hTL : hw_eT (hw_gE G) = hw_TH) (l1 : Int32) (l2 : Int32) (l3 : Int32) (s0 : hw_St) : hw_K G 6 hw_ri (B_X6_lay_70 l1 l2 l3 s0) 70 [(0, hw_rv (hw_ea (hw_gE G)) 0), (1, .int l1), (2, .int l2), (3, .int l3)] [] s0 := by
  unfold B_X6_lay_70
  refine hw_aload_n C dX6_lay_70 rfl 0 rfl ?_
  refine hw_getR C cf_X6 lf_X6_36 hw_T0 (t2 := 15) (by decide) dX6_lay_71 ?_
  refine hw_iload_n C dX6_lay_74 rfl 1 rfl ?_
  refine hw_aaldH (t0 := 7) C hw_T15 (by decide) (fun _ => rfl) (by decide) (by decide) dX6_lay_75 (fun T_20 => ?_)
  refine hw_astore C dX6_lay_76 (by decide) rfl ?_
  refine hw_aload C dX6_lay_78 0 rfl ?_
  refine hw_getI C cf_X4 lf_X6_281 T_20 dX6_lay_80 ?_
  refine hw_istoreN C dX6_lay_83 (by decide) (fun _ => rfl) (fun x21 => ?_)
  refine hw_aload C dX6_lay_85 1 rfl ?_
  refine hw_iload_n C dX6_lay_87 rfl 4 rfl ?_
  refine hw_putI C cf_X4 lf_X6_281 T_20 rfl rfl dX6_lay_88 (fun s22 => ?_)
  refine hw_iload_n C dX6_lay_91 rfl 4 rfl ?_
  refine hw_iconst C dX6_lay_92 (v := 1) (by decide) ?_
  refine hw_icmp_ne C dX6_lay_93 (tgt := 116) (by decide) (fun c23 => ?_) (fun c23 => ?_)
  · refine hw_iload_n C dX6_lay_116 rfl 4 rfl ?_
    refine hw_iconst C dX6_lay_117 (v := 2) (by decide) ?_
    refine hw_icmp_ne C dX6_lay_118 (tgt := 138) (by decide) (fun c24 => ?_) (fun c24 => ?_)
    · refine hw_iload_n C dX6_lay_138 rfl 4 rfl ?_
      refine hw_iconst C dX6_lay_139 (v := 3) (by decide) ?_
      refine hw_icmp_ne C dX6_lay_140 (tgt := 149) (by decide) (fun c25 => ?_) (fun c25 => ?_)
      · refine hw_iload C dX6_lay_149 0 rfl ?_
        exact hw_iret C dX6_lay_151
      · refine hw_aload C dX6_lay_143 1 rfl ?_
        refine hw_iload_n C dX6_lay_145 rfl 5 rfl ?_
        refine hw_putI C cf_X4 lf_X6_294 T_20 rfl rfl dX6_lay_146 (fun s26 => ?_)
        refine hw_iload C dX6_lay_149 0 rfl ?_
        exact hw_iret C dX6_lay_151
    · refine hw_aload C dX6_lay_121 1 rfl ?_
      refine hw_getR C cf_X4 lf_X6_287 T_20 rfl dX6_lay_123 ?_
      refine hw_aload_n C dX6_lay_126 rfl 2 rfl ?_
      refine hw_getR C cf_X6 lf_X6_30 hw_T0 (t2 := 14) (by decide) dX6_lay_127 ?_
      refine hw_iload_n C dX6_lay_130 rfl 5 rfl ?_
      refine hw_aaldH (t0 := 6) C hw_T14 (by decide) (fun _ => rfl) (by decide) (by decide) dX6_lay_131 (fun T_27 => ?_)
      refine hw_gdK (fun h29 => ?_)
      have T_28 := hw_gH_T h29
      refine hw_callVv C (M_X3_become (hw_gE G) hTL (hw_fl (hw_el 15 l1.toNatClampNeg) 3) (hw_el 14 l3.toNatClampNeg) s22) W_X3_become SV_X3_become cf_X3 T_28 mw_949 (by decide) rfl ⟨rfl, hw_l8 rfl⟩ dX6_lay_132 (fun r30 s31 => ?_)
      refine hw_goto C dX6_lay_135 (tgt := 149) (by decide) ?_
      refine hw_iload C dX6_lay_149 0 rfl ?_
      exact hw_iret C dX6_lay_151
  · refine hw_aload C dX6_lay_96 1 rfl ?_
    refine hw_getR C cf_X4 lf_X6_284 T_20 rfl dX6_lay_98 ?_
    refine hw_aload_n C dX6_lay_101 rfl 2 rfl ?_
    refine hw_getR C cf_X6 lf_X6_59 hw_T0 (t2 := 1) (by decide) dX6_lay_102 ?_
    refine hw_getR C cf_X2 lf_X6_92 hw_T1 (t2 := 5) (by decide) dX6_lay_105 ?_
    refine hw_iload_n C dX6_lay_108 rfl 5 rfl ?_
    refine hw_aaldH (t0 := 5) C hw_T5 (by decide) (fun _ => rfl) (by decide) (by decide) dX6_lay_109 (fun T_32 => ?_)
    refine hw_gdK (fun h34 => ?_)
    have T_33 := hw_gH_T h34
    refine hw_callVv C (M_X5_become (hw_gE G) hTL (hw_fl (hw_el 15 l1.toNatClampNeg) 2) (hw_el 5 l3.toNatClampNeg) s22) W_X5_become SV_X5_become cf_X5 T_33 mw_470 (by decide) rfl ⟨rfl, hw_l8 rfl⟩ dX6_lay_110 (fun r35 s36 => ?_)
    refine hw_goto C dX6_lay_113 (tgt := 149) (by decide) ?_
    refine hw_iload C dX6_lay_149 0 rfl ?_
    exact hw_iret C dX6_lay_151
set_option maxRecDepth 20000 in
theorem KB_X6_lay_50 {G : hw_G} (C : hw_Ok G cX6_lay RX6 6 3 (some .int) hw_TH) (hTL : hw_eT (hw_gE G) = hw_TH) (l1 : Int32) (l2 : Int32) (l3 : Int32) (s0 : hw_St) : hw_K G 6 hw_ri (B_X6_lay_50 l1 l2 l3 s0) 50 [(0, hw_rv (hw_ea (hw_gE G)) 0), (1, .int l1), (2, .int l2), (3, .int l3)] [] s0 := by
  unfold B_X6_lay_50
  refine hw_iload_n C dX6_lay_50 rfl 2 rfl ?_
  refine hw_iconst C dX6_lay_51 (v := 2) (by decide) ?_
  refine hw_icmp_ne C dX6_lay_52 (tgt := 70) (by decide) (fun c15 => ?_) (fun c15 => ?_)
  · exact hw_lv [0, 1, 2, 3] rfl (KB_X6_lay_70 C hTL l1 l2 l3 s0)
  · refine hw_aload_n C dX6_lay_55 rfl 0 rfl ?_
    refine hw_getR C cf_X6 lf_X6_30 hw_T0 (t2 := 14) (by decide) dX6_lay_56 ?_
    refine hw_iload_n C dX6_lay_59 rfl 3 rfl ?_
    refine hw_aaldH (t0 := 6) C hw_T14 (by decide) (fun _ => rfl) (by decide) (by decide) dX6_lay_60 (fun T_16 => ?_)
    refine hw_callVi C (M_X3_isMissing (hw_gE G) hTL (hw_el 14 l3.toNatClampNeg) s0) W_X3_isMissing SV_X3_isMissing cf_X3 T_16 mw_557 (by decide) rfl ⟨rfl, hw_l8 rfl⟩ dX6_lay_61 (fun r17 s18 => ?_)
    refine hw_if_eq C dX6_lay_64 (tgt := 70) (by decide) (fun c19 => ?_) (fun c19 => ?_)
    · exact hw_lv [0, 1, 2, 3] rfl (KB_X6_lay_70 C hTL l1 l2 l3 s18)
    · refine hw_ldc C mw_553 dX6_lay_67 ?_
      exact hw_iret C dX6_lay_69
set_option maxRecDepth 20000 in
theorem KB_X6_lay_35 {G : hw_G} (C : hw_Ok G cX6_lay RX6 6 3 (some .int) hw_TH) (hTL : hw_eT (hw_gE G) = hw_TH) (l1 : Int32) (l2 : Int32) (l3 : Int32) (s0 : hw_St) : hw_K G 6 hw_ri (B_X6_lay_35 l1 l2 l3 s0) 35 [(0, hw_rv (hw_ea (hw_gE G)) 0), (1, .int l1), (2, .int l2), (3, .int l3)] [] s0 := by
  unfold B_X6_lay_35
  refine hw_iload_n C dX6_lay_35 rfl 2 rfl ?_
  refine hw_iconst C dX6_lay_36 (v := 2) (by decide) ?_
  refine hw_icmp_ne C dX6_lay_37 (tgt := 50) (by decide) (fun c11 => ?_) (fun c11 => ?_)
  · exact hw_lv [0, 1, 2, 3] rfl (KB_X6_lay_50 C hTL l1 l2 l3 s0)
  · refine hw_iload_n C dX6_lay_40 rfl 3 rfl ?_
    refine hw_callSi C (M_X6_isSheet (hw_gE G) hTL l3 s0) W_X6_isSheet SS_X6_isSheet mw_554 (by decide) rfl ⟨rfl, hw_l8 rfl⟩ dX6_lay_41 (fun r12 s13 => ?_)
    refine hw_if_ne C dX6_lay_44 (tgt := 50) (by decide) (fun c14 => ?_) (fun c14 => ?_)
    · exact hw_lv [0, 1, 2, 3] rfl (KB_X6_lay_50 C hTL l1 l2 l3 s13)
    · refine hw_ldc C mw_126 dX6_lay_47 ?_
      exact hw_iret C dX6_lay_49
set_option maxRecDepth 20000 in
theorem M_X6_lay (E : hw_E) (hE : hw_eT E = hw_TH) (a1 : Int32) (a2 : Int32) (a3 : Int32) (s0 : hw_St) : hw_M E yX6_lay cX6_lay 6 (some .int) 3 [hw_rv (hw_ea E) 0, .int a1, .int a2, .int a3] s0 hw_ri (F_X6_lay a1 a2 a3 s0) := by
  refine hw_entry (own := RX6) (TL := hw_TH) (by decide) rfl hE (hw_cR (hw_cI (hw_cI (hw_cI hw_cN)))) (hw_l8 rfl) (fun G hG C => ?_)
  subst hG
  have hTL := hE
  show hw_K G 6 hw_ri _ 0 [(0, hw_rv (hw_ea (hw_gE G)) 0), (1, .int a1), (2, .int a2), (3, .int a3)] [] s0
  unfold F_X6_lay
  refine hw_iload_n C dX6_lay_0 rfl 1 rfl ?_
  refine hw_callSi C (M_X6_isSlot (hw_gE G) hTL a1 s0) W_X6_isSlot SS_X6_isSlot mw_946 (by decide) rfl ⟨rfl, hw_l8 rfl⟩ dX6_lay_1 (fun r1 s2 => ?_)
  refine hw_if_eq C dX6_lay_4 (tgt := 16) (by decide) (fun c3 => ?_) (fun c3 => ?_)
  · refine hw_ldc C mw_126 dX6_lay_16 ?_
    exact hw_iret C dX6_lay_18
  · refine hw_iload_n C dX6_lay_7 rfl 2 rfl ?_
    refine hw_iconst C dX6_lay_8 (v := 0) (by decide) ?_
    refine hw_iconst C dX6_lay_9 (v := 3) (by decide) ?_
    refine hw_callSi C (M_X6_isWithin (hw_gE G) hTL a2 (0 : Int32) (3 : Int32) s2) W_X6_isWithin SS_X6_isWithin mw_133 (by decide) rfl ⟨rfl, hw_l8 rfl⟩ dX6_lay_10 (fun r4 s5 => ?_)
    refine hw_if_ne C dX6_lay_13 (tgt := 19) (by decide) (fun c6 => ?_) (fun c6 => ?_)
    · refine hw_iload_n C dX6_lay_19 rfl 2 rfl ?_
      refine hw_iconst C dX6_lay_20 (v := 1) (by decide) ?_
      refine hw_icmp_ne C dX6_lay_21 (tgt := 35) (by decide) (fun c7 => ?_) (fun c7 => ?_)
      · exact hw_lv [0, 1, 2, 3] rfl (KB_X6_lay_35 C hTL a1 a2 a3 s5)
      · refine hw_aload_n C dX6_lay_24 rfl 0 rfl ?_
        refine hw_getR C cf_X6 lf_X6_59 hw_T0 (t2 := 1) (by decide) dX6_lay_25 ?_
        refine hw_iload_n C dX6_lay_28 rfl 3 rfl ?_
        refine hw_callVq C (M_X2_wireAt (hw_gE G) hTL 1 a3 s5) W_X2_wireAt SV_X2_wireAt cf_X2 hw_T1 mw_174 (by decide) rfl ⟨rfl, hw_l8 rfl⟩ dX6_lay_29 (fun r8 s9 => ?_)
        refine hw_ifnull C dX6_lay_32 (tgt := 47) (by decide) (fun c10 => ?_) (fun c10 => ?_)
        · refine hw_ldc C mw_126 dX6_lay_47 ?_
          exact hw_iret C dX6_lay_49
        · exact hw_lv [0, 1, 2, 3] rfl (KB_X6_lay_35 C hTL a1 a2 a3 s9)
    · refine hw_ldc C mw_126 dX6_lay_16 ?_
      exact hw_iret C dX6_lay_18
/-! HumWire ask(II)I, level 4 -/
def F_X6_ask  (a1 : Int32) (a2 : Int32) (s0 : hw_St) : Option (Int32 × hw_St) := hw_bd (F_X6_isSlot a1 s0) (fun r1 s2 => if r1 = 0 then (some ((-1000000001 : Int32), s2)) else (hw_bd (F_X6_isKind a2 s2) (fun r4 s5 => if r4 = 0 then (some ((-1000000001 : Int32), s5)) else (hw_gd (hw_inb a1 5) (hw_gd (hw_gH (hw_el 15 a1.toNatClampNeg) 4) (hw_bd (F_X4_findingFor (hw_el 15 a1.toNatClampNeg) (1 : Int32) s5) (fun r8 s9 => if r8 = 0 then (hw_gd (hw_gH (hw_fl (hw_el 15 a1.toNatClampNeg) 2) 5) (hw_bd (F_X6_isOfKind (s9 (hw_fl (hw_el 15 a1.toNatClampNeg) 2) 0) a2 s9) (fun r13 s14 => if r13 = 0 then (some ((-1000000012 : Int32), s14)) else (hw_bd (F_X5_worth (hw_fl (hw_el 15 a1.toNatClampNeg) 2) s14) (fun r16 s17 => some (r16, s17)))))) else (some (r8, s9)))))))))
set_option maxRecDepth 20000 in
theorem M_X6_ask (E : hw_E) (hE : hw_eT E = hw_TH) (a1 : Int32) (a2 : Int32) (s0 : hw_St) : hw_M E yX6_ask cX6_ask 5 (some .int) 4 [hw_rv (hw_ea E) 0, .int a1, .int a2] s0 hw_ri (F_X6_ask a1 a2 s0) := by
  refine hw_entry (own := RX6) (TL := hw_TH) (by decide) rfl hE (hw_cR (hw_cI (hw_cI hw_cN))) (hw_l8 rfl) (fun G hG C => ?_)
  subst hG
  have hTL := hE
  show hw_K G 5 hw_ri _ 0 [(0, hw_rv (hw_ea (hw_gE G)) 0), (1, .int a1), (2, .int a2)] [] s0
  unfold F_X6_ask
  refine hw_iload_n C dX6_ask_0 rfl 1 rfl ?_
  refine hw_callSi C (M_X6_isSlot (hw_gE G) hTL a1 s0) W_X6_isSlot SS_X6_isSlot mw_946 (by decide) rfl ⟨rfl, hw_l8 rfl⟩ dX6_ask_1 (fun r1 s2 => ?_)
  refine hw_if_eq C dX6_ask_4 (tgt := 14) (by decide) (fun c3 => ?_) (fun c3 => ?_)
  · refine hw_ldc C mw_126 dX6_ask_14 ?_
    exact hw_iret C dX6_ask_16
  · refine hw_iload_n C dX6_ask_7 rfl 2 rfl ?_
    refine hw_callSi C (M_X6_isKind (hw_gE G) hTL a2 s2) W_X6_isKind SS_X6_isKind mw_130 (by decide) rfl ⟨rfl, hw_l8 rfl⟩ dX6_ask_8 (fun r4 s5 => ?_)
    refine hw_if_ne C dX6_ask_11 (tgt := 17) (by decide) (fun c6 => ?_) (fun c6 => ?_)
    · refine hw_aload_n C dX6_ask_17 rfl 0 rfl ?_
      refine hw_getR C cf_X6 lf_X6_36 hw_T0 (t2 := 15) (by decide) dX6_ask_18 ?_
      refine hw_iload_n C dX6_ask_21 rfl 1 rfl ?_
      refine hw_aaldH (t0 := 7) C hw_T15 (by decide) (fun _ => rfl) (by decide) (by decide) dX6_ask_22 (fun T_7 => ?_)
      refine hw_astore_n C dX6_ask_23 rfl (by decide) rfl ?_
      refine hw_aload_n C dX6_ask_24 rfl 0 rfl ?_
      refine hw_iconst C dX6_ask_25 (v := 1) (by decide) ?_
      refine hw_callVi C (M_X4_findingFor (hw_gE G) hTL (hw_el 15 a1.toNatClampNeg) (1 : Int32) s5) W_X4_findingFor SV_X4_findingFor cf_X4 T_7 mw_965 (by decide) rfl ⟨rfl, hw_l8 rfl⟩ dX6_ask_26 (fun r8 s9 => ?_)
      refine hw_istore C dX6_ask_29 (by decide) rfl ?_
      refine hw_iload C dX6_ask_31 0 rfl ?_
      refine hw_if_eq C dX6_ask_33 (tgt := 39) (by decide) (fun c10 => ?_) (fun c10 => ?_)
      · refine hw_aload_n C dX6_ask_39 rfl 1 rfl ?_
        refine hw_getR C cf_X4 lf_X6_284 T_7 rfl dX6_ask_40 ?_
        refine hw_gdK (fun h12 => ?_)
        have T_11 := hw_gH_T h12
        refine hw_getI C cf_X5 lf_X6_104 T_11 dX6_ask_43 ?_
        refine hw_iload_n C dX6_ask_46 rfl 4 rfl ?_
        refine hw_callSi C (M_X6_isOfKind (hw_gE G) hTL (s9 (hw_fl (hw_el 15 a1.toNatClampNeg) 2) 0) a2 s9) W_X6_isOfKind SS_X6_isOfKind mw_211 (by decide) rfl ⟨rfl, hw_l8 rfl⟩ dX6_ask_47 (fun r13 s14 => ?_)
        refine hw_if_eq C dX6_ask_50 (tgt := 63) (by decide) (fun c15 => ?_) (fun c15 => ?_)
        · refine hw_ldc C mw_210 dX6_ask_63 ?_
          exact hw_iret C dX6_ask_65
        · refine hw_aload_n C dX6_ask_53 rfl 1 rfl ?_
          refine hw_getR C cf_X4 lf_X6_284 T_7 rfl dX6_ask_54 ?_
          refine hw_callVi C (M_X5_worth (hw_gE G) hTL (hw_fl (hw_el 15 a1.toNatClampNeg) 2) s14) W_X5_worth SV_X5_worth cf_X5 T_11 mw_182 (by decide) rfl ⟨rfl, hw_l8 rfl⟩ dX6_ask_57 (fun r16 s17 => ?_)
          refine hw_goto C dX6_ask_60 (tgt := 65) (by decide) ?_
          exact hw_iret C dX6_ask_65
      · refine hw_iload C dX6_ask_36 0 rfl ?_
        exact hw_iret C dX6_ask_38
    · refine hw_ldc C mw_126 dX6_ask_14 ?_
      exact hw_iret C dX6_ask_16
/-! HumWire item(II)I, level 4 -/
def F_X6_item  (a1 : Int32) (a2 : Int32) (s0 : hw_St) : Option (Int32 × hw_St) := hw_bd (F_X6_isSlot a1 s0) (fun r1 s2 => if r1 = 0 then (some ((-1000000001 : Int32), s2)) else (hw_gd (hw_inb a1 5) (hw_gd (hw_gH (hw_el 15 a1.toNatClampNeg) 4) (hw_bd (F_X4_findingFor (hw_el 15 a1.toNatClampNeg) (2 : Int32) s2) (fun r5 s6 => if r5 = 0 then (hw_gd (hw_gH (hw_fl (hw_el 15 a1.toNatClampNeg) 3) 3) (hw_bd (F_X3_hasPlace (hw_fl (hw_el 15 a1.toNatClampNeg) 3) a2 s6) (fun r10 s11 => if r10 = 0 then (some ((-1000000013 : Int32), s11)) else (hw_bd (F_X3_hasNumber (hw_fl (hw_el 15 a1.toNatClampNeg) 3) a2 s11) (fun r13 s14 => if r13 = 0 then (some ((-1000000012 : Int32), s14)) else (hw_gd (hw_gH (hw_fl (hw_fl (hw_el 15 a1.toNatClampNeg) 3) 2) 10) (hw_gd (hw_inb a2 (hw_ln (hw_fl (hw_fl (hw_el 15 a1.toNatClampNeg) 3) 2))) (some ((s14 (hw_fl (hw_fl (hw_el 15 a1.toNatClampNeg) 3) 2) a2.toNatClampNeg), s14))))))))) else (some (r5, s6)))))))
set_option maxRecDepth 20000 in
theorem M_X6_item (E : hw_E) (hE : hw_eT E = hw_TH) (a1 : Int32) (a2 : Int32) (s0 : hw_St) : hw_M E yX6_item cX6_item 5 (some .int) 4 [hw_rv (hw_ea E) 0, .int a1, .int a2] s0 hw_ri (F_X6_item a1 a2 s0) := by
  refine hw_entry (own := RX6) (TL := hw_TH) (by decide) rfl hE (hw_cR (hw_cI (hw_cI hw_cN))) (hw_l8 rfl) (fun G hG C => ?_)
  subst hG
  have hTL := hE
  show hw_K G 5 hw_ri _ 0 [(0, hw_rv (hw_ea (hw_gE G)) 0), (1, .int a1), (2, .int a2)] [] s0
  unfold F_X6_item
  refine hw_iload_n C dX6_item_0 rfl 1 rfl ?_
  refine hw_callSi C (M_X6_isSlot (hw_gE G) hTL a1 s0) W_X6_isSlot SS_X6_isSlot mw_946 (by decide) rfl ⟨rfl, hw_l8 rfl⟩ dX6_item_1 (fun r1 s2 => ?_)
  refine hw_if_ne C dX6_item_4 (tgt := 10) (by decide) (fun c3 => ?_) (fun c3 => ?_)
  · refine hw_aload_n C dX6_item_10 rfl 0 rfl ?_
    refine hw_getR C cf_X6 lf_X6_36 hw_T0 (t2 := 15) (by decide) dX6_item_11 ?_
    refine hw_iload_n C dX6_item_14 rfl 1 rfl ?_
    refine hw_aaldH (t0 := 7) C hw_T15 (by decide) (fun _ => rfl) (by decide) (by decide) dX6_item_15 (fun T_4 => ?_)
    refine hw_astore_n C dX6_item_16 rfl (by decide) rfl ?_
    refine hw_aload_n C dX6_item_17 rfl 0 rfl ?_
    refine hw_iconst C dX6_item_18 (v := 2) (by decide) ?_
    refine hw_callVi C (M_X4_findingFor (hw_gE G) hTL (hw_el 15 a1.toNatClampNeg) (2 : Int32) s2) W_X4_findingFor SV_X4_findingFor cf_X4 T_4 mw_965 (by decide) rfl ⟨rfl, hw_l8 rfl⟩ dX6_item_19 (fun r5 s6 => ?_)
    refine hw_istore C dX6_item_22 (by decide) rfl ?_
    refine hw_iload C dX6_item_24 0 rfl ?_
    refine hw_if_eq C dX6_item_26 (tgt := 32) (by decide) (fun c7 => ?_) (fun c7 => ?_)
    · refine hw_aload_n C dX6_item_32 rfl 1 rfl ?_
      refine hw_getR C cf_X4 lf_X6_287 T_4 rfl dX6_item_33 ?_
      refine hw_iload_n C dX6_item_36 rfl 4 rfl ?_
      refine hw_gdK (fun h9 => ?_)
      have T_8 := hw_gH_T h9
      refine hw_callVi C (M_X3_hasPlace (hw_gE G) hTL (hw_fl (hw_el 15 a1.toNatClampNeg) 3) a2 s6) W_X3_hasPlace SV_X3_hasPlace cf_X3 T_8 mw_898 (by decide) rfl ⟨rfl, hw_l8 rfl⟩ dX6_item_37 (fun r10 s11 => ?_)
      refine hw_if_ne C dX6_item_40 (tgt := 46) (by decide) (fun c12 => ?_) (fun c12 => ?_)
      · refine hw_aload_n C dX6_item_46 rfl 1 rfl ?_
        refine hw_getR C cf_X4 lf_X6_287 T_4 rfl dX6_item_47 ?_
        refine hw_iload_n C dX6_item_50 rfl 4 rfl ?_
        refine hw_callVi C (M_X3_hasNumber (hw_gE G) hTL (hw_fl (hw_el 15 a1.toNatClampNeg) 3) a2 s11) W_X3_hasNumber SV_X3_hasNumber cf_X3 T_8 mw_566 (by decide) rfl ⟨rfl, hw_l8 rfl⟩ dX6_item_51 (fun r13 s14 => ?_)
        refine hw_if_eq C dX6_item_54 (tgt := 69) (by decide) (fun c15 => ?_) (fun c15 => ?_)
        · refine hw_ldc C mw_210 dX6_item_69 ?_
          exact hw_iret C dX6_item_71
        · refine hw_aload_n C dX6_item_57 rfl 1 rfl ?_
          refine hw_getR C cf_X4 lf_X6_287 T_4 rfl dX6_item_58 ?_
          refine hw_getR C cf_X3 lf_X6_258 T_8 rfl dX6_item_61 ?_
          refine hw_iload_n C dX6_item_64 rfl 4 rfl ?_
          refine hw_gdK (fun h17 => ?_)
          have T_16 := hw_gH_T h17
          refine hw_iald C T_16 rfl dX6_item_65 (fun h18 => ?_)
          refine hw_goto C dX6_item_66 (tgt := 71) (by decide) ?_
          exact hw_iret C dX6_item_71
      · refine hw_ldc C mw_895 dX6_item_43 ?_
        exact hw_iret C dX6_item_45
    · refine hw_iload C dX6_item_29 0 rfl ?_
      exact hw_iret C dX6_item_31
  · refine hw_ldc C mw_126 dX6_item_7 ?_
    exact hw_iret C dX6_item_9
/-! HumWire rest(II)I, level 3 -/
def F_X6_rest  (a1 : Int32) (a2 : Int32) (s0 : hw_St) : Option (Int32 × hw_St) := hw_bd (F_X6_isSlot a1 s0) (fun r1 s2 => if r1 = 0 then (some ((-1000000001 : Int32), s2)) else (hw_gd (hw_inb a1 5) (hw_gd (hw_gH (hw_el 15 a1.toNatClampNeg) 4) (hw_bd (F_X4_findingFor (hw_el 15 a1.toNatClampNeg) (3 : Int32) s2) (fun r5 s6 => if r5 = 0 then (if a2 = 0 then (some ((-1000000002 : Int32), s6)) else (hw_gd (hw_nz a2) (some ((hw_rem (s6 (hw_el 15 a1.toNatClampNeg) 1) a2), s6)))) else (some (r5, s6)))))))
set_option maxRecDepth 20000 in
theorem M_X6_rest (E : hw_E) (hE : hw_eT E = hw_TH) (a1 : Int32) (a2 : Int32) (s0 : hw_St) : hw_M E yX6_rest cX6_rest 5 (some .int) 3 [hw_rv (hw_ea E) 0, .int a1, .int a2] s0 hw_ri (F_X6_rest a1 a2 s0) := by
  refine hw_entry (own := RX6) (TL := hw_TH) (by decide) rfl hE (hw_cR (hw_cI (hw_cI hw_cN))) (hw_l8 rfl) (fun G hG C => ?_)
  subst hG
  have hTL := hE
  show hw_K G 5 hw_ri _ 0 [(0, hw_rv (hw_ea (hw_gE G)) 0), (1, .int a1), (2, .int a2)] [] s0
  unfold F_X6_rest
  refine hw_iload_n C dX6_rest_0 rfl 1 rfl ?_
  refine hw_callSi C (M_X6_isSlot (hw_gE G) hTL a1 s0) W_X6_isSlot SS_X6_isSlot mw_946 (by decide) rfl ⟨rfl, hw_l8 rfl⟩ dX6_rest_1 (fun r1 s2 => ?_)
  refine hw_if_ne C dX6_rest_4 (tgt := 10) (by decide) (fun c3 => ?_) (fun c3 => ?_)
  · refine hw_aload_n C dX6_rest_10 rfl 0 rfl ?_
    refine hw_getR C cf_X6 lf_X6_36 hw_T0 (t2 := 15) (by decide) dX6_rest_11 ?_
    refine hw_iload_n C dX6_rest_14 rfl 1 rfl ?_
    refine hw_aaldH (t0 := 7) C hw_T15 (by decide) (fun _ => rfl) (by decide) (by decide) dX6_rest_15 (fun T_4 => ?_)
    refine hw_astore_n C dX6_rest_16 rfl (by decide) rfl ?_
    refine hw_aload_n C dX6_rest_17 rfl 0 rfl ?_
    refine hw_iconst C dX6_rest_18 (v := 3) (by decide) ?_
    refine hw_callVi C (M_X4_findingFor (hw_gE G) hTL (hw_el 15 a1.toNatClampNeg) (3 : Int32) s2) W_X4_findingFor SV_X4_findingFor cf_X4 T_4 mw_965 (by decide) rfl ⟨rfl, hw_l8 rfl⟩ dX6_rest_19 (fun r5 s6 => ?_)
    refine hw_istore C dX6_rest_22 (by decide) rfl ?_
    refine hw_iload C dX6_rest_24 0 rfl ?_
    refine hw_if_eq C dX6_rest_26 (tgt := 32) (by decide) (fun c7 => ?_) (fun c7 => ?_)
    · refine hw_iload_n C dX6_rest_32 rfl 4 rfl ?_
      refine hw_if_ne C dX6_rest_33 (tgt := 42) (by decide) (fun c8 => ?_) (fun c8 => ?_)
      · refine hw_aload_n C dX6_rest_42 rfl 1 rfl ?_
        refine hw_getI C cf_X4 lf_X6_294 T_4 dX6_rest_43 ?_
        refine hw_iload_n C dX6_rest_46 rfl 4 rfl ?_
        refine hw_irem C dX6_rest_47 ?_
        exact hw_iret C dX6_rest_48
      · refine hw_ldcw C mw_987 dX6_rest_36 ?_
        refine hw_goto C dX6_rest_39 (tgt := 48) (by decide) ?_
        exact hw_iret C dX6_rest_48
    · refine hw_iload C dX6_rest_29 0 rfl ?_
      exact hw_iret C dX6_rest_31
  · refine hw_ldc C mw_126 dX6_rest_7 ?_
    exact hw_iret C dX6_rest_9
/-! HumWire tell(I)I, level 1 -/
def F_X6_tell  (a1 : Int32) (s0 : hw_St) : Option (Int32 × hw_St) := if (s0 0 11) < (60 : Int32) then (hw_gd (hw_inb (s0 0 11) 60) (hw_nm (hw_up s0 16 (s0 0 11).toNatClampNeg a1) (fun s2 => hw_nm (hw_up s2 0 11 ((s2 0 11) + (1 : Int32))) (fun s4 => some ((s4 0 11), s4))))) else (some ((-1000000003 : Int32), s0))
set_option maxRecDepth 20000 in
theorem M_X6_tell (E : hw_E) (hE : hw_eT E = hw_TH) (a1 : Int32) (s0 : hw_St) : hw_M E yX6_tell cX6_tell 2 (some .int) 1 [hw_rv (hw_ea E) 0, .int a1] s0 hw_ri (F_X6_tell a1 s0) := by
  refine hw_entry (own := RX6) (TL := hw_TH) (by decide) rfl hE (hw_cR (hw_cI hw_cN)) (hw_l8 rfl) (fun G hG C => ?_)
  subst hG
  have hTL := hE
  show hw_K G 2 hw_ri _ 0 [(0, hw_rv (hw_ea (hw_gE G)) 0), (1, .int a1)] [] s0
  unfold F_X6_tell
  refine hw_aload_n C dX6_tell_0 rfl 0 rfl ?_
  refine hw_getI C cf_X6 lf_X6_44 hw_T0 dX6_tell_1 ?_
  refine hw_bipush C dX6_tell_4 (v := 60) (by decide) ?_
  refine hw_icmp_lt C dX6_tell_6 (tgt := 12) (by decide) (fun c1 => ?_) (fun c1 => ?_)
  · refine hw_aload_n C dX6_tell_12 rfl 0 rfl ?_
    refine hw_getR C cf_X6 lf_X6_40 hw_T0 (t2 := 16) (by decide) dX6_tell_13 ?_
    refine hw_aload_n C dX6_tell_16 rfl 0 rfl ?_
    refine hw_getI C cf_X6 lf_X6_44 hw_T0 dX6_tell_17 ?_
    refine hw_iload_n C dX6_tell_20 rfl 1 rfl ?_
    refine hw_iast C hw_T16 (by decide) dX6_tell_21 (fun h3 s2 => ?_)
    refine hw_aload_n C dX6_tell_22 rfl 0 rfl ?_
    refine hw_dup C dX6_tell_23 ?_
    refine hw_getI C cf_X6 lf_X6_44 hw_T0 dX6_tell_24 ?_
    refine hw_iconst C dX6_tell_27 (v := 1) (by decide) ?_
    refine hw_iadd C dX6_tell_28 ?_
    refine hw_putI C cf_X6 lf_X6_44 hw_T0 rfl rfl dX6_tell_29 (fun s4 => ?_)
    refine hw_aload_n C dX6_tell_32 rfl 0 rfl ?_
    refine hw_getI C cf_X6 lf_X6_44 hw_T0 dX6_tell_33 ?_
    exact hw_iret C dX6_tell_36
  · refine hw_ldc C mw_128 dX6_tell_9 ?_
    exact hw_iret C dX6_tell_11
/-! HumWire hoursToldRight(II)I, level 6 -/
def B_X6_hoursToldRight_48  (l3 : Int32) (s0 : hw_St) : Option (Int32 × hw_St) := some (((2 : Int32) * l3), s0)
def B_X6_hoursToldRight_81  (l3 : Int32) (s0 : hw_St) : Option (Int32 × hw_St) := some ((((2 : Int32) * l3) + (1 : Int32)), s0)
def S_X6_hoursToldRight_2  (w2 : Int32 → Int32 → Int32 → hw_St → Option (Int32 × hw_St)) (l1 : Int32) (l2 : Int32) (l3 : Int32) (s0 : hw_St) : Option (Int32 × hw_St) := if l1 ≤ l3 then (some (((2 : Int32) * l1), s0)) else (hw_bd (F_X2_windIn 2 l3 s0) (fun r2 s3 => hw_bd (F_X2_blowOn 2 11 r2 s3) (fun r4 s5 => if l2 ≤ ((2 : Int32) * l3) then (B_X6_hoursToldRight_48 l3 s5) else (hw_gd (hw_inb ((2 : Int32) * l3) 60) (if (s5 16 ((2 : Int32) * l3).toNatClampNeg) = r4 then (if l2 ≤ (((2 : Int32) * l3) + (1 : Int32)) then (B_X6_hoursToldRight_81 l3 s5) else (hw_gd (hw_inb (((2 : Int32) * l3) + (1 : Int32)) 60) (if (s5 16 (((2 : Int32) * l3) + (1 : Int32)).toNatClampNeg) = (s5 11 4) then (w2 l1 l2 (l3 + 1) s5) else (B_X6_hoursToldRight_81 l3 s5)))) else (B_X6_hoursToldRight_48 l3 s5))))))
def L_X6_hoursToldRight_2  : Nat → Int32 → Int32 → Int32 → hw_St → Option (Int32 × hw_St)
  | 0 => fun _ _ _ _ => none
  | n + 1 => S_X6_hoursToldRight_2  (L_X6_hoursToldRight_2  n)
def F_X6_hoursToldRight  (a1 : Int32) (a2 : Int32) (s0 : hw_St) : Option (Int32 × hw_St) := L_X6_hoursToldRight_2 130 a1 a2 (0 : Int32) s0
set_option maxRecDepth 20000 in
theorem KB_X6_hoursToldRight_48 {G : hw_G} (C : hw_Ok G cX6_hoursToldRight RX6 5 6 (some .int) hw_TH) (hTL : hw_eT (hw_gE G) = hw_TH) (l3 : Int32) (s0 : hw_St) : hw_K G 5 hw_ri (B_X6_hoursToldRight_48 l3 s0) 48 [(3, .int l3)] [] s0 := by
  unfold B_X6_hoursToldRight_48
  refine hw_iconst C dX6_hoursToldRight_48 (v := 2) (by decide) ?_
  refine hw_iload_n C dX6_hoursToldRight_49 rfl 0 rfl ?_
  refine hw_imul C dX6_hoursToldRight_50 ?_
  exact hw_iret C dX6_hoursToldRight_51
set_option maxRecDepth 20000 in
theorem KB_X6_hoursToldRight_81 {G : hw_G} (C : hw_Ok G cX6_hoursToldRight RX6 5 6 (some .int) hw_TH) (hTL : hw_eT (hw_gE G) = hw_TH) (l3 : Int32) (s0 : hw_St) : hw_K G 5 hw_ri (B_X6_hoursToldRight_81 l3 s0) 81 [(3, .int l3)] [] s0 := by
  unfold B_X6_hoursToldRight_81
  refine hw_iconst C dX6_hoursToldRight_81 (v := 2) (by decide) ?_
  refine hw_iload_n C dX6_hoursToldRight_82 rfl 0 rfl ?_
  refine hw_imul C dX6_hoursToldRight_83 ?_
  refine hw_iconst C dX6_hoursToldRight_84 (v := 1) (by decide) ?_
  refine hw_iadd C dX6_hoursToldRight_85 ?_
  exact hw_iret C dX6_hoursToldRight_86
set_option maxRecDepth 20000 in
theorem KS_X6_hoursToldRight_2 {G : hw_G} (C : hw_Ok G cX6_hoursToldRight RX6 5 6 (some .int) hw_TH) (hTL : hw_eT (hw_gE G) = hw_TH) (w2 : Int32 → Int32 → Int32 → hw_St → Option (Int32 × hw_St)) (H_w2 : ∀ (l1 : Int32) (l2 : Int32) (l3 : Int32) (s0 : hw_St), hw_K G 5 hw_ri (w2 l1 l2 l3 s0) 2 [(0, hw_rv (hw_ea (hw_gE G)) 0), (1, .int l1), (2, .int l2), (3, .int l3)] [] s0) (l1 : Int32) (l2 : Int32) (l3 : Int32) (s0 : hw_St) : hw_K G 5 hw_ri (S_X6_hoursToldRight_2 w2 l1 l2 l3 s0) 2 [(0, hw_rv (hw_ea (hw_gE G)) 0), (1, .int l1), (2, .int l2), (3, .int l3)] [] s0 := by
  unfold S_X6_hoursToldRight_2
  refine hw_iload_n C dX6_hoursToldRight_2 rfl 3 rfl ?_
  refine hw_iload_n C dX6_hoursToldRight_3 rfl 1 rfl ?_
  refine hw_icmp_ge C dX6_hoursToldRight_4 (tgt := 93) (by decide) (fun c1 => ?_) (fun c1 => ?_)
  · refine hw_iconst C dX6_hoursToldRight_93 (v := 2) (by decide) ?_
    refine hw_iload_n C dX6_hoursToldRight_94 rfl 1 rfl ?_
    refine hw_imul C dX6_hoursToldRight_95 ?_
    exact hw_iret C dX6_hoursToldRight_96
  · refine hw_aload_n C dX6_hoursToldRight_7 rfl 0 rfl ?_
    refine hw_getR C cf_X6 lf_X6_63 hw_T0 (t2 := 2) (by decide) dX6_hoursToldRight_8 ?_
    refine hw_aload_n C dX6_hoursToldRight_11 rfl 0 rfl ?_
    refine hw_getR C cf_X6 lf_X6_16 hw_T0 (t2 := 11) (by decide) dX6_hoursToldRight_12 ?_
    refine hw_aload_n C dX6_hoursToldRight_15 rfl 0 rfl ?_
    refine hw_getR C cf_X6 lf_X6_63 hw_T0 (t2 := 2) (by decide) dX6_hoursToldRight_16 ?_
    refine hw_iload_n C dX6_hoursToldRight_19 rfl 3 rfl ?_
    refine hw_callVi C (M_X2_windIn (hw_gE G) hTL 2 l3 s0) W_X2_windIn SV_X2_windIn cf_X2 hw_T2 mw_500 (by decide) rfl ⟨rfl, hw_l8 rfl⟩ dX6_hoursToldRight_20 (fun r2 s3 => ?_)
    refine hw_callVi C (M_X2_blowOn (hw_gE G) hTL 2 11 r2 s3) W_X2_blowOn SV_X2_blowOn cf_X2 hw_T2 mw_427 (by decide) rfl ⟨rfl, hw_l8 rfl⟩ dX6_hoursToldRight_23 (fun r4 s5 => ?_)
    refine hw_istore C dX6_hoursToldRight_26 (by decide) rfl ?_
    refine hw_iconst C dX6_hoursToldRight_28 (v := 2) (by decide) ?_
    refine hw_iload_n C dX6_hoursToldRight_29 rfl 4 rfl ?_
    refine hw_imul C dX6_hoursToldRight_30 ?_
    refine hw_iload_n C dX6_hoursToldRight_31 rfl 3 rfl ?_
    refine hw_icmp_ge C dX6_hoursToldRight_32 (tgt := 48) (by decide) (fun c6 => ?_) (fun c6 => ?_)
    · exact hw_lv [4] rfl (KB_X6_hoursToldRight_48 C hTL l3 s5)
    · refine hw_aload_n C dX6_hoursToldRight_35 rfl 1 rfl ?_
      refine hw_getR C cf_X6 lf_X6_40 hw_T0 (t2 := 16) (by decide) dX6_hoursToldRight_36 ?_
      refine hw_iconst C dX6_hoursToldRight_39 (v := 2) (by decide) ?_
      refine hw_iload_n C dX6_hoursToldRight_40 rfl 4 rfl ?_
      refine hw_imul C dX6_hoursToldRight_41 ?_
      refine hw_iald C hw_T16 (by decide) dX6_hoursToldRight_42 (fun h7 => ?_)
      refine hw_iload C dX6_hoursToldRight_43 0 rfl ?_
      refine hw_icmp_eq C dX6_hoursToldRight_45 (tgt := 52) (by decide) (fun c8 => ?_) (fun c8 => ?_)
      · refine hw_iconst C dX6_hoursToldRight_52 (v := 2) (by decide) ?_
        refine hw_iload_n C dX6_hoursToldRight_53 rfl 4 rfl ?_
        refine hw_imul C dX6_hoursToldRight_54 ?_
        refine hw_iconst C dX6_hoursToldRight_55 (v := 1) (by decide) ?_
        refine hw_iadd C dX6_hoursToldRight_56 ?_
        refine hw_iload_n C dX6_hoursToldRight_57 rfl 3 rfl ?_
        refine hw_icmp_ge C dX6_hoursToldRight_58 (tgt := 81) (by decide) (fun c9 => ?_) (fun c9 => ?_)
        · exact hw_lv [4] rfl (KB_X6_hoursToldRight_81 C hTL l3 s5)
        · refine hw_aload_n C dX6_hoursToldRight_61 rfl 1 rfl ?_
          refine hw_getR C cf_X6 lf_X6_40 hw_T0 (t2 := 16) (by decide) dX6_hoursToldRight_62 ?_
          refine hw_iconst C dX6_hoursToldRight_65 (v := 2) (by decide) ?_
          refine hw_iload_n C dX6_hoursToldRight_66 rfl 4 rfl ?_
          refine hw_imul C dX6_hoursToldRight_67 ?_
          refine hw_iconst C dX6_hoursToldRight_68 (v := 1) (by decide) ?_
          refine hw_iadd C dX6_hoursToldRight_69 ?_
          refine hw_iald C hw_T16 (by decide) dX6_hoursToldRight_70 (fun h10 => ?_)
          refine hw_aload_n C dX6_hoursToldRight_71 rfl 1 rfl ?_
          refine hw_getR C cf_X6 lf_X6_16 hw_T0 (t2 := 11) (by decide) dX6_hoursToldRight_72 ?_
          refine hw_getI C cf_X5 lf_X6_116 hw_T11 dX6_hoursToldRight_75 ?_
          refine hw_icmp_eq C dX6_hoursToldRight_78 (tgt := 87) (by decide) (fun c11 => ?_) (fun c11 => ?_)
          · refine hw_iinc C dX6_hoursToldRight_87 4 rfl (v := 1) (by decide) (by decide) rfl ?_
            refine hw_goto C dX6_hoursToldRight_90 (tgt := 2) (by decide) ?_
            exact hw_lv [2, 3, 4, 0] rfl (H_w2 l1 l2 (l3 + 1) s5)
          · exact hw_lv [4] rfl (KB_X6_hoursToldRight_81 C hTL l3 s5)
      · exact hw_lv [4] rfl (KB_X6_hoursToldRight_48 C hTL l3 s5)
theorem KL_X6_hoursToldRight_2 {G : hw_G} (C : hw_Ok G cX6_hoursToldRight RX6 5 6 (some .int) hw_TH) (hTL : hw_eT (hw_gE G) = hw_TH) : ∀ (n_ : Nat) (l1 : Int32) (l2 : Int32) (l3 : Int32) (s0 : hw_St), hw_K G 5 hw_ri (L_X6_hoursToldRight_2 n_ l1 l2 l3 s0) 2 [(0, hw_rv (hw_ea (hw_gE G)) 0), (1, .int l1), (2, .int l2), (3, .int l3)] [] s0 := by
  intro n_
  induction n_ with
  | zero => intros; exact hw_nil
  | succ n_ ih => intro l1 l2 l3 s0; exact KS_X6_hoursToldRight_2 C hTL (L_X6_hoursToldRight_2 n_) ih l1 l2 l3 s0
set_option maxRecDepth 20000 in
theorem M_X6_hoursToldRight (E : hw_E) (hE : hw_eT E = hw_TH) (a1 : Int32) (a2 : Int32) (s0 : hw_St) : hw_M E yX6_hoursToldRight cX6_hoursToldRight 5 (some .int) 6 [hw_rv (hw_ea E) 0, .int a1, .int a2] s0 hw_ri (F_X6_hoursToldRight a1 a2 s0) := by
  refine hw_entry (own := RX6) (TL := hw_TH) (by decide) rfl hE (hw_cR (hw_cI (hw_cI hw_cN))) (hw_l8 rfl) (fun G hG C => ?_)
  subst hG
  have hTL := hE
  show hw_K G 5 hw_ri _ 0 [(0, hw_rv (hw_ea (hw_gE G)) 0), (1, .int a1), (2, .int a2)] [] s0
  unfold F_X6_hoursToldRight
  refine hw_iconst C dX6_hoursToldRight_0 (v := 0) (by decide) ?_
  refine hw_istore_n C dX6_hoursToldRight_1 rfl (by decide) rfl ?_
  exact hw_lv [1, 2, 3, 0] rfl (KL_X6_hoursToldRight_2 C hTL 130 a1 a2 (0 : Int32) s0)
/-! HumWire check(II)I, level 7 -/
def B_X6_check_87  (l5 : Int32) (s0 : hw_St) : Option (Int32 × hw_St) := some (((1 : Int32) + l5), s0)
def F_X6_check  (a1 : Int32) (a2 : Int32) (s0 : hw_St) : Option (Int32 × hw_St) := hw_nm (s0 0 11) (fun x1 => hw_nm (hw_up s0 0 11 (0 : Int32)) (fun s2 => hw_bd (F_X6_isWithin a2 (1 : Int32) (30 : Int32) s2) (fun r3 s4 => if r3 = 0 then (some ((-1000000001 : Int32), s4)) else (if (s4 0 3) = 0 then (some ((-1000000002 : Int32), s4)) else (hw_bd (F_X2_wireAt 2 a1 s4) (fun r7 s8 => if r7 = 999 then (some ((-1000000001 : Int32), s8)) else (hw_bd (F_X5_become 11 r7 s8) (fun _ s11 => hw_bd (F_X6_hoursToldRight a2 x1 s11) (fun r12 s13 => if r12 = x1 then (if r12 = ((2 : Int32) * a2) then (some ((0 : Int32), s13)) else (B_X6_check_87 r12 s13)) else (B_X6_check_87 r12 s13))))))))))
set_option maxRecDepth 20000 in
theorem KB_X6_check_87 {G : hw_G} (C : hw_Ok G cX6_check RX6 6 7 (some .int) hw_TH) (hTL : hw_eT (hw_gE G) = hw_TH) (l5 : Int32) (s0 : hw_St) : hw_K G 6 hw_ri (B_X6_check_87 l5 s0) 87 [(5, .int l5)] [] s0 := by
  unfold B_X6_check_87
  refine hw_iconst C dX6_check_87 (v := 1) (by decide) ?_
  refine hw_iload C dX6_check_88 0 rfl ?_
  refine hw_iadd C dX6_check_90 ?_
  exact hw_iret C dX6_check_91
set_option maxRecDepth 20000 in
theorem M_X6_check (E : hw_E) (hE : hw_eT E = hw_TH) (a1 : Int32) (a2 : Int32) (s0 : hw_St) : hw_M E yX6_check cX6_check 6 (some .int) 7 [hw_rv (hw_ea E) 0, .int a1, .int a2] s0 hw_ri (F_X6_check a1 a2 s0) := by
  refine hw_entry (own := RX6) (TL := hw_TH) (by decide) rfl hE (hw_cR (hw_cI (hw_cI hw_cN))) (hw_l8 rfl) (fun G hG C => ?_)
  subst hG
  have hTL := hE
  show hw_K G 6 hw_ri _ 0 [(0, hw_rv (hw_ea (hw_gE G)) 0), (1, .int a1), (2, .int a2)] [] s0
  unfold F_X6_check
  refine hw_aload_n C dX6_check_0 rfl 0 rfl ?_
  refine hw_getI C cf_X6 lf_X6_44 hw_T0 dX6_check_1 ?_
  refine hw_istore_nN C dX6_check_4 rfl (by decide) (fun _ => rfl) (fun x1 => ?_)
  refine hw_aload_n C dX6_check_5 rfl 1 rfl ?_
  refine hw_iconst C dX6_check_6 (v := 0) (by decide) ?_
  refine hw_putI C cf_X6 lf_X6_44 hw_T0 rfl rfl dX6_check_7 (fun s2 => ?_)
  refine hw_iload_n C dX6_check_10 rfl 3 rfl ?_
  refine hw_iconst C dX6_check_11 (v := 1) (by decide) ?_
  refine hw_bipush C dX6_check_12 (v := 30) (by decide) ?_
  refine hw_callSi C (M_X6_isWithin (hw_gE G) hTL a2 (1 : Int32) (30 : Int32) s2) W_X6_isWithin SS_X6_isWithin mw_133 (by decide) rfl ⟨rfl, hw_l8 rfl⟩ dX6_check_14 (fun r3 s4 => ?_)
  refine hw_if_ne C dX6_check_17 (tgt := 23) (by decide) (fun c5 => ?_) (fun c5 => ?_)
  · refine hw_aload_n C dX6_check_23 rfl 1 rfl ?_
    refine hw_getI C cf_X6 lf_X6_7 hw_T0 dX6_check_24 ?_
    refine hw_if_ne C dX6_check_27 (tgt := 34) (by decide) (fun c6 => ?_) (fun c6 => ?_)
    · refine hw_aload_n C dX6_check_34 rfl 1 rfl ?_
      refine hw_getR C cf_X6 lf_X6_63 hw_T0 (t2 := 2) (by decide) dX6_check_35 ?_
      refine hw_iload_n C dX6_check_38 rfl 2 rfl ?_
      refine hw_callVq C (M_X2_wireAt (hw_gE G) hTL 2 a1 s4) W_X2_wireAt SV_X2_wireAt cf_X2 hw_T2 mw_174 (by decide) rfl ⟨rfl, hw_l8 rfl⟩ dX6_check_39 (fun r7 s8 => ?_)
      refine hw_astore C dX6_check_42 (by decide) rfl ?_
      refine hw_aload C dX6_check_44 0 rfl ?_
      refine hw_ifnonnull C dX6_check_46 (tgt := 52) (by decide) (fun c9 => ?_) (fun c9 => ?_)
      · refine hw_aload_n C dX6_check_52 rfl 2 rfl ?_
        refine hw_getR C cf_X6 lf_X6_16 hw_T0 (t2 := 11) (by decide) dX6_check_53 ?_
        refine hw_aload C dX6_check_56 0 rfl ?_
        refine hw_callVv C (M_X5_become (hw_gE G) hTL 11 r7 s8) W_X5_become SV_X5_become cf_X5 hw_T11 mw_470 (by decide) rfl ⟨rfl, hw_l8 rfl⟩ dX6_check_58 (fun r10 s11 => ?_)
        refine hw_aload_n C dX6_check_61 rfl 2 rfl ?_
        refine hw_iload_n C dX6_check_62 rfl 4 rfl ?_
        refine hw_iload_n C dX6_check_63 rfl 1 rfl ?_
        refine hw_callVi C (M_X6_hoursToldRight (hw_gE G) hTL a2 x1 s11) W_X6_hoursToldRight SV_X6_hoursToldRight cf_X6 hw_T0 mw_1006 (by decide) rfl ⟨rfl, hw_l8 rfl⟩ dX6_check_64 (fun r12 s13 => ?_)
        refine hw_istore C dX6_check_67 (by decide) rfl ?_
        refine hw_iload C dX6_check_69 0 rfl ?_
        refine hw_iload_n C dX6_check_71 rfl 2 rfl ?_
        refine hw_icmp_ne C dX6_check_72 (tgt := 87) (by decide) (fun c14 => ?_) (fun c14 => ?_)
        · exact hw_lv [0] rfl (KB_X6_check_87 C hTL r12 s13)
        · refine hw_iload C dX6_check_75 0 rfl ?_
          refine hw_iconst C dX6_check_77 (v := 2) (by decide) ?_
          refine hw_iload_n C dX6_check_78 rfl 5 rfl ?_
          refine hw_imul C dX6_check_79 ?_
          refine hw_icmp_ne C dX6_check_80 (tgt := 87) (by decide) (fun c15 => ?_) (fun c15 => ?_)
          · exact hw_lv [0] rfl (KB_X6_check_87 C hTL r12 s13)
          · refine hw_iconst C dX6_check_83 (v := 0) (by decide) ?_
            refine hw_goto C dX6_check_84 (tgt := 91) (by decide) ?_
            exact hw_iret C dX6_check_91
      · refine hw_ldc C mw_126 dX6_check_49 ?_
        exact hw_iret C dX6_check_51
    · refine hw_ldcw C mw_987 dX6_check_30 ?_
      exact hw_iret C dX6_check_33
  · refine hw_ldc C mw_126 dX6_check_20 ?_
    exact hw_iret C dX6_check_22
/-! HumWire keep()I, level 3 -/
def F_X6_keep  (s0 : hw_St) : Option (Int32 × hw_St) := hw_bd (F_X2_become 2 1 s0) (fun _ s2 => hw_gd (hw_isb (1 : Int32)) (hw_nm (hw_up s2 0 3 (1 : Int32)) (fun s3 => some ((s3 2 6), s3))))
set_option maxRecDepth 20000 in
theorem M_X6_keep (E : hw_E) (hE : hw_eT E = hw_TH) (s0 : hw_St) : hw_M E yX6_keep cX6_keep 1 (some .int) 3 [hw_rv (hw_ea E) 0] s0 hw_ri (F_X6_keep  s0) := by
  refine hw_entry (own := RX6) (TL := hw_TH) (by decide) rfl hE (hw_cR hw_cN) (hw_l8 rfl) (fun G hG C => ?_)
  subst hG
  have hTL := hE
  show hw_K G 1 hw_ri _ 0 [(0, hw_rv (hw_ea (hw_gE G)) 0)] [] s0
  unfold F_X6_keep
  refine hw_aload_n C dX6_keep_0 rfl 0 rfl ?_
  refine hw_getR C cf_X6 lf_X6_63 hw_T0 (t2 := 2) (by decide) dX6_keep_1 ?_
  refine hw_aload_n C dX6_keep_4 rfl 0 rfl ?_
  refine hw_getR C cf_X6 lf_X6_59 hw_T0 (t2 := 1) (by decide) dX6_keep_5 ?_
  refine hw_callVv C (M_X2_become (hw_gE G) hTL 2 1 s0) W_X2_become SV_X2_become cf_X2 hw_T2 mw_1026 (by decide) rfl ⟨rfl, hw_l8 rfl⟩ dX6_keep_8 (fun r1 s2 => ?_)
  refine hw_aload_n C dX6_keep_11 rfl 0 rfl ?_
  refine hw_iconst C dX6_keep_12 (v := 1) (by decide) ?_
  refine hw_putZ C cf_X6 lf_X6_7 hw_T0 rfl rfl dX6_keep_13 (fun s3 => ?_)
  refine hw_aload_n C dX6_keep_16 rfl 0 rfl ?_
  refine hw_getR C cf_X6 lf_X6_63 hw_T0 (t2 := 2) (by decide) dX6_keep_17 ?_
  refine hw_getI C cf_X2 lf_X6_88 hw_T2 dX6_keep_20 ?_
  exact hw_iret C dX6_keep_23
/-! HumWire back()I, level 3 -/
def F_X6_back  (s0 : hw_St) : Option (Int32 × hw_St) := if (s0 0 3) = 0 then (some ((-1000000002 : Int32), s0)) else (hw_bd (F_X2_become 1 2 s0) (fun _ s3 => some ((s3 1 6), s3)))
set_option maxRecDepth 20000 in
theorem M_X6_back (E : hw_E) (hE : hw_eT E = hw_TH) (s0 : hw_St) : hw_M E yX6_back cX6_back 1 (some .int) 3 [hw_rv (hw_ea E) 0] s0 hw_ri (F_X6_back  s0) := by
  refine hw_entry (own := RX6) (TL := hw_TH) (by decide) rfl hE (hw_cR hw_cN) (hw_l8 rfl) (fun G hG C => ?_)
  subst hG
  have hTL := hE
  show hw_K G 1 hw_ri _ 0 [(0, hw_rv (hw_ea (hw_gE G)) 0)] [] s0
  unfold F_X6_back
  refine hw_aload_n C dX6_back_0 rfl 0 rfl ?_
  refine hw_getI C cf_X6 lf_X6_7 hw_T0 dX6_back_1 ?_
  refine hw_if_ne C dX6_back_4 (tgt := 11) (by decide) (fun c1 => ?_) (fun c1 => ?_)
  · refine hw_aload_n C dX6_back_11 rfl 0 rfl ?_
    refine hw_getR C cf_X6 lf_X6_59 hw_T0 (t2 := 1) (by decide) dX6_back_12 ?_
    refine hw_aload_n C dX6_back_15 rfl 0 rfl ?_
    refine hw_getR C cf_X6 lf_X6_63 hw_T0 (t2 := 2) (by decide) dX6_back_16 ?_
    refine hw_callVv C (M_X2_become (hw_gE G) hTL 1 2 s0) W_X2_become SV_X2_become cf_X2 hw_T1 mw_1026 (by decide) rfl ⟨rfl, hw_l8 rfl⟩ dX6_back_19 (fun r2 s3 => ?_)
    refine hw_aload_n C dX6_back_22 rfl 0 rfl ?_
    refine hw_getR C cf_X6 lf_X6_59 hw_T0 (t2 := 1) (by decide) dX6_back_23 ?_
    refine hw_getI C cf_X2 lf_X6_88 hw_T1 dX6_back_26 ?_
    exact hw_iret C dX6_back_29
  · refine hw_ldcw C mw_987 dX6_back_7 ?_
    exact hw_iret C dX6_back_10
/-! HumWire count(I)I, level 2 -/
def F_X6_count  (a1 : Int32) (s0 : hw_St) : Option (Int32 × hw_St) := if a1 = (0 : Int32) then (some ((s0 1 6), s0)) else (if a1 = (1 : Int32) then (hw_bd (F_X2_heldCount 1 s0) (fun r2 s3 => some (r2, s3))) else (if a1 = (2 : Int32) then (some ((s0 1 7), s0)) else (if a1 = (3 : Int32) then (some ((s0 1 8), s0)) else (if a1 = (4 : Int32) then (some ((s0 1 5), s0)) else (if a1 = (5 : Int32) then (some ((s0 0 11), s0)) else (if a1 = (6 : Int32) then (some ((s0 0 6), s0)) else (if a1 = (7 : Int32) then (some ((s0 1 9), s0)) else (some ((-1000000001 : Int32), s0)))))))))
set_option maxRecDepth 20000 in
theorem M_X6_count (E : hw_E) (hE : hw_eT E = hw_TH) (a1 : Int32) (s0 : hw_St) : hw_M E yX6_count cX6_count 2 (some .int) 2 [hw_rv (hw_ea E) 0, .int a1] s0 hw_ri (F_X6_count a1 s0) := by
  refine hw_entry (own := RX6) (TL := hw_TH) (by decide) rfl hE (hw_cR (hw_cI hw_cN)) (hw_l8 rfl) (fun G hG C => ?_)
  subst hG
  have hTL := hE
  show hw_K G 2 hw_ri _ 0 [(0, hw_rv (hw_ea (hw_gE G)) 0), (1, .int a1)] [] s0
  unfold F_X6_count
  refine hw_iload_n C dX6_count_0 rfl 1 rfl ?_
  refine hw_ifK (fun c1 => ?_) (fun c1 => ?_)
  · refine hw_tabIn C dX6_count_1 c1 (off := 47) (tgt := 48) (by decide) ?_
    refine hw_aload_n C dX6_count_48 rfl 0 rfl ?_
    refine hw_getR C cf_X6 lf_X6_59 hw_T0 (t2 := 1) (by decide) dX6_count_49 ?_
    refine hw_getI C cf_X2 lf_X6_88 hw_T1 dX6_count_52 ?_
    exact hw_iret C dX6_count_55
  · refine hw_ifK (fun c4 => ?_) (fun c4 => ?_)
    · refine hw_tabIn C dX6_count_1 c4 (off := 55) (tgt := 56) (by decide) ?_
      refine hw_aload_n C dX6_count_56 rfl 0 rfl ?_
      refine hw_getR C cf_X6 lf_X6_59 hw_T0 (t2 := 1) (by decide) dX6_count_57 ?_
      refine hw_callVi C (M_X2_heldCount (hw_gE G) hTL 1 s0) W_X2_heldCount SV_X2_heldCount cf_X2 hw_T1 mw_1048 (by decide) rfl ⟨rfl, hw_l8 rfl⟩ dX6_count_60 (fun r2 s3 => ?_)
      exact hw_iret C dX6_count_63
    · refine hw_ifK (fun c5 => ?_) (fun c5 => ?_)
      · refine hw_tabIn C dX6_count_1 c5 (off := 63) (tgt := 64) (by decide) ?_
        refine hw_aload_n C dX6_count_64 rfl 0 rfl ?_
        refine hw_getR C cf_X6 lf_X6_59 hw_T0 (t2 := 1) (by decide) dX6_count_65 ?_
        refine hw_getI C cf_X2 lf_X6_193 hw_T1 dX6_count_68 ?_
        exact hw_iret C dX6_count_71
      · refine hw_ifK (fun c6 => ?_) (fun c6 => ?_)
        · refine hw_tabIn C dX6_count_1 c6 (off := 71) (tgt := 72) (by decide) ?_
          refine hw_aload_n C dX6_count_72 rfl 0 rfl ?_
          refine hw_getR C cf_X6 lf_X6_59 hw_T0 (t2 := 1) (by decide) dX6_count_73 ?_
          refine hw_getI C cf_X2 lf_X6_157 hw_T1 dX6_count_76 ?_
          exact hw_iret C dX6_count_79
        · refine hw_ifK (fun c7 => ?_) (fun c7 => ?_)
          · refine hw_tabIn C dX6_count_1 c7 (off := 79) (tgt := 80) (by decide) ?_
            refine hw_aload_n C dX6_count_80 rfl 0 rfl ?_
            refine hw_getR C cf_X6 lf_X6_59 hw_T0 (t2 := 1) (by decide) dX6_count_81 ?_
            refine hw_getI C cf_X2 lf_X6_228 hw_T1 dX6_count_84 ?_
            exact hw_iret C dX6_count_87
          · refine hw_ifK (fun c8 => ?_) (fun c8 => ?_)
            · refine hw_tabIn C dX6_count_1 c8 (off := 87) (tgt := 88) (by decide) ?_
              refine hw_aload_n C dX6_count_88 rfl 0 rfl ?_
              refine hw_getI C cf_X6 lf_X6_44 hw_T0 dX6_count_89 ?_
              exact hw_iret C dX6_count_92
            · refine hw_ifK (fun c9 => ?_) (fun c9 => ?_)
              · refine hw_tabIn C dX6_count_1 c9 (off := 92) (tgt := 93) (by decide) ?_
                refine hw_aload_n C dX6_count_93 rfl 0 rfl ?_
                refine hw_getI C cf_X6 lf_X6_24 hw_T0 dX6_count_94 ?_
                exact hw_iret C dX6_count_97
              · refine hw_ifK (fun c10 => ?_) (fun c10 => ?_)
                · refine hw_tabIn C dX6_count_1 c10 (off := 97) (tgt := 98) (by decide) ?_
                  refine hw_aload_n C dX6_count_98 rfl 0 rfl ?_
                  refine hw_getR C cf_X6 lf_X6_59 hw_T0 (t2 := 1) (by decide) dX6_count_99 ?_
                  refine hw_getI C cf_X2 lf_X6_164 hw_T1 dX6_count_102 ?_
                  exact hw_iret C dX6_count_105
                · refine hw_tabD C dX6_count_1 (cs := [0, 1, 2, 3, 4, 5, 6, 7]) (by decide) (List.forall_mem_cons.mpr ⟨hw_ni c1 (z := 0) (by decide), List.forall_mem_cons.mpr ⟨hw_ni c4 (z := 1) (by decide), List.forall_mem_cons.mpr ⟨hw_ni c5 (z := 2) (by decide), List.forall_mem_cons.mpr ⟨hw_ni c6 (z := 3) (by decide), List.forall_mem_cons.mpr ⟨hw_ni c7 (z := 4) (by decide), List.forall_mem_cons.mpr ⟨hw_ni c8 (z := 5) (by decide), List.forall_mem_cons.mpr ⟨hw_ni c9 (z := 6) (by decide), List.forall_mem_cons.mpr ⟨hw_ni c10 (z := 7) (by decide), fun _ h => absurd h List.not_mem_nil⟩⟩⟩⟩⟩⟩⟩⟩) (tgt := 106) (by decide) ?_
                  refine hw_ldc C mw_126 dX6_count_106 ?_
                  exact hw_iret C dX6_count_108
