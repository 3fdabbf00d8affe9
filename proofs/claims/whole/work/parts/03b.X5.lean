/-! HumWire$Wire begin(III)V, level 1 -/
def F_X5_begin  (t0 : Nat) (a1 : Int32) (a2 : Int32) (a3 : Int32) (s0 : hw_St) : Option (Unit × hw_St) := hw_gd (hw_gH t0 5) (hw_nm (hw_up s0 t0 0 a1) (fun s1 => hw_nm (hw_up s1 t0 1 a2) (fun s2 => hw_nm (hw_up s2 t0 2 a3) (fun s3 => hw_nm (hw_up s3 t0 3 (2 : Int32)) (fun s4 => hw_nm (hw_up s4 t0 4 (0 : Int32)) (fun s5 => hw_gd (hw_isb (0 : Int32)) (hw_nm (hw_up s5 t0 5 (0 : Int32)) (fun s6 => hw_nm (hw_up s6 t0 6 (0 : Int32)) (fun s7 => some ((), s7))))))))))
set_option maxRecDepth 20000 in
theorem M_X5_begin (E : hw_E) (hE : hw_eT E = hw_TH) (t0 : Nat) (a1 : Int32) (a2 : Int32) (a3 : Int32) (s0 : hw_St) : hw_M E yX5_begin cX5_begin 4 none 1 [hw_rv (hw_ea E) t0, .int a1, .int a2, .int a3] s0 hw_r0 (F_X5_begin t0 a1 a2 a3 s0) := by
  refine hw_entry (own := RX5) (TL := hw_TH) (by decide) rfl hE (hw_cR (hw_cI (hw_cI (hw_cI hw_cN)))) (hw_l8 rfl) (fun G hG C => ?_)
  subst hG
  have hTL := hE
  show hw_K G 4 hw_r0 _ 0 [(0, hw_rv (hw_ea (hw_gE G)) t0), (1, .int a1), (2, .int a2), (3, .int a3)] [] s0
  unfold F_X5_begin
  refine hw_gdK (fun h_T0 => ?_)
  have T0 := hw_gH_T h_T0
  refine hw_aload_n C dX5_begin_0 rfl 0 rfl ?_
  refine hw_iload_n C dX5_begin_1 rfl 1 rfl ?_
  refine hw_putI C cf_X5 lf_X5_18 T0 rfl rfl dX5_begin_2 (fun s1 => ?_)
  refine hw_aload_n C dX5_begin_5 rfl 0 rfl ?_
  refine hw_iload_n C dX5_begin_6 rfl 2 rfl ?_
  refine hw_putI C cf_X5 lf_X5_9 T0 rfl rfl dX5_begin_7 (fun s2 => ?_)
  refine hw_aload_n C dX5_begin_10 rfl 0 rfl ?_
  refine hw_iload_n C dX5_begin_11 rfl 3 rfl ?_
  refine hw_putI C cf_X5 lf_X5_15 T0 rfl rfl dX5_begin_12 (fun s3 => ?_)
  refine hw_aload_n C dX5_begin_15 rfl 0 rfl ?_
  refine hw_iconst C dX5_begin_16 (v := 2) (by decide) ?_
  refine hw_putI C cf_X5 lf_X5_21 T0 rfl rfl dX5_begin_17 (fun s4 => ?_)
  refine hw_aload_n C dX5_begin_20 rfl 0 rfl ?_
  refine hw_iconst C dX5_begin_21 (v := 0) (by decide) ?_
  refine hw_putI C cf_X5 lf_X5_24 T0 rfl rfl dX5_begin_22 (fun s5 => ?_)
  refine hw_aload_n C dX5_begin_25 rfl 0 rfl ?_
  refine hw_iconst C dX5_begin_26 (v := 0) (by decide) ?_
  refine hw_putZ C cf_X5 lf_X5_27 T0 rfl rfl dX5_begin_27 (fun s6 => ?_)
  refine hw_aload_n C dX5_begin_30 rfl 0 rfl ?_
  refine hw_iconst C dX5_begin_31 (v := 0) (by decide) ?_
  refine hw_putI C cf_X5 lf_X5_31 T0 rfl rfl dX5_begin_32 (fun s7 => ?_)
  exact hw_vret C dX5_begin_35
/-! HumWire$Wire become(LHumWire$Wire;)V, level 1 -/
def F_X5_become  (t0 : Nat) (t1 : Nat) (s0 : hw_St) : Option (Unit × hw_St) := hw_gd (hw_gH t0 5) (hw_gd (hw_gH t1 5) (hw_nm (hw_up s0 t0 0 (s0 t1 0)) (fun s1 => hw_nm (hw_up s1 t0 1 (s1 t1 1)) (fun s2 => hw_nm (hw_up s2 t0 2 (s2 t1 2)) (fun s3 => hw_nm (hw_up s3 t0 3 (s3 t1 3)) (fun s4 => hw_nm (hw_up s4 t0 4 (s4 t1 4)) (fun s5 => hw_gd (hw_isb (s5 t1 5)) (hw_nm (hw_up s5 t0 5 (s5 t1 5)) (fun s6 => hw_nm (hw_up s6 t0 6 (s6 t1 6)) (fun s7 => some ((), s7)))))))))))
set_option maxRecDepth 20000 in
theorem M_X5_become (E : hw_E) (hE : hw_eT E = hw_TH) (t0 : Nat) (t1 : Nat) (s0 : hw_St) : hw_M E yX5_become cX5_become 2 none 1 [hw_rv (hw_ea E) t0, hw_rv (hw_ea E) t1] s0 hw_r0 (F_X5_become t0 t1 s0) := by
  refine hw_entry (own := RX5) (TL := hw_TH) (by decide) rfl hE (hw_cR (hw_cR hw_cN)) (hw_l8 rfl) (fun G hG C => ?_)
  subst hG
  have hTL := hE
  show hw_K G 2 hw_r0 _ 0 [(0, hw_rv (hw_ea (hw_gE G)) t0), (1, hw_rv (hw_ea (hw_gE G)) t1)] [] s0
  unfold F_X5_become
  refine hw_gdK (fun h_T0 => ?_)
  have T0 := hw_gH_T h_T0
  refine hw_gdK (fun h_T1 => ?_)
  have T1 := hw_gH_T h_T1
  refine hw_aload_n C dX5_become_0 rfl 0 rfl ?_
  refine hw_aload_n C dX5_become_1 rfl 1 rfl ?_
  refine hw_getI C cf_X5 lf_X5_18 T1 dX5_become_2 ?_
  refine hw_putI C cf_X5 lf_X5_18 T0 rfl rfl dX5_become_5 (fun s1 => ?_)
  refine hw_aload_n C dX5_become_8 rfl 0 rfl ?_
  refine hw_aload_n C dX5_become_9 rfl 1 rfl ?_
  refine hw_getI C cf_X5 lf_X5_9 T1 dX5_become_10 ?_
  refine hw_putI C cf_X5 lf_X5_9 T0 rfl rfl dX5_become_13 (fun s2 => ?_)
  refine hw_aload_n C dX5_become_16 rfl 0 rfl ?_
  refine hw_aload_n C dX5_become_17 rfl 1 rfl ?_
  refine hw_getI C cf_X5 lf_X5_15 T1 dX5_become_18 ?_
  refine hw_putI C cf_X5 lf_X5_15 T0 rfl rfl dX5_become_21 (fun s3 => ?_)
  refine hw_aload_n C dX5_become_24 rfl 0 rfl ?_
  refine hw_aload_n C dX5_become_25 rfl 1 rfl ?_
  refine hw_getI C cf_X5 lf_X5_21 T1 dX5_become_26 ?_
  refine hw_putI C cf_X5 lf_X5_21 T0 rfl rfl dX5_become_29 (fun s4 => ?_)
  refine hw_aload_n C dX5_become_32 rfl 0 rfl ?_
  refine hw_aload_n C dX5_become_33 rfl 1 rfl ?_
  refine hw_getI C cf_X5 lf_X5_24 T1 dX5_become_34 ?_
  refine hw_putI C cf_X5 lf_X5_24 T0 rfl rfl dX5_become_37 (fun s5 => ?_)
  refine hw_aload_n C dX5_become_40 rfl 0 rfl ?_
  refine hw_aload_n C dX5_become_41 rfl 1 rfl ?_
  refine hw_getI C cf_X5 lf_X5_27 T1 dX5_become_42 ?_
  refine hw_putZ C cf_X5 lf_X5_27 T0 rfl rfl dX5_become_45 (fun s6 => ?_)
  refine hw_aload_n C dX5_become_48 rfl 0 rfl ?_
  refine hw_aload_n C dX5_become_49 rfl 1 rfl ?_
  refine hw_getI C cf_X5 lf_X5_31 T1 dX5_become_50 ?_
  refine hw_putI C cf_X5 lf_X5_31 T0 rfl rfl dX5_become_53 (fun s7 => ?_)
  exact hw_vret C dX5_become_56
/-! HumWire$Wire change(II)I, level 1 -/
def B_X5_change_40  (t0 : Nat) (l1 : Int32) (l2 : Int32) (k0 : Int32) (s0 : hw_St) : Option (Int32 × hw_St) := if l1 = (1 : Int32) then (hw_nm (hw_up s0 t0 1 l2) (fun s4 => some (k0, s4))) else (if l1 = (2 : Int32) then (hw_nm (hw_up s0 t0 2 l2) (fun s6 => some (k0, s6))) else (if l1 = (3 : Int32) then (hw_nm (hw_up s0 t0 3 l2) (fun s8 => some (k0, s8))) else (hw_nm (hw_up s0 t0 4 l2) (fun s10 => some (k0, s10)))))
def F_X5_change  (t0 : Nat) (a1 : Int32) (a2 : Int32) (s0 : hw_St) : Option (Int32 × hw_St) := hw_gd (hw_gH t0 5) (if a1 = (1 : Int32) then (B_X5_change_40 t0 a1 a2 (s0 t0 1) s0) else (if a1 = (2 : Int32) then (B_X5_change_40 t0 a1 a2 (s0 t0 2) s0) else (if a1 = (3 : Int32) then (B_X5_change_40 t0 a1 a2 (s0 t0 3) s0) else (B_X5_change_40 t0 a1 a2 (s0 t0 4) s0))))
set_option maxRecDepth 20000 in
theorem KB_X5_change_40 {G : hw_G} (C : hw_Ok G cX5_change RX5 4 1 (some .int) hw_TH) (hTL : hw_eT (hw_gE G) = hw_TH) (t0 : Nat) (l1 : Int32) (l2 : Int32) (k0 : Int32) (s0 : hw_St) (T0 : hw_T hw_TH t0 5) : hw_K G 4 hw_ri (B_X5_change_40 t0 l1 l2 k0 s0) 40 [(0, hw_rv (hw_ea (hw_gE G)) t0), (1, .int l1), (2, .int l2)] [.int k0] s0 := by
  unfold B_X5_change_40
  refine hw_istore_n C dX5_change_40 rfl (by decide) rfl ?_
  refine hw_iload_n C dX5_change_41 rfl 2 rfl ?_
  refine hw_ifK (fun c5 => ?_) (fun c5 => ?_)
  · refine hw_tabIn C dX5_change_42 c5 (off := 26) (tgt := 68) (by decide) ?_
    refine hw_aload_n C dX5_change_68 rfl 1 rfl ?_
    refine hw_iload_n C dX5_change_69 rfl 3 rfl ?_
    refine hw_putI C cf_X5 lf_X5_9 T0 rfl rfl dX5_change_70 (fun s4 => ?_)
    refine hw_goto C dX5_change_73 (tgt := 97) (by decide) ?_
    refine hw_iload_n C dX5_change_97 rfl 0 rfl ?_
    exact hw_iret C dX5_change_98
  · refine hw_ifK (fun c7 => ?_) (fun c7 => ?_)
    · refine hw_tabIn C dX5_change_42 c7 (off := 34) (tgt := 76) (by decide) ?_
      refine hw_aload_n C dX5_change_76 rfl 1 rfl ?_
      refine hw_iload_n C dX5_change_77 rfl 3 rfl ?_
      refine hw_putI C cf_X5 lf_X5_15 T0 rfl rfl dX5_change_78 (fun s6 => ?_)
      refine hw_goto C dX5_change_81 (tgt := 97) (by decide) ?_
      refine hw_iload_n C dX5_change_97 rfl 0 rfl ?_
      exact hw_iret C dX5_change_98
    · refine hw_ifK (fun c9 => ?_) (fun c9 => ?_)
      · refine hw_tabIn C dX5_change_42 c9 (off := 42) (tgt := 84) (by decide) ?_
        refine hw_aload_n C dX5_change_84 rfl 1 rfl ?_
        refine hw_iload_n C dX5_change_85 rfl 3 rfl ?_
        refine hw_putI C cf_X5 lf_X5_21 T0 rfl rfl dX5_change_86 (fun s8 => ?_)
        refine hw_goto C dX5_change_89 (tgt := 97) (by decide) ?_
        refine hw_iload_n C dX5_change_97 rfl 0 rfl ?_
        exact hw_iret C dX5_change_98
      · refine hw_tabD C dX5_change_42 (cs := [1, 2, 3]) (by decide) (List.forall_mem_cons.mpr ⟨hw_ni c5 (z := 1) (by decide), List.forall_mem_cons.mpr ⟨hw_ni c7 (z := 2) (by decide), List.forall_mem_cons.mpr ⟨hw_ni c9 (z := 3) (by decide), fun _ h => absurd h List.not_mem_nil⟩⟩⟩) (tgt := 92) (by decide) ?_
        refine hw_aload_n C dX5_change_92 rfl 1 rfl ?_
        refine hw_iload_n C dX5_change_93 rfl 3 rfl ?_
        refine hw_putI C cf_X5 lf_X5_24 T0 rfl rfl dX5_change_94 (fun s10 => ?_)
        refine hw_iload_n C dX5_change_97 rfl 0 rfl ?_
        exact hw_iret C dX5_change_98
set_option maxRecDepth 20000 in
theorem M_X5_change (E : hw_E) (hE : hw_eT E = hw_TH) (t0 : Nat) (a1 : Int32) (a2 : Int32) (s0 : hw_St) : hw_M E yX5_change cX5_change 4 (some .int) 1 [hw_rv (hw_ea E) t0, .int a1, .int a2] s0 hw_ri (F_X5_change t0 a1 a2 s0) := by
  refine hw_entry (own := RX5) (TL := hw_TH) (by decide) rfl hE (hw_cR (hw_cI (hw_cI hw_cN))) (hw_l8 rfl) (fun G hG C => ?_)
  subst hG
  have hTL := hE
  show hw_K G 4 hw_ri _ 0 [(0, hw_rv (hw_ea (hw_gE G)) t0), (1, .int a1), (2, .int a2)] [] s0
  unfold F_X5_change
  refine hw_gdK (fun h_T0 => ?_)
  have T0 := hw_gH_T h_T0
  refine hw_iload_n C dX5_change_0 rfl 1 rfl ?_
  refine hw_iconst C dX5_change_1 (v := 1) (by decide) ?_
  refine hw_icmp_ne C dX5_change_2 (tgt := 12) (by decide) (fun c1 => ?_) (fun c1 => ?_)
  · refine hw_iload_n C dX5_change_12 rfl 1 rfl ?_
    refine hw_iconst C dX5_change_13 (v := 2) (by decide) ?_
    refine hw_icmp_ne C dX5_change_14 (tgt := 24) (by decide) (fun c2 => ?_) (fun c2 => ?_)
    · refine hw_iload_n C dX5_change_24 rfl 1 rfl ?_
      refine hw_iconst C dX5_change_25 (v := 3) (by decide) ?_
      refine hw_icmp_ne C dX5_change_26 (tgt := 36) (by decide) (fun c3 => ?_) (fun c3 => ?_)
      · refine hw_aload_n C dX5_change_36 rfl 0 rfl ?_
        refine hw_getI C cf_X5 lf_X5_24 T0 dX5_change_37 ?_
        exact hw_lv [0, 1, 2] rfl (KB_X5_change_40 C hTL t0 a1 a2 (s0 t0 4) s0 T0)
      · refine hw_aload_n C dX5_change_29 rfl 0 rfl ?_
        refine hw_getI C cf_X5 lf_X5_21 T0 dX5_change_30 ?_
        refine hw_goto C dX5_change_33 (tgt := 40) (by decide) ?_
        exact hw_lv [0, 1, 2] rfl (KB_X5_change_40 C hTL t0 a1 a2 (s0 t0 3) s0 T0)
    · refine hw_aload_n C dX5_change_17 rfl 0 rfl ?_
      refine hw_getI C cf_X5 lf_X5_15 T0 dX5_change_18 ?_
      refine hw_goto C dX5_change_21 (tgt := 40) (by decide) ?_
      exact hw_lv [0, 1, 2] rfl (KB_X5_change_40 C hTL t0 a1 a2 (s0 t0 2) s0 T0)
  · refine hw_aload_n C dX5_change_5 rfl 0 rfl ?_
    refine hw_getI C cf_X5 lf_X5_9 T0 dX5_change_6 ?_
    refine hw_goto C dX5_change_9 (tgt := 40) (by decide) ?_
    exact hw_lv [0, 1, 2] rfl (KB_X5_change_40 C hTL t0 a1 a2 (s0 t0 1) s0 T0)
/-! HumWire$Wire air(I)I, level 1 -/
def F_X5_air  (t0 : Nat) (a1 : Int32) (s0 : hw_St) : Option (Int32 × hw_St) := hw_gd (hw_gH t0 5) (if (s0 t0 0) = (5 : Int32) then (some ((a1 / (2 : Int32)), s0)) else (some (a1, s0)))
set_option maxRecDepth 20000 in
theorem M_X5_air (E : hw_E) (hE : hw_eT E = hw_TH) (t0 : Nat) (a1 : Int32) (s0 : hw_St) : hw_M E yX5_air cX5_air 2 (some .int) 1 [hw_rv (hw_ea E) t0, .int a1] s0 hw_ri (F_X5_air t0 a1 s0) := by
  refine hw_entry (own := RX5) (TL := hw_TH) (by decide) rfl hE (hw_cR (hw_cI hw_cN)) (hw_l8 rfl) (fun G hG C => ?_)
  subst hG
  have hTL := hE
  show hw_K G 2 hw_ri _ 0 [(0, hw_rv (hw_ea (hw_gE G)) t0), (1, .int a1)] [] s0
  unfold F_X5_air
  refine hw_gdK (fun h_T0 => ?_)
  have T0 := hw_gH_T h_T0
  refine hw_aload_n C dX5_air_0 rfl 0 rfl ?_
  refine hw_getI C cf_X5 lf_X5_18 T0 dX5_air_1 ?_
  refine hw_iconst C dX5_air_4 (v := 5) (by decide) ?_
  refine hw_icmp_ne C dX5_air_5 (tgt := 14) (by decide) (fun c1 => ?_) (fun c1 => ?_)
  · refine hw_iload_n C dX5_air_14 rfl 1 rfl ?_
    exact hw_iret C dX5_air_15
  · refine hw_iload_n C dX5_air_8 rfl 1 rfl ?_
    refine hw_iconst C dX5_air_9 (v := 2) (by decide) ?_
    refine hw_idivC C dX5_air_10 (by decide) ?_
    refine hw_goto C dX5_air_11 (tgt := 15) (by decide) ?_
    exact hw_iret C dX5_air_15
/-! HumWire$Wire eddy(I)I, level 2 -/
def F_X5_eddy  (t0 : Nat) (a1 : Int32) (s0 : hw_St) : Option (Int32 × hw_St) := hw_gd (hw_gH t0 5) (if (s0 t0 1) ≤ 0 then (some ((0 : Int32), s0)) else (hw_bd (F_X5_air t0 a1 s0) (fun r2 s3 => hw_gd (hw_nz (s3 t0 1)) (some ((((20 : Int32) * r2) / (s3 t0 1)), s3)))))
set_option maxRecDepth 20000 in
theorem M_X5_eddy (E : hw_E) (hE : hw_eT E = hw_TH) (t0 : Nat) (a1 : Int32) (s0 : hw_St) : hw_M E yX5_eddy cX5_eddy 2 (some .int) 2 [hw_rv (hw_ea E) t0, .int a1] s0 hw_ri (F_X5_eddy t0 a1 s0) := by
  refine hw_entry (own := RX5) (TL := hw_TH) (by decide) rfl hE (hw_cR (hw_cI hw_cN)) (hw_l8 rfl) (fun G hG C => ?_)
  subst hG
  have hTL := hE
  show hw_K G 2 hw_ri _ 0 [(0, hw_rv (hw_ea (hw_gE G)) t0), (1, .int a1)] [] s0
  unfold F_X5_eddy
  refine hw_gdK (fun h_T0 => ?_)
  have T0 := hw_gH_T h_T0
  refine hw_aload_n C dX5_eddy_0 rfl 0 rfl ?_
  refine hw_getI C cf_X5 lf_X5_9 T0 dX5_eddy_1 ?_
  refine hw_if_le C dX5_eddy_4 (tgt := 23) (by decide) (fun c1 => ?_) (fun c1 => ?_)
  · refine hw_iconst C dX5_eddy_23 (v := 0) (by decide) ?_
    exact hw_iret C dX5_eddy_24
  · refine hw_bipush C dX5_eddy_7 (v := 20) (by decide) ?_
    refine hw_aload_n C dX5_eddy_9 rfl 0 rfl ?_
    refine hw_iload_n C dX5_eddy_10 rfl 1 rfl ?_
    refine hw_callVi C (M_X5_air (hw_gE G) hTL t0 a1 s0) W_X5_air SV_X5_air cf_X5 T0 mw_339 (by decide) rfl ⟨rfl, hw_l8 rfl⟩ dX5_eddy_11 (fun r2 s3 => ?_)
    refine hw_imul C dX5_eddy_14 ?_
    refine hw_aload_n C dX5_eddy_15 rfl 0 rfl ?_
    refine hw_getI C cf_X5 lf_X5_9 T0 dX5_eddy_16 ?_
    refine hw_idiv C dX5_eddy_19 ?_
    refine hw_goto C dX5_eddy_20 (tgt := 24) (by decide) ?_
    exact hw_iret C dX5_eddy_24
/-! HumWire$Wire off(I)I, level 3 -/
def F_X5_off  (t0 : Nat) (a1 : Int32) (s0 : hw_St) : Option (Int32 × hw_St) := hw_gd (hw_gH t0 5) (hw_bd (F_X5_eddy t0 a1 s0) (fun r1 s2 => some ((hw_abs (r1 - (s2 t0 2))), s2)))
set_option maxRecDepth 20000 in
theorem M_X5_off (E : hw_E) (hE : hw_eT E = hw_TH) (t0 : Nat) (a1 : Int32) (s0 : hw_St) : hw_M E yX5_off cX5_off 2 (some .int) 3 [hw_rv (hw_ea E) t0, .int a1] s0 hw_ri (F_X5_off t0 a1 s0) := by
  refine hw_entry (own := RX5) (TL := hw_TH) (by decide) rfl hE (hw_cR (hw_cI hw_cN)) (hw_l8 rfl) (fun G hG C => ?_)
  subst hG
  have hTL := hE
  show hw_K G 2 hw_ri _ 0 [(0, hw_rv (hw_ea (hw_gE G)) t0), (1, .int a1)] [] s0
  unfold F_X5_off
  refine hw_gdK (fun h_T0 => ?_)
  have T0 := hw_gH_T h_T0
  refine hw_aload_n C dX5_off_0 rfl 0 rfl ?_
  refine hw_iload_n C dX5_off_1 rfl 1 rfl ?_
  refine hw_callVi C (M_X5_eddy (hw_gE G) hTL t0 a1 s0) W_X5_eddy SV_X5_eddy cf_X5 T0 mw_347 (by decide) rfl ⟨rfl, hw_l8 rfl⟩ dX5_off_2 (fun r1 s2 => ?_)
  refine hw_aload_n C dX5_off_5 rfl 0 rfl ?_
  refine hw_getI C cf_X5 lf_X5_15 T0 dX5_off_6 ?_
  refine hw_isub C dX5_off_9 ?_
  refine hw_mabs C mw_344 mathw_abs (hw_l8 rfl) dX5_off_10 ?_
  exact hw_iret C dX5_off_13
/-! HumWire$Wire bandOutOf(I)I, level 1 -/
def F_X5_bandOutOf  (t0 : Nat) (a1 : Int32) (s0 : hw_St) : Option (Int32 × hw_St) := hw_gd (hw_gH t0 5) (if (s0 t0 0) = (2 : Int32) then (some ((a1 / (2 : Int32)), s0)) else (if (s0 t0 0) = (4 : Int32) then (some ((hw_max (0 : Int32) ((a1 / (2 : Int32)) - (2 : Int32))), s0)) else (some (a1, s0))))
set_option maxRecDepth 20000 in
theorem M_X5_bandOutOf (E : hw_E) (hE : hw_eT E = hw_TH) (t0 : Nat) (a1 : Int32) (s0 : hw_St) : hw_M E yX5_bandOutOf cX5_bandOutOf 2 (some .int) 1 [hw_rv (hw_ea E) t0, .int a1] s0 hw_ri (F_X5_bandOutOf t0 a1 s0) := by
  refine hw_entry (own := RX5) (TL := hw_TH) (by decide) rfl hE (hw_cR (hw_cI hw_cN)) (hw_l8 rfl) (fun G hG C => ?_)
  subst hG
  have hTL := hE
  show hw_K G 2 hw_ri _ 0 [(0, hw_rv (hw_ea (hw_gE G)) t0), (1, .int a1)] [] s0
  unfold F_X5_bandOutOf
  refine hw_gdK (fun h_T0 => ?_)
  have T0 := hw_gH_T h_T0
  refine hw_aload_n C dX5_bandOutOf_0 rfl 0 rfl ?_
  refine hw_getI C cf_X5 lf_X5_18 T0 dX5_bandOutOf_1 ?_
  refine hw_ifK (fun c1 => ?_) (fun c1 => ?_)
  · refine hw_lookIn C dX5_bandOutOf_4 c1 (off := 28) (tgt := 32) (by decide) ?_
    refine hw_iload_n C dX5_bandOutOf_32 rfl 1 rfl ?_
    refine hw_iconst C dX5_bandOutOf_33 (v := 2) (by decide) ?_
    refine hw_idivC C dX5_bandOutOf_34 (by decide) ?_
    exact hw_iret C dX5_bandOutOf_35
  · refine hw_ifK (fun c2 => ?_) (fun c2 => ?_)
    · refine hw_lookIn C dX5_bandOutOf_4 c2 (off := 32) (tgt := 36) (by decide) ?_
      refine hw_iconst C dX5_bandOutOf_36 (v := 0) (by decide) ?_
      refine hw_iload_n C dX5_bandOutOf_37 rfl 1 rfl ?_
      refine hw_iconst C dX5_bandOutOf_38 (v := 2) (by decide) ?_
      refine hw_idivC C dX5_bandOutOf_39 (by decide) ?_
      refine hw_iconst C dX5_bandOutOf_40 (v := 2) (by decide) ?_
      refine hw_isub C dX5_bandOutOf_41 ?_
      refine hw_mmax C mw_362 mathw_max (hw_l8 rfl) dX5_bandOutOf_42 ?_
      exact hw_iret C dX5_bandOutOf_45
    · refine hw_lookD C dX5_bandOutOf_4 (cs := [2, 4]) (by decide) (List.forall_mem_cons.mpr ⟨hw_ni c1 (z := 2) (by decide), List.forall_mem_cons.mpr ⟨hw_ni c2 (z := 4) (by decide), fun _ h => absurd h List.not_mem_nil⟩⟩) (tgt := 46) (by decide) ?_
      refine hw_iload_n C dX5_bandOutOf_46 rfl 1 rfl ?_
      exact hw_iret C dX5_bandOutOf_47
/-! HumWire$Wire loses()I, level 1 -/
def F_X5_loses  (t0 : Nat) (s0 : hw_St) : Option (Int32 × hw_St) := hw_gd (hw_gH t0 5) (hw_nm ((s0 t0 3) + (1 : Int32)) (fun x1 => if (s0 t0 0) = (1 : Int32) then (some ((x1 + (3 : Int32)), s0)) else (if (s0 t0 0) = (3 : Int32) then (some (((2 : Int32) * (x1 + (3 : Int32))), s0)) else (some (x1, s0)))))
set_option maxRecDepth 20000 in
theorem M_X5_loses (E : hw_E) (hE : hw_eT E = hw_TH) (t0 : Nat) (s0 : hw_St) : hw_M E yX5_loses cX5_loses 2 (some .int) 1 [hw_rv (hw_ea E) t0] s0 hw_ri (F_X5_loses t0 s0) := by
  refine hw_entry (own := RX5) (TL := hw_TH) (by decide) rfl hE (hw_cR hw_cN) (hw_l8 rfl) (fun G hG C => ?_)
  subst hG
  have hTL := hE
  show hw_K G 2 hw_ri _ 0 [(0, hw_rv (hw_ea (hw_gE G)) t0)] [] s0
  unfold F_X5_loses
  refine hw_gdK (fun h_T0 => ?_)
  have T0 := hw_gH_T h_T0
  refine hw_aload_n C dX5_loses_0 rfl 0 rfl ?_
  refine hw_getI C cf_X5 lf_X5_21 T0 dX5_loses_1 ?_
  refine hw_iconst C dX5_loses_4 (v := 1) (by decide) ?_
  refine hw_iadd C dX5_loses_5 ?_
  refine hw_istore_nN C dX5_loses_6 rfl (by decide) (fun _ => rfl) (fun x1 => ?_)
  refine hw_aload_n C dX5_loses_7 rfl 1 rfl ?_
  refine hw_getI C cf_X5 lf_X5_18 T0 dX5_loses_8 ?_
  refine hw_ifK (fun c2 => ?_) (fun c2 => ?_)
  · refine hw_lookIn C dX5_loses_11 c2 (off := 25) (tgt := 36) (by decide) ?_
    refine hw_iload_n C dX5_loses_36 rfl 0 rfl ?_
    refine hw_iconst C dX5_loses_37 (v := 3) (by decide) ?_
    refine hw_iadd C dX5_loses_38 ?_
    exact hw_iret C dX5_loses_39
  · refine hw_ifK (fun c3 => ?_) (fun c3 => ?_)
    · refine hw_lookIn C dX5_loses_11 c3 (off := 29) (tgt := 40) (by decide) ?_
      refine hw_iconst C dX5_loses_40 (v := 2) (by decide) ?_
      refine hw_iload_n C dX5_loses_41 rfl 0 rfl ?_
      refine hw_iconst C dX5_loses_42 (v := 3) (by decide) ?_
      refine hw_iadd C dX5_loses_43 ?_
      refine hw_imul C dX5_loses_44 ?_
      exact hw_iret C dX5_loses_45
    · refine hw_lookD C dX5_loses_11 (cs := [1, 3]) (by decide) (List.forall_mem_cons.mpr ⟨hw_ni c2 (z := 1) (by decide), List.forall_mem_cons.mpr ⟨hw_ni c3 (z := 3) (by decide), fun _ h => absurd h List.not_mem_nil⟩⟩) (tgt := 46) (by decide) ?_
      refine hw_iload_n C dX5_loses_46 rfl 0 rfl ?_
      exact hw_iret C dX5_loses_47
/-! HumWire$Wire worth()I, level 1 -/
def B_X5_worth_20  (t0 : Nat) (k0 : Int32) (s0 : hw_St) : Option (Int32 × hw_St) := if (s0 t0 0) = (1 : Int32) then (some ((k0 + (s0 t0 3)), s0)) else (if (s0 t0 0) = (2 : Int32) then (some ((k0 / (2 : Int32)), s0)) else (if (s0 t0 0) = (3 : Int32) then (some (((k0 + (s0 t0 3)) + (100 : Int32)), s0)) else (if (s0 t0 0) = (4 : Int32) then (some ((s0 t0 2), s0)) else (if (s0 t0 0) = (5 : Int32) then (some ((k0 - (5 : Int32)), s0)) else (some (k0, s0))))))
def F_X5_worth  (t0 : Nat) (s0 : hw_St) : Option (Int32 × hw_St) := hw_gd (hw_gH t0 5) (if (s0 t0 1) ≤ 0 then (B_X5_worth_20 t0 (0 : Int32) s0) else (hw_gd (hw_nz (s0 t0 1)) (B_X5_worth_20 t0 ((s0 t0 2) / (s0 t0 1)) s0)))
set_option maxRecDepth 20000 in
theorem KB_X5_worth_20 {G : hw_G} (C : hw_Ok G cX5_worth RX5 2 1 (some .int) hw_TH) (hTL : hw_eT (hw_gE G) = hw_TH) (t0 : Nat) (k0 : Int32) (s0 : hw_St) (T0 : hw_T hw_TH t0 5) : hw_K G 2 hw_ri (B_X5_worth_20 t0 k0 s0) 20 [(0, hw_rv (hw_ea (hw_gE G)) t0)] [.int k0] s0 := by
  unfold B_X5_worth_20
  refine hw_istore_n C dX5_worth_20 rfl (by decide) rfl ?_
  refine hw_aload_n C dX5_worth_21 rfl 1 rfl ?_
  refine hw_getI C cf_X5 lf_X5_18 T0 dX5_worth_22 ?_
  refine hw_ifK (fun c2 => ?_) (fun c2 => ?_)
  · refine hw_tabIn C dX5_worth_25 c2 (off := 35) (tgt := 60) (by decide) ?_
    refine hw_iload_n C dX5_worth_60 rfl 0 rfl ?_
    refine hw_aload_n C dX5_worth_61 rfl 1 rfl ?_
    refine hw_getI C cf_X5 lf_X5_21 T0 dX5_worth_62 ?_
    refine hw_iadd C dX5_worth_65 ?_
    exact hw_iret C dX5_worth_66
  · refine hw_ifK (fun c3 => ?_) (fun c3 => ?_)
    · refine hw_tabIn C dX5_worth_25 c3 (off := 52) (tgt := 77) (by decide) ?_
      refine hw_iload_n C dX5_worth_77 rfl 0 rfl ?_
      refine hw_iconst C dX5_worth_78 (v := 2) (by decide) ?_
      refine hw_idivC C dX5_worth_79 (by decide) ?_
      exact hw_iret C dX5_worth_80
    · refine hw_ifK (fun c4 => ?_) (fun c4 => ?_)
      · refine hw_tabIn C dX5_worth_25 c4 (off := 42) (tgt := 67) (by decide) ?_
        refine hw_iload_n C dX5_worth_67 rfl 0 rfl ?_
        refine hw_aload_n C dX5_worth_68 rfl 1 rfl ?_
        refine hw_getI C cf_X5 lf_X5_21 T0 dX5_worth_69 ?_
        refine hw_iadd C dX5_worth_72 ?_
        refine hw_bipush C dX5_worth_73 (v := 100) (by decide) ?_
        refine hw_iadd C dX5_worth_75 ?_
        exact hw_iret C dX5_worth_76
      · refine hw_ifK (fun c5 => ?_) (fun c5 => ?_)
        · refine hw_tabIn C dX5_worth_25 c5 (off := 56) (tgt := 81) (by decide) ?_
          refine hw_aload_n C dX5_worth_81 rfl 1 rfl ?_
          refine hw_getI C cf_X5 lf_X5_15 T0 dX5_worth_82 ?_
          exact hw_iret C dX5_worth_85
        · refine hw_ifK (fun c6 => ?_) (fun c6 => ?_)
          · refine hw_tabIn C dX5_worth_25 c6 (off := 61) (tgt := 86) (by decide) ?_
            refine hw_iload_n C dX5_worth_86 rfl 0 rfl ?_
            refine hw_iconst C dX5_worth_87 (v := 5) (by decide) ?_
            refine hw_isub C dX5_worth_88 ?_
            exact hw_iret C dX5_worth_89
          · refine hw_tabD C dX5_worth_25 (cs := [1, 2, 3, 4, 5]) (by decide) (List.forall_mem_cons.mpr ⟨hw_ni c2 (z := 1) (by decide), List.forall_mem_cons.mpr ⟨hw_ni c3 (z := 2) (by decide), List.forall_mem_cons.mpr ⟨hw_ni c4 (z := 3) (by decide), List.forall_mem_cons.mpr ⟨hw_ni c5 (z := 4) (by decide), List.forall_mem_cons.mpr ⟨hw_ni c6 (z := 5) (by decide), fun _ h => absurd h List.not_mem_nil⟩⟩⟩⟩⟩) (tgt := 90) (by decide) ?_
            refine hw_iload_n C dX5_worth_90 rfl 0 rfl ?_
            exact hw_iret C dX5_worth_91
set_option maxRecDepth 20000 in
theorem M_X5_worth (E : hw_E) (hE : hw_eT E = hw_TH) (t0 : Nat) (s0 : hw_St) : hw_M E yX5_worth cX5_worth 2 (some .int) 1 [hw_rv (hw_ea E) t0] s0 hw_ri (F_X5_worth t0 s0) := by
  refine hw_entry (own := RX5) (TL := hw_TH) (by decide) rfl hE (hw_cR hw_cN) (hw_l8 rfl) (fun G hG C => ?_)
  subst hG
  have hTL := hE
  show hw_K G 2 hw_ri _ 0 [(0, hw_rv (hw_ea (hw_gE G)) t0)] [] s0
  unfold F_X5_worth
  refine hw_gdK (fun h_T0 => ?_)
  have T0 := hw_gH_T h_T0
  refine hw_aload_n C dX5_worth_0 rfl 0 rfl ?_
  refine hw_getI C cf_X5 lf_X5_9 T0 dX5_worth_1 ?_
  refine hw_if_le C dX5_worth_4 (tgt := 19) (by decide) (fun c1 => ?_) (fun c1 => ?_)
  · refine hw_iconst C dX5_worth_19 (v := 0) (by decide) ?_
    exact hw_lv [0] rfl (KB_X5_worth_20 C hTL t0 (0 : Int32) s0 T0)
  · refine hw_aload_n C dX5_worth_7 rfl 0 rfl ?_
    refine hw_getI C cf_X5 lf_X5_15 T0 dX5_worth_8 ?_
    refine hw_aload_n C dX5_worth_11 rfl 0 rfl ?_
    refine hw_getI C cf_X5 lf_X5_9 T0 dX5_worth_12 ?_
    refine hw_idiv C dX5_worth_15 ?_
    refine hw_goto C dX5_worth_16 (tgt := 20) (by decide) ?_
    exact hw_lv [0] rfl (KB_X5_worth_20 C hTL t0 ((s0 t0 2) / (s0 t0 1)) s0 T0)
