/-! HumWire$Reader sortAt(I)I, level 1 -/
def B_X1_sortAt_35  (l2 : Int32) (s0 : hw_St) : Option (Int32 × hw_St) := if l2 < (48 : Int32) then (some ((3 : Int32), s0)) else (if (57 : Int32) < l2 then (some ((3 : Int32), s0)) else (some ((2 : Int32), s0)))
def F_X1_sortAt  (a1 : Int32) (s0 : hw_St) : Option (Int32 × hw_St) := if a1 < 0 then (some ((0 : Int32), s0)) else (if a1 < (s0 13 1) then (hw_gd (hw_gH (s0 13 0).toNatClampNeg 11) (hw_gd (hw_inb a1 (hw_ln (s0 13 0).toNatClampNeg)) (hw_nm (s0 (s0 13 0).toNatClampNeg a1.toNatClampNeg) (fun x6 => if x6 < (97 : Int32) then (B_X1_sortAt_35 x6 s0) else (if (122 : Int32) < x6 then (B_X1_sortAt_35 x6 s0) else (some ((1 : Int32), s0))))))) else (some ((0 : Int32), s0)))
set_option maxRecDepth 20000 in
theorem KB_X1_sortAt_35 {G : hw_G} (C : hw_Ok G cX1_sortAt RX1 3 1 (some .int) hw_TH) (hTL : hw_eT (hw_gE G) = hw_TH) (l2 : Int32) (s0 : hw_St) : hw_K G 3 hw_ri (B_X1_sortAt_35 l2 s0) 35 [(2, .int l2)] [] s0 := by
  unfold B_X1_sortAt_35
  refine hw_iload_n C dX1_sortAt_35 rfl 0 rfl ?_
  refine hw_bipush C dX1_sortAt_36 (v := 48) (by decide) ?_
  refine hw_icmp_lt C dX1_sortAt_38 (tgt := 51) (by decide) (fun c9 => ?_) (fun c9 => ?_)
  · refine hw_iconst C dX1_sortAt_51 (v := 3) (by decide) ?_
    exact hw_iret C dX1_sortAt_52
  · refine hw_iload_n C dX1_sortAt_41 rfl 0 rfl ?_
    refine hw_bipush C dX1_sortAt_42 (v := 57) (by decide) ?_
    refine hw_icmp_gt C dX1_sortAt_44 (tgt := 51) (by decide) (fun c10 => ?_) (fun c10 => ?_)
    · refine hw_iconst C dX1_sortAt_51 (v := 3) (by decide) ?_
      exact hw_iret C dX1_sortAt_52
    · refine hw_iconst C dX1_sortAt_47 (v := 2) (by decide) ?_
      refine hw_goto C dX1_sortAt_48 (tgt := 52) (by decide) ?_
      exact hw_iret C dX1_sortAt_52
set_option maxRecDepth 20000 in
theorem M_X1_sortAt (E : hw_E) (hE : hw_eT E = hw_TH) (a1 : Int32) (s0 : hw_St) : hw_M E yX1_sortAt cX1_sortAt 3 (some .int) 1 [hw_rv (hw_ea E) 13, .int a1] s0 hw_ri (F_X1_sortAt a1 s0) := by
  refine hw_entry (own := RX1) (TL := hw_TH) (by decide) rfl hE (hw_cR (hw_cI hw_cN)) (hw_l8 rfl) (fun G hG C => ?_)
  subst hG
  have hTL := hE
  show hw_K G 3 hw_ri _ 0 [(0, hw_rv (hw_ea (hw_gE G)) 13), (1, .int a1)] [] s0
  unfold F_X1_sortAt
  refine hw_iload_n C dX1_sortAt_0 rfl 1 rfl ?_
  refine hw_if_lt C dX1_sortAt_1 (tgt := 12) (by decide) (fun c1 => ?_) (fun c1 => ?_)
  · refine hw_iconst C dX1_sortAt_12 (v := 0) (by decide) ?_
    exact hw_iret C dX1_sortAt_13
  · refine hw_iload_n C dX1_sortAt_4 rfl 1 rfl ?_
    refine hw_aload_n C dX1_sortAt_5 rfl 0 rfl ?_
    refine hw_getI C cf_X1 lf_X1_25 hw_T13 dX1_sortAt_6 ?_
    refine hw_icmp_lt C dX1_sortAt_9 (tgt := 14) (by decide) (fun c2 => ?_) (fun c2 => ?_)
    · refine hw_aload_n C dX1_sortAt_14 rfl 0 rfl ?_
      refine hw_getM C cf_X1 lf_X1_9 hw_T13 dX1_sortAt_15 ?_
      refine hw_iload_n C dX1_sortAt_18 rfl 1 rfl ?_
      refine hw_gdK (fun h4 => ?_)
      have T_3 := hw_gH_T h4
      refine hw_bald C T_3 rfl dX1_sortAt_19 (fun h5 => ?_)
      refine hw_istore_nN C dX1_sortAt_20 rfl (by decide) (fun _ => rfl) (fun x6 => ?_)
      refine hw_iload_n C dX1_sortAt_21 rfl 0 rfl ?_
      refine hw_bipush C dX1_sortAt_22 (v := 97) (by decide) ?_
      refine hw_icmp_lt C dX1_sortAt_24 (tgt := 35) (by decide) (fun c7 => ?_) (fun c7 => ?_)
      · exact hw_lv [0] rfl (KB_X1_sortAt_35 C hTL x6 s0)
      · refine hw_iload_n C dX1_sortAt_27 rfl 0 rfl ?_
        refine hw_bipush C dX1_sortAt_28 (v := 122) (by decide) ?_
        refine hw_icmp_gt C dX1_sortAt_30 (tgt := 35) (by decide) (fun c8 => ?_) (fun c8 => ?_)
        · exact hw_lv [0] rfl (KB_X1_sortAt_35 C hTL x6 s0)
        · refine hw_iconst C dX1_sortAt_33 (v := 1) (by decide) ?_
          exact hw_iret C dX1_sortAt_34
    · refine hw_iconst C dX1_sortAt_12 (v := 0) (by decide) ?_
      exact hw_iret C dX1_sortAt_13
/-! HumWire$Reader step()V, level 2 -/
def B_X1_step_182  (k0 : Int32) (s0 : hw_St) : Option (Unit × hw_St) := hw_gd (hw_isb k0) (hw_nm (hw_up s0 13 4 k0) (fun s25 => some ((), s25)))
def B_X1_step_181  (s0 : hw_St) : Option (Unit × hw_St) := B_X1_step_182 (0 : Int32) s0
def B_X1_step_164  (l1 : Int32) (l2 : Int32) (s0 : hw_St) : Option (Unit × hw_St) := if l1 = 0 then (B_X1_step_181  s0) else (if (s0 13 6) = l2 then (B_X1_step_182 (1 : Int32) s0) else (B_X1_step_181  s0))
def S_X1_step_125  (w125 : Int32 → Int32 → hw_St → Option (Unit × hw_St)) (l1 : Int32) (l2 : Int32) (s0 : hw_St) : Option (Unit × hw_St) := if (s0 13 1) ≤ (s0 13 5) then (B_X1_step_164 l1 l2 s0) else (hw_bd (F_X1_sortAt (s0 13 5) s0) (fun r19 s20 => if r19 = (s20 13 3) then (hw_nm (hw_up s20 13 5 ((s20 13 5) + (1 : Int32))) (fun s22 => w125 l1 l2 s22)) else (B_X1_step_164 l1 l2 s20)))
def L_X1_step_125  : Nat → Int32 → Int32 → hw_St → Option (Unit × hw_St)
  | 0 => fun _ _ _ => none
  | n + 1 => S_X1_step_125  (L_X1_step_125  n)
def B_X1_step_106  (l1 : Int32) (l2 : Int32) (k0 : Int32) (s0 : hw_St) : Option (Unit × hw_St) := hw_nm (hw_up s0 13 5 k0) (fun s15 => if (s15 13 3) = (1 : Int32) then (L_X1_step_125 130 l1 l2 s15) else (if (s15 13 3) = (2 : Int32) then (L_X1_step_125 130 l1 l2 s15) else (B_X1_step_164 l1 l2 s15)))
def B_X1_step_73  (l1 : Int32) (l2 : Int32) (s0 : hw_St) : Option (Unit × hw_St) := hw_bd (F_X1_sortAt (s0 13 6) s0) (fun r11 s12 => hw_nm (hw_up s12 13 3 r11) (fun s13 => if (s13 13 3) = 0 then (B_X1_step_106 l1 l2 (s13 13 6) s13) else (B_X1_step_106 l1 l2 ((s13 13 6) + (1 : Int32)) s13)))
def S_X1_step_35  (w35 : Int32 → Int32 → hw_St → Option (Unit × hw_St)) (l1 : Int32) (l2 : Int32) (s0 : hw_St) : Option (Unit × hw_St) := if (s0 13 1) ≤ (s0 13 6) then (B_X1_step_73 l1 l2 s0) else (hw_gd (hw_gH (s0 13 0).toNatClampNeg 11) (hw_gd (hw_inb (s0 13 6) (hw_ln (s0 13 0).toNatClampNeg)) (if (s0 (s0 13 0).toNatClampNeg (s0 13 6).toNatClampNeg) = (32 : Int32) then (hw_nm (hw_up s0 13 6 ((s0 13 6) + (1 : Int32))) (fun s10 => w35 l1 l2 s10)) else (B_X1_step_73 l1 l2 s0))))
def L_X1_step_35  : Nat → Int32 → Int32 → hw_St → Option (Unit × hw_St)
  | 0 => fun _ _ _ => none
  | n + 1 => S_X1_step_35  (L_X1_step_35  n)
def B_X1_step_21  (k0 : Int32) (s0 : hw_St) : Option (Unit × hw_St) := hw_nm (s0 13 5) (fun x3 => hw_nm (hw_up s0 13 6 (s0 13 5)) (fun s4 => L_X1_step_35 130 k0 x3 s4))
def B_X1_step_16  (s0 : hw_St) : Option (Unit × hw_St) := B_X1_step_21 (1 : Int32) s0
def F_X1_step  (s0 : hw_St) : Option (Unit × hw_St) := if (s0 13 3) = (1 : Int32) then (B_X1_step_16  s0) else (if (s0 13 3) = (2 : Int32) then (B_X1_step_16  s0) else (B_X1_step_21 (0 : Int32) s0))
set_option maxRecDepth 20000 in
theorem KB_X1_step_182 {G : hw_G} (C : hw_Ok G cX1_step RX1 3 2 none hw_TH) (hTL : hw_eT (hw_gE G) = hw_TH) (k0 : Int32) (s0 : hw_St) : hw_K G 3 hw_r0 (B_X1_step_182 k0 s0) 182 [] [.int k0, hw_rv (hw_ea (hw_gE G)) 13] s0 := by
  unfold B_X1_step_182
  refine hw_putZ C cf_X1 lf_X1_60 hw_T13 rfl rfl dX1_step_182 (fun s25 => ?_)
  exact hw_vret C dX1_step_185
set_option maxRecDepth 20000 in
theorem KB_X1_step_181 {G : hw_G} (C : hw_Ok G cX1_step RX1 3 2 none hw_TH) (hTL : hw_eT (hw_gE G) = hw_TH) (s0 : hw_St) : hw_K G 3 hw_r0 (B_X1_step_181  s0) 181 [] [hw_rv (hw_ea (hw_gE G)) 13] s0 := by
  unfold B_X1_step_181
  refine hw_iconst C dX1_step_181 (v := 0) (by decide) ?_
  exact hw_lv [] rfl (KB_X1_step_182 C hTL (0 : Int32) s0)
set_option maxRecDepth 20000 in
theorem KB_X1_step_164 {G : hw_G} (C : hw_Ok G cX1_step RX1 3 2 none hw_TH) (hTL : hw_eT (hw_gE G) = hw_TH) (l1 : Int32) (l2 : Int32) (s0 : hw_St) : hw_K G 3 hw_r0 (B_X1_step_164 l1 l2 s0) 164 [(0, hw_rv (hw_ea (hw_gE G)) 13), (1, .int l1), (2, .int l2)] [] s0 := by
  unfold B_X1_step_164
  refine hw_aload_n C dX1_step_164 rfl 0 rfl ?_
  refine hw_iload_n C dX1_step_165 rfl 1 rfl ?_
  refine hw_if_eq C dX1_step_166 (tgt := 181) (by decide) (fun c23 => ?_) (fun c23 => ?_)
  · exact hw_lv [] rfl (KB_X1_step_181 C hTL  s0)
  · refine hw_aload_n C dX1_step_169 rfl 0 rfl ?_
    refine hw_getI C cf_X1 lf_X1_53 hw_T13 dX1_step_170 ?_
    refine hw_iload_n C dX1_step_173 rfl 2 rfl ?_
    refine hw_icmp_ne C dX1_step_174 (tgt := 181) (by decide) (fun c24 => ?_) (fun c24 => ?_)
    · exact hw_lv [] rfl (KB_X1_step_181 C hTL  s0)
    · refine hw_iconst C dX1_step_177 (v := 1) (by decide) ?_
      refine hw_goto C dX1_step_178 (tgt := 182) (by decide) ?_
      exact hw_lv [] rfl (KB_X1_step_182 C hTL (1 : Int32) s0)
set_option maxRecDepth 20000 in
theorem KS_X1_step_125 {G : hw_G} (C : hw_Ok G cX1_step RX1 3 2 none hw_TH) (hTL : hw_eT (hw_gE G) = hw_TH) (w125 : Int32 → Int32 → hw_St → Option (Unit × hw_St)) (H_w125 : ∀ (l1 : Int32) (l2 : Int32) (s0 : hw_St), hw_K G 3 hw_r0 (w125 l1 l2 s0) 125 [(0, hw_rv (hw_ea (hw_gE G)) 13), (1, .int l1), (2, .int l2)] [] s0) (l1 : Int32) (l2 : Int32) (s0 : hw_St) : hw_K G 3 hw_r0 (S_X1_step_125 w125 l1 l2 s0) 125 [(0, hw_rv (hw_ea (hw_gE G)) 13), (1, .int l1), (2, .int l2)] [] s0 := by
  unfold S_X1_step_125
  refine hw_aload_n C dX1_step_125 rfl 0 rfl ?_
  refine hw_getI C cf_X1 lf_X1_32 hw_T13 dX1_step_126 ?_
  refine hw_aload_n C dX1_step_129 rfl 0 rfl ?_
  refine hw_getI C cf_X1 lf_X1_25 hw_T13 dX1_step_130 ?_
  refine hw_icmp_ge C dX1_step_133 (tgt := 164) (by decide) (fun c18 => ?_) (fun c18 => ?_)
  · exact hw_lv [0, 1, 2] rfl (KB_X1_step_164 C hTL l1 l2 s0)
  · refine hw_aload_n C dX1_step_136 rfl 0 rfl ?_
    refine hw_aload_n C dX1_step_137 rfl 0 rfl ?_
    refine hw_getI C cf_X1 lf_X1_32 hw_T13 dX1_step_138 ?_
    refine hw_callVi C (M_X1_sortAt (hw_gE G) hTL (s0 13 5) s0) W_X1_sortAt SV_X1_sortAt cf_X1 hw_T13 mw_627 (by decide) rfl ⟨rfl, hw_l8 rfl⟩ dX1_step_141 (fun r19 s20 => ?_)
    refine hw_aload_n C dX1_step_144 rfl 0 rfl ?_
    refine hw_getI C cf_X1 lf_X1_29 hw_T13 dX1_step_145 ?_
    refine hw_icmp_ne C dX1_step_148 (tgt := 164) (by decide) (fun c21 => ?_) (fun c21 => ?_)
    · exact hw_lv [0, 1, 2] rfl (KB_X1_step_164 C hTL l1 l2 s20)
    · refine hw_aload_n C dX1_step_151 rfl 0 rfl ?_
      refine hw_dup C dX1_step_152 ?_
      refine hw_getI C cf_X1 lf_X1_32 hw_T13 dX1_step_153 ?_
      refine hw_iconst C dX1_step_156 (v := 1) (by decide) ?_
      refine hw_iadd C dX1_step_157 ?_
      refine hw_putI C cf_X1 lf_X1_32 hw_T13 rfl rfl dX1_step_158 (fun s22 => ?_)
      refine hw_goto C dX1_step_161 (tgt := 125) (by decide) ?_
      exact hw_lv [0, 1, 2] rfl (H_w125 l1 l2 s22)
theorem KL_X1_step_125 {G : hw_G} (C : hw_Ok G cX1_step RX1 3 2 none hw_TH) (hTL : hw_eT (hw_gE G) = hw_TH) : ∀ (n_ : Nat) (l1 : Int32) (l2 : Int32) (s0 : hw_St), hw_K G 3 hw_r0 (L_X1_step_125 n_ l1 l2 s0) 125 [(0, hw_rv (hw_ea (hw_gE G)) 13), (1, .int l1), (2, .int l2)] [] s0 := by
  intro n_
  induction n_ with
  | zero => intros; exact hw_nil
  | succ n_ ih => intro l1 l2 s0; exact KS_X1_step_125 C hTL (L_X1_step_125 n_) ih l1 l2 s0
set_option maxRecDepth 20000 in
theorem KB_X1_step_106 {G : hw_G} (C : hw_Ok G cX1_step RX1 3 2 none hw_TH) (hTL : hw_eT (hw_gE G) = hw_TH) (l1 : Int32) (l2 : Int32) (k0 : Int32) (s0 : hw_St) : hw_K G 3 hw_r0 (B_X1_step_106 l1 l2 k0 s0) 106 [(0, hw_rv (hw_ea (hw_gE G)) 13), (1, .int l1), (2, .int l2)] [.int k0, hw_rv (hw_ea (hw_gE G)) 13] s0 := by
  unfold B_X1_step_106
  refine hw_putI C cf_X1 lf_X1_32 hw_T13 rfl rfl dX1_step_106 (fun s15 => ?_)
  refine hw_aload_n C dX1_step_109 rfl 0 rfl ?_
  refine hw_getI C cf_X1 lf_X1_29 hw_T13 dX1_step_110 ?_
  refine hw_iconst C dX1_step_113 (v := 1) (by decide) ?_
  refine hw_icmp_eq C dX1_step_114 (tgt := 125) (by decide) (fun c16 => ?_) (fun c16 => ?_)
  · exact hw_lv [0, 1, 2] rfl (KL_X1_step_125 C hTL 130 l1 l2 s15)
  · refine hw_aload_n C dX1_step_117 rfl 0 rfl ?_
    refine hw_getI C cf_X1 lf_X1_29 hw_T13 dX1_step_118 ?_
    refine hw_iconst C dX1_step_121 (v := 2) (by decide) ?_
    refine hw_icmp_ne C dX1_step_122 (tgt := 164) (by decide) (fun c17 => ?_) (fun c17 => ?_)
    · exact hw_lv [0, 1, 2] rfl (KB_X1_step_164 C hTL l1 l2 s15)
    · exact hw_lv [0, 1, 2] rfl (KL_X1_step_125 C hTL 130 l1 l2 s15)
set_option maxRecDepth 20000 in
theorem KB_X1_step_73 {G : hw_G} (C : hw_Ok G cX1_step RX1 3 2 none hw_TH) (hTL : hw_eT (hw_gE G) = hw_TH) (l1 : Int32) (l2 : Int32) (s0 : hw_St) : hw_K G 3 hw_r0 (B_X1_step_73 l1 l2 s0) 73 [(0, hw_rv (hw_ea (hw_gE G)) 13), (1, .int l1), (2, .int l2)] [] s0 := by
  unfold B_X1_step_73
  refine hw_aload_n C dX1_step_73 rfl 0 rfl ?_
  refine hw_aload_n C dX1_step_74 rfl 0 rfl ?_
  refine hw_aload_n C dX1_step_75 rfl 0 rfl ?_
  refine hw_getI C cf_X1 lf_X1_53 hw_T13 dX1_step_76 ?_
  refine hw_callVi C (M_X1_sortAt (hw_gE G) hTL (s0 13 6) s0) W_X1_sortAt SV_X1_sortAt cf_X1 hw_T13 mw_627 (by decide) rfl ⟨rfl, hw_l8 rfl⟩ dX1_step_79 (fun r11 s12 => ?_)
  refine hw_putI C cf_X1 lf_X1_29 hw_T13 rfl rfl dX1_step_82 (fun s13 => ?_)
  refine hw_aload_n C dX1_step_85 rfl 0 rfl ?_
  refine hw_aload_n C dX1_step_86 rfl 0 rfl ?_
  refine hw_getI C cf_X1 lf_X1_29 hw_T13 dX1_step_87 ?_
  refine hw_if_ne C dX1_step_90 (tgt := 100) (by decide) (fun c14 => ?_) (fun c14 => ?_)
  · refine hw_aload_n C dX1_step_100 rfl 0 rfl ?_
    refine hw_getI C cf_X1 lf_X1_53 hw_T13 dX1_step_101 ?_
    refine hw_iconst C dX1_step_104 (v := 1) (by decide) ?_
    refine hw_iadd C dX1_step_105 ?_
    exact hw_lv [0, 1, 2] rfl (KB_X1_step_106 C hTL l1 l2 ((s13 13 6) + (1 : Int32)) s13)
  · refine hw_aload_n C dX1_step_93 rfl 0 rfl ?_
    refine hw_getI C cf_X1 lf_X1_53 hw_T13 dX1_step_94 ?_
    refine hw_goto C dX1_step_97 (tgt := 106) (by decide) ?_
    exact hw_lv [0, 1, 2] rfl (KB_X1_step_106 C hTL l1 l2 (s13 13 6) s13)
set_option maxRecDepth 20000 in
theorem KS_X1_step_35 {G : hw_G} (C : hw_Ok G cX1_step RX1 3 2 none hw_TH) (hTL : hw_eT (hw_gE G) = hw_TH) (w35 : Int32 → Int32 → hw_St → Option (Unit × hw_St)) (H_w35 : ∀ (l1 : Int32) (l2 : Int32) (s0 : hw_St), hw_K G 3 hw_r0 (w35 l1 l2 s0) 35 [(0, hw_rv (hw_ea (hw_gE G)) 13), (1, .int l1), (2, .int l2)] [] s0) (l1 : Int32) (l2 : Int32) (s0 : hw_St) : hw_K G 3 hw_r0 (S_X1_step_35 w35 l1 l2 s0) 35 [(0, hw_rv (hw_ea (hw_gE G)) 13), (1, .int l1), (2, .int l2)] [] s0 := by
  unfold S_X1_step_35
  refine hw_aload_n C dX1_step_35 rfl 0 rfl ?_
  refine hw_getI C cf_X1 lf_X1_53 hw_T13 dX1_step_36 ?_
  refine hw_aload_n C dX1_step_39 rfl 0 rfl ?_
  refine hw_getI C cf_X1 lf_X1_25 hw_T13 dX1_step_40 ?_
  refine hw_icmp_ge C dX1_step_43 (tgt := 73) (by decide) (fun c5 => ?_) (fun c5 => ?_)
  · exact hw_lv [0, 1, 2] rfl (KB_X1_step_73 C hTL l1 l2 s0)
  · refine hw_aload_n C dX1_step_46 rfl 0 rfl ?_
    refine hw_getM C cf_X1 lf_X1_9 hw_T13 dX1_step_47 ?_
    refine hw_aload_n C dX1_step_50 rfl 0 rfl ?_
    refine hw_getI C cf_X1 lf_X1_53 hw_T13 dX1_step_51 ?_
    refine hw_gdK (fun h7 => ?_)
    have T_6 := hw_gH_T h7
    refine hw_bald C T_6 rfl dX1_step_54 (fun h8 => ?_)
    refine hw_bipush C dX1_step_55 (v := 32) (by decide) ?_
    refine hw_icmp_ne C dX1_step_57 (tgt := 73) (by decide) (fun c9 => ?_) (fun c9 => ?_)
    · exact hw_lv [0, 1, 2] rfl (KB_X1_step_73 C hTL l1 l2 s0)
    · refine hw_aload_n C dX1_step_60 rfl 0 rfl ?_
      refine hw_dup C dX1_step_61 ?_
      refine hw_getI C cf_X1 lf_X1_53 hw_T13 dX1_step_62 ?_
      refine hw_iconst C dX1_step_65 (v := 1) (by decide) ?_
      refine hw_iadd C dX1_step_66 ?_
      refine hw_putI C cf_X1 lf_X1_53 hw_T13 rfl rfl dX1_step_67 (fun s10 => ?_)
      refine hw_goto C dX1_step_70 (tgt := 35) (by decide) ?_
      exact hw_lv [0, 1, 2] rfl (H_w35 l1 l2 s10)
theorem KL_X1_step_35 {G : hw_G} (C : hw_Ok G cX1_step RX1 3 2 none hw_TH) (hTL : hw_eT (hw_gE G) = hw_TH) : ∀ (n_ : Nat) (l1 : Int32) (l2 : Int32) (s0 : hw_St), hw_K G 3 hw_r0 (L_X1_step_35 n_ l1 l2 s0) 35 [(0, hw_rv (hw_ea (hw_gE G)) 13), (1, .int l1), (2, .int l2)] [] s0 := by
  intro n_
  induction n_ with
  | zero => intros; exact hw_nil
  | succ n_ ih => intro l1 l2 s0; exact KS_X1_step_35 C hTL (L_X1_step_35 n_) ih l1 l2 s0
set_option maxRecDepth 20000 in
theorem KB_X1_step_21 {G : hw_G} (C : hw_Ok G cX1_step RX1 3 2 none hw_TH) (hTL : hw_eT (hw_gE G) = hw_TH) (k0 : Int32) (s0 : hw_St) : hw_K G 3 hw_r0 (B_X1_step_21 k0 s0) 21 [(0, hw_rv (hw_ea (hw_gE G)) 13)] [.int k0] s0 := by
  unfold B_X1_step_21
  refine hw_istore_n C dX1_step_21 rfl (by decide) rfl ?_
  refine hw_aload_n C dX1_step_22 rfl 1 rfl ?_
  refine hw_getI C cf_X1 lf_X1_32 hw_T13 dX1_step_23 ?_
  refine hw_istore_nN C dX1_step_26 rfl (by decide) (fun _ => rfl) (fun x3 => ?_)
  refine hw_aload_n C dX1_step_27 rfl 2 rfl ?_
  refine hw_aload_n C dX1_step_28 rfl 2 rfl ?_
  refine hw_getI C cf_X1 lf_X1_32 hw_T13 dX1_step_29 ?_
  refine hw_putI C cf_X1 lf_X1_53 hw_T13 rfl rfl dX1_step_32 (fun s4 => ?_)
  exact hw_lv [2, 1, 0] rfl (KL_X1_step_35 C hTL 130 k0 x3 s4)
set_option maxRecDepth 20000 in
theorem KB_X1_step_16 {G : hw_G} (C : hw_Ok G cX1_step RX1 3 2 none hw_TH) (hTL : hw_eT (hw_gE G) = hw_TH) (s0 : hw_St) : hw_K G 3 hw_r0 (B_X1_step_16  s0) 16 [(0, hw_rv (hw_ea (hw_gE G)) 13)] [] s0 := by
  unfold B_X1_step_16
  refine hw_iconst C dX1_step_16 (v := 1) (by decide) ?_
  refine hw_goto C dX1_step_17 (tgt := 21) (by decide) ?_
  exact hw_lv [0] rfl (KB_X1_step_21 C hTL (1 : Int32) s0)
set_option maxRecDepth 20000 in
theorem M_X1_step (E : hw_E) (hE : hw_eT E = hw_TH) (s0 : hw_St) : hw_M E yX1_step cX1_step 3 none 2 [hw_rv (hw_ea E) 13] s0 hw_r0 (F_X1_step  s0) := by
  refine hw_entry (own := RX1) (TL := hw_TH) (by decide) rfl hE (hw_cR hw_cN) (hw_l8 rfl) (fun G hG C => ?_)
  subst hG
  have hTL := hE
  show hw_K G 3 hw_r0 _ 0 [(0, hw_rv (hw_ea (hw_gE G)) 13)] [] s0
  unfold F_X1_step
  refine hw_aload_n C dX1_step_0 rfl 0 rfl ?_
  refine hw_getI C cf_X1 lf_X1_29 hw_T13 dX1_step_1 ?_
  refine hw_iconst C dX1_step_4 (v := 1) (by decide) ?_
  refine hw_icmp_eq C dX1_step_5 (tgt := 16) (by decide) (fun c1 => ?_) (fun c1 => ?_)
  · exact hw_lv [0] rfl (KB_X1_step_16 C hTL  s0)
  · refine hw_aload_n C dX1_step_8 rfl 0 rfl ?_
    refine hw_getI C cf_X1 lf_X1_29 hw_T13 dX1_step_9 ?_
    refine hw_iconst C dX1_step_12 (v := 2) (by decide) ?_
    refine hw_icmp_ne C dX1_step_13 (tgt := 20) (by decide) (fun c2 => ?_) (fun c2 => ?_)
    · refine hw_iconst C dX1_step_20 (v := 0) (by decide) ?_
      exact hw_lv [0] rfl (KB_X1_step_21 C hTL (0 : Int32) s0)
    · exact hw_lv [0] rfl (KB_X1_step_16 C hTL  s0)
/-! HumWire$Reader byteHere()I, level 1 -/
def F_X1_byteHere  (s0 : hw_St) : Option (Int32 × hw_St) := if (s0 13 6) < 0 then (some ((0 : Int32), s0)) else (if (s0 13 1) ≤ (s0 13 6) then (some ((0 : Int32), s0)) else (hw_gd (hw_gH (s0 13 0).toNatClampNeg 11) (hw_gd (hw_inb (s0 13 6) (hw_ln (s0 13 0).toNatClampNeg)) (some ((s0 (s0 13 0).toNatClampNeg (s0 13 6).toNatClampNeg), s0)))))
set_option maxRecDepth 20000 in
theorem M_X1_byteHere (E : hw_E) (hE : hw_eT E = hw_TH) (s0 : hw_St) : hw_M E yX1_byteHere cX1_byteHere 1 (some .int) 1 [hw_rv (hw_ea E) 13] s0 hw_ri (F_X1_byteHere  s0) := by
  refine hw_entry (own := RX1) (TL := hw_TH) (by decide) rfl hE (hw_cR hw_cN) (hw_l8 rfl) (fun G hG C => ?_)
  subst hG
  have hTL := hE
  show hw_K G 1 hw_ri _ 0 [(0, hw_rv (hw_ea (hw_gE G)) 13)] [] s0
  unfold F_X1_byteHere
  refine hw_aload_n C dX1_byteHere_0 rfl 0 rfl ?_
  refine hw_getI C cf_X1 lf_X1_53 hw_T13 dX1_byteHere_1 ?_
  refine hw_if_lt C dX1_byteHere_4 (tgt := 30) (by decide) (fun c1 => ?_) (fun c1 => ?_)
  · refine hw_iconst C dX1_byteHere_30 (v := 0) (by decide) ?_
    exact hw_iret C dX1_byteHere_31
  · refine hw_aload_n C dX1_byteHere_7 rfl 0 rfl ?_
    refine hw_getI C cf_X1 lf_X1_53 hw_T13 dX1_byteHere_8 ?_
    refine hw_aload_n C dX1_byteHere_11 rfl 0 rfl ?_
    refine hw_getI C cf_X1 lf_X1_25 hw_T13 dX1_byteHere_12 ?_
    refine hw_icmp_ge C dX1_byteHere_15 (tgt := 30) (by decide) (fun c2 => ?_) (fun c2 => ?_)
    · refine hw_iconst C dX1_byteHere_30 (v := 0) (by decide) ?_
      exact hw_iret C dX1_byteHere_31
    · refine hw_aload_n C dX1_byteHere_18 rfl 0 rfl ?_
      refine hw_getM C cf_X1 lf_X1_9 hw_T13 dX1_byteHere_19 ?_
      refine hw_aload_n C dX1_byteHere_22 rfl 0 rfl ?_
      refine hw_getI C cf_X1 lf_X1_53 hw_T13 dX1_byteHere_23 ?_
      refine hw_gdK (fun h4 => ?_)
      have T_3 := hw_gH_T h4
      refine hw_bald C T_3 rfl dX1_byteHere_26 (fun h5 => ?_)
      refine hw_goto C dX1_byteHere_27 (tgt := 31) (by decide) ?_
      exact hw_iret C dX1_byteHere_31
/-! HumWire$Reader isSign(C)Z, level 2 -/
def F_X1_isSign  (a1 : Int32) (s0 : hw_St) : Option (Int32 × hw_St) := if (s0 13 3) = (3 : Int32) then (hw_bd (F_X1_byteHere  s0) (fun r2 s3 => if r2 = a1 then (some ((1 : Int32), s3)) else (some ((0 : Int32), s3)))) else (some ((0 : Int32), s0))
set_option maxRecDepth 20000 in
theorem M_X1_isSign (E : hw_E) (hE : hw_eT E = hw_TH) (a1 : Int32) (s0 : hw_St) : hw_M E yX1_isSign cX1_isSign 2 (some .boolean) 2 [hw_rv (hw_ea E) 13, .int a1] s0 hw_ri (F_X1_isSign a1 s0) := by
  refine hw_entry (own := RX1) (TL := hw_TH) (by decide) rfl hE (hw_cR (hw_cI hw_cN)) (hw_l8 rfl) (fun G hG C => ?_)
  subst hG
  have hTL := hE
  show hw_K G 2 hw_ri _ 0 [(0, hw_rv (hw_ea (hw_gE G)) 13), (1, .int a1)] [] s0
  unfold F_X1_isSign
  refine hw_aload_n C dX1_isSign_0 rfl 0 rfl ?_
  refine hw_getI C cf_X1 lf_X1_29 hw_T13 dX1_isSign_1 ?_
  refine hw_iconst C dX1_isSign_4 (v := 3) (by decide) ?_
  refine hw_icmp_ne C dX1_isSign_5 (tgt := 20) (by decide) (fun c1 => ?_) (fun c1 => ?_)
  · refine hw_iconst C dX1_isSign_20 (v := 0) (by decide) ?_
    exact hw_zret1 C (by decide) dX1_isSign_21
  · refine hw_aload_n C dX1_isSign_8 rfl 0 rfl ?_
    refine hw_callVi C (M_X1_byteHere (hw_gE G) hTL  s0) W_X1_byteHere SV_X1_byteHere cf_X1 hw_T13 mw_705 (by decide) rfl ⟨rfl, hw_l8 rfl⟩ dX1_isSign_9 (fun r2 s3 => ?_)
    refine hw_iload_n C dX1_isSign_12 rfl 1 rfl ?_
    refine hw_icmp_ne C dX1_isSign_13 (tgt := 20) (by decide) (fun c4 => ?_) (fun c4 => ?_)
    · refine hw_iconst C dX1_isSign_20 (v := 0) (by decide) ?_
      exact hw_zret1 C (by decide) dX1_isSign_21
    · refine hw_iconst C dX1_isSign_16 (v := 1) (by decide) ?_
      refine hw_goto C dX1_isSign_17 (tgt := 21) (by decide) ?_
      exact hw_zret1 C (by decide) dX1_isSign_21
/-! HumWire$Reader isWord(Ljava/lang/String;)Z, level 5 -/
def S_X1_isWord_28  (w28 : Nat → Int32 → hw_St → Option (Int32 × hw_St)) (t1 : Nat) (l2 : Int32) (s0 : hw_St) : Option (Int32 × hw_St) := hw_bd (F_J0_length_8abf5 t1 s0) (fun r5 s6 => if r5 ≤ l2 then (some ((1 : Int32), s6)) else (if (s6 13 1) ≤ ((s6 13 6) + l2) then (some ((1 : Int32), s6)) else (hw_gd (hw_gH (s6 13 0).toNatClampNeg 11) (hw_gd (hw_inb ((s6 13 6) + l2) (hw_ln (s6 13 0).toNatClampNeg)) (hw_bd (F_J0_charAt_5068e t1 l2 s6) (fun r12 s13 => if (s6 (s6 13 0).toNatClampNeg ((s6 13 6) + l2).toNatClampNeg) = r12 then (w28 t1 (l2 + 1) s13) else (some ((0 : Int32), s13))))))))
def L_X1_isWord_28  : Nat → Nat → Int32 → hw_St → Option (Int32 × hw_St)
  | 0 => fun _ _ _ => none
  | n + 1 => S_X1_isWord_28  (L_X1_isWord_28  n)
def F_X1_isWord  (t1 : Nat) (s0 : hw_St) : Option (Int32 × hw_St) := hw_gd (hw_gS t1) (if (s0 13 3) = (1 : Int32) then (hw_bd (F_J0_length_8abf5 t1 s0) (fun r2 s3 => if ((s0 13 5) - (s0 13 6)) = r2 then (L_X1_isWord_28 130 t1 (0 : Int32) s3) else (some ((0 : Int32), s3)))) else (some ((0 : Int32), s0)))
set_option maxRecDepth 20000 in
theorem KS_X1_isWord_28 {G : hw_G} (C : hw_Ok G cX1_isWord RX1 3 5 (some .boolean) hw_TH) (hTL : hw_eT (hw_gE G) = hw_TH) (w28 : Nat → Int32 → hw_St → Option (Int32 × hw_St)) (H_w28 : ∀ (t1 : Nat) (l2 : Int32) (s0 : hw_St) (T1 : hw_gS t1 = true), hw_K G 3 hw_ri (w28 t1 l2 s0) 28 [(0, hw_rv (hw_ea (hw_gE G)) 13), (1, hw_rv (hw_ea (hw_gE G)) t1), (2, .int l2)] [] s0) (t1 : Nat) (l2 : Int32) (s0 : hw_St) (T1 : hw_gS t1 = true) : hw_K G 3 hw_ri (S_X1_isWord_28 w28 t1 l2 s0) 28 [(0, hw_rv (hw_ea (hw_gE G)) 13), (1, hw_rv (hw_ea (hw_gE G)) t1), (2, .int l2)] [] s0 := by
  unfold S_X1_isWord_28
  refine hw_iload_n C dX1_isWord_28 rfl 2 rfl ?_
  refine hw_aload_n C dX1_isWord_29 rfl 1 rfl ?_
  refine hw_callSti C (M_J0_length_8abf5 (hw_gE G) hTL t1 s0) W_J0_length_8abf5 SV_J0_length_8abf5 T1 mw_639 (by decide) rfl ⟨rfl, hw_l8 rfl⟩ dX1_isWord_30 (fun r5 s6 => ?_)
  refine hw_icmp_ge C dX1_isWord_33 (tgt := 76) (by decide) (fun c7 => ?_) (fun c7 => ?_)
  · refine hw_iconst C dX1_isWord_76 (v := 1) (by decide) ?_
    exact hw_zret1 C (by decide) dX1_isWord_77
  · refine hw_aload_n C dX1_isWord_36 rfl 0 rfl ?_
    refine hw_getI C cf_X1 lf_X1_53 hw_T13 dX1_isWord_37 ?_
    refine hw_iload_n C dX1_isWord_40 rfl 2 rfl ?_
    refine hw_iadd C dX1_isWord_41 ?_
    refine hw_aload_n C dX1_isWord_42 rfl 0 rfl ?_
    refine hw_getI C cf_X1 lf_X1_25 hw_T13 dX1_isWord_43 ?_
    refine hw_icmp_ge C dX1_isWord_46 (tgt := 76) (by decide) (fun c8 => ?_) (fun c8 => ?_)
    · refine hw_iconst C dX1_isWord_76 (v := 1) (by decide) ?_
      exact hw_zret1 C (by decide) dX1_isWord_77
    · refine hw_aload_n C dX1_isWord_49 rfl 0 rfl ?_
      refine hw_getM C cf_X1 lf_X1_9 hw_T13 dX1_isWord_50 ?_
      refine hw_aload_n C dX1_isWord_53 rfl 0 rfl ?_
      refine hw_getI C cf_X1 lf_X1_53 hw_T13 dX1_isWord_54 ?_
      refine hw_iload_n C dX1_isWord_57 rfl 2 rfl ?_
      refine hw_iadd C dX1_isWord_58 ?_
      refine hw_gdK (fun h10 => ?_)
      have T_9 := hw_gH_T h10
      refine hw_bald C T_9 rfl dX1_isWord_59 (fun h11 => ?_)
      refine hw_aload_n C dX1_isWord_60 rfl 1 rfl ?_
      refine hw_iload_n C dX1_isWord_61 rfl 2 rfl ?_
      refine hw_callSti C (M_J0_charAt_5068e (hw_gE G) hTL t1 l2 s6) W_J0_charAt_5068e SV_J0_charAt_5068e T1 mw_651 (by decide) rfl ⟨rfl, hw_l8 rfl⟩ dX1_isWord_62 (fun r12 s13 => ?_)
      refine hw_icmp_eq C dX1_isWord_65 (tgt := 70) (by decide) (fun c14 => ?_) (fun c14 => ?_)
      · refine hw_iinc C dX1_isWord_70 2 rfl (v := 1) (by decide) (by decide) rfl ?_
        refine hw_goto C dX1_isWord_73 (tgt := 28) (by decide) ?_
        exact hw_lv [1, 2, 0] rfl (H_w28 t1 (l2 + 1) s13 T1)
      · refine hw_iconst C dX1_isWord_68 (v := 0) (by decide) ?_
        exact hw_zret1 C (by decide) dX1_isWord_69
theorem KL_X1_isWord_28 {G : hw_G} (C : hw_Ok G cX1_isWord RX1 3 5 (some .boolean) hw_TH) (hTL : hw_eT (hw_gE G) = hw_TH) : ∀ (n_ : Nat) (t1 : Nat) (l2 : Int32) (s0 : hw_St) (T1 : hw_gS t1 = true), hw_K G 3 hw_ri (L_X1_isWord_28 n_ t1 l2 s0) 28 [(0, hw_rv (hw_ea (hw_gE G)) 13), (1, hw_rv (hw_ea (hw_gE G)) t1), (2, .int l2)] [] s0 := by
  intro n_
  induction n_ with
  | zero => intros; exact hw_nil
  | succ n_ ih => intro t1 l2 s0 T1; exact KS_X1_isWord_28 C hTL (L_X1_isWord_28 n_) ih t1 l2 s0 T1
set_option maxRecDepth 20000 in
theorem M_X1_isWord (E : hw_E) (hE : hw_eT E = hw_TH) (t1 : Nat) (s0 : hw_St) : hw_M E yX1_isWord cX1_isWord 3 (some .boolean) 5 [hw_rv (hw_ea E) 13, hw_rv (hw_ea E) t1] s0 hw_ri (F_X1_isWord t1 s0) := by
  refine hw_entry (own := RX1) (TL := hw_TH) (by decide) rfl hE (hw_cR (hw_cR hw_cN)) (hw_l8 rfl) (fun G hG C => ?_)
  subst hG
  have hTL := hE
  show hw_K G 3 hw_ri _ 0 [(0, hw_rv (hw_ea (hw_gE G)) 13), (1, hw_rv (hw_ea (hw_gE G)) t1)] [] s0
  unfold F_X1_isWord
  refine hw_gdK (fun h_T1 => ?_)
  have T1 := hw_gS_T h_T1
  refine hw_aload_n C dX1_isWord_0 rfl 0 rfl ?_
  refine hw_getI C cf_X1 lf_X1_29 hw_T13 dX1_isWord_1 ?_
  refine hw_iconst C dX1_isWord_4 (v := 1) (by decide) ?_
  refine hw_icmp_ne C dX1_isWord_5 (tgt := 24) (by decide) (fun c1 => ?_) (fun c1 => ?_)
  · refine hw_iconst C dX1_isWord_24 (v := 0) (by decide) ?_
    exact hw_zret1 C (by decide) dX1_isWord_25
  · refine hw_aload_n C dX1_isWord_8 rfl 0 rfl ?_
    refine hw_getI C cf_X1 lf_X1_32 hw_T13 dX1_isWord_9 ?_
    refine hw_aload_n C dX1_isWord_12 rfl 0 rfl ?_
    refine hw_getI C cf_X1 lf_X1_53 hw_T13 dX1_isWord_13 ?_
    refine hw_isub C dX1_isWord_16 ?_
    refine hw_aload_n C dX1_isWord_17 rfl 1 rfl ?_
    refine hw_callSti C (M_J0_length_8abf5 (hw_gE G) hTL t1 s0) W_J0_length_8abf5 SV_J0_length_8abf5 T1 mw_639 (by decide) rfl ⟨rfl, hw_l8 rfl⟩ dX1_isWord_18 (fun r2 s3 => ?_)
    refine hw_icmp_eq C dX1_isWord_21 (tgt := 26) (by decide) (fun c4 => ?_) (fun c4 => ?_)
    · refine hw_iconst C dX1_isWord_26 (v := 0) (by decide) ?_
      refine hw_istore_n C dX1_isWord_27 rfl (by decide) rfl ?_
      exact hw_lv [1, 2, 0] rfl (KL_X1_isWord_28 C hTL 130 t1 (0 : Int32) s3 T1)
    · refine hw_iconst C dX1_isWord_24 (v := 0) (by decide) ?_
      exact hw_zret1 C (by decide) dX1_isWord_25
/-! HumWire$Reader keyHere()I, level 6 -/
def F_X1_keyHere  (s0 : hw_St) : Option (Int32 × hw_St) := hw_bd (F_X1_isWord 900 s0) (fun r1 s2 => if r1 = 0 then (hw_bd (F_X1_isWord 901 s2) (fun r4 s5 => if r4 = 0 then (hw_bd (F_X1_isWord 902 s5) (fun r7 s8 => if r7 = 0 then (some ((-1000000005 : Int32), s8)) else (some ((2 : Int32), s8)))) else (some ((1 : Int32), s5)))) else (some ((0 : Int32), s2)))
set_option maxRecDepth 20000 in
theorem M_X1_keyHere (E : hw_E) (hE : hw_eT E = hw_TH) (s0 : hw_St) : hw_M E yX1_keyHere cX1_keyHere 1 (some .int) 6 [hw_rv (hw_ea E) 13] s0 hw_ri (F_X1_keyHere  s0) := by
  refine hw_entry (own := RX1) (TL := hw_TH) (by decide) rfl hE (hw_cR hw_cN) (hw_l8 rfl) (fun G hG C => ?_)
  subst hG
  have hTL := hE
  show hw_K G 1 hw_ri _ 0 [(0, hw_rv (hw_ea (hw_gE G)) 13)] [] s0
  unfold F_X1_keyHere
  refine hw_aload_n C dX1_keyHere_0 rfl 0 rfl ?_
  refine hw_ldcS C C.2.2.2.2.2.2.2.1.2.2.2.1 (by decide) dX1_keyHere_1 ?_
  refine hw_callVi C (M_X1_isWord (hw_gE G) hTL 900 s0) W_X1_isWord SV_X1_isWord cf_X1 hw_T13 mw_635 (by decide) rfl ⟨rfl, hw_l8 rfl⟩ dX1_keyHere_3 (fun r1 s2 => ?_)
  refine hw_if_eq C dX1_keyHere_6 (tgt := 11) (by decide) (fun c3 => ?_) (fun c3 => ?_)
  · refine hw_aload_n C dX1_keyHere_11 rfl 0 rfl ?_
    refine hw_ldcS C C.2.2.2.2.2.2.2.1.2.2.2.2.1 (by decide) dX1_keyHere_12 ?_
    refine hw_callVi C (M_X1_isWord (hw_gE G) hTL 901 s2) W_X1_isWord SV_X1_isWord cf_X1 hw_T13 mw_635 (by decide) rfl ⟨rfl, hw_l8 rfl⟩ dX1_keyHere_14 (fun r4 s5 => ?_)
    refine hw_if_eq C dX1_keyHere_17 (tgt := 22) (by decide) (fun c6 => ?_) (fun c6 => ?_)
    · refine hw_aload_n C dX1_keyHere_22 rfl 0 rfl ?_
      refine hw_ldcS C C.2.2.2.2.2.2.2.1.2.2.2.2.2.1 (by decide) dX1_keyHere_23 ?_
      refine hw_callVi C (M_X1_isWord (hw_gE G) hTL 902 s5) W_X1_isWord SV_X1_isWord cf_X1 hw_T13 mw_635 (by decide) rfl ⟨rfl, hw_l8 rfl⟩ dX1_keyHere_25 (fun r7 s8 => ?_)
      refine hw_if_eq C dX1_keyHere_28 (tgt := 35) (by decide) (fun c9 => ?_) (fun c9 => ?_)
      · refine hw_ldc C mw_620 dX1_keyHere_35 ?_
        exact hw_iret C dX1_keyHere_37
      · refine hw_iconst C dX1_keyHere_31 (v := 2) (by decide) ?_
        refine hw_goto C dX1_keyHere_32 (tgt := 37) (by decide) ?_
        exact hw_iret C dX1_keyHere_37
    · refine hw_iconst C dX1_keyHere_20 (v := 1) (by decide) ?_
      exact hw_iret C dX1_keyHere_21
  · refine hw_iconst C dX1_keyHere_9 (v := 0) (by decide) ?_
    exact hw_iret C dX1_keyHere_10
/-! HumWire$Reader readNumber()Z, level 3 -/
def B_X1_readNumber_66  (l1 : Int32) (s0 : hw_St) : Option (Int32 × hw_St) := hw_gd (hw_gH (s0 13 2).toNatClampNeg 0) (hw_bd (F_X0_putLeaf (s0 13 2).toNatClampNeg l1 s0) (fun _ s13 => hw_bd (F_X1_step  s13) (fun _ s15 => some ((1 : Int32), s15))))
def S_X1_readNumber_29  (w29 : Int32 → Int32 → hw_St → Option (Int32 × hw_St)) (l1 : Int32) (l2 : Int32) (s0 : hw_St) : Option (Int32 × hw_St) := if (s0 13 5) ≤ l2 then (B_X1_readNumber_66 l1 s0) else (if (s0 13 1) ≤ l2 then (B_X1_readNumber_66 l1 s0) else (hw_gd (hw_gH (s0 13 0).toNatClampNeg 11) (hw_gd (hw_inb l2 (hw_ln (s0 13 0).toNatClampNeg)) (hw_nm (((l1 * (10 : Int32)) + (s0 (s0 13 0).toNatClampNeg l2.toNatClampNeg)) - (48 : Int32)) (fun x9 => w29 x9 (l2 + 1) s0)))))
def L_X1_readNumber_29  : Nat → Int32 → Int32 → hw_St → Option (Int32 × hw_St)
  | 0 => fun _ _ _ => none
  | n + 1 => S_X1_readNumber_29  (L_X1_readNumber_29  n)
def F_X1_readNumber  (s0 : hw_St) : Option (Int32 × hw_St) := if (s0 13 4) = 0 then (if ((s0 13 5) - (s0 13 6)) ≤ (4 : Int32) then (hw_nm (s0 13 6) (fun x3 => L_X1_readNumber_29 130 (0 : Int32) x3 s0)) else (some ((0 : Int32), s0))) else (some ((0 : Int32), s0))
set_option maxRecDepth 20000 in
theorem KB_X1_readNumber_66 {G : hw_G} (C : hw_Ok G cX1_readNumber RX1 3 3 (some .boolean) hw_TH) (hTL : hw_eT (hw_gE G) = hw_TH) (l1 : Int32) (s0 : hw_St) : hw_K G 3 hw_ri (B_X1_readNumber_66 l1 s0) 66 [(0, hw_rv (hw_ea (hw_gE G)) 13), (1, .int l1)] [] s0 := by
  unfold B_X1_readNumber_66
  refine hw_aload_n C dX1_readNumber_66 rfl 0 rfl ?_
  refine hw_getM C cf_X1 lf_X1_15 hw_T13 dX1_readNumber_67 ?_
  refine hw_iload_n C dX1_readNumber_70 rfl 1 rfl ?_
  refine hw_gdK (fun h11 => ?_)
  have T_10 := hw_gH_T h11
  refine hw_callVv C (M_X0_putLeaf (hw_gE G) hTL (s0 13 2).toNatClampNeg l1 s0) W_X0_putLeaf SV_X0_putLeaf cf_X0 T_10 mw_726 (by decide) rfl ⟨rfl, hw_l8 rfl⟩ dX1_readNumber_71 (fun r12 s13 => ?_)
  refine hw_aload_n C dX1_readNumber_74 rfl 0 rfl ?_
  refine hw_callVv C (M_X1_step (hw_gE G) hTL  s13) W_X1_step SV_X1_step cf_X1 hw_T13 mw_621 (by decide) rfl ⟨rfl, hw_l8 rfl⟩ dX1_readNumber_75 (fun r14 s15 => ?_)
  refine hw_iconst C dX1_readNumber_78 (v := 1) (by decide) ?_
  exact hw_zret1 C (by decide) dX1_readNumber_79
set_option maxRecDepth 20000 in
theorem KS_X1_readNumber_29 {G : hw_G} (C : hw_Ok G cX1_readNumber RX1 3 3 (some .boolean) hw_TH) (hTL : hw_eT (hw_gE G) = hw_TH) (w29 : Int32 → Int32 → hw_St → Option (Int32 × hw_St)) (H_w29 : ∀ (l1 : Int32) (l2 : Int32) (s0 : hw_St), hw_K G 3 hw_ri (w29 l1 l2 s0) 29 [(0, hw_rv (hw_ea (hw_gE G)) 13), (1, .int l1), (2, .int l2)] [] s0) (l1 : Int32) (l2 : Int32) (s0 : hw_St) : hw_K G 3 hw_ri (S_X1_readNumber_29 w29 l1 l2 s0) 29 [(0, hw_rv (hw_ea (hw_gE G)) 13), (1, .int l1), (2, .int l2)] [] s0 := by
  unfold S_X1_readNumber_29
  refine hw_iload_n C dX1_readNumber_29 rfl 2 rfl ?_
  refine hw_aload_n C dX1_readNumber_30 rfl 0 rfl ?_
  refine hw_getI C cf_X1 lf_X1_32 hw_T13 dX1_readNumber_31 ?_
  refine hw_icmp_ge C dX1_readNumber_34 (tgt := 66) (by decide) (fun c4 => ?_) (fun c4 => ?_)
  · exact hw_lv [0, 1] rfl (KB_X1_readNumber_66 C hTL l1 s0)
  · refine hw_iload_n C dX1_readNumber_37 rfl 2 rfl ?_
    refine hw_aload_n C dX1_readNumber_38 rfl 0 rfl ?_
    refine hw_getI C cf_X1 lf_X1_25 hw_T13 dX1_readNumber_39 ?_
    refine hw_icmp_ge C dX1_readNumber_42 (tgt := 66) (by decide) (fun c5 => ?_) (fun c5 => ?_)
    · exact hw_lv [0, 1] rfl (KB_X1_readNumber_66 C hTL l1 s0)
    · refine hw_iload_n C dX1_readNumber_45 rfl 1 rfl ?_
      refine hw_bipush C dX1_readNumber_46 (v := 10) (by decide) ?_
      refine hw_imul C dX1_readNumber_48 ?_
      refine hw_aload_n C dX1_readNumber_49 rfl 0 rfl ?_
      refine hw_getM C cf_X1 lf_X1_9 hw_T13 dX1_readNumber_50 ?_
      refine hw_iload_n C dX1_readNumber_53 rfl 2 rfl ?_
      refine hw_gdK (fun h7 => ?_)
      have T_6 := hw_gH_T h7
      refine hw_bald C T_6 rfl dX1_readNumber_54 (fun h8 => ?_)
      refine hw_iadd C dX1_readNumber_55 ?_
      refine hw_bipush C dX1_readNumber_56 (v := 48) (by decide) ?_
      refine hw_isub C dX1_readNumber_58 ?_
      refine hw_istore_nN C dX1_readNumber_59 rfl (by decide) (fun _ => rfl) (fun x9 => ?_)
      refine hw_iinc C dX1_readNumber_60 2 rfl (v := 1) (by decide) (by decide) rfl ?_
      refine hw_goto C dX1_readNumber_63 (tgt := 29) (by decide) ?_
      exact hw_lv [2, 1, 0] rfl (H_w29 x9 (l2 + 1) s0)
theorem KL_X1_readNumber_29 {G : hw_G} (C : hw_Ok G cX1_readNumber RX1 3 3 (some .boolean) hw_TH) (hTL : hw_eT (hw_gE G) = hw_TH) : ∀ (n_ : Nat) (l1 : Int32) (l2 : Int32) (s0 : hw_St), hw_K G 3 hw_ri (L_X1_readNumber_29 n_ l1 l2 s0) 29 [(0, hw_rv (hw_ea (hw_gE G)) 13), (1, .int l1), (2, .int l2)] [] s0 := by
  intro n_
  induction n_ with
  | zero => intros; exact hw_nil
  | succ n_ ih => intro l1 l2 s0; exact KS_X1_readNumber_29 C hTL (L_X1_readNumber_29 n_) ih l1 l2 s0
set_option maxRecDepth 20000 in
theorem M_X1_readNumber (E : hw_E) (hE : hw_eT E = hw_TH) (s0 : hw_St) : hw_M E yX1_readNumber cX1_readNumber 3 (some .boolean) 3 [hw_rv (hw_ea E) 13] s0 hw_ri (F_X1_readNumber  s0) := by
  refine hw_entry (own := RX1) (TL := hw_TH) (by decide) rfl hE (hw_cR hw_cN) (hw_l8 rfl) (fun G hG C => ?_)
  subst hG
  have hTL := hE
  show hw_K G 3 hw_ri _ 0 [(0, hw_rv (hw_ea (hw_gE G)) 13)] [] s0
  unfold F_X1_readNumber
  refine hw_aload_n C dX1_readNumber_0 rfl 0 rfl ?_
  refine hw_getI C cf_X1 lf_X1_60 hw_T13 dX1_readNumber_1 ?_
  refine hw_if_ne C dX1_readNumber_4 (tgt := 20) (by decide) (fun c1 => ?_) (fun c1 => ?_)
  · refine hw_iconst C dX1_readNumber_20 (v := 0) (by decide) ?_
    exact hw_zret1 C (by decide) dX1_readNumber_21
  · refine hw_aload_n C dX1_readNumber_7 rfl 0 rfl ?_
    refine hw_getI C cf_X1 lf_X1_32 hw_T13 dX1_readNumber_8 ?_
    refine hw_aload_n C dX1_readNumber_11 rfl 0 rfl ?_
    refine hw_getI C cf_X1 lf_X1_53 hw_T13 dX1_readNumber_12 ?_
    refine hw_isub C dX1_readNumber_15 ?_
    refine hw_iconst C dX1_readNumber_16 (v := 4) (by decide) ?_
    refine hw_icmp_le C dX1_readNumber_17 (tgt := 22) (by decide) (fun c2 => ?_) (fun c2 => ?_)
    · refine hw_iconst C dX1_readNumber_22 (v := 0) (by decide) ?_
      refine hw_istore_n C dX1_readNumber_23 rfl (by decide) rfl ?_
      refine hw_aload_n C dX1_readNumber_24 rfl 1 rfl ?_
      refine hw_getI C cf_X1 lf_X1_53 hw_T13 dX1_readNumber_25 ?_
      refine hw_istore_nN C dX1_readNumber_28 rfl (by decide) (fun _ => rfl) (fun x3 => ?_)
      exact hw_lv [2, 1, 0] rfl (KL_X1_readNumber_29 C hTL 130 (0 : Int32) x3 s0)
    · refine hw_iconst C dX1_readNumber_20 (v := 0) (by decide) ?_
      exact hw_zret1 C (by decide) dX1_readNumber_21
/-! HumWire$Reader readName()Z, level 5 -/
def B_X1_readName_60  (k0 : Int32) (s0 : hw_St) : Option (Int32 × hw_St) := if (s0 13 4) = 0 then (if 0 ≤ k0 then (hw_gd (hw_gH (s0 13 2).toNatClampNeg 0) (hw_bd (F_X0_putLeaf (s0 13 2).toNatClampNeg ((10000 : Int32) + k0) s0) (fun _ s15 => hw_bd (F_X1_step  s15) (fun _ s17 => some ((1 : Int32), s17))))) else (some ((0 : Int32), s0))) else (some ((0 : Int32), s0))
def B_X1_readName_33  (k0 : Nat) (s0 : hw_St) : Option (Int32 × hw_St) := if ((s0 13 5) - (s0 13 6)) = (1 : Int32) then (hw_bd (F_X1_byteHere  s0) (fun r6 s7 => hw_bd (F_J0_indexOf_0f7a4 k0 (hw_i2c r6) s7) (fun r8 s9 => B_X1_readName_60 r8 s9))) else (B_X1_readName_60 (-1 : Int32) s0)
def F_X1_readName  (s0 : hw_St) : Option (Int32 × hw_St) := hw_gd (hw_gH (s0 13 2).toNatClampNeg 0) (if (s0 (s0 13 2).toNatClampNeg 0) = 0 then (B_X1_readName_33 903 s0) else (if (s0 (s0 13 2).toNatClampNeg 0) = (1 : Int32) then (B_X1_readName_33 904 s0) else (B_X1_readName_33 905 s0)))
set_option maxRecDepth 20000 in
theorem KB_X1_readName_60 {G : hw_G} (C : hw_Ok G cX1_readName RX1 3 5 (some .boolean) hw_TH) (hTL : hw_eT (hw_gE G) = hw_TH) (k0 : Int32) (s0 : hw_St) : hw_K G 3 hw_ri (B_X1_readName_60 k0 s0) 60 [(0, hw_rv (hw_ea (hw_gE G)) 13)] [.int k0] s0 := by
  unfold B_X1_readName_60
  refine hw_istore_n C dX1_readName_60 rfl (by decide) rfl ?_
  refine hw_aload_n C dX1_readName_61 rfl 1 rfl ?_
  refine hw_getI C cf_X1 lf_X1_60 hw_T13 dX1_readName_62 ?_
  refine hw_if_ne C dX1_readName_65 (tgt := 72) (by decide) (fun c10 => ?_) (fun c10 => ?_)
  · refine hw_iconst C dX1_readName_72 (v := 0) (by decide) ?_
    exact hw_zret1 C (by decide) dX1_readName_73
  · refine hw_iload_n C dX1_readName_68 rfl 0 rfl ?_
    refine hw_if_ge C dX1_readName_69 (tgt := 74) (by decide) (fun c11 => ?_) (fun c11 => ?_)
    · refine hw_aload_n C dX1_readName_74 rfl 1 rfl ?_
      refine hw_getM C cf_X1 lf_X1_15 hw_T13 dX1_readName_75 ?_
      refine hw_sipush C dX1_readName_78 (v := 10000) (by decide) ?_
      refine hw_iload_n C dX1_readName_81 rfl 0 rfl ?_
      refine hw_iadd C dX1_readName_82 ?_
      refine hw_gdK (fun h13 => ?_)
      have T_12 := hw_gH_T h13
      refine hw_callVv C (M_X0_putLeaf (hw_gE G) hTL (s0 13 2).toNatClampNeg ((10000 : Int32) + k0) s0) W_X0_putLeaf SV_X0_putLeaf cf_X0 T_12 mw_726 (by decide) rfl ⟨rfl, hw_l8 rfl⟩ dX1_readName_83 (fun r14 s15 => ?_)
      refine hw_aload_n C dX1_readName_86 rfl 1 rfl ?_
      refine hw_callVv C (M_X1_step (hw_gE G) hTL  s15) W_X1_step SV_X1_step cf_X1 hw_T13 mw_621 (by decide) rfl ⟨rfl, hw_l8 rfl⟩ dX1_readName_87 (fun r16 s17 => ?_)
      refine hw_iconst C dX1_readName_90 (v := 1) (by decide) ?_
      exact hw_zret1 C (by decide) dX1_readName_91
    · refine hw_iconst C dX1_readName_72 (v := 0) (by decide) ?_
      exact hw_zret1 C (by decide) dX1_readName_73
set_option maxRecDepth 20000 in
theorem KB_X1_readName_33 {G : hw_G} (C : hw_Ok G cX1_readName RX1 3 5 (some .boolean) hw_TH) (hTL : hw_eT (hw_gE G) = hw_TH) (k0 : Nat) (s0 : hw_St) (T_k0 : hw_gS k0 = true) : hw_K G 3 hw_ri (B_X1_readName_33 k0 s0) 33 [(0, hw_rv (hw_ea (hw_gE G)) 13)] [hw_rv (hw_ea (hw_gE G)) k0] s0 := by
  unfold B_X1_readName_33
  refine hw_astore_n C dX1_readName_33 rfl (by decide) rfl ?_
  refine hw_aload_n C dX1_readName_34 rfl 1 rfl ?_
  refine hw_getI C cf_X1 lf_X1_32 hw_T13 dX1_readName_35 ?_
  refine hw_aload_n C dX1_readName_38 rfl 1 rfl ?_
  refine hw_getI C cf_X1 lf_X1_53 hw_T13 dX1_readName_39 ?_
  refine hw_isub C dX1_readName_42 ?_
  refine hw_iconst C dX1_readName_43 (v := 1) (by decide) ?_
  refine hw_icmp_ne C dX1_readName_44 (tgt := 59) (by decide) (fun c5 => ?_) (fun c5 => ?_)
  · refine hw_iconst C dX1_readName_59 (v := -1) (by decide) ?_
    exact hw_lv [1] rfl (KB_X1_readName_60 C hTL (-1 : Int32) s0)
  · refine hw_aload_n C dX1_readName_47 rfl 0 rfl ?_
    refine hw_aload_n C dX1_readName_48 rfl 1 rfl ?_
    refine hw_callVi C (M_X1_byteHere (hw_gE G) hTL  s0) W_X1_byteHere SV_X1_byteHere cf_X1 hw_T13 mw_705 (by decide) rfl ⟨rfl, hw_l8 rfl⟩ dX1_readName_49 (fun r6 s7 => ?_)
    refine hw_c_i2c C dX1_readName_52 ?_
    refine hw_callSti C (M_J0_indexOf_0f7a4 (hw_gE G) hTL k0 (hw_i2c r6) s7) W_J0_indexOf_0f7a4 SV_J0_indexOf_0f7a4 T_k0 mw_735 (by decide) rfl ⟨rfl, hw_l8 rfl⟩ dX1_readName_53 (fun r8 s9 => ?_)
    refine hw_goto C dX1_readName_56 (tgt := 60) (by decide) ?_
    exact hw_lv [1] rfl (KB_X1_readName_60 C hTL r8 s9)
set_option maxRecDepth 20000 in
theorem M_X1_readName (E : hw_E) (hE : hw_eT E = hw_TH) (s0 : hw_St) : hw_M E yX1_readName cX1_readName 3 (some .boolean) 5 [hw_rv (hw_ea E) 13] s0 hw_ri (F_X1_readName  s0) := by
  refine hw_entry (own := RX1) (TL := hw_TH) (by decide) rfl hE (hw_cR hw_cN) (hw_l8 rfl) (fun G hG C => ?_)
  subst hG
  have hTL := hE
  show hw_K G 3 hw_ri _ 0 [(0, hw_rv (hw_ea (hw_gE G)) 13)] [] s0
  unfold F_X1_readName
  refine hw_aload_n C dX1_readName_0 rfl 0 rfl ?_
  refine hw_getM C cf_X1 lf_X1_15 hw_T13 dX1_readName_1 ?_
  refine hw_gdK (fun h2 => ?_)
  have T_1 := hw_gH_T h2
  refine hw_getI C cf_X0 lf_X1_118 T_1 dX1_readName_4 ?_
  refine hw_if_ne C dX1_readName_7 (tgt := 15) (by decide) (fun c3 => ?_) (fun c3 => ?_)
  · refine hw_aload_n C dX1_readName_15 rfl 0 rfl ?_
    refine hw_getM C cf_X1 lf_X1_15 hw_T13 dX1_readName_16 ?_
    refine hw_getI C cf_X0 lf_X1_118 T_1 dX1_readName_19 ?_
    refine hw_iconst C dX1_readName_22 (v := 1) (by decide) ?_
    refine hw_icmp_ne C dX1_readName_23 (tgt := 31) (by decide) (fun c4 => ?_) (fun c4 => ?_)
    · refine hw_ldcS C C.2.2.2.2.2.2.2.1.2.2.2.2.2.2.2.2 (by decide) dX1_readName_31 ?_
      exact hw_lv [0] rfl (KB_X1_readName_33 C hTL 905 s0 hw_gS_905)
    · refine hw_ldcS C C.2.2.2.2.2.2.2.1.2.2.2.2.2.2.2.1 (by decide) dX1_readName_26 ?_
      refine hw_goto C dX1_readName_28 (tgt := 33) (by decide) ?_
      exact hw_lv [0] rfl (KB_X1_readName_33 C hTL 904 s0 hw_gS_904)
  · refine hw_ldcS C C.2.2.2.2.2.2.2.1.2.2.2.2.2.2.1 (by decide) dX1_readName_10 ?_
    refine hw_goto C dX1_readName_12 (tgt := 33) (by decide) ?_
    exact hw_lv [0] rfl (KB_X1_readName_33 C hTL 903 s0 hw_gS_903)
/-! HumWire$Reader readOr(II)Z, level 20 + n + 1 -/
def S_X1_readOr_13 (rc : Nat → Int32 → Int32 → hw_St → Option (Int32 × hw_St))  (w13 : Int32 → Int32 → Int32 → hw_St → Option (Int32 × hw_St)) (l1 : Int32) (l2 : Int32) (l3 : Int32) (s0 : hw_St) : Option (Int32 × hw_St) := if (96 : Int32) ≤ l3 then (some ((1 : Int32), s0)) else (hw_bd (F_X1_isSign (124 : Int32) s0) (fun r5 s6 => if r5 = 0 then (some ((1 : Int32), s6)) else (hw_bd (F_X1_step  s6) (fun _ s9 => hw_bd (rc 1 l1 l2 s9) (fun r10 s11 => if r10 = 0 then (some ((0 : Int32), s11)) else (hw_gd (hw_gH (s11 13 2).toNatClampNeg 0) (hw_bd (F_X0_putSign (s11 13 2).toNatClampNeg (124 : Int32) s11) (fun _ s16 => w13 l1 l2 (l3 + 1) s16))))))))
def L_X1_readOr_13 (rc : Nat → Int32 → Int32 → hw_St → Option (Int32 × hw_St))  : Nat → Int32 → Int32 → Int32 → hw_St → Option (Int32 × hw_St)
  | 0 => fun _ _ _ _ => none
  | n + 1 => S_X1_readOr_13 rc  (L_X1_readOr_13 rc  n)
def F_X1_readOr (rc : Nat → Int32 → Int32 → hw_St → Option (Int32 × hw_St))  (a1 : Int32) (a2 : Int32) (s0 : hw_St) : Option (Int32 × hw_St) := hw_bd (rc 1 a1 a2 s0) (fun r1 s2 => if r1 = 0 then (some ((0 : Int32), s2)) else (L_X1_readOr_13 rc 130 a1 a2 (0 : Int32) s2))
set_option maxRecDepth 20000 in
theorem KS_X1_readOr_13 {G : hw_G} {n : Nat} (C : hw_Ok G cX1_readOr RX1 4 (20 + n + 1) (some .boolean) hw_TH) (hTL : hw_eT (hw_gE G) = hw_TH) (rc : Nat → Int32 → Int32 → hw_St → Option (Int32 × hw_St)) (HX1_readOr : ∀ (a b : Int32) (s : hw_St), hw_M (hw_gE G) yX1_readOr cX1_readOr 4 (some .boolean) (20 + n) [hw_rv (hw_ea (hw_gE G)) 13, .int a, .int b] s hw_ri (rc 0 a b s)) (HX1_readAnd : ∀ (a b : Int32) (s : hw_St), hw_M (hw_gE G) yX1_readAnd cX1_readAnd 4 (some .boolean) (20 + n) [hw_rv (hw_ea (hw_gE G)) 13, .int a, .int b] s hw_ri (rc 1 a b s)) (HX1_readTest : ∀ (a b : Int32) (s : hw_St), hw_M (hw_gE G) yX1_readTest cX1_readTest 4 (some .boolean) (20 + n) [hw_rv (hw_ea (hw_gE G)) 13, .int a, .int b] s hw_ri (rc 2 a b s)) (HX1_readSum : ∀ (a b : Int32) (s : hw_St), hw_M (hw_gE G) yX1_readSum cX1_readSum 5 (some .boolean) (20 + n) [hw_rv (hw_ea (hw_gE G)) 13, .int a, .int b] s hw_ri (rc 3 a b s)) (HX1_readTerm : ∀ (a b : Int32) (s : hw_St), hw_M (hw_gE G) yX1_readTerm cX1_readTerm 5 (some .boolean) (20 + n) [hw_rv (hw_ea (hw_gE G)) 13, .int a, .int b] s hw_ri (rc 4 a b s)) (HX1_readPiece : ∀ (a b : Int32) (s : hw_St), hw_M (hw_gE G) yX1_readPiece cX1_readPiece 3 (some .boolean) (20 + n) [hw_rv (hw_ea (hw_gE G)) 13, .int a, .int b] s hw_ri (rc 5 a b s)) (w13 : Int32 → Int32 → Int32 → hw_St → Option (Int32 × hw_St)) (H_w13 : ∀ (l1 : Int32) (l2 : Int32) (l3 : Int32) (s0 : hw_St), hw_K G 4 hw_ri (w13 l1 l2 l3 s0) 13 [(0, hw_rv (hw_ea (hw_gE G)) 13), (1, .int l1), (2, .int l2), (3, .int l3)] [] s0) (l1 : Int32) (l2 : Int32) (l3 : Int32) (s0 : hw_St) : hw_K G 4 hw_ri (S_X1_readOr_13 rc w13 l1 l2 l3 s0) 13 [(0, hw_rv (hw_ea (hw_gE G)) 13), (1, .int l1), (2, .int l2), (3, .int l3)] [] s0 := by
  unfold S_X1_readOr_13
  refine hw_iload_n C dX1_readOr_13 rfl 3 rfl ?_
  refine hw_bipush C dX1_readOr_14 (v := 96) (by decide) ?_
  refine hw_icmp_ge C dX1_readOr_16 (tgt := 58) (by decide) (fun c4 => ?_) (fun c4 => ?_)
  · refine hw_iconst C dX1_readOr_58 (v := 1) (by decide) ?_
    exact hw_zret1 C (by decide) dX1_readOr_59
  · refine hw_aload_n C dX1_readOr_19 rfl 0 rfl ?_
    refine hw_bipush C dX1_readOr_20 (v := 124) (by decide) ?_
    refine hw_callVi C (M_X1_isSign (hw_gE G) hTL (124 : Int32) s0) W_X1_isSign SV_X1_isSign cf_X1 hw_T13 mw_701 (by omega) rfl ⟨rfl, hw_l8 rfl⟩ dX1_readOr_22 (fun r5 s6 => ?_)
    refine hw_if_eq C dX1_readOr_25 (tgt := 58) (by decide) (fun c7 => ?_) (fun c7 => ?_)
    · refine hw_iconst C dX1_readOr_58 (v := 1) (by decide) ?_
      exact hw_zret1 C (by decide) dX1_readOr_59
    · refine hw_aload_n C dX1_readOr_28 rfl 0 rfl ?_
      refine hw_callVv C (M_X1_step (hw_gE G) hTL  s6) W_X1_step SV_X1_step cf_X1 hw_T13 mw_621 (by omega) rfl ⟨rfl, hw_l8 rfl⟩ dX1_readOr_29 (fun r8 s9 => ?_)
      refine hw_aload_n C dX1_readOr_32 rfl 0 rfl ?_
      refine hw_iload_n C dX1_readOr_33 rfl 1 rfl ?_
      refine hw_iload_n C dX1_readOr_34 rfl 2 rfl ?_
      refine hw_callVi C (HX1_readAnd l1 l2 s9) W_X1_readAnd SV_X1_readAnd cf_X1 hw_T13 mw_698 (by omega) rfl ⟨rfl, hw_l8 rfl⟩ dX1_readOr_35 (fun r10 s11 => ?_)
      refine hw_if_ne C dX1_readOr_38 (tgt := 43) (by decide) (fun c12 => ?_) (fun c12 => ?_)
      · refine hw_aload_n C dX1_readOr_43 rfl 0 rfl ?_
        refine hw_getM C cf_X1 lf_X1_15 hw_T13 dX1_readOr_44 ?_
        refine hw_bipush C dX1_readOr_47 (v := 124) (by decide) ?_
        refine hw_gdK (fun h14 => ?_)
        have T_13 := hw_gH_T h14
        refine hw_callVv C (M_X0_putSign (hw_gE G) hTL (s11 13 2).toNatClampNeg (124 : Int32) s11) W_X0_putSign SV_X0_putSign cf_X0 T_13 mw_709 (by omega) rfl ⟨rfl, hw_l8 rfl⟩ dX1_readOr_49 (fun r15 s16 => ?_)
        refine hw_iinc C dX1_readOr_52 3 rfl (v := 1) (by decide) (by decide) rfl ?_
        refine hw_goto C dX1_readOr_55 (tgt := 13) (by decide) ?_
        exact hw_lv [1, 2, 3, 0] rfl (H_w13 l1 l2 (l3 + 1) s16)
      · refine hw_iconst C dX1_readOr_41 (v := 0) (by decide) ?_
        exact hw_zret1 C (by decide) dX1_readOr_42
theorem KL_X1_readOr_13 {G : hw_G} {n : Nat} (C : hw_Ok G cX1_readOr RX1 4 (20 + n + 1) (some .boolean) hw_TH) (hTL : hw_eT (hw_gE G) = hw_TH) (rc : Nat → Int32 → Int32 → hw_St → Option (Int32 × hw_St)) (HX1_readOr : ∀ (a b : Int32) (s : hw_St), hw_M (hw_gE G) yX1_readOr cX1_readOr 4 (some .boolean) (20 + n) [hw_rv (hw_ea (hw_gE G)) 13, .int a, .int b] s hw_ri (rc 0 a b s)) (HX1_readAnd : ∀ (a b : Int32) (s : hw_St), hw_M (hw_gE G) yX1_readAnd cX1_readAnd 4 (some .boolean) (20 + n) [hw_rv (hw_ea (hw_gE G)) 13, .int a, .int b] s hw_ri (rc 1 a b s)) (HX1_readTest : ∀ (a b : Int32) (s : hw_St), hw_M (hw_gE G) yX1_readTest cX1_readTest 4 (some .boolean) (20 + n) [hw_rv (hw_ea (hw_gE G)) 13, .int a, .int b] s hw_ri (rc 2 a b s)) (HX1_readSum : ∀ (a b : Int32) (s : hw_St), hw_M (hw_gE G) yX1_readSum cX1_readSum 5 (some .boolean) (20 + n) [hw_rv (hw_ea (hw_gE G)) 13, .int a, .int b] s hw_ri (rc 3 a b s)) (HX1_readTerm : ∀ (a b : Int32) (s : hw_St), hw_M (hw_gE G) yX1_readTerm cX1_readTerm 5 (some .boolean) (20 + n) [hw_rv (hw_ea (hw_gE G)) 13, .int a, .int b] s hw_ri (rc 4 a b s)) (HX1_readPiece : ∀ (a b : Int32) (s : hw_St), hw_M (hw_gE G) yX1_readPiece cX1_readPiece 3 (some .boolean) (20 + n) [hw_rv (hw_ea (hw_gE G)) 13, .int a, .int b] s hw_ri (rc 5 a b s)) : ∀ (n_ : Nat) (l1 : Int32) (l2 : Int32) (l3 : Int32) (s0 : hw_St), hw_K G 4 hw_ri (L_X1_readOr_13 rc n_ l1 l2 l3 s0) 13 [(0, hw_rv (hw_ea (hw_gE G)) 13), (1, .int l1), (2, .int l2), (3, .int l3)] [] s0 := by
  intro n_
  induction n_ with
  | zero => intros; exact hw_nil
  | succ n_ ih => intro l1 l2 l3 s0; exact KS_X1_readOr_13 C hTL rc HX1_readOr HX1_readAnd HX1_readTest HX1_readSum HX1_readTerm HX1_readPiece (L_X1_readOr_13 rc n_) ih l1 l2 l3 s0
set_option maxRecDepth 20000 in
theorem M_X1_readOr (E : hw_E) (hE : hw_eT E = hw_TH) {n : Nat} (rc : Nat → Int32 → Int32 → hw_St → Option (Int32 × hw_St)) (HX1_readOr : ∀ (a b : Int32) (s : hw_St), hw_M E yX1_readOr cX1_readOr 4 (some .boolean) (20 + n) [hw_rv (hw_ea E) 13, .int a, .int b] s hw_ri (rc 0 a b s)) (HX1_readAnd : ∀ (a b : Int32) (s : hw_St), hw_M E yX1_readAnd cX1_readAnd 4 (some .boolean) (20 + n) [hw_rv (hw_ea E) 13, .int a, .int b] s hw_ri (rc 1 a b s)) (HX1_readTest : ∀ (a b : Int32) (s : hw_St), hw_M E yX1_readTest cX1_readTest 4 (some .boolean) (20 + n) [hw_rv (hw_ea E) 13, .int a, .int b] s hw_ri (rc 2 a b s)) (HX1_readSum : ∀ (a b : Int32) (s : hw_St), hw_M E yX1_readSum cX1_readSum 5 (some .boolean) (20 + n) [hw_rv (hw_ea E) 13, .int a, .int b] s hw_ri (rc 3 a b s)) (HX1_readTerm : ∀ (a b : Int32) (s : hw_St), hw_M E yX1_readTerm cX1_readTerm 5 (some .boolean) (20 + n) [hw_rv (hw_ea E) 13, .int a, .int b] s hw_ri (rc 4 a b s)) (HX1_readPiece : ∀ (a b : Int32) (s : hw_St), hw_M E yX1_readPiece cX1_readPiece 3 (some .boolean) (20 + n) [hw_rv (hw_ea E) 13, .int a, .int b] s hw_ri (rc 5 a b s)) (a1 : Int32) (a2 : Int32) (s0 : hw_St) : hw_M E yX1_readOr cX1_readOr 4 (some .boolean) (20 + n + 1) [hw_rv (hw_ea E) 13, .int a1, .int a2] s0 hw_ri (F_X1_readOr rc a1 a2 s0) := by
  refine hw_entry (own := RX1) (TL := hw_TH) (by decide) rfl hE (hw_cR (hw_cI (hw_cI hw_cN))) (hw_l8 rfl) (fun G hG C => ?_)
  subst hG
  have hTL := hE
  show hw_K G 4 hw_ri _ 0 [(0, hw_rv (hw_ea (hw_gE G)) 13), (1, .int a1), (2, .int a2)] [] s0
  unfold F_X1_readOr
  refine hw_aload_n C dX1_readOr_0 rfl 0 rfl ?_
  refine hw_iload_n C dX1_readOr_1 rfl 1 rfl ?_
  refine hw_iload_n C dX1_readOr_2 rfl 2 rfl ?_
  refine hw_callVi C (HX1_readAnd a1 a2 s0) W_X1_readAnd SV_X1_readAnd cf_X1 hw_T13 mw_698 (by omega) rfl ⟨rfl, hw_l8 rfl⟩ dX1_readOr_3 (fun r1 s2 => ?_)
  refine hw_if_ne C dX1_readOr_6 (tgt := 11) (by decide) (fun c3 => ?_) (fun c3 => ?_)
  · refine hw_iconst C dX1_readOr_11 (v := 0) (by decide) ?_
    refine hw_istore_n C dX1_readOr_12 rfl (by decide) rfl ?_
    exact hw_lv [1, 2, 3, 0] rfl (KL_X1_readOr_13 C hTL rc HX1_readOr HX1_readAnd HX1_readTest HX1_readSum HX1_readTerm HX1_readPiece 130 a1 a2 (0 : Int32) s2)
  · refine hw_iconst C dX1_readOr_9 (v := 0) (by decide) ?_
    exact hw_zret1 C (by decide) dX1_readOr_10
/-! HumWire$Reader readAnd(II)Z, level 20 + n + 1 -/
def S_X1_readAnd_13 (rc : Nat → Int32 → Int32 → hw_St → Option (Int32 × hw_St))  (w13 : Int32 → Int32 → Int32 → hw_St → Option (Int32 × hw_St)) (l1 : Int32) (l2 : Int32) (l3 : Int32) (s0 : hw_St) : Option (Int32 × hw_St) := if (96 : Int32) ≤ l3 then (some ((1 : Int32), s0)) else (hw_bd (F_X1_isSign (38 : Int32) s0) (fun r5 s6 => if r5 = 0 then (some ((1 : Int32), s6)) else (hw_bd (F_X1_step  s6) (fun _ s9 => hw_bd (rc 2 l1 l2 s9) (fun r10 s11 => if r10 = 0 then (some ((0 : Int32), s11)) else (hw_gd (hw_gH (s11 13 2).toNatClampNeg 0) (hw_bd (F_X0_putSign (s11 13 2).toNatClampNeg (38 : Int32) s11) (fun _ s16 => w13 l1 l2 (l3 + 1) s16))))))))
def L_X1_readAnd_13 (rc : Nat → Int32 → Int32 → hw_St → Option (Int32 × hw_St))  : Nat → Int32 → Int32 → Int32 → hw_St → Option (Int32 × hw_St)
  | 0 => fun _ _ _ _ => none
  | n + 1 => S_X1_readAnd_13 rc  (L_X1_readAnd_13 rc  n)
def F_X1_readAnd (rc : Nat → Int32 → Int32 → hw_St → Option (Int32 × hw_St))  (a1 : Int32) (a2 : Int32) (s0 : hw_St) : Option (Int32 × hw_St) := hw_bd (rc 2 a1 a2 s0) (fun r1 s2 => if r1 = 0 then (some ((0 : Int32), s2)) else (L_X1_readAnd_13 rc 130 a1 a2 (0 : Int32) s2))
set_option maxRecDepth 20000 in
theorem KS_X1_readAnd_13 {G : hw_G} {n : Nat} (C : hw_Ok G cX1_readAnd RX1 4 (20 + n + 1) (some .boolean) hw_TH) (hTL : hw_eT (hw_gE G) = hw_TH) (rc : Nat → Int32 → Int32 → hw_St → Option (Int32 × hw_St)) (HX1_readOr : ∀ (a b : Int32) (s : hw_St), hw_M (hw_gE G) yX1_readOr cX1_readOr 4 (some .boolean) (20 + n) [hw_rv (hw_ea (hw_gE G)) 13, .int a, .int b] s hw_ri (rc 0 a b s)) (HX1_readAnd : ∀ (a b : Int32) (s : hw_St), hw_M (hw_gE G) yX1_readAnd cX1_readAnd 4 (some .boolean) (20 + n) [hw_rv (hw_ea (hw_gE G)) 13, .int a, .int b] s hw_ri (rc 1 a b s)) (HX1_readTest : ∀ (a b : Int32) (s : hw_St), hw_M (hw_gE G) yX1_readTest cX1_readTest 4 (some .boolean) (20 + n) [hw_rv (hw_ea (hw_gE G)) 13, .int a, .int b] s hw_ri (rc 2 a b s)) (HX1_readSum : ∀ (a b : Int32) (s : hw_St), hw_M (hw_gE G) yX1_readSum cX1_readSum 5 (some .boolean) (20 + n) [hw_rv (hw_ea (hw_gE G)) 13, .int a, .int b] s hw_ri (rc 3 a b s)) (HX1_readTerm : ∀ (a b : Int32) (s : hw_St), hw_M (hw_gE G) yX1_readTerm cX1_readTerm 5 (some .boolean) (20 + n) [hw_rv (hw_ea (hw_gE G)) 13, .int a, .int b] s hw_ri (rc 4 a b s)) (HX1_readPiece : ∀ (a b : Int32) (s : hw_St), hw_M (hw_gE G) yX1_readPiece cX1_readPiece 3 (some .boolean) (20 + n) [hw_rv (hw_ea (hw_gE G)) 13, .int a, .int b] s hw_ri (rc 5 a b s)) (w13 : Int32 → Int32 → Int32 → hw_St → Option (Int32 × hw_St)) (H_w13 : ∀ (l1 : Int32) (l2 : Int32) (l3 : Int32) (s0 : hw_St), hw_K G 4 hw_ri (w13 l1 l2 l3 s0) 13 [(0, hw_rv (hw_ea (hw_gE G)) 13), (1, .int l1), (2, .int l2), (3, .int l3)] [] s0) (l1 : Int32) (l2 : Int32) (l3 : Int32) (s0 : hw_St) : hw_K G 4 hw_ri (S_X1_readAnd_13 rc w13 l1 l2 l3 s0) 13 [(0, hw_rv (hw_ea (hw_gE G)) 13), (1, .int l1), (2, .int l2), (3, .int l3)] [] s0 := by
  unfold S_X1_readAnd_13
  refine hw_iload_n C dX1_readAnd_13 rfl 3 rfl ?_
  refine hw_bipush C dX1_readAnd_14 (v := 96) (by decide) ?_
  refine hw_icmp_ge C dX1_readAnd_16 (tgt := 58) (by decide) (fun c4 => ?_) (fun c4 => ?_)
  · refine hw_iconst C dX1_readAnd_58 (v := 1) (by decide) ?_
    exact hw_zret1 C (by decide) dX1_readAnd_59
  · refine hw_aload_n C dX1_readAnd_19 rfl 0 rfl ?_
    refine hw_bipush C dX1_readAnd_20 (v := 38) (by decide) ?_
    refine hw_callVi C (M_X1_isSign (hw_gE G) hTL (38 : Int32) s0) W_X1_isSign SV_X1_isSign cf_X1 hw_T13 mw_701 (by omega) rfl ⟨rfl, hw_l8 rfl⟩ dX1_readAnd_22 (fun r5 s6 => ?_)
    refine hw_if_eq C dX1_readAnd_25 (tgt := 58) (by decide) (fun c7 => ?_) (fun c7 => ?_)
    · refine hw_iconst C dX1_readAnd_58 (v := 1) (by decide) ?_
      exact hw_zret1 C (by decide) dX1_readAnd_59
    · refine hw_aload_n C dX1_readAnd_28 rfl 0 rfl ?_
      refine hw_callVv C (M_X1_step (hw_gE G) hTL  s6) W_X1_step SV_X1_step cf_X1 hw_T13 mw_621 (by omega) rfl ⟨rfl, hw_l8 rfl⟩ dX1_readAnd_29 (fun r8 s9 => ?_)
      refine hw_aload_n C dX1_readAnd_32 rfl 0 rfl ?_
      refine hw_iload_n C dX1_readAnd_33 rfl 1 rfl ?_
      refine hw_iload_n C dX1_readAnd_34 rfl 2 rfl ?_
      refine hw_callVi C (HX1_readTest l1 l2 s9) W_X1_readTest SV_X1_readTest cf_X1 hw_T13 mw_718 (by omega) rfl ⟨rfl, hw_l8 rfl⟩ dX1_readAnd_35 (fun r10 s11 => ?_)
      refine hw_if_ne C dX1_readAnd_38 (tgt := 43) (by decide) (fun c12 => ?_) (fun c12 => ?_)
      · refine hw_aload_n C dX1_readAnd_43 rfl 0 rfl ?_
        refine hw_getM C cf_X1 lf_X1_15 hw_T13 dX1_readAnd_44 ?_
        refine hw_bipush C dX1_readAnd_47 (v := 38) (by decide) ?_
        refine hw_gdK (fun h14 => ?_)
        have T_13 := hw_gH_T h14
        refine hw_callVv C (M_X0_putSign (hw_gE G) hTL (s11 13 2).toNatClampNeg (38 : Int32) s11) W_X0_putSign SV_X0_putSign cf_X0 T_13 mw_709 (by omega) rfl ⟨rfl, hw_l8 rfl⟩ dX1_readAnd_49 (fun r15 s16 => ?_)
        refine hw_iinc C dX1_readAnd_52 3 rfl (v := 1) (by decide) (by decide) rfl ?_
        refine hw_goto C dX1_readAnd_55 (tgt := 13) (by decide) ?_
        exact hw_lv [1, 2, 3, 0] rfl (H_w13 l1 l2 (l3 + 1) s16)
      · refine hw_iconst C dX1_readAnd_41 (v := 0) (by decide) ?_
        exact hw_zret1 C (by decide) dX1_readAnd_42
theorem KL_X1_readAnd_13 {G : hw_G} {n : Nat} (C : hw_Ok G cX1_readAnd RX1 4 (20 + n + 1) (some .boolean) hw_TH) (hTL : hw_eT (hw_gE G) = hw_TH) (rc : Nat → Int32 → Int32 → hw_St → Option (Int32 × hw_St)) (HX1_readOr : ∀ (a b : Int32) (s : hw_St), hw_M (hw_gE G) yX1_readOr cX1_readOr 4 (some .boolean) (20 + n) [hw_rv (hw_ea (hw_gE G)) 13, .int a, .int b] s hw_ri (rc 0 a b s)) (HX1_readAnd : ∀ (a b : Int32) (s : hw_St), hw_M (hw_gE G) yX1_readAnd cX1_readAnd 4 (some .boolean) (20 + n) [hw_rv (hw_ea (hw_gE G)) 13, .int a, .int b] s hw_ri (rc 1 a b s)) (HX1_readTest : ∀ (a b : Int32) (s : hw_St), hw_M (hw_gE G) yX1_readTest cX1_readTest 4 (some .boolean) (20 + n) [hw_rv (hw_ea (hw_gE G)) 13, .int a, .int b] s hw_ri (rc 2 a b s)) (HX1_readSum : ∀ (a b : Int32) (s : hw_St), hw_M (hw_gE G) yX1_readSum cX1_readSum 5 (some .boolean) (20 + n) [hw_rv (hw_ea (hw_gE G)) 13, .int a, .int b] s hw_ri (rc 3 a b s)) (HX1_readTerm : ∀ (a b : Int32) (s : hw_St), hw_M (hw_gE G) yX1_readTerm cX1_readTerm 5 (some .boolean) (20 + n) [hw_rv (hw_ea (hw_gE G)) 13, .int a, .int b] s hw_ri (rc 4 a b s)) (HX1_readPiece : ∀ (a b : Int32) (s : hw_St), hw_M (hw_gE G) yX1_readPiece cX1_readPiece 3 (some .boolean) (20 + n) [hw_rv (hw_ea (hw_gE G)) 13, .int a, .int b] s hw_ri (rc 5 a b s)) : ∀ (n_ : Nat) (l1 : Int32) (l2 : Int32) (l3 : Int32) (s0 : hw_St), hw_K G 4 hw_ri (L_X1_readAnd_13 rc n_ l1 l2 l3 s0) 13 [(0, hw_rv (hw_ea (hw_gE G)) 13), (1, .int l1), (2, .int l2), (3, .int l3)] [] s0 := by
  intro n_
  induction n_ with
  | zero => intros; exact hw_nil
  | succ n_ ih => intro l1 l2 l3 s0; exact KS_X1_readAnd_13 C hTL rc HX1_readOr HX1_readAnd HX1_readTest HX1_readSum HX1_readTerm HX1_readPiece (L_X1_readAnd_13 rc n_) ih l1 l2 l3 s0
set_option maxRecDepth 20000 in
theorem M_X1_readAnd (E : hw_E) (hE : hw_eT E = hw_TH) {n : Nat} (rc : Nat → Int32 → Int32 → hw_St → Option (Int32 × hw_St)) (HX1_readOr : ∀ (a b : Int32) (s : hw_St), hw_M E yX1_readOr cX1_readOr 4 (some .boolean) (20 + n) [hw_rv (hw_ea E) 13, .int a, .int b] s hw_ri (rc 0 a b s)) (HX1_readAnd : ∀ (a b : Int32) (s : hw_St), hw_M E yX1_readAnd cX1_readAnd 4 (some .boolean) (20 + n) [hw_rv (hw_ea E) 13, .int a, .int b] s hw_ri (rc 1 a b s)) (HX1_readTest : ∀ (a b : Int32) (s : hw_St), hw_M E yX1_readTest cX1_readTest 4 (some .boolean) (20 + n) [hw_rv (hw_ea E) 13, .int a, .int b] s hw_ri (rc 2 a b s)) (HX1_readSum : ∀ (a b : Int32) (s : hw_St), hw_M E yX1_readSum cX1_readSum 5 (some .boolean) (20 + n) [hw_rv (hw_ea E) 13, .int a, .int b] s hw_ri (rc 3 a b s)) (HX1_readTerm : ∀ (a b : Int32) (s : hw_St), hw_M E yX1_readTerm cX1_readTerm 5 (some .boolean) (20 + n) [hw_rv (hw_ea E) 13, .int a, .int b] s hw_ri (rc 4 a b s)) (HX1_readPiece : ∀ (a b : Int32) (s : hw_St), hw_M E yX1_readPiece cX1_readPiece 3 (some .boolean) (20 + n) [hw_rv (hw_ea E) 13, .int a, .int b] s hw_ri (rc 5 a b s)) (a1 : Int32) (a2 : Int32) (s0 : hw_St) : hw_M E yX1_readAnd cX1_readAnd 4 (some .boolean) (20 + n + 1) [hw_rv (hw_ea E) 13, .int a1, .int a2] s0 hw_ri (F_X1_readAnd rc a1 a2 s0) := by
  refine hw_entry (own := RX1) (TL := hw_TH) (by decide) rfl hE (hw_cR (hw_cI (hw_cI hw_cN))) (hw_l8 rfl) (fun G hG C => ?_)
  subst hG
  have hTL := hE
  show hw_K G 4 hw_ri _ 0 [(0, hw_rv (hw_ea (hw_gE G)) 13), (1, .int a1), (2, .int a2)] [] s0
  unfold F_X1_readAnd
  refine hw_aload_n C dX1_readAnd_0 rfl 0 rfl ?_
  refine hw_iload_n C dX1_readAnd_1 rfl 1 rfl ?_
  refine hw_iload_n C dX1_readAnd_2 rfl 2 rfl ?_
  refine hw_callVi C (HX1_readTest a1 a2 s0) W_X1_readTest SV_X1_readTest cf_X1 hw_T13 mw_718 (by omega) rfl ⟨rfl, hw_l8 rfl⟩ dX1_readAnd_3 (fun r1 s2 => ?_)
  refine hw_if_ne C dX1_readAnd_6 (tgt := 11) (by decide) (fun c3 => ?_) (fun c3 => ?_)
  · refine hw_iconst C dX1_readAnd_11 (v := 0) (by decide) ?_
    refine hw_istore_n C dX1_readAnd_12 rfl (by decide) rfl ?_
    exact hw_lv [1, 2, 3, 0] rfl (KL_X1_readAnd_13 C hTL rc HX1_readOr HX1_readAnd HX1_readTest HX1_readSum HX1_readTerm HX1_readPiece 130 a1 a2 (0 : Int32) s2)
  · refine hw_iconst C dX1_readAnd_9 (v := 0) (by decide) ?_
    exact hw_zret1 C (by decide) dX1_readAnd_10
/-! HumWire$Reader readTest(II)Z, level 20 + n + 1 -/
def B_X1_readTest_38 (rc : Nat → Int32 → Int32 → hw_St → Option (Int32 × hw_St))  (l1 : Int32) (l2 : Int32) (s0 : hw_St) : Option (Int32 × hw_St) := hw_bd (F_X1_byteHere  s0) (fun r13 s14 => hw_bd (F_X1_step  s14) (fun _ s16 => hw_bd (rc 3 l1 l2 s16) (fun r17 s18 => if r17 = 0 then (some ((0 : Int32), s18)) else (hw_gd (hw_gH (s18 13 2).toNatClampNeg 0) (hw_bd (F_X0_putSign (s18 13 2).toNatClampNeg r13 s18) (fun _ s23 => some ((1 : Int32), s23)))))))
def F_X1_readTest (rc : Nat → Int32 → Int32 → hw_St → Option (Int32 × hw_St))  (a1 : Int32) (a2 : Int32) (s0 : hw_St) : Option (Int32 × hw_St) := hw_bd (rc 3 a1 a2 s0) (fun r1 s2 => if r1 = 0 then (some ((0 : Int32), s2)) else (hw_bd (F_X1_isSign (60 : Int32) s2) (fun r4 s5 => if r4 = 0 then (hw_bd (F_X1_isSign (61 : Int32) s5) (fun r7 s8 => if r7 = 0 then (hw_bd (F_X1_isSign (62 : Int32) s8) (fun r10 s11 => if r10 = 0 then (some ((1 : Int32), s11)) else (B_X1_readTest_38 rc a1 a2 s11))) else (B_X1_readTest_38 rc a1 a2 s8))) else (B_X1_readTest_38 rc a1 a2 s5))))
set_option maxRecDepth 20000 in
theorem KB_X1_readTest_38 {G : hw_G} {n : Nat} (C : hw_Ok G cX1_readTest RX1 4 (20 + n + 1) (some .boolean) hw_TH) (hTL : hw_eT (hw_gE G) = hw_TH) (rc : Nat → Int32 → Int32 → hw_St → Option (Int32 × hw_St)) (HX1_readOr : ∀ (a b : Int32) (s : hw_St), hw_M (hw_gE G) yX1_readOr cX1_readOr 4 (some .boolean) (20 + n) [hw_rv (hw_ea (hw_gE G)) 13, .int a, .int b] s hw_ri (rc 0 a b s)) (HX1_readAnd : ∀ (a b : Int32) (s : hw_St), hw_M (hw_gE G) yX1_readAnd cX1_readAnd 4 (some .boolean) (20 + n) [hw_rv (hw_ea (hw_gE G)) 13, .int a, .int b] s hw_ri (rc 1 a b s)) (HX1_readTest : ∀ (a b : Int32) (s : hw_St), hw_M (hw_gE G) yX1_readTest cX1_readTest 4 (some .boolean) (20 + n) [hw_rv (hw_ea (hw_gE G)) 13, .int a, .int b] s hw_ri (rc 2 a b s)) (HX1_readSum : ∀ (a b : Int32) (s : hw_St), hw_M (hw_gE G) yX1_readSum cX1_readSum 5 (some .boolean) (20 + n) [hw_rv (hw_ea (hw_gE G)) 13, .int a, .int b] s hw_ri (rc 3 a b s)) (HX1_readTerm : ∀ (a b : Int32) (s : hw_St), hw_M (hw_gE G) yX1_readTerm cX1_readTerm 5 (some .boolean) (20 + n) [hw_rv (hw_ea (hw_gE G)) 13, .int a, .int b] s hw_ri (rc 4 a b s)) (HX1_readPiece : ∀ (a b : Int32) (s : hw_St), hw_M (hw_gE G) yX1_readPiece cX1_readPiece 3 (some .boolean) (20 + n) [hw_rv (hw_ea (hw_gE G)) 13, .int a, .int b] s hw_ri (rc 5 a b s)) (l1 : Int32) (l2 : Int32) (s0 : hw_St) : hw_K G 4 hw_ri (B_X1_readTest_38 rc l1 l2 s0) 38 [(0, hw_rv (hw_ea (hw_gE G)) 13), (1, .int l1), (2, .int l2)] [] s0 := by
  unfold B_X1_readTest_38
  refine hw_aload_n C dX1_readTest_38 rfl 0 rfl ?_
  refine hw_callVi C (M_X1_byteHere (hw_gE G) hTL  s0) W_X1_byteHere SV_X1_byteHere cf_X1 hw_T13 mw_705 (by omega) rfl ⟨rfl, hw_l8 rfl⟩ dX1_readTest_39 (fun r13 s14 => ?_)
  refine hw_istore_n C dX1_readTest_42 rfl (by decide) rfl ?_
  refine hw_aload_n C dX1_readTest_43 rfl 1 rfl ?_
  refine hw_callVv C (M_X1_step (hw_gE G) hTL  s14) W_X1_step SV_X1_step cf_X1 hw_T13 mw_621 (by omega) rfl ⟨rfl, hw_l8 rfl⟩ dX1_readTest_44 (fun r15 s16 => ?_)
  refine hw_aload_n C dX1_readTest_47 rfl 1 rfl ?_
  refine hw_iload_n C dX1_readTest_48 rfl 2 rfl ?_
  refine hw_iload_n C dX1_readTest_49 rfl 3 rfl ?_
  refine hw_callVi C (HX1_readSum l1 l2 s16) W_X1_readSum SV_X1_readSum cf_X1 hw_T13 mw_800 (by omega) rfl ⟨rfl, hw_l8 rfl⟩ dX1_readTest_50 (fun r17 s18 => ?_)
  refine hw_if_ne C dX1_readTest_53 (tgt := 58) (by decide) (fun c19 => ?_) (fun c19 => ?_)
  · refine hw_aload_n C dX1_readTest_58 rfl 1 rfl ?_
    refine hw_getM C cf_X1 lf_X1_15 hw_T13 dX1_readTest_59 ?_
    refine hw_iload_n C dX1_readTest_62 rfl 0 rfl ?_
    refine hw_gdK (fun h21 => ?_)
    have T_20 := hw_gH_T h21
    refine hw_callVv C (M_X0_putSign (hw_gE G) hTL (s18 13 2).toNatClampNeg r13 s18) W_X0_putSign SV_X0_putSign cf_X0 T_20 mw_709 (by omega) rfl ⟨rfl, hw_l8 rfl⟩ dX1_readTest_63 (fun r22 s23 => ?_)
    refine hw_iconst C dX1_readTest_66 (v := 1) (by decide) ?_
    exact hw_zret1 C (by decide) dX1_readTest_67
  · refine hw_iconst C dX1_readTest_56 (v := 0) (by decide) ?_
    exact hw_zret1 C (by decide) dX1_readTest_57
set_option maxRecDepth 20000 in
theorem M_X1_readTest (E : hw_E) (hE : hw_eT E = hw_TH) {n : Nat} (rc : Nat → Int32 → Int32 → hw_St → Option (Int32 × hw_St)) (HX1_readOr : ∀ (a b : Int32) (s : hw_St), hw_M E yX1_readOr cX1_readOr 4 (some .boolean) (20 + n) [hw_rv (hw_ea E) 13, .int a, .int b] s hw_ri (rc 0 a b s)) (HX1_readAnd : ∀ (a b : Int32) (s : hw_St), hw_M E yX1_readAnd cX1_readAnd 4 (some .boolean) (20 + n) [hw_rv (hw_ea E) 13, .int a, .int b] s hw_ri (rc 1 a b s)) (HX1_readTest : ∀ (a b : Int32) (s : hw_St), hw_M E yX1_readTest cX1_readTest 4 (some .boolean) (20 + n) [hw_rv (hw_ea E) 13, .int a, .int b] s hw_ri (rc 2 a b s)) (HX1_readSum : ∀ (a b : Int32) (s : hw_St), hw_M E yX1_readSum cX1_readSum 5 (some .boolean) (20 + n) [hw_rv (hw_ea E) 13, .int a, .int b] s hw_ri (rc 3 a b s)) (HX1_readTerm : ∀ (a b : Int32) (s : hw_St), hw_M E yX1_readTerm cX1_readTerm 5 (some .boolean) (20 + n) [hw_rv (hw_ea E) 13, .int a, .int b] s hw_ri (rc 4 a b s)) (HX1_readPiece : ∀ (a b : Int32) (s : hw_St), hw_M E yX1_readPiece cX1_readPiece 3 (some .boolean) (20 + n) [hw_rv (hw_ea E) 13, .int a, .int b] s hw_ri (rc 5 a b s)) (a1 : Int32) (a2 : Int32) (s0 : hw_St) : hw_M E yX1_readTest cX1_readTest 4 (some .boolean) (20 + n + 1) [hw_rv (hw_ea E) 13, .int a1, .int a2] s0 hw_ri (F_X1_readTest rc a1 a2 s0) := by
  refine hw_entry (own := RX1) (TL := hw_TH) (by decide) rfl hE (hw_cR (hw_cI (hw_cI hw_cN))) (hw_l8 rfl) (fun G hG C => ?_)
  subst hG
  have hTL := hE
  show hw_K G 4 hw_ri _ 0 [(0, hw_rv (hw_ea (hw_gE G)) 13), (1, .int a1), (2, .int a2)] [] s0
  unfold F_X1_readTest
  refine hw_aload_n C dX1_readTest_0 rfl 0 rfl ?_
  refine hw_iload_n C dX1_readTest_1 rfl 1 rfl ?_
  refine hw_iload_n C dX1_readTest_2 rfl 2 rfl ?_
  refine hw_callVi C (HX1_readSum a1 a2 s0) W_X1_readSum SV_X1_readSum cf_X1 hw_T13 mw_800 (by omega) rfl ⟨rfl, hw_l8 rfl⟩ dX1_readTest_3 (fun r1 s2 => ?_)
  refine hw_if_ne C dX1_readTest_6 (tgt := 11) (by decide) (fun c3 => ?_) (fun c3 => ?_)
  · refine hw_aload_n C dX1_readTest_11 rfl 0 rfl ?_
    refine hw_bipush C dX1_readTest_12 (v := 60) (by decide) ?_
    refine hw_callVi C (M_X1_isSign (hw_gE G) hTL (60 : Int32) s2) W_X1_isSign SV_X1_isSign cf_X1 hw_T13 mw_701 (by omega) rfl ⟨rfl, hw_l8 rfl⟩ dX1_readTest_14 (fun r4 s5 => ?_)
    refine hw_if_ne C dX1_readTest_17 (tgt := 38) (by decide) (fun c6 => ?_) (fun c6 => ?_)
    · exact hw_lv [0, 1, 2] rfl (KB_X1_readTest_38 C hTL rc HX1_readOr HX1_readAnd HX1_readTest HX1_readSum HX1_readTerm HX1_readPiece a1 a2 s5)
    · refine hw_aload_n C dX1_readTest_20 rfl 0 rfl ?_
      refine hw_bipush C dX1_readTest_21 (v := 61) (by decide) ?_
      refine hw_callVi C (M_X1_isSign (hw_gE G) hTL (61 : Int32) s5) W_X1_isSign SV_X1_isSign cf_X1 hw_T13 mw_701 (by omega) rfl ⟨rfl, hw_l8 rfl⟩ dX1_readTest_23 (fun r7 s8 => ?_)
      refine hw_if_ne C dX1_readTest_26 (tgt := 38) (by decide) (fun c9 => ?_) (fun c9 => ?_)
      · exact hw_lv [0, 1, 2] rfl (KB_X1_readTest_38 C hTL rc HX1_readOr HX1_readAnd HX1_readTest HX1_readSum HX1_readTerm HX1_readPiece a1 a2 s8)
      · refine hw_aload_n C dX1_readTest_29 rfl 0 rfl ?_
        refine hw_bipush C dX1_readTest_30 (v := 62) (by decide) ?_
        refine hw_callVi C (M_X1_isSign (hw_gE G) hTL (62 : Int32) s8) W_X1_isSign SV_X1_isSign cf_X1 hw_T13 mw_701 (by omega) rfl ⟨rfl, hw_l8 rfl⟩ dX1_readTest_32 (fun r10 s11 => ?_)
        refine hw_if_eq C dX1_readTest_35 (tgt := 66) (by decide) (fun c12 => ?_) (fun c12 => ?_)
        · refine hw_iconst C dX1_readTest_66 (v := 1) (by decide) ?_
          exact hw_zret1 C (by decide) dX1_readTest_67
        · exact hw_lv [0, 1, 2] rfl (KB_X1_readTest_38 C hTL rc HX1_readOr HX1_readAnd HX1_readTest HX1_readSum HX1_readTerm HX1_readPiece a1 a2 s11)
  · refine hw_iconst C dX1_readTest_9 (v := 0) (by decide) ?_
    exact hw_zret1 C (by decide) dX1_readTest_10
/-! HumWire$Reader readSum(II)Z, level 20 + n + 1 -/
def B_X1_readSum_37 (rc : Nat → Int32 → Int32 → hw_St → Option (Int32 × hw_St))  (w13 : Int32 → Int32 → Int32 → hw_St → Option (Int32 × hw_St)) (l1 : Int32) (l2 : Int32) (l3 : Int32) (s0 : hw_St) : Option (Int32 × hw_St) := hw_bd (F_X1_byteHere  s0) (fun r11 s12 => hw_bd (F_X1_step  s12) (fun _ s14 => hw_bd (rc 4 l1 l2 s14) (fun r15 s16 => if r15 = 0 then (some ((0 : Int32), s16)) else (hw_gd (hw_gH (s16 13 2).toNatClampNeg 0) (hw_bd (F_X0_putSign (s16 13 2).toNatClampNeg r11 s16) (fun _ s21 => w13 l1 l2 (l3 + 1) s21))))))
def S_X1_readSum_13 (rc : Nat → Int32 → Int32 → hw_St → Option (Int32 × hw_St))  (w13 : Int32 → Int32 → Int32 → hw_St → Option (Int32 × hw_St)) (l1 : Int32) (l2 : Int32) (l3 : Int32) (s0 : hw_St) : Option (Int32 × hw_St) := if (96 : Int32) ≤ l3 then (some ((1 : Int32), s0)) else (hw_bd (F_X1_isSign (43 : Int32) s0) (fun r5 s6 => if r5 = 0 then (hw_bd (F_X1_isSign (45 : Int32) s6) (fun r8 s9 => if r8 = 0 then (some ((1 : Int32), s9)) else (B_X1_readSum_37 rc w13 l1 l2 l3 s9))) else (B_X1_readSum_37 rc w13 l1 l2 l3 s6)))
def L_X1_readSum_13 (rc : Nat → Int32 → Int32 → hw_St → Option (Int32 × hw_St))  : Nat → Int32 → Int32 → Int32 → hw_St → Option (Int32 × hw_St)
  | 0 => fun _ _ _ _ => none
  | n + 1 => S_X1_readSum_13 rc  (L_X1_readSum_13 rc  n)
def F_X1_readSum (rc : Nat → Int32 → Int32 → hw_St → Option (Int32 × hw_St))  (a1 : Int32) (a2 : Int32) (s0 : hw_St) : Option (Int32 × hw_St) := hw_bd (rc 4 a1 a2 s0) (fun r1 s2 => if r1 = 0 then (some ((0 : Int32), s2)) else (L_X1_readSum_13 rc 130 a1 a2 (0 : Int32) s2))
set_option maxRecDepth 20000 in
theorem KB_X1_readSum_37 {G : hw_G} {n : Nat} (C : hw_Ok G cX1_readSum RX1 5 (20 + n + 1) (some .boolean) hw_TH) (hTL : hw_eT (hw_gE G) = hw_TH) (rc : Nat → Int32 → Int32 → hw_St → Option (Int32 × hw_St)) (HX1_readOr : ∀ (a b : Int32) (s : hw_St), hw_M (hw_gE G) yX1_readOr cX1_readOr 4 (some .boolean) (20 + n) [hw_rv (hw_ea (hw_gE G)) 13, .int a, .int b] s hw_ri (rc 0 a b s)) (HX1_readAnd : ∀ (a b : Int32) (s : hw_St), hw_M (hw_gE G) yX1_readAnd cX1_readAnd 4 (some .boolean) (20 + n) [hw_rv (hw_ea (hw_gE G)) 13, .int a, .int b] s hw_ri (rc 1 a b s)) (HX1_readTest : ∀ (a b : Int32) (s : hw_St), hw_M (hw_gE G) yX1_readTest cX1_readTest 4 (some .boolean) (20 + n) [hw_rv (hw_ea (hw_gE G)) 13, .int a, .int b] s hw_ri (rc 2 a b s)) (HX1_readSum : ∀ (a b : Int32) (s : hw_St), hw_M (hw_gE G) yX1_readSum cX1_readSum 5 (some .boolean) (20 + n) [hw_rv (hw_ea (hw_gE G)) 13, .int a, .int b] s hw_ri (rc 3 a b s)) (HX1_readTerm : ∀ (a b : Int32) (s : hw_St), hw_M (hw_gE G) yX1_readTerm cX1_readTerm 5 (some .boolean) (20 + n) [hw_rv (hw_ea (hw_gE G)) 13, .int a, .int b] s hw_ri (rc 4 a b s)) (HX1_readPiece : ∀ (a b : Int32) (s : hw_St), hw_M (hw_gE G) yX1_readPiece cX1_readPiece 3 (some .boolean) (20 + n) [hw_rv (hw_ea (hw_gE G)) 13, .int a, .int b] s hw_ri (rc 5 a b s)) (w13 : Int32 → Int32 → Int32 → hw_St → Option (Int32 × hw_St)) (H_w13 : ∀ (l1 : Int32) (l2 : Int32) (l3 : Int32) (s0 : hw_St), hw_K G 5 hw_ri (w13 l1 l2 l3 s0) 13 [(0, hw_rv (hw_ea (hw_gE G)) 13), (1, .int l1), (2, .int l2), (3, .int l3)] [] s0) (l1 : Int32) (l2 : Int32) (l3 : Int32) (s0 : hw_St) : hw_K G 5 hw_ri (B_X1_readSum_37 rc w13 l1 l2 l3 s0) 37 [(0, hw_rv (hw_ea (hw_gE G)) 13), (1, .int l1), (2, .int l2), (3, .int l3)] [] s0 := by
  unfold B_X1_readSum_37
  refine hw_aload_n C dX1_readSum_37 rfl 0 rfl ?_
  refine hw_callVi C (M_X1_byteHere (hw_gE G) hTL  s0) W_X1_byteHere SV_X1_byteHere cf_X1 hw_T13 mw_705 (by omega) rfl ⟨rfl, hw_l8 rfl⟩ dX1_readSum_38 (fun r11 s12 => ?_)
  refine hw_istore C dX1_readSum_41 (by decide) rfl ?_
  refine hw_aload_n C dX1_readSum_43 rfl 1 rfl ?_
  refine hw_callVv C (M_X1_step (hw_gE G) hTL  s12) W_X1_step SV_X1_step cf_X1 hw_T13 mw_621 (by omega) rfl ⟨rfl, hw_l8 rfl⟩ dX1_readSum_44 (fun r13 s14 => ?_)
  refine hw_aload_n C dX1_readSum_47 rfl 1 rfl ?_
  refine hw_iload_n C dX1_readSum_48 rfl 2 rfl ?_
  refine hw_iload_n C dX1_readSum_49 rfl 3 rfl ?_
  refine hw_callVi C (HX1_readTerm l1 l2 s14) W_X1_readTerm SV_X1_readTerm cf_X1 hw_T13 mw_795 (by omega) rfl ⟨rfl, hw_l8 rfl⟩ dX1_readSum_50 (fun r15 s16 => ?_)
  refine hw_if_ne C dX1_readSum_53 (tgt := 58) (by decide) (fun c17 => ?_) (fun c17 => ?_)
  · refine hw_aload_n C dX1_readSum_58 rfl 1 rfl ?_
    refine hw_getM C cf_X1 lf_X1_15 hw_T13 dX1_readSum_59 ?_
    refine hw_iload C dX1_readSum_62 0 rfl ?_
    refine hw_gdK (fun h19 => ?_)
    have T_18 := hw_gH_T h19
    refine hw_callVv C (M_X0_putSign (hw_gE G) hTL (s16 13 2).toNatClampNeg r11 s16) W_X0_putSign SV_X0_putSign cf_X0 T_18 mw_709 (by omega) rfl ⟨rfl, hw_l8 rfl⟩ dX1_readSum_64 (fun r20 s21 => ?_)
    refine hw_iinc C dX1_readSum_67 4 rfl (v := 1) (by decide) (by decide) rfl ?_
    refine hw_goto C dX1_readSum_70 (tgt := 13) (by decide) ?_
    exact hw_lv [2, 3, 4, 0] rfl (H_w13 l1 l2 (l3 + 1) s21)
  · refine hw_iconst C dX1_readSum_56 (v := 0) (by decide) ?_
    exact hw_zret1 C (by decide) dX1_readSum_57
set_option maxRecDepth 20000 in
theorem KS_X1_readSum_13 {G : hw_G} {n : Nat} (C : hw_Ok G cX1_readSum RX1 5 (20 + n + 1) (some .boolean) hw_TH) (hTL : hw_eT (hw_gE G) = hw_TH) (rc : Nat → Int32 → Int32 → hw_St → Option (Int32 × hw_St)) (HX1_readOr : ∀ (a b : Int32) (s : hw_St), hw_M (hw_gE G) yX1_readOr cX1_readOr 4 (some .boolean) (20 + n) [hw_rv (hw_ea (hw_gE G)) 13, .int a, .int b] s hw_ri (rc 0 a b s)) (HX1_readAnd : ∀ (a b : Int32) (s : hw_St), hw_M (hw_gE G) yX1_readAnd cX1_readAnd 4 (some .boolean) (20 + n) [hw_rv (hw_ea (hw_gE G)) 13, .int a, .int b] s hw_ri (rc 1 a b s)) (HX1_readTest : ∀ (a b : Int32) (s : hw_St), hw_M (hw_gE G) yX1_readTest cX1_readTest 4 (some .boolean) (20 + n) [hw_rv (hw_ea (hw_gE G)) 13, .int a, .int b] s hw_ri (rc 2 a b s)) (HX1_readSum : ∀ (a b : Int32) (s : hw_St), hw_M (hw_gE G) yX1_readSum cX1_readSum 5 (some .boolean) (20 + n) [hw_rv (hw_ea (hw_gE G)) 13, .int a, .int b] s hw_ri (rc 3 a b s)) (HX1_readTerm : ∀ (a b : Int32) (s : hw_St), hw_M (hw_gE G) yX1_readTerm cX1_readTerm 5 (some .boolean) (20 + n) [hw_rv (hw_ea (hw_gE G)) 13, .int a, .int b] s hw_ri (rc 4 a b s)) (HX1_readPiece : ∀ (a b : Int32) (s : hw_St), hw_M (hw_gE G) yX1_readPiece cX1_readPiece 3 (some .boolean) (20 + n) [hw_rv (hw_ea (hw_gE G)) 13, .int a, .int b] s hw_ri (rc 5 a b s)) (w13 : Int32 → Int32 → Int32 → hw_St → Option (Int32 × hw_St)) (H_w13 : ∀ (l1 : Int32) (l2 : Int32) (l3 : Int32) (s0 : hw_St), hw_K G 5 hw_ri (w13 l1 l2 l3 s0) 13 [(0, hw_rv (hw_ea (hw_gE G)) 13), (1, .int l1), (2, .int l2), (3, .int l3)] [] s0) (l1 : Int32) (l2 : Int32) (l3 : Int32) (s0 : hw_St) : hw_K G 5 hw_ri (S_X1_readSum_13 rc w13 l1 l2 l3 s0) 13 [(0, hw_rv (hw_ea (hw_gE G)) 13), (1, .int l1), (2, .int l2), (3, .int l3)] [] s0 := by
  unfold S_X1_readSum_13
  refine hw_iload_n C dX1_readSum_13 rfl 3 rfl ?_
  refine hw_bipush C dX1_readSum_14 (v := 96) (by decide) ?_
  refine hw_icmp_ge C dX1_readSum_16 (tgt := 73) (by decide) (fun c4 => ?_) (fun c4 => ?_)
  · refine hw_iconst C dX1_readSum_73 (v := 1) (by decide) ?_
    exact hw_zret1 C (by decide) dX1_readSum_74
  · refine hw_aload_n C dX1_readSum_19 rfl 0 rfl ?_
    refine hw_bipush C dX1_readSum_20 (v := 43) (by decide) ?_
    refine hw_callVi C (M_X1_isSign (hw_gE G) hTL (43 : Int32) s0) W_X1_isSign SV_X1_isSign cf_X1 hw_T13 mw_701 (by omega) rfl ⟨rfl, hw_l8 rfl⟩ dX1_readSum_22 (fun r5 s6 => ?_)
    refine hw_if_ne C dX1_readSum_25 (tgt := 37) (by decide) (fun c7 => ?_) (fun c7 => ?_)
    · exact hw_lv [0, 1, 2, 3] rfl (KB_X1_readSum_37 C hTL rc HX1_readOr HX1_readAnd HX1_readTest HX1_readSum HX1_readTerm HX1_readPiece w13 H_w13 l1 l2 l3 s6)
    · refine hw_aload_n C dX1_readSum_28 rfl 0 rfl ?_
      refine hw_bipush C dX1_readSum_29 (v := 45) (by decide) ?_
      refine hw_callVi C (M_X1_isSign (hw_gE G) hTL (45 : Int32) s6) W_X1_isSign SV_X1_isSign cf_X1 hw_T13 mw_701 (by omega) rfl ⟨rfl, hw_l8 rfl⟩ dX1_readSum_31 (fun r8 s9 => ?_)
      refine hw_if_eq C dX1_readSum_34 (tgt := 73) (by decide) (fun c10 => ?_) (fun c10 => ?_)
      · refine hw_iconst C dX1_readSum_73 (v := 1) (by decide) ?_
        exact hw_zret1 C (by decide) dX1_readSum_74
      · exact hw_lv [0, 1, 2, 3] rfl (KB_X1_readSum_37 C hTL rc HX1_readOr HX1_readAnd HX1_readTest HX1_readSum HX1_readTerm HX1_readPiece w13 H_w13 l1 l2 l3 s9)
theorem KL_X1_readSum_13 {G : hw_G} {n : Nat} (C : hw_Ok G cX1_readSum RX1 5 (20 + n + 1) (some .boolean) hw_TH) (hTL : hw_eT (hw_gE G) = hw_TH) (rc : Nat → Int32 → Int32 → hw_St → Option (Int32 × hw_St)) (HX1_readOr : ∀ (a b : Int32) (s : hw_St), hw_M (hw_gE G) yX1_readOr cX1_readOr 4 (some .boolean) (20 + n) [hw_rv (hw_ea (hw_gE G)) 13, .int a, .int b] s hw_ri (rc 0 a b s)) (HX1_readAnd : ∀ (a b : Int32) (s : hw_St), hw_M (hw_gE G) yX1_readAnd cX1_readAnd 4 (some .boolean) (20 + n) [hw_rv (hw_ea (hw_gE G)) 13, .int a, .int b] s hw_ri (rc 1 a b s)) (HX1_readTest : ∀ (a b : Int32) (s : hw_St), hw_M (hw_gE G) yX1_readTest cX1_readTest 4 (some .boolean) (20 + n) [hw_rv (hw_ea (hw_gE G)) 13, .int a, .int b] s hw_ri (rc 2 a b s)) (HX1_readSum : ∀ (a b : Int32) (s : hw_St), hw_M (hw_gE G) yX1_readSum cX1_readSum 5 (some .boolean) (20 + n) [hw_rv (hw_ea (hw_gE G)) 13, .int a, .int b] s hw_ri (rc 3 a b s)) (HX1_readTerm : ∀ (a b : Int32) (s : hw_St), hw_M (hw_gE G) yX1_readTerm cX1_readTerm 5 (some .boolean) (20 + n) [hw_rv (hw_ea (hw_gE G)) 13, .int a, .int b] s hw_ri (rc 4 a b s)) (HX1_readPiece : ∀ (a b : Int32) (s : hw_St), hw_M (hw_gE G) yX1_readPiece cX1_readPiece 3 (some .boolean) (20 + n) [hw_rv (hw_ea (hw_gE G)) 13, .int a, .int b] s hw_ri (rc 5 a b s)) : ∀ (n_ : Nat) (l1 : Int32) (l2 : Int32) (l3 : Int32) (s0 : hw_St), hw_K G 5 hw_ri (L_X1_readSum_13 rc n_ l1 l2 l3 s0) 13 [(0, hw_rv (hw_ea (hw_gE G)) 13), (1, .int l1), (2, .int l2), (3, .int l3)] [] s0 := by
  intro n_
  induction n_ with
  | zero => intros; exact hw_nil
  | succ n_ ih => intro l1 l2 l3 s0; exact KS_X1_readSum_13 C hTL rc HX1_readOr HX1_readAnd HX1_readTest HX1_readSum HX1_readTerm HX1_readPiece (L_X1_readSum_13 rc n_) ih l1 l2 l3 s0
set_option maxRecDepth 20000 in
theorem M_X1_readSum (E : hw_E) (hE : hw_eT E = hw_TH) {n : Nat} (rc : Nat → Int32 → Int32 → hw_St → Option (Int32 × hw_St)) (HX1_readOr : ∀ (a b : Int32) (s : hw_St), hw_M E yX1_readOr cX1_readOr 4 (some .boolean) (20 + n) [hw_rv (hw_ea E) 13, .int a, .int b] s hw_ri (rc 0 a b s)) (HX1_readAnd : ∀ (a b : Int32) (s : hw_St), hw_M E yX1_readAnd cX1_readAnd 4 (some .boolean) (20 + n) [hw_rv (hw_ea E) 13, .int a, .int b] s hw_ri (rc 1 a b s)) (HX1_readTest : ∀ (a b : Int32) (s : hw_St), hw_M E yX1_readTest cX1_readTest 4 (some .boolean) (20 + n) [hw_rv (hw_ea E) 13, .int a, .int b] s hw_ri (rc 2 a b s)) (HX1_readSum : ∀ (a b : Int32) (s : hw_St), hw_M E yX1_readSum cX1_readSum 5 (some .boolean) (20 + n) [hw_rv (hw_ea E) 13, .int a, .int b] s hw_ri (rc 3 a b s)) (HX1_readTerm : ∀ (a b : Int32) (s : hw_St), hw_M E yX1_readTerm cX1_readTerm 5 (some .boolean) (20 + n) [hw_rv (hw_ea E) 13, .int a, .int b] s hw_ri (rc 4 a b s)) (HX1_readPiece : ∀ (a b : Int32) (s : hw_St), hw_M E yX1_readPiece cX1_readPiece 3 (some .boolean) (20 + n) [hw_rv (hw_ea E) 13, .int a, .int b] s hw_ri (rc 5 a b s)) (a1 : Int32) (a2 : Int32) (s0 : hw_St) : hw_M E yX1_readSum cX1_readSum 5 (some .boolean) (20 + n + 1) [hw_rv (hw_ea E) 13, .int a1, .int a2] s0 hw_ri (F_X1_readSum rc a1 a2 s0) := by
  refine hw_entry (own := RX1) (TL := hw_TH) (by decide) rfl hE (hw_cR (hw_cI (hw_cI hw_cN))) (hw_l8 rfl) (fun G hG C => ?_)
  subst hG
  have hTL := hE
  show hw_K G 5 hw_ri _ 0 [(0, hw_rv (hw_ea (hw_gE G)) 13), (1, .int a1), (2, .int a2)] [] s0
  unfold F_X1_readSum
  refine hw_aload_n C dX1_readSum_0 rfl 0 rfl ?_
  refine hw_iload_n C dX1_readSum_1 rfl 1 rfl ?_
  refine hw_iload_n C dX1_readSum_2 rfl 2 rfl ?_
  refine hw_callVi C (HX1_readTerm a1 a2 s0) W_X1_readTerm SV_X1_readTerm cf_X1 hw_T13 mw_795 (by omega) rfl ⟨rfl, hw_l8 rfl⟩ dX1_readSum_3 (fun r1 s2 => ?_)
  refine hw_if_ne C dX1_readSum_6 (tgt := 11) (by decide) (fun c3 => ?_) (fun c3 => ?_)
  · refine hw_iconst C dX1_readSum_11 (v := 0) (by decide) ?_
    refine hw_istore_n C dX1_readSum_12 rfl (by decide) rfl ?_
    exact hw_lv [1, 2, 3, 0] rfl (KL_X1_readSum_13 C hTL rc HX1_readOr HX1_readAnd HX1_readTest HX1_readSum HX1_readTerm HX1_readPiece 130 a1 a2 (0 : Int32) s2)
  · refine hw_iconst C dX1_readSum_9 (v := 0) (by decide) ?_
    exact hw_zret1 C (by decide) dX1_readSum_10
/-! HumWire$Reader readTerm(II)Z, level 20 + n + 1 -/
def B_X1_readTerm_37 (rc : Nat → Int32 → Int32 → hw_St → Option (Int32 × hw_St))  (w13 : Int32 → Int32 → Int32 → hw_St → Option (Int32 × hw_St)) (l1 : Int32) (l2 : Int32) (l3 : Int32) (s0 : hw_St) : Option (Int32 × hw_St) := hw_bd (F_X1_byteHere  s0) (fun r11 s12 => hw_bd (F_X1_step  s12) (fun _ s14 => hw_bd (rc 5 l1 l2 s14) (fun r15 s16 => if r15 = 0 then (some ((0 : Int32), s16)) else (hw_gd (hw_gH (s16 13 2).toNatClampNeg 0) (hw_bd (F_X0_putSign (s16 13 2).toNatClampNeg r11 s16) (fun _ s21 => w13 l1 l2 (l3 + 1) s21))))))
def S_X1_readTerm_13 (rc : Nat → Int32 → Int32 → hw_St → Option (Int32 × hw_St))  (w13 : Int32 → Int32 → Int32 → hw_St → Option (Int32 × hw_St)) (l1 : Int32) (l2 : Int32) (l3 : Int32) (s0 : hw_St) : Option (Int32 × hw_St) := if (96 : Int32) ≤ l3 then (some ((1 : Int32), s0)) else (hw_bd (F_X1_isSign (42 : Int32) s0) (fun r5 s6 => if r5 = 0 then (hw_bd (F_X1_isSign (47 : Int32) s6) (fun r8 s9 => if r8 = 0 then (some ((1 : Int32), s9)) else (B_X1_readTerm_37 rc w13 l1 l2 l3 s9))) else (B_X1_readTerm_37 rc w13 l1 l2 l3 s6)))
def L_X1_readTerm_13 (rc : Nat → Int32 → Int32 → hw_St → Option (Int32 × hw_St))  : Nat → Int32 → Int32 → Int32 → hw_St → Option (Int32 × hw_St)
  | 0 => fun _ _ _ _ => none
  | n + 1 => S_X1_readTerm_13 rc  (L_X1_readTerm_13 rc  n)
def F_X1_readTerm (rc : Nat → Int32 → Int32 → hw_St → Option (Int32 × hw_St))  (a1 : Int32) (a2 : Int32) (s0 : hw_St) : Option (Int32 × hw_St) := hw_bd (rc 5 a1 a2 s0) (fun r1 s2 => if r1 = 0 then (some ((0 : Int32), s2)) else (L_X1_readTerm_13 rc 130 a1 a2 (0 : Int32) s2))
set_option maxRecDepth 20000 in
theorem KB_X1_readTerm_37 {G : hw_G} {n : Nat} (C : hw_Ok G cX1_readTerm RX1 5 (20 + n + 1) (some .boolean) hw_TH) (hTL : hw_eT (hw_gE G) = hw_TH) (rc : Nat → Int32 → Int32 → hw_St → Option (Int32 × hw_St)) (HX1_readOr : ∀ (a b : Int32) (s : hw_St), hw_M (hw_gE G) yX1_readOr cX1_readOr 4 (some .boolean) (20 + n) [hw_rv (hw_ea (hw_gE G)) 13, .int a, .int b] s hw_ri (rc 0 a b s)) (HX1_readAnd : ∀ (a b : Int32) (s : hw_St), hw_M (hw_gE G) yX1_readAnd cX1_readAnd 4 (some .boolean) (20 + n) [hw_rv (hw_ea (hw_gE G)) 13, .int a, .int b] s hw_ri (rc 1 a b s)) (HX1_readTest : ∀ (a b : Int32) (s : hw_St), hw_M (hw_gE G) yX1_readTest cX1_readTest 4 (some .boolean) (20 + n) [hw_rv (hw_ea (hw_gE G)) 13, .int a, .int b] s hw_ri (rc 2 a b s)) (HX1_readSum : ∀ (a b : Int32) (s : hw_St), hw_M (hw_gE G) yX1_readSum cX1_readSum 5 (some .boolean) (20 + n) [hw_rv (hw_ea (hw_gE G)) 13, .int a, .int b] s hw_ri (rc 3 a b s)) (HX1_readTerm : ∀ (a b : Int32) (s : hw_St), hw_M (hw_gE G) yX1_readTerm cX1_readTerm 5 (some .boolean) (20 + n) [hw_rv (hw_ea (hw_gE G)) 13, .int a, .int b] s hw_ri (rc 4 a b s)) (HX1_readPiece : ∀ (a b : Int32) (s : hw_St), hw_M (hw_gE G) yX1_readPiece cX1_readPiece 3 (some .boolean) (20 + n) [hw_rv (hw_ea (hw_gE G)) 13, .int a, .int b] s hw_ri (rc 5 a b s)) (w13 : Int32 → Int32 → Int32 → hw_St → Option (Int32 × hw_St)) (H_w13 : ∀ (l1 : Int32) (l2 : Int32) (l3 : Int32) (s0 : hw_St), hw_K G 5 hw_ri (w13 l1 l2 l3 s0) 13 [(0, hw_rv (hw_ea (hw_gE G)) 13), (1, .int l1), (2, .int l2), (3, .int l3)] [] s0) (l1 : Int32) (l2 : Int32) (l3 : Int32) (s0 : hw_St) : hw_K G 5 hw_ri (B_X1_readTerm_37 rc w13 l1 l2 l3 s0) 37 [(0, hw_rv (hw_ea (hw_gE G)) 13), (1, .int l1), (2, .int l2), (3, .int l3)] [] s0 := by
  unfold B_X1_readTerm_37
  refine hw_aload_n C dX1_readTerm_37 rfl 0 rfl ?_
  refine hw_callVi C (M_X1_byteHere (hw_gE G) hTL  s0) W_X1_byteHere SV_X1_byteHere cf_X1 hw_T13 mw_705 (by omega) rfl ⟨rfl, hw_l8 rfl⟩ dX1_readTerm_38 (fun r11 s12 => ?_)
  refine hw_istore C dX1_readTerm_41 (by decide) rfl ?_
  refine hw_aload_n C dX1_readTerm_43 rfl 1 rfl ?_
  refine hw_callVv C (M_X1_step (hw_gE G) hTL  s12) W_X1_step SV_X1_step cf_X1 hw_T13 mw_621 (by omega) rfl ⟨rfl, hw_l8 rfl⟩ dX1_readTerm_44 (fun r13 s14 => ?_)
  refine hw_aload_n C dX1_readTerm_47 rfl 1 rfl ?_
  refine hw_iload_n C dX1_readTerm_48 rfl 2 rfl ?_
  refine hw_iload_n C dX1_readTerm_49 rfl 3 rfl ?_
  refine hw_callVi C (HX1_readPiece l1 l2 s14) W_X1_readPiece SV_X1_readPiece cf_X1 hw_T13 mw_791 (by omega) rfl ⟨rfl, hw_l8 rfl⟩ dX1_readTerm_50 (fun r15 s16 => ?_)
  refine hw_if_ne C dX1_readTerm_53 (tgt := 58) (by decide) (fun c17 => ?_) (fun c17 => ?_)
  · refine hw_aload_n C dX1_readTerm_58 rfl 1 rfl ?_
    refine hw_getM C cf_X1 lf_X1_15 hw_T13 dX1_readTerm_59 ?_
    refine hw_iload C dX1_readTerm_62 0 rfl ?_
    refine hw_gdK (fun h19 => ?_)
    have T_18 := hw_gH_T h19
    refine hw_callVv C (M_X0_putSign (hw_gE G) hTL (s16 13 2).toNatClampNeg r11 s16) W_X0_putSign SV_X0_putSign cf_X0 T_18 mw_709 (by omega) rfl ⟨rfl, hw_l8 rfl⟩ dX1_readTerm_64 (fun r20 s21 => ?_)
    refine hw_iinc C dX1_readTerm_67 4 rfl (v := 1) (by decide) (by decide) rfl ?_
    refine hw_goto C dX1_readTerm_70 (tgt := 13) (by decide) ?_
    exact hw_lv [2, 3, 4, 0] rfl (H_w13 l1 l2 (l3 + 1) s21)
  · refine hw_iconst C dX1_readTerm_56 (v := 0) (by decide) ?_
    exact hw_zret1 C (by decide) dX1_readTerm_57
set_option maxRecDepth 20000 in
theorem KS_X1_readTerm_13 {G : hw_G} {n : Nat} (C : hw_Ok G cX1_readTerm RX1 5 (20 + n + 1) (some .boolean) hw_TH) (hTL : hw_eT (hw_gE G) = hw_TH) (rc : Nat → Int32 → Int32 → hw_St → Option (Int32 × hw_St)) (HX1_readOr : ∀ (a b : Int32) (s : hw_St), hw_M (hw_gE G) yX1_readOr cX1_readOr 4 (some .boolean) (20 + n) [hw_rv (hw_ea (hw_gE G)) 13, .int a, .int b] s hw_ri (rc 0 a b s)) (HX1_readAnd : ∀ (a b : Int32) (s : hw_St), hw_M (hw_gE G) yX1_readAnd cX1_readAnd 4 (some .boolean) (20 + n) [hw_rv (hw_ea (hw_gE G)) 13, .int a, .int b] s hw_ri (rc 1 a b s)) (HX1_readTest : ∀ (a b : Int32) (s : hw_St), hw_M (hw_gE G) yX1_readTest cX1_readTest 4 (some .boolean) (20 + n) [hw_rv (hw_ea (hw_gE G)) 13, .int a, .int b] s hw_ri (rc 2 a b s)) (HX1_readSum : ∀ (a b : Int32) (s : hw_St), hw_M (hw_gE G) yX1_readSum cX1_readSum 5 (some .boolean) (20 + n) [hw_rv (hw_ea (hw_gE G)) 13, .int a, .int b] s hw_ri (rc 3 a b s)) (HX1_readTerm : ∀ (a b : Int32) (s : hw_St), hw_M (hw_gE G) yX1_readTerm cX1_readTerm 5 (some .boolean) (20 + n) [hw_rv (hw_ea (hw_gE G)) 13, .int a, .int b] s hw_ri (rc 4 a b s)) (HX1_readPiece : ∀ (a b : Int32) (s : hw_St), hw_M (hw_gE G) yX1_readPiece cX1_readPiece 3 (some .boolean) (20 + n) [hw_rv (hw_ea (hw_gE G)) 13, .int a, .int b] s hw_ri (rc 5 a b s)) (w13 : Int32 → Int32 → Int32 → hw_St → Option (Int32 × hw_St)) (H_w13 : ∀ (l1 : Int32) (l2 : Int32) (l3 : Int32) (s0 : hw_St), hw_K G 5 hw_ri (w13 l1 l2 l3 s0) 13 [(0, hw_rv (hw_ea (hw_gE G)) 13), (1, .int l1), (2, .int l2), (3, .int l3)] [] s0) (l1 : Int32) (l2 : Int32) (l3 : Int32) (s0 : hw_St) : hw_K G 5 hw_ri (S_X1_readTerm_13 rc w13 l1 l2 l3 s0) 13 [(0, hw_rv (hw_ea (hw_gE G)) 13), (1, .int l1), (2, .int l2), (3, .int l3)] [] s0 := by
  unfold S_X1_readTerm_13
  refine hw_iload_n C dX1_readTerm_13 rfl 3 rfl ?_
  refine hw_bipush C dX1_readTerm_14 (v := 96) (by decide) ?_
  refine hw_icmp_ge C dX1_readTerm_16 (tgt := 73) (by decide) (fun c4 => ?_) (fun c4 => ?_)
  · refine hw_iconst C dX1_readTerm_73 (v := 1) (by decide) ?_
    exact hw_zret1 C (by decide) dX1_readTerm_74
  · refine hw_aload_n C dX1_readTerm_19 rfl 0 rfl ?_
    refine hw_bipush C dX1_readTerm_20 (v := 42) (by decide) ?_
    refine hw_callVi C (M_X1_isSign (hw_gE G) hTL (42 : Int32) s0) W_X1_isSign SV_X1_isSign cf_X1 hw_T13 mw_701 (by omega) rfl ⟨rfl, hw_l8 rfl⟩ dX1_readTerm_22 (fun r5 s6 => ?_)
    refine hw_if_ne C dX1_readTerm_25 (tgt := 37) (by decide) (fun c7 => ?_) (fun c7 => ?_)
    · exact hw_lv [0, 1, 2, 3] rfl (KB_X1_readTerm_37 C hTL rc HX1_readOr HX1_readAnd HX1_readTest HX1_readSum HX1_readTerm HX1_readPiece w13 H_w13 l1 l2 l3 s6)
    · refine hw_aload_n C dX1_readTerm_28 rfl 0 rfl ?_
      refine hw_bipush C dX1_readTerm_29 (v := 47) (by decide) ?_
      refine hw_callVi C (M_X1_isSign (hw_gE G) hTL (47 : Int32) s6) W_X1_isSign SV_X1_isSign cf_X1 hw_T13 mw_701 (by omega) rfl ⟨rfl, hw_l8 rfl⟩ dX1_readTerm_31 (fun r8 s9 => ?_)
      refine hw_if_eq C dX1_readTerm_34 (tgt := 73) (by decide) (fun c10 => ?_) (fun c10 => ?_)
      · refine hw_iconst C dX1_readTerm_73 (v := 1) (by decide) ?_
        exact hw_zret1 C (by decide) dX1_readTerm_74
      · exact hw_lv [0, 1, 2, 3] rfl (KB_X1_readTerm_37 C hTL rc HX1_readOr HX1_readAnd HX1_readTest HX1_readSum HX1_readTerm HX1_readPiece w13 H_w13 l1 l2 l3 s9)
theorem KL_X1_readTerm_13 {G : hw_G} {n : Nat} (C : hw_Ok G cX1_readTerm RX1 5 (20 + n + 1) (some .boolean) hw_TH) (hTL : hw_eT (hw_gE G) = hw_TH) (rc : Nat → Int32 → Int32 → hw_St → Option (Int32 × hw_St)) (HX1_readOr : ∀ (a b : Int32) (s : hw_St), hw_M (hw_gE G) yX1_readOr cX1_readOr 4 (some .boolean) (20 + n) [hw_rv (hw_ea (hw_gE G)) 13, .int a, .int b] s hw_ri (rc 0 a b s)) (HX1_readAnd : ∀ (a b : Int32) (s : hw_St), hw_M (hw_gE G) yX1_readAnd cX1_readAnd 4 (some .boolean) (20 + n) [hw_rv (hw_ea (hw_gE G)) 13, .int a, .int b] s hw_ri (rc 1 a b s)) (HX1_readTest : ∀ (a b : Int32) (s : hw_St), hw_M (hw_gE G) yX1_readTest cX1_readTest 4 (some .boolean) (20 + n) [hw_rv (hw_ea (hw_gE G)) 13, .int a, .int b] s hw_ri (rc 2 a b s)) (HX1_readSum : ∀ (a b : Int32) (s : hw_St), hw_M (hw_gE G) yX1_readSum cX1_readSum 5 (some .boolean) (20 + n) [hw_rv (hw_ea (hw_gE G)) 13, .int a, .int b] s hw_ri (rc 3 a b s)) (HX1_readTerm : ∀ (a b : Int32) (s : hw_St), hw_M (hw_gE G) yX1_readTerm cX1_readTerm 5 (some .boolean) (20 + n) [hw_rv (hw_ea (hw_gE G)) 13, .int a, .int b] s hw_ri (rc 4 a b s)) (HX1_readPiece : ∀ (a b : Int32) (s : hw_St), hw_M (hw_gE G) yX1_readPiece cX1_readPiece 3 (some .boolean) (20 + n) [hw_rv (hw_ea (hw_gE G)) 13, .int a, .int b] s hw_ri (rc 5 a b s)) : ∀ (n_ : Nat) (l1 : Int32) (l2 : Int32) (l3 : Int32) (s0 : hw_St), hw_K G 5 hw_ri (L_X1_readTerm_13 rc n_ l1 l2 l3 s0) 13 [(0, hw_rv (hw_ea (hw_gE G)) 13), (1, .int l1), (2, .int l2), (3, .int l3)] [] s0 := by
  intro n_
  induction n_ with
  | zero => intros; exact hw_nil
  | succ n_ ih => intro l1 l2 l3 s0; exact KS_X1_readTerm_13 C hTL rc HX1_readOr HX1_readAnd HX1_readTest HX1_readSum HX1_readTerm HX1_readPiece (L_X1_readTerm_13 rc n_) ih l1 l2 l3 s0
set_option maxRecDepth 20000 in
theorem M_X1_readTerm (E : hw_E) (hE : hw_eT E = hw_TH) {n : Nat} (rc : Nat → Int32 → Int32 → hw_St → Option (Int32 × hw_St)) (HX1_readOr : ∀ (a b : Int32) (s : hw_St), hw_M E yX1_readOr cX1_readOr 4 (some .boolean) (20 + n) [hw_rv (hw_ea E) 13, .int a, .int b] s hw_ri (rc 0 a b s)) (HX1_readAnd : ∀ (a b : Int32) (s : hw_St), hw_M E yX1_readAnd cX1_readAnd 4 (some .boolean) (20 + n) [hw_rv (hw_ea E) 13, .int a, .int b] s hw_ri (rc 1 a b s)) (HX1_readTest : ∀ (a b : Int32) (s : hw_St), hw_M E yX1_readTest cX1_readTest 4 (some .boolean) (20 + n) [hw_rv (hw_ea E) 13, .int a, .int b] s hw_ri (rc 2 a b s)) (HX1_readSum : ∀ (a b : Int32) (s : hw_St), hw_M E yX1_readSum cX1_readSum 5 (some .boolean) (20 + n) [hw_rv (hw_ea E) 13, .int a, .int b] s hw_ri (rc 3 a b s)) (HX1_readTerm : ∀ (a b : Int32) (s : hw_St), hw_M E yX1_readTerm cX1_readTerm 5 (some .boolean) (20 + n) [hw_rv (hw_ea E) 13, .int a, .int b] s hw_ri (rc 4 a b s)) (HX1_readPiece : ∀ (a b : Int32) (s : hw_St), hw_M E yX1_readPiece cX1_readPiece 3 (some .boolean) (20 + n) [hw_rv (hw_ea E) 13, .int a, .int b] s hw_ri (rc 5 a b s)) (a1 : Int32) (a2 : Int32) (s0 : hw_St) : hw_M E yX1_readTerm cX1_readTerm 5 (some .boolean) (20 + n + 1) [hw_rv (hw_ea E) 13, .int a1, .int a2] s0 hw_ri (F_X1_readTerm rc a1 a2 s0) := by
  refine hw_entry (own := RX1) (TL := hw_TH) (by decide) rfl hE (hw_cR (hw_cI (hw_cI hw_cN))) (hw_l8 rfl) (fun G hG C => ?_)
  subst hG
  have hTL := hE
  show hw_K G 5 hw_ri _ 0 [(0, hw_rv (hw_ea (hw_gE G)) 13), (1, .int a1), (2, .int a2)] [] s0
  unfold F_X1_readTerm
  refine hw_aload_n C dX1_readTerm_0 rfl 0 rfl ?_
  refine hw_iload_n C dX1_readTerm_1 rfl 1 rfl ?_
  refine hw_iload_n C dX1_readTerm_2 rfl 2 rfl ?_
  refine hw_callVi C (HX1_readPiece a1 a2 s0) W_X1_readPiece SV_X1_readPiece cf_X1 hw_T13 mw_791 (by omega) rfl ⟨rfl, hw_l8 rfl⟩ dX1_readTerm_3 (fun r1 s2 => ?_)
  refine hw_if_ne C dX1_readTerm_6 (tgt := 11) (by decide) (fun c3 => ?_) (fun c3 => ?_)
  · refine hw_iconst C dX1_readTerm_11 (v := 0) (by decide) ?_
    refine hw_istore_n C dX1_readTerm_12 rfl (by decide) rfl ?_
    exact hw_lv [1, 2, 3, 0] rfl (KL_X1_readTerm_13 C hTL rc HX1_readOr HX1_readAnd HX1_readTest HX1_readSum HX1_readTerm HX1_readPiece 130 a1 a2 (0 : Int32) s2)
  · refine hw_iconst C dX1_readTerm_9 (v := 0) (by decide) ?_
    exact hw_zret1 C (by decide) dX1_readTerm_10
/-! HumWire$Reader readPiece(II)Z, level 20 + n + 1 -/
def B_X1_readPiece_69 (rc : Nat → Int32 → Int32 → hw_St → Option (Int32 × hw_St))  (l1 : Int32) (l2 : Int32) (s0 : hw_St) : Option (Int32 × hw_St) := hw_bd (F_X1_isSign (40 : Int32) s0) (fun r20 s21 => if r20 = 0 then (some ((0 : Int32), s21)) else (if (8 : Int32) ≤ l1 then (some ((0 : Int32), s21)) else (hw_bd (F_X1_step  s21) (fun _ s25 => hw_bd (rc 0 (l1 + (1 : Int32)) l2 s25) (fun r26 s27 => if r26 = 0 then (some ((0 : Int32), s27)) else (hw_bd (F_X1_isSign (41 : Int32) s27) (fun r29 s30 => if r29 = 0 then (some ((0 : Int32), s30)) else (hw_bd (F_X1_step  s30) (fun _ s33 => some ((1 : Int32), s33))))))))))
def F_X1_readPiece (rc : Nat → Int32 → Int32 → hw_St → Option (Int32 × hw_St))  (a1 : Int32) (a2 : Int32) (s0 : hw_St) : Option (Int32 × hw_St) := if (s0 13 3) = (2 : Int32) then (hw_bd (F_X1_readNumber  s0) (fun r18 s19 => hw_gd (hw_isb r18) (some (r18, s19)))) else (if (s0 13 3) = (1 : Int32) then (hw_bd (F_X1_readName  s0) (fun r16 s17 => hw_gd (hw_isb r16) (some (r16, s17)))) else (hw_bd (F_X1_isSign (33 : Int32) s0) (fun r3 s4 => if r3 = 0 then (B_X1_readPiece_69 rc a1 a2 s4) else (if (8 : Int32) ≤ a2 then (B_X1_readPiece_69 rc a1 a2 s4) else (hw_bd (F_X1_step  s4) (fun _ s8 => hw_bd (rc 5 a1 (a2 + (1 : Int32)) s8) (fun r9 s10 => if r9 = 0 then (some ((0 : Int32), s10)) else (hw_gd (hw_gH (s10 13 2).toNatClampNeg 0) (hw_bd (F_X0_putSign (s10 13 2).toNatClampNeg (33 : Int32) s10) (fun _ s15 => some ((1 : Int32), s15)))))))))))
set_option maxRecDepth 20000 in
theorem KB_X1_readPiece_69 {G : hw_G} {n : Nat} (C : hw_Ok G cX1_readPiece RX1 3 (20 + n + 1) (some .boolean) hw_TH) (hTL : hw_eT (hw_gE G) = hw_TH) (rc : Nat → Int32 → Int32 → hw_St → Option (Int32 × hw_St)) (HX1_readOr : ∀ (a b : Int32) (s : hw_St), hw_M (hw_gE G) yX1_readOr cX1_readOr 4 (some .boolean) (20 + n) [hw_rv (hw_ea (hw_gE G)) 13, .int a, .int b] s hw_ri (rc 0 a b s)) (HX1_readAnd : ∀ (a b : Int32) (s : hw_St), hw_M (hw_gE G) yX1_readAnd cX1_readAnd 4 (some .boolean) (20 + n) [hw_rv (hw_ea (hw_gE G)) 13, .int a, .int b] s hw_ri (rc 1 a b s)) (HX1_readTest : ∀ (a b : Int32) (s : hw_St), hw_M (hw_gE G) yX1_readTest cX1_readTest 4 (some .boolean) (20 + n) [hw_rv (hw_ea (hw_gE G)) 13, .int a, .int b] s hw_ri (rc 2 a b s)) (HX1_readSum : ∀ (a b : Int32) (s : hw_St), hw_M (hw_gE G) yX1_readSum cX1_readSum 5 (some .boolean) (20 + n) [hw_rv (hw_ea (hw_gE G)) 13, .int a, .int b] s hw_ri (rc 3 a b s)) (HX1_readTerm : ∀ (a b : Int32) (s : hw_St), hw_M (hw_gE G) yX1_readTerm cX1_readTerm 5 (some .boolean) (20 + n) [hw_rv (hw_ea (hw_gE G)) 13, .int a, .int b] s hw_ri (rc 4 a b s)) (HX1_readPiece : ∀ (a b : Int32) (s : hw_St), hw_M (hw_gE G) yX1_readPiece cX1_readPiece 3 (some .boolean) (20 + n) [hw_rv (hw_ea (hw_gE G)) 13, .int a, .int b] s hw_ri (rc 5 a b s)) (l1 : Int32) (l2 : Int32) (s0 : hw_St) : hw_K G 3 hw_ri (B_X1_readPiece_69 rc l1 l2 s0) 69 [(0, hw_rv (hw_ea (hw_gE G)) 13), (1, .int l1), (2, .int l2)] [] s0 := by
  unfold B_X1_readPiece_69
  refine hw_aload_n C dX1_readPiece_69 rfl 0 rfl ?_
  refine hw_bipush C dX1_readPiece_70 (v := 40) (by decide) ?_
  refine hw_callVi C (M_X1_isSign (hw_gE G) hTL (40 : Int32) s0) W_X1_isSign SV_X1_isSign cf_X1 hw_T13 mw_701 (by omega) rfl ⟨rfl, hw_l8 rfl⟩ dX1_readPiece_72 (fun r20 s21 => ?_)
  refine hw_if_eq C dX1_readPiece_75 (tgt := 116) (by decide) (fun c22 => ?_) (fun c22 => ?_)
  · refine hw_iconst C dX1_readPiece_116 (v := 0) (by decide) ?_
    exact hw_zret1 C (by decide) dX1_readPiece_117
  · refine hw_iload_n C dX1_readPiece_78 rfl 1 rfl ?_
    refine hw_bipush C dX1_readPiece_79 (v := 8) (by decide) ?_
    refine hw_icmp_ge C dX1_readPiece_81 (tgt := 116) (by decide) (fun c23 => ?_) (fun c23 => ?_)
    · refine hw_iconst C dX1_readPiece_116 (v := 0) (by decide) ?_
      exact hw_zret1 C (by decide) dX1_readPiece_117
    · refine hw_aload_n C dX1_readPiece_84 rfl 0 rfl ?_
      refine hw_callVv C (M_X1_step (hw_gE G) hTL  s21) W_X1_step SV_X1_step cf_X1 hw_T13 mw_621 (by omega) rfl ⟨rfl, hw_l8 rfl⟩ dX1_readPiece_85 (fun r24 s25 => ?_)
      refine hw_aload_n C dX1_readPiece_88 rfl 0 rfl ?_
      refine hw_iload_n C dX1_readPiece_89 rfl 1 rfl ?_
      refine hw_iconst C dX1_readPiece_90 (v := 1) (by decide) ?_
      refine hw_iadd C dX1_readPiece_91 ?_
      refine hw_iload_n C dX1_readPiece_92 rfl 2 rfl ?_
      refine hw_callVi C (HX1_readOr (l1 + (1 : Int32)) l2 s25) W_X1_readOr SV_X1_readOr cf_X1 hw_T13 mw_694 (by omega) rfl ⟨rfl, hw_l8 rfl⟩ dX1_readPiece_93 (fun r26 s27 => ?_)
      refine hw_if_eq C dX1_readPiece_96 (tgt := 108) (by decide) (fun c28 => ?_) (fun c28 => ?_)
      · refine hw_iconst C dX1_readPiece_108 (v := 0) (by decide) ?_
        exact hw_zret1 C (by decide) dX1_readPiece_109
      · refine hw_aload_n C dX1_readPiece_99 rfl 0 rfl ?_
        refine hw_bipush C dX1_readPiece_100 (v := 41) (by decide) ?_
        refine hw_callVi C (M_X1_isSign (hw_gE G) hTL (41 : Int32) s27) W_X1_isSign SV_X1_isSign cf_X1 hw_T13 mw_701 (by omega) rfl ⟨rfl, hw_l8 rfl⟩ dX1_readPiece_102 (fun r29 s30 => ?_)
        refine hw_if_ne C dX1_readPiece_105 (tgt := 110) (by decide) (fun c31 => ?_) (fun c31 => ?_)
        · refine hw_aload_n C dX1_readPiece_110 rfl 0 rfl ?_
          refine hw_callVv C (M_X1_step (hw_gE G) hTL  s30) W_X1_step SV_X1_step cf_X1 hw_T13 mw_621 (by omega) rfl ⟨rfl, hw_l8 rfl⟩ dX1_readPiece_111 (fun r32 s33 => ?_)
          refine hw_iconst C dX1_readPiece_114 (v := 1) (by decide) ?_
          exact hw_zret1 C (by decide) dX1_readPiece_115
        · refine hw_iconst C dX1_readPiece_108 (v := 0) (by decide) ?_
          exact hw_zret1 C (by decide) dX1_readPiece_109
set_option maxRecDepth 20000 in
theorem M_X1_readPiece (E : hw_E) (hE : hw_eT E = hw_TH) {n : Nat} (rc : Nat → Int32 → Int32 → hw_St → Option (Int32 × hw_St)) (HX1_readOr : ∀ (a b : Int32) (s : hw_St), hw_M E yX1_readOr cX1_readOr 4 (some .boolean) (20 + n) [hw_rv (hw_ea E) 13, .int a, .int b] s hw_ri (rc 0 a b s)) (HX1_readAnd : ∀ (a b : Int32) (s : hw_St), hw_M E yX1_readAnd cX1_readAnd 4 (some .boolean) (20 + n) [hw_rv (hw_ea E) 13, .int a, .int b] s hw_ri (rc 1 a b s)) (HX1_readTest : ∀ (a b : Int32) (s : hw_St), hw_M E yX1_readTest cX1_readTest 4 (some .boolean) (20 + n) [hw_rv (hw_ea E) 13, .int a, .int b] s hw_ri (rc 2 a b s)) (HX1_readSum : ∀ (a b : Int32) (s : hw_St), hw_M E yX1_readSum cX1_readSum 5 (some .boolean) (20 + n) [hw_rv (hw_ea E) 13, .int a, .int b] s hw_ri (rc 3 a b s)) (HX1_readTerm : ∀ (a b : Int32) (s : hw_St), hw_M E yX1_readTerm cX1_readTerm 5 (some .boolean) (20 + n) [hw_rv (hw_ea E) 13, .int a, .int b] s hw_ri (rc 4 a b s)) (HX1_readPiece : ∀ (a b : Int32) (s : hw_St), hw_M E yX1_readPiece cX1_readPiece 3 (some .boolean) (20 + n) [hw_rv (hw_ea E) 13, .int a, .int b] s hw_ri (rc 5 a b s)) (a1 : Int32) (a2 : Int32) (s0 : hw_St) : hw_M E yX1_readPiece cX1_readPiece 3 (some .boolean) (20 + n + 1) [hw_rv (hw_ea E) 13, .int a1, .int a2] s0 hw_ri (F_X1_readPiece rc a1 a2 s0) := by
  refine hw_entry (own := RX1) (TL := hw_TH) (by decide) rfl hE (hw_cR (hw_cI (hw_cI hw_cN))) (hw_l8 rfl) (fun G hG C => ?_)
  subst hG
  have hTL := hE
  show hw_K G 3 hw_ri _ 0 [(0, hw_rv (hw_ea (hw_gE G)) 13), (1, .int a1), (2, .int a2)] [] s0
  unfold F_X1_readPiece
  refine hw_aload_n C dX1_readPiece_0 rfl 0 rfl ?_
  refine hw_getI C cf_X1 lf_X1_29 hw_T13 dX1_readPiece_1 ?_
  refine hw_iconst C dX1_readPiece_4 (v := 2) (by decide) ?_
  refine hw_icmp_ne C dX1_readPiece_5 (tgt := 13) (by decide) (fun c1 => ?_) (fun c1 => ?_)
  · refine hw_aload_n C dX1_readPiece_13 rfl 0 rfl ?_
    refine hw_getI C cf_X1 lf_X1_29 hw_T13 dX1_readPiece_14 ?_
    refine hw_iconst C dX1_readPiece_17 (v := 1) (by decide) ?_
    refine hw_icmp_ne C dX1_readPiece_18 (tgt := 26) (by decide) (fun c2 => ?_) (fun c2 => ?_)
    · refine hw_aload_n C dX1_readPiece_26 rfl 0 rfl ?_
      refine hw_bipush C dX1_readPiece_27 (v := 33) (by decide) ?_
      refine hw_callVi C (M_X1_isSign (hw_gE G) hTL (33 : Int32) s0) W_X1_isSign SV_X1_isSign cf_X1 hw_T13 mw_701 (by omega) rfl ⟨rfl, hw_l8 rfl⟩ dX1_readPiece_29 (fun r3 s4 => ?_)
      refine hw_if_eq C dX1_readPiece_32 (tgt := 69) (by decide) (fun c5 => ?_) (fun c5 => ?_)
      · exact hw_lv [0, 1, 2] rfl (KB_X1_readPiece_69 C hTL rc HX1_readOr HX1_readAnd HX1_readTest HX1_readSum HX1_readTerm HX1_readPiece a1 a2 s4)
      · refine hw_iload_n C dX1_readPiece_35 rfl 2 rfl ?_
        refine hw_bipush C dX1_readPiece_36 (v := 8) (by decide) ?_
        refine hw_icmp_ge C dX1_readPiece_38 (tgt := 69) (by decide) (fun c6 => ?_) (fun c6 => ?_)
        · exact hw_lv [0, 1, 2] rfl (KB_X1_readPiece_69 C hTL rc HX1_readOr HX1_readAnd HX1_readTest HX1_readSum HX1_readTerm HX1_readPiece a1 a2 s4)
        · refine hw_aload_n C dX1_readPiece_41 rfl 0 rfl ?_
          refine hw_callVv C (M_X1_step (hw_gE G) hTL  s4) W_X1_step SV_X1_step cf_X1 hw_T13 mw_621 (by omega) rfl ⟨rfl, hw_l8 rfl⟩ dX1_readPiece_42 (fun r7 s8 => ?_)
          refine hw_aload_n C dX1_readPiece_45 rfl 0 rfl ?_
          refine hw_iload_n C dX1_readPiece_46 rfl 1 rfl ?_
          refine hw_iload_n C dX1_readPiece_47 rfl 2 rfl ?_
          refine hw_iconst C dX1_readPiece_48 (v := 1) (by decide) ?_
          refine hw_iadd C dX1_readPiece_49 ?_
          refine hw_callVi C (HX1_readPiece a1 (a2 + (1 : Int32)) s8) W_X1_readPiece SV_X1_readPiece cf_X1 hw_T13 mw_791 (by omega) rfl ⟨rfl, hw_l8 rfl⟩ dX1_readPiece_50 (fun r9 s10 => ?_)
          refine hw_if_ne C dX1_readPiece_53 (tgt := 58) (by decide) (fun c11 => ?_) (fun c11 => ?_)
          · refine hw_aload_n C dX1_readPiece_58 rfl 0 rfl ?_
            refine hw_getM C cf_X1 lf_X1_15 hw_T13 dX1_readPiece_59 ?_
            refine hw_bipush C dX1_readPiece_62 (v := 33) (by decide) ?_
            refine hw_gdK (fun h13 => ?_)
            have T_12 := hw_gH_T h13
            refine hw_callVv C (M_X0_putSign (hw_gE G) hTL (s10 13 2).toNatClampNeg (33 : Int32) s10) W_X0_putSign SV_X0_putSign cf_X0 T_12 mw_709 (by omega) rfl ⟨rfl, hw_l8 rfl⟩ dX1_readPiece_64 (fun r14 s15 => ?_)
            refine hw_iconst C dX1_readPiece_67 (v := 1) (by decide) ?_
            exact hw_zret1 C (by decide) dX1_readPiece_68
          · refine hw_iconst C dX1_readPiece_56 (v := 0) (by decide) ?_
            exact hw_zret1 C (by decide) dX1_readPiece_57
    · refine hw_aload_n C dX1_readPiece_21 rfl 0 rfl ?_
      refine hw_callVi C (M_X1_readName (hw_gE G) hTL  s0) W_X1_readName SV_X1_readName cf_X1 hw_T13 mw_730 (by omega) rfl ⟨rfl, hw_l8 rfl⟩ dX1_readPiece_22 (fun r16 s17 => ?_)
      exact hw_zret C dX1_readPiece_25
  · refine hw_aload_n C dX1_readPiece_8 rfl 0 rfl ?_
    refine hw_callVi C (M_X1_readNumber (hw_gE G) hTL  s0) W_X1_readNumber SV_X1_readNumber cf_X1 hw_T13 mw_722 (by omega) rfl ⟨rfl, hw_l8 rfl⟩ dX1_readPiece_9 (fun r18 s19 => ?_)
    exact hw_zret C dX1_readPiece_12
def R_X1 : Nat → Nat → Int32 → Int32 → hw_St → Option (Int32 × hw_St)
  | 0 => fun _ _ _ _ => none
  | n + 1 => fun w a b s => if w = 0 then F_X1_readOr (R_X1 n) a b s else if w = 1 then F_X1_readAnd (R_X1 n) a b s else if w = 2 then F_X1_readTest (R_X1 n) a b s else if w = 3 then F_X1_readSum (R_X1 n) a b s else if w = 4 then F_X1_readTerm (R_X1 n) a b s else if w = 5 then F_X1_readPiece (R_X1 n) a b s else none
theorem R_X1_0 (n : Nat) (a b : Int32) (s : hw_St) : R_X1 (n + 1) 0 a b s = F_X1_readOr (R_X1 n) a b s := rfl
theorem R_X1_1 (n : Nat) (a b : Int32) (s : hw_St) : R_X1 (n + 1) 1 a b s = F_X1_readAnd (R_X1 n) a b s := rfl
theorem R_X1_2 (n : Nat) (a b : Int32) (s : hw_St) : R_X1 (n + 1) 2 a b s = F_X1_readTest (R_X1 n) a b s := rfl
theorem R_X1_3 (n : Nat) (a b : Int32) (s : hw_St) : R_X1 (n + 1) 3 a b s = F_X1_readSum (R_X1 n) a b s := rfl
theorem R_X1_4 (n : Nat) (a b : Int32) (s : hw_St) : R_X1 (n + 1) 4 a b s = F_X1_readTerm (R_X1 n) a b s := rfl
theorem R_X1_5 (n : Nat) (a b : Int32) (s : hw_St) : R_X1 (n + 1) 5 a b s = F_X1_readPiece (R_X1 n) a b s := rfl
theorem MRall (E : hw_E) (hE : hw_eT E = hw_TH) : ∀ n : Nat, (∀ (a b : Int32) (s : hw_St), hw_M E yX1_readOr cX1_readOr 4 (some .boolean) (20 + n) [hw_rv (hw_ea E) 13, .int a, .int b] s hw_ri (R_X1 n 0 a b s)) ∧ (∀ (a b : Int32) (s : hw_St), hw_M E yX1_readAnd cX1_readAnd 4 (some .boolean) (20 + n) [hw_rv (hw_ea E) 13, .int a, .int b] s hw_ri (R_X1 n 1 a b s)) ∧ (∀ (a b : Int32) (s : hw_St), hw_M E yX1_readTest cX1_readTest 4 (some .boolean) (20 + n) [hw_rv (hw_ea E) 13, .int a, .int b] s hw_ri (R_X1 n 2 a b s)) ∧ (∀ (a b : Int32) (s : hw_St), hw_M E yX1_readSum cX1_readSum 5 (some .boolean) (20 + n) [hw_rv (hw_ea E) 13, .int a, .int b] s hw_ri (R_X1 n 3 a b s)) ∧ (∀ (a b : Int32) (s : hw_St), hw_M E yX1_readTerm cX1_readTerm 5 (some .boolean) (20 + n) [hw_rv (hw_ea E) 13, .int a, .int b] s hw_ri (R_X1 n 4 a b s)) ∧ (∀ (a b : Int32) (s : hw_St), hw_M E yX1_readPiece cX1_readPiece 3 (some .boolean) (20 + n) [hw_rv (hw_ea E) 13, .int a, .int b] s hw_ri (R_X1 n 5 a b s)) := by
  intro n
  induction n with
  | zero => exact ⟨(fun _ _ _ _ _ h => by cases h), (fun _ _ _ _ _ h => by cases h), (fun _ _ _ _ _ h => by cases h), (fun _ _ _ _ _ h => by cases h), (fun _ _ _ _ _ h => by cases h), (fun _ _ _ _ _ h => by cases h)⟩
  | succ n ih =>
    obtain ⟨h0, h1, h2, h3, h4, h5⟩ := ih
    exact ⟨fun a b s => M_X1_readOr E hE (R_X1 n) h0 h1 h2 h3 h4 h5 a b s, fun a b s => M_X1_readAnd E hE (R_X1 n) h0 h1 h2 h3 h4 h5 a b s, fun a b s => M_X1_readTest E hE (R_X1 n) h0 h1 h2 h3 h4 h5 a b s, fun a b s => M_X1_readSum E hE (R_X1 n) h0 h1 h2 h3 h4 h5 a b s, fun a b s => M_X1_readTerm E hE (R_X1 n) h0 h1 h2 h3 h4 h5 a b s, fun a b s => M_X1_readPiece E hE (R_X1 n) h0 h1 h2 h3 h4 h5 a b s⟩
theorem MR_X1_readOr (E : hw_E) (hE : hw_eT E = hw_TH) (n : Nat) (a b : Int32) (s : hw_St) : hw_M E yX1_readOr cX1_readOr 4 (some .boolean) (20 + n) [hw_rv (hw_ea E) 13, .int a, .int b] s hw_ri (R_X1 n 0 a b s) := (MRall E hE n).1 a b s
theorem MR_X1_readAnd (E : hw_E) (hE : hw_eT E = hw_TH) (n : Nat) (a b : Int32) (s : hw_St) : hw_M E yX1_readAnd cX1_readAnd 4 (some .boolean) (20 + n) [hw_rv (hw_ea E) 13, .int a, .int b] s hw_ri (R_X1 n 1 a b s) := (MRall E hE n).2.1 a b s
theorem MR_X1_readTest (E : hw_E) (hE : hw_eT E = hw_TH) (n : Nat) (a b : Int32) (s : hw_St) : hw_M E yX1_readTest cX1_readTest 4 (some .boolean) (20 + n) [hw_rv (hw_ea E) 13, .int a, .int b] s hw_ri (R_X1 n 2 a b s) := (MRall E hE n).2.2.1 a b s
theorem MR_X1_readSum (E : hw_E) (hE : hw_eT E = hw_TH) (n : Nat) (a b : Int32) (s : hw_St) : hw_M E yX1_readSum cX1_readSum 5 (some .boolean) (20 + n) [hw_rv (hw_ea E) 13, .int a, .int b] s hw_ri (R_X1 n 3 a b s) := (MRall E hE n).2.2.2.1 a b s
theorem MR_X1_readTerm (E : hw_E) (hE : hw_eT E = hw_TH) (n : Nat) (a b : Int32) (s : hw_St) : hw_M E yX1_readTerm cX1_readTerm 5 (some .boolean) (20 + n) [hw_rv (hw_ea E) 13, .int a, .int b] s hw_ri (R_X1 n 4 a b s) := (MRall E hE n).2.2.2.2.1 a b s
theorem MR_X1_readPiece (E : hw_E) (hE : hw_eT E = hw_TH) (n : Nat) (a b : Int32) (s : hw_St) : hw_M E yX1_readPiece cX1_readPiece 3 (some .boolean) (20 + n) [hw_rv (hw_ea E) 13, .int a, .int b] s hw_ri (R_X1 n 5 a b s) := (MRall E hE n).2.2.2.2.2 a b s
/-! HumWire$Reader takesIn([BILHumWire$Law;)Z, level 111 -/
def F_X1_takesIn  (t1 : Nat) (a2 : Int32) (t3 : Nat) (s0 : hw_St) : Option (Int32 × hw_St) := hw_gd (hw_gH t1 11) (hw_gd (hw_gH t3 0) (hw_nm (hw_up s0 13 0 (nI t1)) (fun s1 => hw_nm (hw_up s1 13 1 (hw_min a2 (nI (hw_ln t1)))) (fun s2 => hw_nm (hw_up s2 13 2 (nI t3)) (fun s3 => hw_nm (hw_up s3 13 3 (0 : Int32)) (fun s4 => hw_nm (hw_up s4 13 5 (0 : Int32)) (fun s5 => hw_bd (F_X1_step  s5) (fun _ s7 => hw_bd (F_X1_keyHere  s7) (fun r8 s9 => if r8 = (-1000000005 : Int32) then (some ((0 : Int32), s9)) else (hw_gd (hw_gH (s9 13 2).toNatClampNeg 0) (hw_bd (F_X0_begin (s9 13 2).toNatClampNeg r8 s9) (fun _ s14 => hw_bd (F_X1_step  s14) (fun _ s16 => hw_bd (R_X1 90 0 (0 : Int32) (0 : Int32) s16) (fun r17 s18 => if r17 = 0 then (some ((0 : Int32), s18)) else (if (s18 13 3) = 0 then (some ((1 : Int32), s18)) else (some ((0 : Int32), s18)))))))))))))))))
set_option maxRecDepth 20000 in
theorem M_X1_takesIn (E : hw_E) (hE : hw_eT E = hw_TH) (t1 : Nat) (a2 : Int32) (t3 : Nat) (s0 : hw_St) : hw_M E yX1_takesIn cX1_takesIn 5 (some .boolean) 111 [hw_rv (hw_ea E) 13, hw_rv (hw_ea E) t1, .int a2, hw_rv (hw_ea E) t3] s0 hw_ri (F_X1_takesIn t1 a2 t3 s0) := by
  refine hw_entry (own := RX1) (TL := hw_TH) (by decide) rfl hE (hw_cR (hw_cR (hw_cI (hw_cR hw_cN)))) (hw_l8 rfl) (fun G hG C => ?_)
  subst hG
  have hTL := hE
  show hw_K G 5 hw_ri _ 0 [(0, hw_rv (hw_ea (hw_gE G)) 13), (1, hw_rv (hw_ea (hw_gE G)) t1), (2, .int a2), (3, hw_rv (hw_ea (hw_gE G)) t3)] [] s0
  unfold F_X1_takesIn
  refine hw_gdK (fun h_T1 => ?_)
  have T1 := hw_gH_T h_T1
  refine hw_gdK (fun h_T3 => ?_)
  have T3 := hw_gH_T h_T3
  refine hw_aload_n C dX1_takesIn_0 rfl 0 rfl ?_
  refine hw_aload_n C dX1_takesIn_1 rfl 1 rfl ?_
  refine hw_putM C cf_X1 lf_X1_9 hw_T13 rfl (hw_T_lt T1) (fun _ => rfl) (fun _ => rfl) dX1_takesIn_2 (fun s1 => ?_)
  refine hw_aload_n C dX1_takesIn_5 rfl 0 rfl ?_
  refine hw_iload_n C dX1_takesIn_6 rfl 2 rfl ?_
  refine hw_aload_n C dX1_takesIn_7 rfl 1 rfl ?_
  refine hw_alen 1 C T1 (by decide) (fun _ => rfl) rfl dX1_takesIn_8 ?_
  refine hw_mmin C mw_616 mathw_min (hw_l8 rfl) dX1_takesIn_9 ?_
  refine hw_putI C cf_X1 lf_X1_25 hw_T13 rfl rfl dX1_takesIn_12 (fun s2 => ?_)
  refine hw_aload_n C dX1_takesIn_15 rfl 0 rfl ?_
  refine hw_aload_n C dX1_takesIn_16 rfl 3 rfl ?_
  refine hw_putM C cf_X1 lf_X1_15 hw_T13 rfl (hw_T_lt T3) (fun _ => rfl) (fun _ => rfl) dX1_takesIn_17 (fun s3 => ?_)
  refine hw_aload_n C dX1_takesIn_20 rfl 0 rfl ?_
  refine hw_iconst C dX1_takesIn_21 (v := 0) (by decide) ?_
  refine hw_putI C cf_X1 lf_X1_29 hw_T13 rfl rfl dX1_takesIn_22 (fun s4 => ?_)
  refine hw_aload_n C dX1_takesIn_25 rfl 0 rfl ?_
  refine hw_iconst C dX1_takesIn_26 (v := 0) (by decide) ?_
  refine hw_putI C cf_X1 lf_X1_32 hw_T13 rfl rfl dX1_takesIn_27 (fun s5 => ?_)
  refine hw_aload_n C dX1_takesIn_30 rfl 0 rfl ?_
  refine hw_callVv C (M_X1_step (hw_gE G) hTL  s5) W_X1_step SV_X1_step cf_X1 hw_T13 mw_621 (by decide) rfl ⟨rfl, hw_l8 rfl⟩ dX1_takesIn_31 (fun r6 s7 => ?_)
  refine hw_aload_n C dX1_takesIn_34 rfl 0 rfl ?_
  refine hw_callVi C (M_X1_keyHere (hw_gE G) hTL  s7) W_X1_keyHere SV_X1_keyHere cf_X1 hw_T13 mw_631 (by decide) rfl ⟨rfl, hw_l8 rfl⟩ dX1_takesIn_35 (fun r8 s9 => ?_)
  refine hw_istore C dX1_takesIn_38 (by decide) rfl ?_
  refine hw_iload C dX1_takesIn_40 0 rfl ?_
  refine hw_ldc C mw_620 dX1_takesIn_42 ?_
  refine hw_icmp_ne C dX1_takesIn_44 (tgt := 49) (by decide) (fun c10 => ?_) (fun c10 => ?_)
  · refine hw_aload_n C dX1_takesIn_49 rfl 1 rfl ?_
    refine hw_getM C cf_X1 lf_X1_15 hw_T13 dX1_takesIn_50 ?_
    refine hw_iload C dX1_takesIn_53 0 rfl ?_
    refine hw_gdK (fun h12 => ?_)
    have T_11 := hw_gH_T h12
    refine hw_callVv C (M_X0_begin (hw_gE G) hTL (s9 13 2).toNatClampNeg r8 s9) W_X0_begin SV_X0_begin cf_X0 T_11 mw_688 (by decide) rfl ⟨rfl, hw_l8 rfl⟩ dX1_takesIn_55 (fun r13 s14 => ?_)
    refine hw_aload_n C dX1_takesIn_58 rfl 1 rfl ?_
    refine hw_callVv C (M_X1_step (hw_gE G) hTL  s14) W_X1_step SV_X1_step cf_X1 hw_T13 mw_621 (by decide) rfl ⟨rfl, hw_l8 rfl⟩ dX1_takesIn_59 (fun r15 s16 => ?_)
    refine hw_aload_n C dX1_takesIn_62 rfl 1 rfl ?_
    refine hw_iconst C dX1_takesIn_63 (v := 0) (by decide) ?_
    refine hw_iconst C dX1_takesIn_64 (v := 0) (by decide) ?_
    refine hw_callVi C (MR_X1_readOr (hw_gE G) hTL 90 (0 : Int32) (0 : Int32) s16) W_X1_readOr SV_X1_readOr cf_X1 hw_T13 mw_694 (by decide) rfl ⟨rfl, hw_l8 rfl⟩ dX1_takesIn_65 (fun r17 s18 => ?_)
    refine hw_if_eq C dX1_takesIn_68 (tgt := 82) (by decide) (fun c19 => ?_) (fun c19 => ?_)
    · refine hw_iconst C dX1_takesIn_82 (v := 0) (by decide) ?_
      exact hw_zret1 C (by decide) dX1_takesIn_83
    · refine hw_aload_n C dX1_takesIn_71 rfl 1 rfl ?_
      refine hw_getI C cf_X1 lf_X1_29 hw_T13 dX1_takesIn_72 ?_
      refine hw_if_ne C dX1_takesIn_75 (tgt := 82) (by decide) (fun c20 => ?_) (fun c20 => ?_)
      · refine hw_iconst C dX1_takesIn_82 (v := 0) (by decide) ?_
        exact hw_zret1 C (by decide) dX1_takesIn_83
      · refine hw_iconst C dX1_takesIn_78 (v := 1) (by decide) ?_
        refine hw_goto C dX1_takesIn_79 (tgt := 83) (by decide) ?_
        exact hw_zret1 C (by decide) dX1_takesIn_83
  · refine hw_iconst C dX1_takesIn_47 (v := 0) (by decide) ?_
    exact hw_zret1 C (by decide) dX1_takesIn_48
