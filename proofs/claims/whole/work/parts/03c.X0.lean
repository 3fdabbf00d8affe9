/-! HumWire$Law begin(I)V, level 1 -/
def F_X0_begin  (t0 : Nat) (a1 : Int32) (s0 : hw_St) : Option (Unit × hw_St) := hw_gd (hw_gH t0 0) (hw_nm (hw_up s0 t0 0 a1) (fun s1 => hw_nm (hw_up s1 t0 1 (0 : Int32)) (fun s2 => hw_nm (hw_up s2 t0 3 (0 : Int32)) (fun s3 => some ((), s3)))))
set_option maxRecDepth 20000 in
theorem M_X0_begin (E : hw_E) (hE : hw_eT E = hw_TH) (t0 : Nat) (a1 : Int32) (s0 : hw_St) : hw_M E yX0_begin cX0_begin 2 none 1 [hw_rv (hw_ea E) t0, .int a1] s0 hw_r0 (F_X0_begin t0 a1 s0) := by
  refine hw_entry (own := RX0) (TL := hw_TH) (by decide) rfl hE (hw_cR (hw_cI hw_cN)) (hw_l8 rfl) (fun G hG C => ?_)
  subst hG
  have hTL := hE
  show hw_K G 2 hw_r0 _ 0 [(0, hw_rv (hw_ea (hw_gE G)) t0), (1, .int a1)] [] s0
  unfold F_X0_begin
  refine hw_gdK (fun h_T0 => ?_)
  have T0 := hw_gH_T h_T0
  refine hw_aload_n C dX0_begin_0 rfl 0 rfl ?_
  refine hw_iload_n C dX0_begin_1 rfl 1 rfl ?_
  refine hw_putI C cf_X0 lf_X0_15 T0 rfl rfl dX0_begin_2 (fun s1 => ?_)
  refine hw_aload_n C dX0_begin_5 rfl 0 rfl ?_
  refine hw_iconst C dX0_begin_6 (v := 0) (by decide) ?_
  refine hw_putI C cf_X0 lf_X0_19 T0 rfl rfl dX0_begin_7 (fun s2 => ?_)
  refine hw_aload_n C dX0_begin_10 rfl 0 rfl ?_
  refine hw_iconst C dX0_begin_11 (v := 0) (by decide) ?_
  refine hw_putI C cf_X0 lf_X0_22 T0 rfl rfl dX0_begin_12 (fun s3 => ?_)
  exact hw_vret C dX0_begin_15
/-! HumWire$Law put(I)V, level 1 -/
def F_X0_put  (t0 : Nat) (a1 : Int32) (s0 : hw_St) : Option (Unit × hw_St) := hw_gd (hw_gH t0 0) (hw_gd (hw_gH (hw_fl t0 2) 10) (if (nI (hw_ln (hw_fl t0 2))) ≤ (s0 t0 3) then (some ((), s0)) else (hw_gd (hw_inb (s0 t0 3) (hw_ln (hw_fl t0 2))) (hw_nm (hw_up s0 (hw_fl t0 2) (s0 t0 3).toNatClampNeg a1) (fun s4 => hw_nm (hw_up s4 t0 3 ((s4 t0 3) + (1 : Int32))) (fun s6 => some ((), s6)))))))
set_option maxRecDepth 20000 in
theorem M_X0_put (E : hw_E) (hE : hw_eT E = hw_TH) (t0 : Nat) (a1 : Int32) (s0 : hw_St) : hw_M E yX0_put cX0_put 2 none 1 [hw_rv (hw_ea E) t0, .int a1] s0 hw_r0 (F_X0_put t0 a1 s0) := by
  refine hw_entry (own := RX0) (TL := hw_TH) (by decide) rfl hE (hw_cR (hw_cI hw_cN)) (hw_l8 rfl) (fun G hG C => ?_)
  subst hG
  have hTL := hE
  show hw_K G 2 hw_r0 _ 0 [(0, hw_rv (hw_ea (hw_gE G)) t0), (1, .int a1)] [] s0
  unfold F_X0_put
  refine hw_gdK (fun h_T0 => ?_)
  have T0 := hw_gH_T h_T0
  refine hw_aload_n C dX0_put_0 rfl 0 rfl ?_
  refine hw_getI C cf_X0 lf_X0_22 T0 dX0_put_1 ?_
  refine hw_aload_n C dX0_put_4 rfl 0 rfl ?_
  refine hw_getR C cf_X0 lf_X0_11 T0 rfl dX0_put_5 ?_
  refine hw_gdK (fun h2 => ?_)
  have T_1 := hw_gH_T h2
  refine hw_alen 0 C T_1 (by decide) (fun _ => rfl) rfl dX0_put_8 ?_
  refine hw_icmp_ge C dX0_put_9 (tgt := 32) (by decide) (fun c3 => ?_) (fun c3 => ?_)
  · exact hw_vret C dX0_put_32
  · refine hw_aload_n C dX0_put_12 rfl 0 rfl ?_
    refine hw_getR C cf_X0 lf_X0_11 T0 rfl dX0_put_13 ?_
    refine hw_aload_n C dX0_put_16 rfl 0 rfl ?_
    refine hw_getI C cf_X0 lf_X0_22 T0 dX0_put_17 ?_
    refine hw_iload_n C dX0_put_20 rfl 1 rfl ?_
    refine hw_iast C T_1 rfl dX0_put_21 (fun h5 s4 => ?_)
    refine hw_aload_n C dX0_put_22 rfl 0 rfl ?_
    refine hw_dup C dX0_put_23 ?_
    refine hw_getI C cf_X0 lf_X0_22 T0 dX0_put_24 ?_
    refine hw_iconst C dX0_put_27 (v := 1) (by decide) ?_
    refine hw_iadd C dX0_put_28 ?_
    refine hw_putI C cf_X0 lf_X0_22 T0 rfl rfl dX0_put_29 (fun s6 => ?_)
    exact hw_vret C dX0_put_32
/-! HumWire$Law putLeaf(I)V, level 2 -/
def F_X0_putLeaf  (t0 : Nat) (a1 : Int32) (s0 : hw_St) : Option (Unit × hw_St) := hw_gd (hw_gH t0 0) (hw_bd (F_X0_put t0 a1 s0) (fun _ s2 => hw_nm (hw_up s2 t0 1 ((s2 t0 1) + (1 : Int32))) (fun s3 => some ((), s3))))
set_option maxRecDepth 20000 in
theorem M_X0_putLeaf (E : hw_E) (hE : hw_eT E = hw_TH) (t0 : Nat) (a1 : Int32) (s0 : hw_St) : hw_M E yX0_putLeaf cX0_putLeaf 2 none 2 [hw_rv (hw_ea E) t0, .int a1] s0 hw_r0 (F_X0_putLeaf t0 a1 s0) := by
  refine hw_entry (own := RX0) (TL := hw_TH) (by decide) rfl hE (hw_cR (hw_cI hw_cN)) (hw_l8 rfl) (fun G hG C => ?_)
  subst hG
  have hTL := hE
  show hw_K G 2 hw_r0 _ 0 [(0, hw_rv (hw_ea (hw_gE G)) t0), (1, .int a1)] [] s0
  unfold F_X0_putLeaf
  refine hw_gdK (fun h_T0 => ?_)
  have T0 := hw_gH_T h_T0
  refine hw_aload_n C dX0_putLeaf_0 rfl 0 rfl ?_
  refine hw_iload_n C dX0_putLeaf_1 rfl 1 rfl ?_
  refine hw_callVv C (M_X0_put (hw_gE G) hTL t0 a1 s0) W_X0_put SV_X0_put cf_X0 T0 mw_713 (by decide) rfl ⟨rfl, hw_l8 rfl⟩ dX0_putLeaf_2 (fun r1 s2 => ?_)
  refine hw_aload_n C dX0_putLeaf_5 rfl 0 rfl ?_
  refine hw_dup C dX0_putLeaf_6 ?_
  refine hw_getI C cf_X0 lf_X0_19 T0 dX0_putLeaf_7 ?_
  refine hw_iconst C dX0_putLeaf_10 (v := 1) (by decide) ?_
  refine hw_iadd C dX0_putLeaf_11 ?_
  refine hw_putI C cf_X0 lf_X0_19 T0 rfl rfl dX0_putLeaf_12 (fun s3 => ?_)
  exact hw_vret C dX0_putLeaf_15
/-! HumWire$Law putSign(I)V, level 2 -/
def F_X0_putSign  (t0 : Nat) (a1 : Int32) (s0 : hw_St) : Option (Unit × hw_St) := hw_gd (hw_gH t0 0) (hw_bd (F_X0_put t0 ((20000 : Int32) + a1) s0) (fun _ s2 => some ((), s2)))
set_option maxRecDepth 20000 in
theorem M_X0_putSign (E : hw_E) (hE : hw_eT E = hw_TH) (t0 : Nat) (a1 : Int32) (s0 : hw_St) : hw_M E yX0_putSign cX0_putSign 2 none 2 [hw_rv (hw_ea E) t0, .int a1] s0 hw_r0 (F_X0_putSign t0 a1 s0) := by
  refine hw_entry (own := RX0) (TL := hw_TH) (by decide) rfl hE (hw_cR (hw_cI hw_cN)) (hw_l8 rfl) (fun G hG C => ?_)
  subst hG
  have hTL := hE
  show hw_K G 2 hw_r0 _ 0 [(0, hw_rv (hw_ea (hw_gE G)) t0), (1, .int a1)] [] s0
  unfold F_X0_putSign
  refine hw_gdK (fun h_T0 => ?_)
  have T0 := hw_gH_T h_T0
  refine hw_aload_n C dX0_putSign_0 rfl 0 rfl ?_
  refine hw_sipush C dX0_putSign_1 (v := 20000) (by decide) ?_
  refine hw_iload_n C dX0_putSign_4 rfl 1 rfl ?_
  refine hw_iadd C dX0_putSign_5 ?_
  refine hw_callVv C (M_X0_put (hw_gE G) hTL t0 ((20000 : Int32) + a1) s0) W_X0_put SV_X0_put cf_X0 T0 mw_713 (by decide) rfl ⟨rfl, hw_l8 rfl⟩ dX0_putSign_6 (fun r1 s2 => ?_)
  exact hw_vret C dX0_putSign_9
/-! HumWire$Law joined(III)I, level 1 -/
def B_X0_joined_195  (s0 : hw_St) : Option (Int32 × hw_St) := some ((1 : Int32), s0)
def F_X0_joined  (a0 : Int32) (a1 : Int32) (a2 : Int32) (s0 : hw_St) : Option (Int32 × hw_St) := if a0 = (38 : Int32) then (if a1 = 0 then (some ((0 : Int32), s0)) else (if a2 = 0 then (some ((0 : Int32), s0)) else (some ((1 : Int32), s0)))) else (if a0 = (42 : Int32) then (some ((a1 * a2), s0)) else (if a0 = (43 : Int32) then (some ((a1 + a2), s0)) else (if a0 = (45 : Int32) then (some ((a1 - a2), s0)) else (if a0 = (47 : Int32) then (if a2 = 0 then (some ((0 : Int32), s0)) else (hw_gd (hw_nz a2) (some ((a1 / a2), s0)))) else (if a0 = (60 : Int32) then (if a2 ≤ a1 then (some ((0 : Int32), s0)) else (some ((1 : Int32), s0))) else (if a0 = (61 : Int32) then (if a1 = a2 then (some ((1 : Int32), s0)) else (some ((0 : Int32), s0))) else (if a0 = (62 : Int32) then (if a1 ≤ a2 then (some ((0 : Int32), s0)) else (some ((1 : Int32), s0))) else (if a1 = 0 then (if a2 = 0 then (some ((0 : Int32), s0)) else (B_X0_joined_195  s0)) else (B_X0_joined_195  s0)))))))))
set_option maxRecDepth 20000 in
theorem KB_X0_joined_195 {G : hw_G} (C : hw_Ok G cX0_joined RX0 3 1 (some .int) hw_TH) (hTL : hw_eT (hw_gE G) = hw_TH) (s0 : hw_St) : hw_K G 3 hw_ri (B_X0_joined_195  s0) 195 [] [] s0 := by
  unfold B_X0_joined_195
  refine hw_iconst C dX0_joined_195 (v := 1) (by decide) ?_
  refine hw_goto C dX0_joined_196 (tgt := 200) (by decide) ?_
  exact hw_iret C dX0_joined_200
set_option maxRecDepth 20000 in
theorem M_X0_joined (E : hw_E) (hE : hw_eT E = hw_TH) (a0 : Int32) (a1 : Int32) (a2 : Int32) (s0 : hw_St) : hw_M E yX0_joined cX0_joined 3 (some .int) 1 [.int a0, .int a1, .int a2] s0 hw_ri (F_X0_joined a0 a1 a2 s0) := by
  refine hw_entry (own := RX0) (TL := hw_TH) (by decide) rfl hE (hw_cI (hw_cI (hw_cI hw_cN))) (hw_l8 rfl) (fun G hG C => ?_)
  subst hG
  have hTL := hE
  show hw_K G 3 hw_ri _ 0 [(0, .int a0), (1, .int a1), (2, .int a2)] [] s0
  unfold F_X0_joined
  refine hw_iload_n C dX0_joined_0 rfl 0 rfl ?_
  refine hw_ifK (fun c3 => ?_) (fun c3 => ?_)
  · refine hw_tabIn C dX0_joined_1 c3 (off := 172) (tgt := 173) (by decide) ?_
    refine hw_iload_n C dX0_joined_173 rfl 1 rfl ?_
    refine hw_if_eq C dX0_joined_174 (tgt := 185) (by decide) (fun c1 => ?_) (fun c1 => ?_)
    · refine hw_iconst C dX0_joined_185 (v := 0) (by decide) ?_
      exact hw_iret C dX0_joined_186
    · refine hw_iload_n C dX0_joined_177 rfl 2 rfl ?_
      refine hw_if_eq C dX0_joined_178 (tgt := 185) (by decide) (fun c2 => ?_) (fun c2 => ?_)
      · refine hw_iconst C dX0_joined_185 (v := 0) (by decide) ?_
        exact hw_iret C dX0_joined_186
      · refine hw_iconst C dX0_joined_181 (v := 1) (by decide) ?_
        refine hw_goto C dX0_joined_182 (tgt := 186) (by decide) ?_
        exact hw_iret C dX0_joined_186
  · refine hw_ifK (fun c4 => ?_) (fun c4 => ?_)
    · refine hw_tabIn C dX0_joined_1 c4 (off := 123) (tgt := 124) (by decide) ?_
      refine hw_iload_n C dX0_joined_124 rfl 1 rfl ?_
      refine hw_iload_n C dX0_joined_125 rfl 2 rfl ?_
      refine hw_imul C dX0_joined_126 ?_
      exact hw_iret C dX0_joined_127
    · refine hw_ifK (fun c5 => ?_) (fun c5 => ?_)
      · refine hw_tabIn C dX0_joined_1 c5 (off := 115) (tgt := 116) (by decide) ?_
        refine hw_iload_n C dX0_joined_116 rfl 1 rfl ?_
        refine hw_iload_n C dX0_joined_117 rfl 2 rfl ?_
        refine hw_iadd C dX0_joined_118 ?_
        exact hw_iret C dX0_joined_119
      · refine hw_ifK (fun c6 => ?_) (fun c6 => ?_)
        · refine hw_tabIn C dX0_joined_1 c6 (off := 119) (tgt := 120) (by decide) ?_
          refine hw_iload_n C dX0_joined_120 rfl 1 rfl ?_
          refine hw_iload_n C dX0_joined_121 rfl 2 rfl ?_
          refine hw_isub C dX0_joined_122 ?_
          exact hw_iret C dX0_joined_123
        · refine hw_ifK (fun c8 => ?_) (fun c8 => ?_)
          · refine hw_tabIn C dX0_joined_1 c8 (off := 127) (tgt := 128) (by decide) ?_
            refine hw_iload_n C dX0_joined_128 rfl 2 rfl ?_
            refine hw_if_ne C dX0_joined_129 (tgt := 136) (by decide) (fun c7 => ?_) (fun c7 => ?_)
            · refine hw_iload_n C dX0_joined_136 rfl 1 rfl ?_
              refine hw_iload_n C dX0_joined_137 rfl 2 rfl ?_
              refine hw_idiv C dX0_joined_138 ?_
              exact hw_iret C dX0_joined_139
            · refine hw_iconst C dX0_joined_132 (v := 0) (by decide) ?_
              refine hw_goto C dX0_joined_133 (tgt := 139) (by decide) ?_
              exact hw_iret C dX0_joined_139
          · refine hw_ifK (fun c10 => ?_) (fun c10 => ?_)
            · refine hw_tabIn C dX0_joined_1 c10 (off := 139) (tgt := 140) (by decide) ?_
              refine hw_iload_n C dX0_joined_140 rfl 1 rfl ?_
              refine hw_iload_n C dX0_joined_141 rfl 2 rfl ?_
              refine hw_icmp_ge C dX0_joined_142 (tgt := 149) (by decide) (fun c9 => ?_) (fun c9 => ?_)
              · refine hw_iconst C dX0_joined_149 (v := 0) (by decide) ?_
                exact hw_iret C dX0_joined_150
              · refine hw_iconst C dX0_joined_145 (v := 1) (by decide) ?_
                refine hw_goto C dX0_joined_146 (tgt := 150) (by decide) ?_
                exact hw_iret C dX0_joined_150
            · refine hw_ifK (fun c12 => ?_) (fun c12 => ?_)
              · refine hw_tabIn C dX0_joined_1 c12 (off := 150) (tgt := 151) (by decide) ?_
                refine hw_iload_n C dX0_joined_151 rfl 1 rfl ?_
                refine hw_iload_n C dX0_joined_152 rfl 2 rfl ?_
                refine hw_icmp_ne C dX0_joined_153 (tgt := 160) (by decide) (fun c11 => ?_) (fun c11 => ?_)
                · refine hw_iconst C dX0_joined_160 (v := 0) (by decide) ?_
                  exact hw_iret C dX0_joined_161
                · refine hw_iconst C dX0_joined_156 (v := 1) (by decide) ?_
                  refine hw_goto C dX0_joined_157 (tgt := 161) (by decide) ?_
                  exact hw_iret C dX0_joined_161
              · refine hw_ifK (fun c14 => ?_) (fun c14 => ?_)
                · refine hw_tabIn C dX0_joined_1 c14 (off := 161) (tgt := 162) (by decide) ?_
                  refine hw_iload_n C dX0_joined_162 rfl 1 rfl ?_
                  refine hw_iload_n C dX0_joined_163 rfl 2 rfl ?_
                  refine hw_icmp_le C dX0_joined_164 (tgt := 171) (by decide) (fun c13 => ?_) (fun c13 => ?_)
                  · refine hw_iconst C dX0_joined_171 (v := 0) (by decide) ?_
                    exact hw_iret C dX0_joined_172
                  · refine hw_iconst C dX0_joined_167 (v := 1) (by decide) ?_
                    refine hw_goto C dX0_joined_168 (tgt := 172) (by decide) ?_
                    exact hw_iret C dX0_joined_172
                · refine hw_tabD C dX0_joined_1 (cs := [38, 42, 43, 45, 47, 60, 61, 62]) (by decide) (List.forall_mem_cons.mpr ⟨hw_ni c3 (z := 38) (by decide), List.forall_mem_cons.mpr ⟨hw_ni c4 (z := 42) (by decide), List.forall_mem_cons.mpr ⟨hw_ni c5 (z := 43) (by decide), List.forall_mem_cons.mpr ⟨hw_ni c6 (z := 45) (by decide), List.forall_mem_cons.mpr ⟨hw_ni c8 (z := 47) (by decide), List.forall_mem_cons.mpr ⟨hw_ni c10 (z := 60) (by decide), List.forall_mem_cons.mpr ⟨hw_ni c12 (z := 61) (by decide), List.forall_mem_cons.mpr ⟨hw_ni c14 (z := 62) (by decide), fun _ h => absurd h List.not_mem_nil⟩⟩⟩⟩⟩⟩⟩⟩) (tgt := 187) (by decide) ?_
                  refine hw_iload_n C dX0_joined_187 rfl 1 rfl ?_
                  refine hw_if_ne C dX0_joined_188 (tgt := 195) (by decide) (fun c15 => ?_) (fun c15 => ?_)
                  · exact hw_lv [] rfl (KB_X0_joined_195 C hTL  s0)
                  · refine hw_iload_n C dX0_joined_191 rfl 2 rfl ?_
                    refine hw_if_eq C dX0_joined_192 (tgt := 199) (by decide) (fun c16 => ?_) (fun c16 => ?_)
                    · refine hw_iconst C dX0_joined_199 (v := 0) (by decide) ?_
                      exact hw_iret C dX0_joined_200
                    · exact hw_lv [] rfl (KB_X0_joined_195 C hTL  s0)
/-! HumWire$Law gives(III[I)I, level 2 -/
def B_X0_gives_170  (w6 : Nat → Int32 → Int32 → Int32 → Nat → Int32 → Int32 → hw_St → Option (Int32 × hw_St)) (t0 : Nat) (l1 : Int32) (l2 : Int32) (l3 : Int32) (t4 : Nat) (l5 : Int32) (l6 : Int32) (s0 : hw_St) : Option (Int32 × hw_St) := w6 t0 l1 l2 l3 t4 l5 (l6 + 1) s0
def B_X0_gives_97  (w6 : Nat → Int32 → Int32 → Int32 → Nat → Int32 → Int32 → hw_St → Option (Int32 × hw_St)) (t0 : Nat) (l1 : Int32) (l2 : Int32) (l3 : Int32) (t4 : Nat) (l5 : Int32) (l6 : Int32) (k0 : Int32) (k1 : Int32) (k2 : Nat) (s0 : hw_St) : Option (Int32 × hw_St) := hw_gd (hw_inb k1 (hw_ln k2)) (hw_nm (hw_up s0 k2 k1.toNatClampNeg k0) (fun s19 => B_X0_gives_170 w6 t0 l1 l2 l3 t4 l5 l6 s19))
def B_X0_gives_131  (w6 : Nat → Int32 → Int32 → Int32 → Nat → Int32 → Int32 → hw_St → Option (Int32 × hw_St)) (t0 : Nat) (l1 : Int32) (l2 : Int32) (l3 : Int32) (t4 : Nat) (l5 : Int32) (l6 : Int32) (k0 : Int32) (k1 : Int32) (k2 : Nat) (s0 : hw_St) : Option (Int32 × hw_St) := hw_gd (hw_inb k1 (hw_ln k2)) (hw_nm (hw_up s0 k2 k1.toNatClampNeg k0) (fun s28 => B_X0_gives_170 w6 t0 l1 l2 l3 t4 l5 l6 s28))
def B_X0_gives_135  (w6 : Nat → Int32 → Int32 → Int32 → Nat → Int32 → Int32 → hw_St → Option (Int32 × hw_St)) (t0 : Nat) (l1 : Int32) (l2 : Int32) (l3 : Int32) (t4 : Nat) (l5 : Int32) (l6 : Int32) (l7 : Int32) (s0 : hw_St) : Option (Int32 × hw_St) := if l5 < (1 : Int32) then (B_X0_gives_170 w6 t0 l1 l2 l3 t4 l5 l6 s0) else (hw_gd (hw_inb (l5 + -1) (hw_ln t4)) (hw_gd (hw_inb ((l5 + -1) + (1 : Int32)) (hw_ln t4)) (hw_bd (F_X0_joined (l7 - (20000 : Int32)) (s0 t4 (l5 + -1).toNatClampNeg) (s0 t4 ((l5 + -1) + (1 : Int32)).toNatClampNeg) s0) (fun r24 s25 => hw_gd (hw_inb (l5 + -1) (hw_ln t4)) (hw_nm (hw_up s25 t4 (l5 + -1).toNatClampNeg r24) (fun s26 => B_X0_gives_170 w6 t0 l1 l2 l3 t4 (l5 + -1) l6 s26))))))
def B_X0_gives_101  (w6 : Nat → Int32 → Int32 → Int32 → Nat → Int32 → Int32 → hw_St → Option (Int32 × hw_St)) (t0 : Nat) (l1 : Int32) (l2 : Int32) (l3 : Int32) (t4 : Nat) (l5 : Int32) (l6 : Int32) (l7 : Int32) (s0 : hw_St) : Option (Int32 × hw_St) := if l7 = (20033 : Int32) then (if l5 < 0 then (B_X0_gives_135 w6 t0 l1 l2 l3 t4 l5 l6 l7 s0) else (hw_gd (hw_inb l5 (hw_ln t4)) (if (s0 t4 l5.toNatClampNeg) = 0 then (B_X0_gives_131 w6 t0 l1 l2 l3 t4 l5 l6 (1 : Int32) l5 t4 s0) else (B_X0_gives_131 w6 t0 l1 l2 l3 t4 l5 l6 (0 : Int32) l5 t4 s0)))) else (B_X0_gives_135 w6 t0 l1 l2 l3 t4 l5 l6 l7 s0)
def B_X0_gives_176  (t4 : Nat) (l5 : Int32) (s0 : hw_St) : Option (Int32 × hw_St) := if l5 = 0 then (hw_gd (hw_inb (0 : Int32) (hw_ln t4)) (some ((s0 t4 (0 : Int32).toNatClampNeg), s0))) else (some ((0 : Int32), s0))
def S_X0_gives_6  (w6 : Nat → Int32 → Int32 → Int32 → Nat → Int32 → Int32 → hw_St → Option (Int32 × hw_St)) (t0 : Nat) (l1 : Int32) (l2 : Int32) (l3 : Int32) (t4 : Nat) (l5 : Int32) (l6 : Int32) (s0 : hw_St) : Option (Int32 × hw_St) := if (s0 t0 3) ≤ l6 then (B_X0_gives_176 t4 l5 s0) else (hw_gd (hw_gH (hw_fl t0 2) 10) (if (nI (hw_ln (hw_fl t0 2))) ≤ l6 then (B_X0_gives_176 t4 l5 s0) else (hw_gd (hw_inb l6 (hw_ln (hw_fl t0 2))) (hw_nm (s0 (hw_fl t0 2) l6.toNatClampNeg) (fun x6 => if (20000 : Int32) ≤ x6 then (B_X0_gives_101 w6 t0 l1 l2 l3 t4 l5 l6 x6 s0) else (if (nI (hw_ln t4)) ≤ (l5 + (1 : Int32)) then (B_X0_gives_101 w6 t0 l1 l2 l3 t4 l5 l6 x6 s0) else (hw_nm (x6 - (10000 : Int32)) (fun x9 => if 0 ≤ x9 then (if x9 = 0 then (B_X0_gives_97 w6 t0 l1 l2 l3 t4 (l5 + 1) l6 l1 (l5 + 1) t4 s0) else (if x9 = (1 : Int32) then (B_X0_gives_97 w6 t0 l1 l2 l3 t4 (l5 + 1) l6 l2 (l5 + 1) t4 s0) else (B_X0_gives_97 w6 t0 l1 l2 l3 t4 (l5 + 1) l6 l3 (l5 + 1) t4 s0))) else (B_X0_gives_97 w6 t0 l1 l2 l3 t4 (l5 + 1) l6 x6 (l5 + 1) t4 s0)))))))))
def L_X0_gives_6  : Nat → Nat → Int32 → Int32 → Int32 → Nat → Int32 → Int32 → hw_St → Option (Int32 × hw_St)
  | 0 => fun _ _ _ _ _ _ _ _ => none
  | n + 1 => S_X0_gives_6  (L_X0_gives_6  n)
def F_X0_gives  (t0 : Nat) (a1 : Int32) (a2 : Int32) (a3 : Int32) (t4 : Nat) (s0 : hw_St) : Option (Int32 × hw_St) := hw_gd (hw_gH t0 0) (hw_gd (hw_gH t4 10) (L_X0_gives_6 130 t0 a1 a2 a3 t4 (-1 : Int32) (0 : Int32) s0))
set_option maxRecDepth 20000 in
theorem KB_X0_gives_170 {G : hw_G} (C : hw_Ok G cX0_gives RX0 9 2 (some .int) hw_TH) (hTL : hw_eT (hw_gE G) = hw_TH) (w6 : Nat → Int32 → Int32 → Int32 → Nat → Int32 → Int32 → hw_St → Option (Int32 × hw_St)) (H_w6 : ∀ (t0 : Nat) (l1 : Int32) (l2 : Int32) (l3 : Int32) (t4 : Nat) (l5 : Int32) (l6 : Int32) (s0 : hw_St) (T0 : hw_T hw_TH t0 0) (T4 : hw_T hw_TH t4 10), hw_K G 9 hw_ri (w6 t0 l1 l2 l3 t4 l5 l6 s0) 6 [(0, hw_rv (hw_ea (hw_gE G)) t0), (1, .int l1), (2, .int l2), (3, .int l3), (4, hw_rv (hw_ea (hw_gE G)) t4), (5, .int l5), (6, .int l6)] [] s0) (t0 : Nat) (l1 : Int32) (l2 : Int32) (l3 : Int32) (t4 : Nat) (l5 : Int32) (l6 : Int32) (s0 : hw_St) (T0 : hw_T hw_TH t0 0) (T4 : hw_T hw_TH t4 10) : hw_K G 9 hw_ri (B_X0_gives_170 w6 t0 l1 l2 l3 t4 l5 l6 s0) 170 [(0, hw_rv (hw_ea (hw_gE G)) t0), (1, .int l1), (2, .int l2), (3, .int l3), (4, hw_rv (hw_ea (hw_gE G)) t4), (5, .int l5), (6, .int l6)] [] s0 := by
  unfold B_X0_gives_170
  refine hw_iinc C dX0_gives_170 6 rfl (v := 1) (by decide) (by decide) rfl ?_
  refine hw_goto C dX0_gives_173 (tgt := 6) (by decide) ?_
  exact hw_lv [1, 2, 3, 4, 5, 6, 0] rfl (H_w6 t0 l1 l2 l3 t4 l5 (l6 + 1) s0 T0 T4)
set_option maxRecDepth 20000 in
theorem KB_X0_gives_97 {G : hw_G} (C : hw_Ok G cX0_gives RX0 9 2 (some .int) hw_TH) (hTL : hw_eT (hw_gE G) = hw_TH) (w6 : Nat → Int32 → Int32 → Int32 → Nat → Int32 → Int32 → hw_St → Option (Int32 × hw_St)) (H_w6 : ∀ (t0 : Nat) (l1 : Int32) (l2 : Int32) (l3 : Int32) (t4 : Nat) (l5 : Int32) (l6 : Int32) (s0 : hw_St) (T0 : hw_T hw_TH t0 0) (T4 : hw_T hw_TH t4 10), hw_K G 9 hw_ri (w6 t0 l1 l2 l3 t4 l5 l6 s0) 6 [(0, hw_rv (hw_ea (hw_gE G)) t0), (1, .int l1), (2, .int l2), (3, .int l3), (4, hw_rv (hw_ea (hw_gE G)) t4), (5, .int l5), (6, .int l6)] [] s0) (t0 : Nat) (l1 : Int32) (l2 : Int32) (l3 : Int32) (t4 : Nat) (l5 : Int32) (l6 : Int32) (k0 : Int32) (k1 : Int32) (k2 : Nat) (s0 : hw_St) (T0 : hw_T hw_TH t0 0) (T4 : hw_T hw_TH t4 10) (T_k2 : hw_T hw_TH k2 10) : hw_K G 9 hw_ri (B_X0_gives_97 w6 t0 l1 l2 l3 t4 l5 l6 k0 k1 k2 s0) 97 [(0, hw_rv (hw_ea (hw_gE G)) t0), (1, .int l1), (2, .int l2), (3, .int l3), (4, hw_rv (hw_ea (hw_gE G)) t4), (5, .int l5), (6, .int l6)] [.int k0, .int k1, hw_rv (hw_ea (hw_gE G)) k2] s0 := by
  unfold B_X0_gives_97
  refine hw_iast C T_k2 rfl dX0_gives_97 (fun h20 s19 => ?_)
  refine hw_goto C dX0_gives_98 (tgt := 170) (by decide) ?_
  exact hw_lv [0, 1, 2, 3, 4, 5, 6] rfl (KB_X0_gives_170 C hTL w6 H_w6 t0 l1 l2 l3 t4 l5 l6 s19 T0 T4)
set_option maxRecDepth 20000 in
theorem KB_X0_gives_131 {G : hw_G} (C : hw_Ok G cX0_gives RX0 9 2 (some .int) hw_TH) (hTL : hw_eT (hw_gE G) = hw_TH) (w6 : Nat → Int32 → Int32 → Int32 → Nat → Int32 → Int32 → hw_St → Option (Int32 × hw_St)) (H_w6 : ∀ (t0 : Nat) (l1 : Int32) (l2 : Int32) (l3 : Int32) (t4 : Nat) (l5 : Int32) (l6 : Int32) (s0 : hw_St) (T0 : hw_T hw_TH t0 0) (T4 : hw_T hw_TH t4 10), hw_K G 9 hw_ri (w6 t0 l1 l2 l3 t4 l5 l6 s0) 6 [(0, hw_rv (hw_ea (hw_gE G)) t0), (1, .int l1), (2, .int l2), (3, .int l3), (4, hw_rv (hw_ea (hw_gE G)) t4), (5, .int l5), (6, .int l6)] [] s0) (t0 : Nat) (l1 : Int32) (l2 : Int32) (l3 : Int32) (t4 : Nat) (l5 : Int32) (l6 : Int32) (k0 : Int32) (k1 : Int32) (k2 : Nat) (s0 : hw_St) (T0 : hw_T hw_TH t0 0) (T4 : hw_T hw_TH t4 10) (T_k2 : hw_T hw_TH k2 10) : hw_K G 9 hw_ri (B_X0_gives_131 w6 t0 l1 l2 l3 t4 l5 l6 k0 k1 k2 s0) 131 [(0, hw_rv (hw_ea (hw_gE G)) t0), (1, .int l1), (2, .int l2), (3, .int l3), (4, hw_rv (hw_ea (hw_gE G)) t4), (5, .int l5), (6, .int l6)] [.int k0, .int k1, hw_rv (hw_ea (hw_gE G)) k2] s0 := by
  unfold B_X0_gives_131
  refine hw_iast C T_k2 rfl dX0_gives_131 (fun h29 s28 => ?_)
  refine hw_goto C dX0_gives_132 (tgt := 170) (by decide) ?_
  exact hw_lv [0, 1, 2, 3, 4, 5, 6] rfl (KB_X0_gives_170 C hTL w6 H_w6 t0 l1 l2 l3 t4 l5 l6 s28 T0 T4)
set_option maxRecDepth 20000 in
theorem KB_X0_gives_135 {G : hw_G} (C : hw_Ok G cX0_gives RX0 9 2 (some .int) hw_TH) (hTL : hw_eT (hw_gE G) = hw_TH) (w6 : Nat → Int32 → Int32 → Int32 → Nat → Int32 → Int32 → hw_St → Option (Int32 × hw_St)) (H_w6 : ∀ (t0 : Nat) (l1 : Int32) (l2 : Int32) (l3 : Int32) (t4 : Nat) (l5 : Int32) (l6 : Int32) (s0 : hw_St) (T0 : hw_T hw_TH t0 0) (T4 : hw_T hw_TH t4 10), hw_K G 9 hw_ri (w6 t0 l1 l2 l3 t4 l5 l6 s0) 6 [(0, hw_rv (hw_ea (hw_gE G)) t0), (1, .int l1), (2, .int l2), (3, .int l3), (4, hw_rv (hw_ea (hw_gE G)) t4), (5, .int l5), (6, .int l6)] [] s0) (t0 : Nat) (l1 : Int32) (l2 : Int32) (l3 : Int32) (t4 : Nat) (l5 : Int32) (l6 : Int32) (l7 : Int32) (s0 : hw_St) (T0 : hw_T hw_TH t0 0) (T4 : hw_T hw_TH t4 10) : hw_K G 9 hw_ri (B_X0_gives_135 w6 t0 l1 l2 l3 t4 l5 l6 l7 s0) 135 [(0, hw_rv (hw_ea (hw_gE G)) t0), (1, .int l1), (2, .int l2), (3, .int l3), (4, hw_rv (hw_ea (hw_gE G)) t4), (5, .int l5), (6, .int l6), (7, .int l7)] [] s0 := by
  unfold B_X0_gives_135
  refine hw_iload C dX0_gives_135 5 rfl ?_
  refine hw_iconst C dX0_gives_137 (v := 1) (by decide) ?_
  refine hw_icmp_lt C dX0_gives_138 (tgt := 170) (by decide) (fun c21 => ?_) (fun c21 => ?_)
  · exact hw_lv [0, 1, 2, 3, 4, 5, 6] rfl (KB_X0_gives_170 C hTL w6 H_w6 t0 l1 l2 l3 t4 l5 l6 s0 T0 T4)
  · refine hw_iinc C dX0_gives_141 5 rfl (v := -1) (by decide) (by decide) rfl ?_
    refine hw_aload C dX0_gives_144 5 rfl ?_
    refine hw_iload C dX0_gives_146 0 rfl ?_
    refine hw_iload C dX0_gives_148 7 rfl ?_
    refine hw_sipush C dX0_gives_150 (v := 20000) (by decide) ?_
    refine hw_isub C dX0_gives_153 ?_
    refine hw_aload C dX0_gives_154 5 rfl ?_
    refine hw_iload C dX0_gives_156 0 rfl ?_
    refine hw_iald C T4 rfl dX0_gives_158 (fun h22 => ?_)
    refine hw_aload C dX0_gives_159 5 rfl ?_
    refine hw_iload C dX0_gives_161 0 rfl ?_
    refine hw_iconst C dX0_gives_163 (v := 1) (by decide) ?_
    refine hw_iadd C dX0_gives_164 ?_
    refine hw_iald C T4 rfl dX0_gives_165 (fun h23 => ?_)
    refine hw_callSi C (M_X0_joined (hw_gE G) hTL (l7 - (20000 : Int32)) (s0 t4 (l5 + -1).toNatClampNeg) (s0 t4 ((l5 + -1) + (1 : Int32)).toNatClampNeg) s0) W_X0_joined SS_X0_joined mw_369 (by decide) rfl ⟨rfl, hw_l8 rfl⟩ dX0_gives_166 (fun r24 s25 => ?_)
    refine hw_iast C T4 rfl dX0_gives_169 (fun h27 s26 => ?_)
    exact hw_lv [1, 2, 3, 4, 5, 0, 6] rfl (KB_X0_gives_170 C hTL w6 H_w6 t0 l1 l2 l3 t4 (l5 + -1) l6 s26 T0 T4)
set_option maxRecDepth 20000 in
theorem KB_X0_gives_101 {G : hw_G} (C : hw_Ok G cX0_gives RX0 9 2 (some .int) hw_TH) (hTL : hw_eT (hw_gE G) = hw_TH) (w6 : Nat → Int32 → Int32 → Int32 → Nat → Int32 → Int32 → hw_St → Option (Int32 × hw_St)) (H_w6 : ∀ (t0 : Nat) (l1 : Int32) (l2 : Int32) (l3 : Int32) (t4 : Nat) (l5 : Int32) (l6 : Int32) (s0 : hw_St) (T0 : hw_T hw_TH t0 0) (T4 : hw_T hw_TH t4 10), hw_K G 9 hw_ri (w6 t0 l1 l2 l3 t4 l5 l6 s0) 6 [(0, hw_rv (hw_ea (hw_gE G)) t0), (1, .int l1), (2, .int l2), (3, .int l3), (4, hw_rv (hw_ea (hw_gE G)) t4), (5, .int l5), (6, .int l6)] [] s0) (t0 : Nat) (l1 : Int32) (l2 : Int32) (l3 : Int32) (t4 : Nat) (l5 : Int32) (l6 : Int32) (l7 : Int32) (s0 : hw_St) (T0 : hw_T hw_TH t0 0) (T4 : hw_T hw_TH t4 10) : hw_K G 9 hw_ri (B_X0_gives_101 w6 t0 l1 l2 l3 t4 l5 l6 l7 s0) 101 [(0, hw_rv (hw_ea (hw_gE G)) t0), (1, .int l1), (2, .int l2), (3, .int l3), (4, hw_rv (hw_ea (hw_gE G)) t4), (5, .int l5), (6, .int l6), (7, .int l7)] [] s0 := by
  unfold B_X0_gives_101
  refine hw_iload C dX0_gives_101 7 rfl ?_
  refine hw_sipush C dX0_gives_103 (v := 20033) (by decide) ?_
  refine hw_icmp_ne C dX0_gives_106 (tgt := 135) (by decide) (fun c15 => ?_) (fun c15 => ?_)
  · exact hw_lv [0, 1, 2, 3, 4, 5, 6, 7] rfl (KB_X0_gives_135 C hTL w6 H_w6 t0 l1 l2 l3 t4 l5 l6 l7 s0 T0 T4)
  · refine hw_iload C dX0_gives_109 5 rfl ?_
    refine hw_if_lt C dX0_gives_111 (tgt := 135) (by decide) (fun c16 => ?_) (fun c16 => ?_)
    · exact hw_lv [0, 1, 2, 3, 4, 5, 6, 7] rfl (KB_X0_gives_135 C hTL w6 H_w6 t0 l1 l2 l3 t4 l5 l6 l7 s0 T0 T4)
    · refine hw_aload C dX0_gives_114 4 rfl ?_
      refine hw_iload C dX0_gives_116 5 rfl ?_
      refine hw_aload C dX0_gives_118 4 rfl ?_
      refine hw_iload C dX0_gives_120 5 rfl ?_
      refine hw_iald C T4 rfl dX0_gives_122 (fun h17 => ?_)
      refine hw_if_ne C dX0_gives_123 (tgt := 130) (by decide) (fun c18 => ?_) (fun c18 => ?_)
      · refine hw_iconst C dX0_gives_130 (v := 0) (by decide) ?_
        exact hw_lv [0, 1, 2, 3, 4, 5, 6] rfl (KB_X0_gives_131 C hTL w6 H_w6 t0 l1 l2 l3 t4 l5 l6 (0 : Int32) l5 t4 s0 T0 T4 T4)
      · refine hw_iconst C dX0_gives_126 (v := 1) (by decide) ?_
        refine hw_goto C dX0_gives_127 (tgt := 131) (by decide) ?_
        exact hw_lv [0, 1, 2, 3, 4, 5, 6] rfl (KB_X0_gives_131 C hTL w6 H_w6 t0 l1 l2 l3 t4 l5 l6 (1 : Int32) l5 t4 s0 T0 T4 T4)
set_option maxRecDepth 20000 in
theorem KB_X0_gives_176 {G : hw_G} (C : hw_Ok G cX0_gives RX0 9 2 (some .int) hw_TH) (hTL : hw_eT (hw_gE G) = hw_TH) (t4 : Nat) (l5 : Int32) (s0 : hw_St) (T4 : hw_T hw_TH t4 10) : hw_K G 9 hw_ri (B_X0_gives_176 t4 l5 s0) 176 [(4, hw_rv (hw_ea (hw_gE G)) t4), (5, .int l5)] [] s0 := by
  unfold B_X0_gives_176
  refine hw_iload C dX0_gives_176 1 rfl ?_
  refine hw_if_ne C dX0_gives_178 (tgt := 188) (by decide) (fun c13 => ?_) (fun c13 => ?_)
  · refine hw_iconst C dX0_gives_188 (v := 0) (by decide) ?_
    exact hw_iret C dX0_gives_189
  · refine hw_aload C dX0_gives_181 0 rfl ?_
    refine hw_iconst C dX0_gives_183 (v := 0) (by decide) ?_
    refine hw_iald C T4 rfl dX0_gives_184 (fun h14 => ?_)
    refine hw_goto C dX0_gives_185 (tgt := 189) (by decide) ?_
    exact hw_iret C dX0_gives_189
set_option maxRecDepth 20000 in
theorem KS_X0_gives_6 {G : hw_G} (C : hw_Ok G cX0_gives RX0 9 2 (some .int) hw_TH) (hTL : hw_eT (hw_gE G) = hw_TH) (w6 : Nat → Int32 → Int32 → Int32 → Nat → Int32 → Int32 → hw_St → Option (Int32 × hw_St)) (H_w6 : ∀ (t0 : Nat) (l1 : Int32) (l2 : Int32) (l3 : Int32) (t4 : Nat) (l5 : Int32) (l6 : Int32) (s0 : hw_St) (T0 : hw_T hw_TH t0 0) (T4 : hw_T hw_TH t4 10), hw_K G 9 hw_ri (w6 t0 l1 l2 l3 t4 l5 l6 s0) 6 [(0, hw_rv (hw_ea (hw_gE G)) t0), (1, .int l1), (2, .int l2), (3, .int l3), (4, hw_rv (hw_ea (hw_gE G)) t4), (5, .int l5), (6, .int l6)] [] s0) (t0 : Nat) (l1 : Int32) (l2 : Int32) (l3 : Int32) (t4 : Nat) (l5 : Int32) (l6 : Int32) (s0 : hw_St) (T0 : hw_T hw_TH t0 0) (T4 : hw_T hw_TH t4 10) : hw_K G 9 hw_ri (S_X0_gives_6 w6 t0 l1 l2 l3 t4 l5 l6 s0) 6 [(0, hw_rv (hw_ea (hw_gE G)) t0), (1, .int l1), (2, .int l2), (3, .int l3), (4, hw_rv (hw_ea (hw_gE G)) t4), (5, .int l5), (6, .int l6)] [] s0 := by
  unfold S_X0_gives_6
  refine hw_iload C dX0_gives_6 6 rfl ?_
  refine hw_aload_n C dX0_gives_8 rfl 0 rfl ?_
  refine hw_getI C cf_X0 lf_X0_22 T0 dX0_gives_9 ?_
  refine hw_icmp_ge C dX0_gives_12 (tgt := 176) (by decide) (fun c1 => ?_) (fun c1 => ?_)
  · exact hw_lv [4, 5] rfl (KB_X0_gives_176 C hTL t4 l5 s0 T4)
  · refine hw_iload C dX0_gives_15 6 rfl ?_
    refine hw_aload_n C dX0_gives_17 rfl 0 rfl ?_
    refine hw_getR C cf_X0 lf_X0_11 T0 rfl dX0_gives_18 ?_
    refine hw_gdK (fun h3 => ?_)
    have T_2 := hw_gH_T h3
    refine hw_alen 0 C T_2 (by decide) (fun _ => rfl) rfl dX0_gives_21 ?_
    refine hw_icmp_ge C dX0_gives_22 (tgt := 176) (by decide) (fun c4 => ?_) (fun c4 => ?_)
    · exact hw_lv [4, 5] rfl (KB_X0_gives_176 C hTL t4 l5 s0 T4)
    · refine hw_aload_n C dX0_gives_25 rfl 0 rfl ?_
      refine hw_getR C cf_X0 lf_X0_11 T0 rfl dX0_gives_26 ?_
      refine hw_iload C dX0_gives_29 6 rfl ?_
      refine hw_iald C T_2 rfl dX0_gives_31 (fun h5 => ?_)
      refine hw_istoreN C dX0_gives_32 (by decide) (fun _ => rfl) (fun x6 => ?_)
      refine hw_iload C dX0_gives_34 0 rfl ?_
      refine hw_sipush C dX0_gives_36 (v := 20000) (by decide) ?_
      refine hw_icmp_ge C dX0_gives_39 (tgt := 101) (by decide) (fun c7 => ?_) (fun c7 => ?_)
      · exact hw_lv [1, 2, 3, 4, 5, 6, 7, 0] rfl (KB_X0_gives_101 C hTL w6 H_w6 t0 l1 l2 l3 t4 l5 l6 x6 s0 T0 T4)
      · refine hw_iload C dX0_gives_42 6 rfl ?_
        refine hw_iconst C dX0_gives_44 (v := 1) (by decide) ?_
        refine hw_iadd C dX0_gives_45 ?_
        refine hw_aload C dX0_gives_46 5 rfl ?_
        refine hw_alen 0 C T4 (by decide) (fun _ => rfl) rfl dX0_gives_48 ?_
        refine hw_icmp_ge C dX0_gives_49 (tgt := 101) (by decide) (fun c8 => ?_) (fun c8 => ?_)
        · exact hw_lv [1, 2, 3, 4, 5, 6, 7, 0] rfl (KB_X0_gives_101 C hTL w6 H_w6 t0 l1 l2 l3 t4 l5 l6 x6 s0 T0 T4)
        · refine hw_iload C dX0_gives_52 0 rfl ?_
          refine hw_sipush C dX0_gives_54 (v := 10000) (by decide) ?_
          refine hw_isub C dX0_gives_57 ?_
          refine hw_istoreN C dX0_gives_58 (by decide) (fun _ => rfl) (fun x9 => ?_)
          refine hw_iinc C dX0_gives_60 7 rfl (v := 1) (by decide) (by decide) rfl ?_
          refine hw_aload C dX0_gives_63 7 rfl ?_
          refine hw_iload C dX0_gives_65 0 rfl ?_
          refine hw_iload C dX0_gives_67 1 rfl ?_
          refine hw_if_ge C dX0_gives_69 (tgt := 77) (by decide) (fun c10 => ?_) (fun c10 => ?_)
          · refine hw_iload C dX0_gives_77 1 rfl ?_
            refine hw_if_ne C dX0_gives_79 (tgt := 86) (by decide) (fun c11 => ?_) (fun c11 => ?_)
            · refine hw_iload C dX0_gives_86 1 rfl ?_
              refine hw_iconst C dX0_gives_88 (v := 1) (by decide) ?_
              refine hw_icmp_ne C dX0_gives_89 (tgt := 96) (by decide) (fun c12 => ?_) (fun c12 => ?_)
              · refine hw_iload_n C dX0_gives_96 rfl 6 rfl ?_
                exact hw_lv [3, 4, 5, 6, 7, 0, 8] rfl (KB_X0_gives_97 C hTL w6 H_w6 t0 l1 l2 l3 t4 (l5 + 1) l6 l3 (l5 + 1) t4 s0 T0 T4 T4)
              · refine hw_iload_n C dX0_gives_92 rfl 5 rfl ?_
                refine hw_goto C dX0_gives_93 (tgt := 97) (by decide) ?_
                exact hw_lv [3, 4, 5, 6, 7, 0, 8] rfl (KB_X0_gives_97 C hTL w6 H_w6 t0 l1 l2 l3 t4 (l5 + 1) l6 l2 (l5 + 1) t4 s0 T0 T4 T4)
            · refine hw_iload_n C dX0_gives_82 rfl 4 rfl ?_
              refine hw_goto C dX0_gives_83 (tgt := 97) (by decide) ?_
              exact hw_lv [3, 4, 5, 6, 7, 0, 8] rfl (KB_X0_gives_97 C hTL w6 H_w6 t0 l1 l2 l3 t4 (l5 + 1) l6 l1 (l5 + 1) t4 s0 T0 T4 T4)
          · refine hw_iload C dX0_gives_72 2 rfl ?_
            refine hw_goto C dX0_gives_74 (tgt := 97) (by decide) ?_
            exact hw_lv [3, 4, 5, 6, 7, 0, 8] rfl (KB_X0_gives_97 C hTL w6 H_w6 t0 l1 l2 l3 t4 (l5 + 1) l6 x6 (l5 + 1) t4 s0 T0 T4 T4)
theorem KL_X0_gives_6 {G : hw_G} (C : hw_Ok G cX0_gives RX0 9 2 (some .int) hw_TH) (hTL : hw_eT (hw_gE G) = hw_TH) : ∀ (n_ : Nat) (t0 : Nat) (l1 : Int32) (l2 : Int32) (l3 : Int32) (t4 : Nat) (l5 : Int32) (l6 : Int32) (s0 : hw_St) (T0 : hw_T hw_TH t0 0) (T4 : hw_T hw_TH t4 10), hw_K G 9 hw_ri (L_X0_gives_6 n_ t0 l1 l2 l3 t4 l5 l6 s0) 6 [(0, hw_rv (hw_ea (hw_gE G)) t0), (1, .int l1), (2, .int l2), (3, .int l3), (4, hw_rv (hw_ea (hw_gE G)) t4), (5, .int l5), (6, .int l6)] [] s0 := by
  intro n_
  induction n_ with
  | zero => intros; exact hw_nil
  | succ n_ ih => intro t0 l1 l2 l3 t4 l5 l6 s0 T0 T4; exact KS_X0_gives_6 C hTL (L_X0_gives_6 n_) ih t0 l1 l2 l3 t4 l5 l6 s0 T0 T4
set_option maxRecDepth 20000 in
theorem M_X0_gives (E : hw_E) (hE : hw_eT E = hw_TH) (t0 : Nat) (a1 : Int32) (a2 : Int32) (a3 : Int32) (t4 : Nat) (s0 : hw_St) : hw_M E yX0_gives cX0_gives 9 (some .int) 2 [hw_rv (hw_ea E) t0, .int a1, .int a2, .int a3, hw_rv (hw_ea E) t4] s0 hw_ri (F_X0_gives t0 a1 a2 a3 t4 s0) := by
  refine hw_entry (own := RX0) (TL := hw_TH) (by decide) rfl hE (hw_cR (hw_cI (hw_cI (hw_cI (hw_cR hw_cN))))) (hw_l8 rfl) (fun G hG C => ?_)
  subst hG
  have hTL := hE
  show hw_K G 9 hw_ri _ 0 [(0, hw_rv (hw_ea (hw_gE G)) t0), (1, .int a1), (2, .int a2), (3, .int a3), (4, hw_rv (hw_ea (hw_gE G)) t4)] [] s0
  unfold F_X0_gives
  refine hw_gdK (fun h_T0 => ?_)
  have T0 := hw_gH_T h_T0
  refine hw_gdK (fun h_T4 => ?_)
  have T4 := hw_gH_T h_T4
  refine hw_iconst C dX0_gives_0 (v := -1) (by decide) ?_
  refine hw_istore C dX0_gives_1 (by decide) rfl ?_
  refine hw_iconst C dX0_gives_3 (v := 0) (by decide) ?_
  refine hw_istore C dX0_gives_4 (by decide) rfl ?_
  exact hw_lv [2, 3, 4, 5, 6, 1, 0] rfl (KL_X0_gives_6 C hTL 130 t0 a1 a2 a3 t4 (-1 : Int32) (0 : Int32) s0 T0 T4)
