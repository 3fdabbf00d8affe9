/-! HumWireModel in(III)Z, level 1 -/
def F_X7_in  (a0 : Int32) (a1 : Int32) (a2 : Int32) (s0 : hw_St) : Option (Int32 × hw_St) := if a0 < a1 then (some ((0 : Int32), s0)) else (if a2 < a0 then (some ((0 : Int32), s0)) else (some ((1 : Int32), s0)))
set_option maxRecDepth 20000 in
theorem M_X7_in (E : hw_E) (hE : hw_eT E = hw_TM) (a0 : Int32) (a1 : Int32) (a2 : Int32) (s0 : hw_St) : hw_M E yX7_in cX7_in 3 (some .boolean) 1 [.int a0, .int a1, .int a2] s0 hw_ri (F_X7_in a0 a1 a2 s0) := by
  refine hw_entry (own := RX7) (TL := hw_TM) (by decide) rfl hE (hw_cI (hw_cI (hw_cI hw_cN))) (hw_l8 rfl) (fun G hG C => ?_)
  subst hG
  have hTL := hE
  show hw_K G 3 hw_ri _ 0 [(0, .int a0), (1, .int a1), (2, .int a2)] [] s0
  unfold F_X7_in
  refine hw_iload_n C dX7_in_0 rfl 0 rfl ?_
  refine hw_iload_n C dX7_in_1 rfl 1 rfl ?_
  refine hw_icmp_lt C dX7_in_2 (tgt := 14) (by decide) (fun c1 => ?_) (fun c1 => ?_)
  · refine hw_iconst C dX7_in_14 (v := 0) (by decide) ?_
    exact hw_zret1 C (by decide) dX7_in_15
  · refine hw_iload_n C dX7_in_5 rfl 0 rfl ?_
    refine hw_iload_n C dX7_in_6 rfl 2 rfl ?_
    refine hw_icmp_gt C dX7_in_7 (tgt := 14) (by decide) (fun c2 => ?_) (fun c2 => ?_)
    · refine hw_iconst C dX7_in_14 (v := 0) (by decide) ?_
      exact hw_zret1 C (by decide) dX7_in_15
    · refine hw_iconst C dX7_in_10 (v := 1) (by decide) ?_
      refine hw_goto C dX7_in_11 (tgt := 15) (by decide) ?_
      exact hw_zret1 C (by decide) dX7_in_15
/-! HumWireModel within(III)I, level 1 -/
def F_X7_within  (a0 : Int32) (a1 : Int32) (a2 : Int32) (s0 : hw_St) : Option (Int32 × hw_St) := if a1 ≤ a0 then (if a0 ≤ a2 then (some (a0, s0)) else (some (a2, s0))) else (some (a1, s0))
set_option maxRecDepth 20000 in
theorem M_X7_within (E : hw_E) (hE : hw_eT E = hw_TM) (a0 : Int32) (a1 : Int32) (a2 : Int32) (s0 : hw_St) : hw_M E yX7_within cX7_within 3 (some .int) 1 [.int a0, .int a1, .int a2] s0 hw_ri (F_X7_within a0 a1 a2 s0) := by
  refine hw_entry (own := RX7) (TL := hw_TM) (by decide) rfl hE (hw_cI (hw_cI (hw_cI hw_cN))) (hw_l8 rfl) (fun G hG C => ?_)
  subst hG
  have hTL := hE
  show hw_K G 3 hw_ri _ 0 [(0, .int a0), (1, .int a1), (2, .int a2)] [] s0
  unfold F_X7_within
  refine hw_iload_n C dX7_within_0 rfl 0 rfl ?_
  refine hw_iload_n C dX7_within_1 rfl 1 rfl ?_
  refine hw_icmp_ge C dX7_within_2 (tgt := 9) (by decide) (fun c1 => ?_) (fun c1 => ?_)
  · refine hw_iload_n C dX7_within_9 rfl 0 rfl ?_
    refine hw_iload_n C dX7_within_10 rfl 2 rfl ?_
    refine hw_icmp_le C dX7_within_11 (tgt := 18) (by decide) (fun c2 => ?_) (fun c2 => ?_)
    · refine hw_iload_n C dX7_within_18 rfl 0 rfl ?_
      exact hw_iret C dX7_within_19
    · refine hw_iload_n C dX7_within_14 rfl 2 rfl ?_
      refine hw_goto C dX7_within_15 (tgt := 19) (by decide) ?_
      exact hw_iret C dX7_within_19
  · refine hw_iload_n C dX7_within_5 rfl 1 rfl ?_
    refine hw_goto C dX7_within_6 (tgt := 19) (by decide) ?_
    exact hw_iret C dX7_within_19
/-! HumWireModel copyAll([I[I)V, level 1 -/
def S_X7_copyAll_2  (w2 : Nat → Nat → Int32 → hw_St → Option (Unit × hw_St)) (t0 : Nat) (t1 : Nat) (l2 : Int32) (s0 : hw_St) : Option (Unit × hw_St) := if (1443 : Int32) ≤ l2 then (some ((), s0)) else (hw_gd (hw_inb l2 (hw_ln t0)) (hw_gd (hw_inb l2 (hw_ln t1)) (hw_nm (hw_up s0 t1 l2.toNatClampNeg (s0 t0 l2.toNatClampNeg)) (fun s3 => w2 t0 t1 (l2 + 1) s3))))
def L_X7_copyAll_2  : Nat → Nat → Nat → Int32 → hw_St → Option (Unit × hw_St)
  | 0 => fun _ _ _ _ => none
  | n + 1 => S_X7_copyAll_2  (L_X7_copyAll_2  n)
def F_X7_copyAll  (t0 : Nat) (t1 : Nat) (s0 : hw_St) : Option (Unit × hw_St) := hw_gd (hw_gM t0 10) (hw_gd (hw_gM t1 10) (L_X7_copyAll_2 1500 t0 t1 (0 : Int32) s0))
set_option maxRecDepth 20000 in
theorem KS_X7_copyAll_2 {G : hw_G} (C : hw_Ok G cX7_copyAll RX7 3 1 none hw_TM) (hTL : hw_eT (hw_gE G) = hw_TM) (w2 : Nat → Nat → Int32 → hw_St → Option (Unit × hw_St)) (H_w2 : ∀ (t0 : Nat) (t1 : Nat) (l2 : Int32) (s0 : hw_St) (T0 : hw_T hw_TM t0 10) (T1 : hw_T hw_TM t1 10), hw_K G 3 hw_r0 (w2 t0 t1 l2 s0) 2 [(0, hw_rv (hw_ea (hw_gE G)) t0), (1, hw_rv (hw_ea (hw_gE G)) t1), (2, .int l2)] [] s0) (t0 : Nat) (t1 : Nat) (l2 : Int32) (s0 : hw_St) (T0 : hw_T hw_TM t0 10) (T1 : hw_T hw_TM t1 10) : hw_K G 3 hw_r0 (S_X7_copyAll_2 w2 t0 t1 l2 s0) 2 [(0, hw_rv (hw_ea (hw_gE G)) t0), (1, hw_rv (hw_ea (hw_gE G)) t1), (2, .int l2)] [] s0 := by
  unfold S_X7_copyAll_2
  refine hw_iload_n C dX7_copyAll_2 rfl 2 rfl ?_
  refine hw_sipush C dX7_copyAll_3 (v := 1443) (by decide) ?_
  refine hw_icmp_ge C dX7_copyAll_6 (tgt := 21) (by decide) (fun c1 => ?_) (fun c1 => ?_)
  · exact hw_vret C dX7_copyAll_21
  · refine hw_aload_n C dX7_copyAll_9 rfl 1 rfl ?_
    refine hw_iload_n C dX7_copyAll_10 rfl 2 rfl ?_
    refine hw_aload_n C dX7_copyAll_11 rfl 0 rfl ?_
    refine hw_iload_n C dX7_copyAll_12 rfl 2 rfl ?_
    refine hw_iald C T0 rfl dX7_copyAll_13 (fun h2 => ?_)
    refine hw_iast C T1 rfl dX7_copyAll_14 (fun h4 s3 => ?_)
    refine hw_iinc C dX7_copyAll_15 2 rfl (v := 1) (by decide) (by decide) rfl ?_
    refine hw_goto C dX7_copyAll_18 (tgt := 2) (by decide) ?_
    exact hw_lv [1, 2, 0] rfl (H_w2 t0 t1 (l2 + 1) s3 T0 T1)
theorem KL_X7_copyAll_2 {G : hw_G} (C : hw_Ok G cX7_copyAll RX7 3 1 none hw_TM) (hTL : hw_eT (hw_gE G) = hw_TM) : ∀ (n_ : Nat) (t0 : Nat) (t1 : Nat) (l2 : Int32) (s0 : hw_St) (T0 : hw_T hw_TM t0 10) (T1 : hw_T hw_TM t1 10), hw_K G 3 hw_r0 (L_X7_copyAll_2 n_ t0 t1 l2 s0) 2 [(0, hw_rv (hw_ea (hw_gE G)) t0), (1, hw_rv (hw_ea (hw_gE G)) t1), (2, .int l2)] [] s0 := by
  intro n_
  induction n_ with
  | zero => intros; exact hw_nil
  | succ n_ ih => intro t0 t1 l2 s0 T0 T1; exact KS_X7_copyAll_2 C hTL (L_X7_copyAll_2 n_) ih t0 t1 l2 s0 T0 T1
set_option maxRecDepth 20000 in
theorem M_X7_copyAll (E : hw_E) (hE : hw_eT E = hw_TM) (t0 : Nat) (t1 : Nat) (s0 : hw_St) : hw_M E yX7_copyAll cX7_copyAll 3 none 1 [hw_rv (hw_ea E) t0, hw_rv (hw_ea E) t1] s0 hw_r0 (F_X7_copyAll t0 t1 s0) := by
  refine hw_entry (own := RX7) (TL := hw_TM) (by decide) rfl hE (hw_cR (hw_cR hw_cN)) (hw_l8 rfl) (fun G hG C => ?_)
  subst hG
  have hTL := hE
  show hw_K G 3 hw_r0 _ 0 [(0, hw_rv (hw_ea (hw_gE G)) t0), (1, hw_rv (hw_ea (hw_gE G)) t1)] [] s0
  unfold F_X7_copyAll
  refine hw_gdK (fun h_T0 => ?_)
  have T0 := hw_gM_T h_T0
  refine hw_gdK (fun h_T1 => ?_)
  have T1 := hw_gM_T h_T1
  refine hw_iconst C dX7_copyAll_0 (v := 0) (by decide) ?_
  refine hw_istore_n C dX7_copyAll_1 rfl (by decide) rfl ?_
  exact hw_lv [1, 2, 0] rfl (KL_X7_copyAll_2 C hTL 1500 t0 t1 (0 : Int32) s0 T0 T1)
/-! HumWireModel isWire(I)Z, level 2 -/
def F_X7_isWire  (a1 : Int32) (s0 : hw_St) : Option (Int32 × hw_St) := hw_gd (hw_inb (1 : Int32) 1443) (hw_bd (F_X7_in a1 (0 : Int32) ((s0 201 (1 : Int32).toNatClampNeg) - (1 : Int32)) s0) (fun r2 s3 => hw_gd (hw_isb r2) (some (r2, s3))))
set_option maxRecDepth 20000 in
theorem M_X7_isWire (E : hw_E) (hE : hw_eT E = hw_TM) (a1 : Int32) (s0 : hw_St) : hw_M E yX7_isWire cX7_isWire 2 (some .boolean) 2 [hw_rv (hw_ea E) 200, .int a1] s0 hw_ri (F_X7_isWire a1 s0) := by
  refine hw_entry (own := RX7) (TL := hw_TM) (by decide) rfl hE (hw_cR (hw_cI hw_cN)) (hw_l8 rfl) (fun G hG C => ?_)
  subst hG
  have hTL := hE
  show hw_K G 2 hw_ri _ 0 [(0, hw_rv (hw_ea (hw_gE G)) 200), (1, .int a1)] [] s0
  unfold F_X7_isWire
  refine hw_iload_n C dX7_isWire_0 rfl 1 rfl ?_
  refine hw_iconst C dX7_isWire_1 (v := 0) (by decide) ?_
  refine hw_aload_n C dX7_isWire_2 rfl 0 rfl ?_
  refine hw_getR C cf_X7 lf_X7_9 hw_T200 (t2 := 201) (by decide) dX7_isWire_3 ?_
  refine hw_iconst C dX7_isWire_6 (v := 1) (by decide) ?_
  refine hw_iald C hw_T201 (by decide) dX7_isWire_7 (fun h1 => ?_)
  refine hw_iconst C dX7_isWire_8 (v := 1) (by decide) ?_
  refine hw_isub C dX7_isWire_9 ?_
  refine hw_callSi C (M_X7_in (hw_gE G) hTL a1 (0 : Int32) ((s0 201 (1 : Int32).toNatClampNeg) - (1 : Int32)) s0) W_X7_in SS_X7_in mw_157 (by decide) rfl ⟨rfl, hw_l8 rfl⟩ dX7_isWire_10 (fun r2 s3 => ?_)
  exact hw_zret C dX7_isWire_13
/-! HumWireModel isWind(I)Z, level 2 -/
def F_X7_isWind  (a0 : Int32) (s0 : hw_St) : Option (Int32 × hw_St) := hw_bd (F_X7_in a0 (0 : Int32) (99 : Int32) s0) (fun r1 s2 => hw_gd (hw_isb r1) (some (r1, s2)))
set_option maxRecDepth 20000 in
theorem M_X7_isWind (E : hw_E) (hE : hw_eT E = hw_TM) (a0 : Int32) (s0 : hw_St) : hw_M E yX7_isWind cX7_isWind 1 (some .boolean) 2 [.int a0] s0 hw_ri (F_X7_isWind a0 s0) := by
  refine hw_entry (own := RX7) (TL := hw_TM) (by decide) rfl hE (hw_cI hw_cN) (hw_l8 rfl) (fun G hG C => ?_)
  subst hG
  have hTL := hE
  show hw_K G 1 hw_ri _ 0 [(0, .int a0)] [] s0
  unfold F_X7_isWind
  refine hw_iload_n C dX7_isWind_0 rfl 0 rfl ?_
  refine hw_iconst C dX7_isWind_1 (v := 0) (by decide) ?_
  refine hw_bipush C dX7_isWind_2 (v := 99) (by decide) ?_
  refine hw_callSi C (M_X7_in (hw_gE G) hTL a0 (0 : Int32) (99 : Int32) s0) W_X7_in SS_X7_in mw_157 (by decide) rfl ⟨rfl, hw_l8 rfl⟩ dX7_isWind_4 (fun r1 s2 => ?_)
  exact hw_zret C dX7_isWind_7
/-! HumWireModel isHour(I)Z, level 2 -/
def F_X7_isHour  (a0 : Int32) (s0 : hw_St) : Option (Int32 × hw_St) := hw_bd (F_X7_in a0 (0 : Int32) (23 : Int32) s0) (fun r1 s2 => hw_gd (hw_isb r1) (some (r1, s2)))
set_option maxRecDepth 20000 in
theorem M_X7_isHour (E : hw_E) (hE : hw_eT E = hw_TM) (a0 : Int32) (s0 : hw_St) : hw_M E yX7_isHour cX7_isHour 1 (some .boolean) 2 [.int a0] s0 hw_ri (F_X7_isHour a0 s0) := by
  refine hw_entry (own := RX7) (TL := hw_TM) (by decide) rfl hE (hw_cI hw_cN) (hw_l8 rfl) (fun G hG C => ?_)
  subst hG
  have hTL := hE
  show hw_K G 1 hw_ri _ 0 [(0, .int a0)] [] s0
  unfold F_X7_isHour
  refine hw_iload_n C dX7_isHour_0 rfl 0 rfl ?_
  refine hw_iconst C dX7_isHour_1 (v := 0) (by decide) ?_
  refine hw_bipush C dX7_isHour_2 (v := 23) (by decide) ?_
  refine hw_callSi C (M_X7_in (hw_gE G) hTL a0 (0 : Int32) (23 : Int32) s0) W_X7_in SS_X7_in mw_157 (by decide) rfl ⟨rfl, hw_l8 rfl⟩ dX7_isHour_4 (fun r1 s2 => ?_)
  exact hw_zret C dX7_isHour_7
/-! HumWireModel of(II)I, level 1 -/
def F_X7_of  (a1 : Int32) (a2 : Int32) (s0 : hw_St) : Option (Int32 × hw_St) := hw_gd (hw_inb (((29 : Int32) + ((7 : Int32) * a1)) + a2) 1443) (some ((s0 201 (((29 : Int32) + ((7 : Int32) * a1)) + a2).toNatClampNeg), s0))
set_option maxRecDepth 20000 in
theorem M_X7_of (E : hw_E) (hE : hw_eT E = hw_TM) (a1 : Int32) (a2 : Int32) (s0 : hw_St) : hw_M E yX7_of cX7_of 3 (some .int) 1 [hw_rv (hw_ea E) 200, .int a1, .int a2] s0 hw_ri (F_X7_of a1 a2 s0) := by
  refine hw_entry (own := RX7) (TL := hw_TM) (by decide) rfl hE (hw_cR (hw_cI (hw_cI hw_cN))) (hw_l8 rfl) (fun G hG C => ?_)
  subst hG
  have hTL := hE
  show hw_K G 3 hw_ri _ 0 [(0, hw_rv (hw_ea (hw_gE G)) 200), (1, .int a1), (2, .int a2)] [] s0
  unfold F_X7_of
  refine hw_aload_n C dX7_of_0 rfl 0 rfl ?_
  refine hw_getR C cf_X7 lf_X7_9 hw_T200 (t2 := 201) (by decide) dX7_of_1 ?_
  refine hw_bipush C dX7_of_4 (v := 29) (by decide) ?_
  refine hw_bipush C dX7_of_6 (v := 7) (by decide) ?_
  refine hw_iload_n C dX7_of_8 rfl 1 rfl ?_
  refine hw_imul C dX7_of_9 ?_
  refine hw_iadd C dX7_of_10 ?_
  refine hw_iload_n C dX7_of_11 rfl 2 rfl ?_
  refine hw_iadd C dX7_of_12 ?_
  refine hw_iald C hw_T201 (by decide) dX7_of_13 (fun h1 => ?_)
  exact hw_iret C dX7_of_14
/-! HumWireModel becomes(II)I, level 1 -/
def F_X7_becomes  (a1 : Int32) (a2 : Int32) (s0 : hw_St) : Option (Int32 × hw_St) := hw_gd (hw_inb a1 1443) (hw_nm (s0 201 a1.toNatClampNeg) (fun x2 => hw_gd (hw_inb a1 1443) (hw_nm (hw_up s0 201 a1.toNatClampNeg a2) (fun s3 => some (x2, s3)))))
set_option maxRecDepth 20000 in
theorem M_X7_becomes (E : hw_E) (hE : hw_eT E = hw_TM) (a1 : Int32) (a2 : Int32) (s0 : hw_St) : hw_M E yX7_becomes cX7_becomes 4 (some .int) 1 [hw_rv (hw_ea E) 200, .int a1, .int a2] s0 hw_ri (F_X7_becomes a1 a2 s0) := by
  refine hw_entry (own := RX7) (TL := hw_TM) (by decide) rfl hE (hw_cR (hw_cI (hw_cI hw_cN))) (hw_l8 rfl) (fun G hG C => ?_)
  subst hG
  have hTL := hE
  show hw_K G 4 hw_ri _ 0 [(0, hw_rv (hw_ea (hw_gE G)) 200), (1, .int a1), (2, .int a2)] [] s0
  unfold F_X7_becomes
  refine hw_aload_n C dX7_becomes_0 rfl 0 rfl ?_
  refine hw_getR C cf_X7 lf_X7_9 hw_T200 (t2 := 201) (by decide) dX7_becomes_1 ?_
  refine hw_iload_n C dX7_becomes_4 rfl 1 rfl ?_
  refine hw_iald C hw_T201 (by decide) dX7_becomes_5 (fun h1 => ?_)
  refine hw_istore_nN C dX7_becomes_6 rfl (by decide) (fun _ => rfl) (fun x2 => ?_)
  refine hw_aload_n C dX7_becomes_7 rfl 1 rfl ?_
  refine hw_getR C cf_X7 lf_X7_9 hw_T200 (t2 := 201) (by decide) dX7_becomes_8 ?_
  refine hw_iload_n C dX7_becomes_11 rfl 2 rfl ?_
  refine hw_iload_n C dX7_becomes_12 rfl 3 rfl ?_
  refine hw_iast C hw_T201 (by decide) dX7_becomes_13 (fun h4 s3 => ?_)
  refine hw_iload_n C dX7_becomes_14 rfl 0 rfl ?_
  exact hw_iret C dX7_becomes_15
/-! HumWireModel isPart(II)Z, level 2 -/
def B_X7_isPart_40  (k0 : Int32) (k1 : Int32) (k2 : Int32) (s0 : hw_St) : Option (Int32 × hw_St) := hw_bd (F_X7_in k2 k1 k0 s0) (fun r5 s6 => hw_gd (hw_isb r5) (some (r5, s6)))
def B_X7_isPart_21  (k0 : Int32) (k1 : Int32) (s0 : hw_St) : Option (Int32 × hw_St) := B_X7_isPart_40 (9 : Int32) k0 k1 s0
def B_X7_isPart_11  (l0 : Int32) (k0 : Int32) (k1 : Int32) (s0 : hw_St) : Option (Int32 × hw_St) := if l0 = (1 : Int32) then (B_X7_isPart_21 k0 k1 s0) else (if l0 = (3 : Int32) then (B_X7_isPart_21 k0 k1 s0) else (if l0 = (2 : Int32) then (B_X7_isPart_40 (999 : Int32) k0 k1 s0) else (B_X7_isPart_40 (9999 : Int32) k0 k1 s0)))
def F_X7_isPart  (a0 : Int32) (a1 : Int32) (s0 : hw_St) : Option (Int32 × hw_St) := if (3 : Int32) ≤ a0 then (B_X7_isPart_11 a0 (0 : Int32) a1 s0) else (B_X7_isPart_11 a0 (1 : Int32) a1 s0)
set_option maxRecDepth 20000 in
theorem KB_X7_isPart_40 {G : hw_G} (C : hw_Ok G cX7_isPart RX7 2 2 (some .boolean) hw_TM) (hTL : hw_eT (hw_gE G) = hw_TM) (k0 : Int32) (k1 : Int32) (k2 : Int32) (s0 : hw_St) : hw_K G 2 hw_ri (B_X7_isPart_40 k0 k1 k2 s0) 40 [] [.int k0, .int k1, .int k2] s0 := by
  unfold B_X7_isPart_40
  refine hw_callSi C (M_X7_in (hw_gE G) hTL k2 k1 k0 s0) W_X7_in SS_X7_in mw_157 (by decide) rfl ⟨rfl, hw_l8 rfl⟩ dX7_isPart_40 (fun r5 s6 => ?_)
  exact hw_zret C dX7_isPart_43
set_option maxRecDepth 20000 in
theorem KB_X7_isPart_21 {G : hw_G} (C : hw_Ok G cX7_isPart RX7 2 2 (some .boolean) hw_TM) (hTL : hw_eT (hw_gE G) = hw_TM) (k0 : Int32) (k1 : Int32) (s0 : hw_St) : hw_K G 2 hw_ri (B_X7_isPart_21 k0 k1 s0) 21 [] [.int k0, .int k1] s0 := by
  unfold B_X7_isPart_21
  refine hw_bipush C dX7_isPart_21 (v := 9) (by decide) ?_
  refine hw_goto C dX7_isPart_23 (tgt := 40) (by decide) ?_
  exact hw_lv [] rfl (KB_X7_isPart_40 C hTL (9 : Int32) k0 k1 s0)
set_option maxRecDepth 20000 in
theorem KB_X7_isPart_11 {G : hw_G} (C : hw_Ok G cX7_isPart RX7 2 2 (some .boolean) hw_TM) (hTL : hw_eT (hw_gE G) = hw_TM) (l0 : Int32) (k0 : Int32) (k1 : Int32) (s0 : hw_St) : hw_K G 2 hw_ri (B_X7_isPart_11 l0 k0 k1 s0) 11 [(0, .int l0)] [.int k0, .int k1] s0 := by
  unfold B_X7_isPart_11
  refine hw_iload_n C dX7_isPart_11 rfl 0 rfl ?_
  refine hw_iconst C dX7_isPart_12 (v := 1) (by decide) ?_
  refine hw_icmp_eq C dX7_isPart_13 (tgt := 21) (by decide) (fun c2 => ?_) (fun c2 => ?_)
  · exact hw_lv [] rfl (KB_X7_isPart_21 C hTL k0 k1 s0)
  · refine hw_iload_n C dX7_isPart_16 rfl 0 rfl ?_
    refine hw_iconst C dX7_isPart_17 (v := 3) (by decide) ?_
    refine hw_icmp_ne C dX7_isPart_18 (tgt := 26) (by decide) (fun c3 => ?_) (fun c3 => ?_)
    · refine hw_iload_n C dX7_isPart_26 rfl 0 rfl ?_
      refine hw_iconst C dX7_isPart_27 (v := 2) (by decide) ?_
      refine hw_icmp_ne C dX7_isPart_28 (tgt := 37) (by decide) (fun c4 => ?_) (fun c4 => ?_)
      · refine hw_sipush C dX7_isPart_37 (v := 9999) (by decide) ?_
        exact hw_lv [] rfl (KB_X7_isPart_40 C hTL (9999 : Int32) k0 k1 s0)
      · refine hw_sipush C dX7_isPart_31 (v := 999) (by decide) ?_
        refine hw_goto C dX7_isPart_34 (tgt := 40) (by decide) ?_
        exact hw_lv [] rfl (KB_X7_isPart_40 C hTL (999 : Int32) k0 k1 s0)
    · exact hw_lv [] rfl (KB_X7_isPart_21 C hTL k0 k1 s0)
set_option maxRecDepth 20000 in
theorem M_X7_isPart (E : hw_E) (hE : hw_eT E = hw_TM) (a0 : Int32) (a1 : Int32) (s0 : hw_St) : hw_M E yX7_isPart cX7_isPart 2 (some .boolean) 2 [.int a0, .int a1] s0 hw_ri (F_X7_isPart a0 a1 s0) := by
  refine hw_entry (own := RX7) (TL := hw_TM) (by decide) rfl hE (hw_cI (hw_cI hw_cN)) (hw_l8 rfl) (fun G hG C => ?_)
  subst hG
  have hTL := hE
  show hw_K G 2 hw_ri _ 0 [(0, .int a0), (1, .int a1)] [] s0
  unfold F_X7_isPart
  refine hw_iload_n C dX7_isPart_0 rfl 1 rfl ?_
  refine hw_iload_n C dX7_isPart_1 rfl 0 rfl ?_
  refine hw_iconst C dX7_isPart_2 (v := 3) (by decide) ?_
  refine hw_icmp_ge C dX7_isPart_3 (tgt := 10) (by decide) (fun c1 => ?_) (fun c1 => ?_)
  · refine hw_iconst C dX7_isPart_10 (v := 0) (by decide) ?_
    exact hw_lv [0] rfl (KB_X7_isPart_11 C hTL a0 (0 : Int32) a1 s0)
  · refine hw_iconst C dX7_isPart_6 (v := 1) (by decide) ?_
    refine hw_goto C dX7_isPart_7 (tgt := 11) (by decide) ?_
    exact hw_lv [0] rfl (KB_X7_isPart_11 C hTL a0 (1 : Int32) a1 s0)
/-! HumWireModel wire(III)I, level 3 -/
def F_X7_wire  (a1 : Int32) (a2 : Int32) (a3 : Int32) (s0 : hw_St) : Option (Int32 × hw_St) := hw_bd (F_X7_in a1 (0 : Int32) (5 : Int32) s0) (fun r1 s2 => if r1 = 0 then (some ((-1000000001 : Int32), s2)) else (hw_bd (F_X7_isPart (1 : Int32) a2 s2) (fun r4 s5 => if r4 = 0 then (some ((-1000000001 : Int32), s5)) else (hw_bd (F_X7_isPart (2 : Int32) a3 s5) (fun r7 s8 => if r7 = 0 then (some ((-1000000001 : Int32), s8)) else (hw_gd (hw_inb (1 : Int32) 1443) (if (s8 201 (1 : Int32).toNatClampNeg) = (6 : Int32) then (some ((-1000000003 : Int32), s8)) else (hw_gd (hw_inb (1 : Int32) 1443) (hw_nm ((29 : Int32) + ((7 : Int32) * (s8 201 (1 : Int32).toNatClampNeg))) (fun x13 => hw_gd (hw_inb x13 1443) (hw_nm (hw_up s8 201 x13.toNatClampNeg a1) (fun s14 => hw_gd (hw_inb (x13 + (1 : Int32)) 1443) (hw_nm (hw_up s14 201 (x13 + (1 : Int32)).toNatClampNeg a2) (fun s16 => hw_gd (hw_inb (x13 + (2 : Int32)) 1443) (hw_nm (hw_up s16 201 (x13 + (2 : Int32)).toNatClampNeg a3) (fun s18 => hw_gd (hw_inb (x13 + (3 : Int32)) 1443) (hw_nm (hw_up s18 201 (x13 + (3 : Int32)).toNatClampNeg (2 : Int32)) (fun s20 => hw_gd (hw_inb (x13 + (4 : Int32)) 1443) (hw_nm (hw_up s20 201 (x13 + (4 : Int32)).toNatClampNeg (0 : Int32)) (fun s22 => hw_gd (hw_inb (x13 + (5 : Int32)) 1443) (hw_nm (hw_up s22 201 (x13 + (5 : Int32)).toNatClampNeg (0 : Int32)) (fun s24 => hw_gd (hw_inb (x13 + (6 : Int32)) 1443) (hw_nm (hw_up s24 201 (x13 + (6 : Int32)).toNatClampNeg (0 : Int32)) (fun s26 => hw_gd (hw_inb (1 : Int32) 1443) (hw_gd (hw_inb (1 : Int32) 1443) (hw_nm (hw_up s26 201 (1 : Int32).toNatClampNeg ((s26 201 (1 : Int32).toNatClampNeg) + (1 : Int32))) (fun s29 => hw_gd (hw_inb (1 : Int32) 1443) (some (((s29 201 (1 : Int32).toNatClampNeg) - (1 : Int32)), s29)))))))))))))))))))))))))))))
set_option maxRecDepth 20000 in
theorem M_X7_wire (E : hw_E) (hE : hw_eT E = hw_TM) (a1 : Int32) (a2 : Int32) (a3 : Int32) (s0 : hw_St) : hw_M E yX7_wire cX7_wire 5 (some .int) 3 [hw_rv (hw_ea E) 200, .int a1, .int a2, .int a3] s0 hw_ri (F_X7_wire a1 a2 a3 s0) := by
  refine hw_entry (own := RX7) (TL := hw_TM) (by decide) rfl hE (hw_cR (hw_cI (hw_cI (hw_cI hw_cN)))) (hw_l8 rfl) (fun G hG C => ?_)
  subst hG
  have hTL := hE
  show hw_K G 5 hw_ri _ 0 [(0, hw_rv (hw_ea (hw_gE G)) 200), (1, .int a1), (2, .int a2), (3, .int a3)] [] s0
  unfold F_X7_wire
  refine hw_iload_n C dX7_wire_0 rfl 1 rfl ?_
  refine hw_iconst C dX7_wire_1 (v := 0) (by decide) ?_
  refine hw_iconst C dX7_wire_2 (v := 5) (by decide) ?_
  refine hw_callSi C (M_X7_in (hw_gE G) hTL a1 (0 : Int32) (5 : Int32) s0) W_X7_in SS_X7_in mw_157 (by decide) rfl ⟨rfl, hw_l8 rfl⟩ dX7_wire_3 (fun r1 s2 => ?_)
  refine hw_if_eq C dX7_wire_6 (tgt := 25) (by decide) (fun c3 => ?_) (fun c3 => ?_)
  · refine hw_ldc C mw_155 dX7_wire_25 ?_
    exact hw_iret C dX7_wire_27
  · refine hw_iconst C dX7_wire_9 (v := 1) (by decide) ?_
    refine hw_iload_n C dX7_wire_10 rfl 2 rfl ?_
    refine hw_callSi C (M_X7_isPart (hw_gE G) hTL (1 : Int32) a2 s2) W_X7_isPart SS_X7_isPart mw_160 (by decide) rfl ⟨rfl, hw_l8 rfl⟩ dX7_wire_11 (fun r4 s5 => ?_)
    refine hw_if_eq C dX7_wire_14 (tgt := 25) (by decide) (fun c6 => ?_) (fun c6 => ?_)
    · refine hw_ldc C mw_155 dX7_wire_25 ?_
      exact hw_iret C dX7_wire_27
    · refine hw_iconst C dX7_wire_17 (v := 2) (by decide) ?_
      refine hw_iload_n C dX7_wire_18 rfl 3 rfl ?_
      refine hw_callSi C (M_X7_isPart (hw_gE G) hTL (2 : Int32) a3 s5) W_X7_isPart SS_X7_isPart mw_160 (by decide) rfl ⟨rfl, hw_l8 rfl⟩ dX7_wire_19 (fun r7 s8 => ?_)
      refine hw_if_ne C dX7_wire_22 (tgt := 28) (by decide) (fun c9 => ?_) (fun c9 => ?_)
      · refine hw_aload_n C dX7_wire_28 rfl 0 rfl ?_
        refine hw_getR C cf_X7 lf_X7_9 hw_T200 (t2 := 201) (by decide) dX7_wire_29 ?_
        refine hw_iconst C dX7_wire_32 (v := 1) (by decide) ?_
        refine hw_iald C hw_T201 (by decide) dX7_wire_33 (fun h10 => ?_)
        refine hw_bipush C dX7_wire_34 (v := 6) (by decide) ?_
        refine hw_icmp_ne C dX7_wire_36 (tgt := 42) (by decide) (fun c11 => ?_) (fun c11 => ?_)
        · refine hw_bipush C dX7_wire_42 (v := 29) (by decide) ?_
          refine hw_bipush C dX7_wire_44 (v := 7) (by decide) ?_
          refine hw_aload_n C dX7_wire_46 rfl 0 rfl ?_
          refine hw_getR C cf_X7 lf_X7_9 hw_T200 (t2 := 201) (by decide) dX7_wire_47 ?_
          refine hw_iconst C dX7_wire_50 (v := 1) (by decide) ?_
          refine hw_iald C hw_T201 (by decide) dX7_wire_51 (fun h12 => ?_)
          refine hw_imul C dX7_wire_52 ?_
          refine hw_iadd C dX7_wire_53 ?_
          refine hw_istoreN C dX7_wire_54 (by decide) (fun _ => rfl) (fun x13 => ?_)
          refine hw_aload_n C dX7_wire_56 rfl 1 rfl ?_
          refine hw_getR C cf_X7 lf_X7_9 hw_T200 (t2 := 201) (by decide) dX7_wire_57 ?_
          refine hw_iload C dX7_wire_60 0 rfl ?_
          refine hw_iload_n C dX7_wire_62 rfl 2 rfl ?_
          refine hw_iast C hw_T201 (by decide) dX7_wire_63 (fun h15 s14 => ?_)
          refine hw_aload_n C dX7_wire_64 rfl 1 rfl ?_
          refine hw_getR C cf_X7 lf_X7_9 hw_T200 (t2 := 201) (by decide) dX7_wire_65 ?_
          refine hw_iload C dX7_wire_68 0 rfl ?_
          refine hw_iconst C dX7_wire_70 (v := 1) (by decide) ?_
          refine hw_iadd C dX7_wire_71 ?_
          refine hw_iload_n C dX7_wire_72 rfl 3 rfl ?_
          refine hw_iast C hw_T201 (by decide) dX7_wire_73 (fun h17 s16 => ?_)
          refine hw_aload_n C dX7_wire_74 rfl 1 rfl ?_
          refine hw_getR C cf_X7 lf_X7_9 hw_T200 (t2 := 201) (by decide) dX7_wire_75 ?_
          refine hw_iload C dX7_wire_78 0 rfl ?_
          refine hw_iconst C dX7_wire_80 (v := 2) (by decide) ?_
          refine hw_iadd C dX7_wire_81 ?_
          refine hw_iload_n C dX7_wire_82 rfl 4 rfl ?_
          refine hw_iast C hw_T201 (by decide) dX7_wire_83 (fun h19 s18 => ?_)
          refine hw_aload_n C dX7_wire_84 rfl 1 rfl ?_
          refine hw_getR C cf_X7 lf_X7_9 hw_T200 (t2 := 201) (by decide) dX7_wire_85 ?_
          refine hw_iload C dX7_wire_88 0 rfl ?_
          refine hw_iconst C dX7_wire_90 (v := 3) (by decide) ?_
          refine hw_iadd C dX7_wire_91 ?_
          refine hw_iconst C dX7_wire_92 (v := 2) (by decide) ?_
          refine hw_iast C hw_T201 (by decide) dX7_wire_93 (fun h21 s20 => ?_)
          refine hw_aload_n C dX7_wire_94 rfl 1 rfl ?_
          refine hw_getR C cf_X7 lf_X7_9 hw_T200 (t2 := 201) (by decide) dX7_wire_95 ?_
          refine hw_iload C dX7_wire_98 0 rfl ?_
          refine hw_iconst C dX7_wire_100 (v := 4) (by decide) ?_
          refine hw_iadd C dX7_wire_101 ?_
          refine hw_iconst C dX7_wire_102 (v := 0) (by decide) ?_
          refine hw_iast C hw_T201 (by decide) dX7_wire_103 (fun h23 s22 => ?_)
          refine hw_aload_n C dX7_wire_104 rfl 1 rfl ?_
          refine hw_getR C cf_X7 lf_X7_9 hw_T200 (t2 := 201) (by decide) dX7_wire_105 ?_
          refine hw_iload C dX7_wire_108 0 rfl ?_
          refine hw_iconst C dX7_wire_110 (v := 5) (by decide) ?_
          refine hw_iadd C dX7_wire_111 ?_
          refine hw_iconst C dX7_wire_112 (v := 0) (by decide) ?_
          refine hw_iast C hw_T201 (by decide) dX7_wire_113 (fun h25 s24 => ?_)
          refine hw_aload_n C dX7_wire_114 rfl 1 rfl ?_
          refine hw_getR C cf_X7 lf_X7_9 hw_T200 (t2 := 201) (by decide) dX7_wire_115 ?_
          refine hw_iload C dX7_wire_118 0 rfl ?_
          refine hw_bipush C dX7_wire_120 (v := 6) (by decide) ?_
          refine hw_iadd C dX7_wire_122 ?_
          refine hw_iconst C dX7_wire_123 (v := 0) (by decide) ?_
          refine hw_iast C hw_T201 (by decide) dX7_wire_124 (fun h27 s26 => ?_)
          refine hw_aload_n C dX7_wire_125 rfl 1 rfl ?_
          refine hw_getR C cf_X7 lf_X7_9 hw_T200 (t2 := 201) (by decide) dX7_wire_126 ?_
          refine hw_iconst C dX7_wire_129 (v := 1) (by decide) ?_
          refine hw_dup2 C dX7_wire_130 ?_
          refine hw_iald C hw_T201 (by decide) dX7_wire_131 (fun h28 => ?_)
          refine hw_iconst C dX7_wire_132 (v := 1) (by decide) ?_
          refine hw_iadd C dX7_wire_133 ?_
          refine hw_iast C hw_T201 (by decide) dX7_wire_134 (fun h30 s29 => ?_)
          refine hw_aload_n C dX7_wire_135 rfl 1 rfl ?_
          refine hw_getR C cf_X7 lf_X7_9 hw_T200 (t2 := 201) (by decide) dX7_wire_136 ?_
          refine hw_iconst C dX7_wire_139 (v := 1) (by decide) ?_
          refine hw_iald C hw_T201 (by decide) dX7_wire_140 (fun h31 => ?_)
          refine hw_iconst C dX7_wire_141 (v := 1) (by decide) ?_
          refine hw_isub C dX7_wire_142 ?_
          exact hw_iret C dX7_wire_143
        · refine hw_ldc C mw_156 dX7_wire_39 ?_
          exact hw_iret C dX7_wire_41
      · refine hw_ldc C mw_155 dX7_wire_25 ?_
        exact hw_iret C dX7_wire_27
/-! HumWireModel loseOf(I)I, level 2 -/
def F_X7_loseOf  (a1 : Int32) (s0 : hw_St) : Option (Int32 × hw_St) := hw_bd (F_X7_of a1 (3 : Int32) s0) (fun r1 s2 => hw_nm (r1 + (1 : Int32)) (fun x3 => hw_bd (F_X7_of a1 (0 : Int32) s2) (fun r4 s5 => if r4 = (1 : Int32) then (some ((x3 + (3 : Int32)), s5)) else (if r4 = (3 : Int32) then (some (((2 : Int32) * (x3 + (3 : Int32))), s5)) else (some (x3, s5))))))
set_option maxRecDepth 20000 in
theorem M_X7_loseOf (E : hw_E) (hE : hw_eT E = hw_TM) (a1 : Int32) (s0 : hw_St) : hw_M E yX7_loseOf cX7_loseOf 4 (some .int) 2 [hw_rv (hw_ea E) 200, .int a1] s0 hw_ri (F_X7_loseOf a1 s0) := by
  refine hw_entry (own := RX7) (TL := hw_TM) (by decide) rfl hE (hw_cR (hw_cI hw_cN)) (hw_l8 rfl) (fun G hG C => ?_)
  subst hG
  have hTL := hE
  show hw_K G 4 hw_ri _ 0 [(0, hw_rv (hw_ea (hw_gE G)) 200), (1, .int a1)] [] s0
  unfold F_X7_loseOf
  refine hw_aload_n C dX7_loseOf_0 rfl 0 rfl ?_
  refine hw_iload_n C dX7_loseOf_1 rfl 1 rfl ?_
  refine hw_iconst C dX7_loseOf_2 (v := 3) (by decide) ?_
  refine hw_callVi C (M_X7_of (hw_gE G) hTL a1 (3 : Int32) s0) W_X7_of SV_X7_of cf_X7 hw_T200 mw_194 (by decide) rfl ⟨rfl, hw_l8 rfl⟩ dX7_loseOf_3 (fun r1 s2 => ?_)
  refine hw_iconst C dX7_loseOf_6 (v := 1) (by decide) ?_
  refine hw_iadd C dX7_loseOf_7 ?_
  refine hw_istore_nN C dX7_loseOf_8 rfl (by decide) (fun _ => rfl) (fun x3 => ?_)
  refine hw_aload_n C dX7_loseOf_9 rfl 1 rfl ?_
  refine hw_iload_n C dX7_loseOf_10 rfl 2 rfl ?_
  refine hw_iconst C dX7_loseOf_11 (v := 0) (by decide) ?_
  refine hw_callVi C (M_X7_of (hw_gE G) hTL a1 (0 : Int32) s2) W_X7_of SV_X7_of cf_X7 hw_T200 mw_194 (by decide) rfl ⟨rfl, hw_l8 rfl⟩ dX7_loseOf_12 (fun r4 s5 => ?_)
  refine hw_istore_n C dX7_loseOf_15 rfl (by decide) rfl ?_
  refine hw_iload_n C dX7_loseOf_16 rfl 0 rfl ?_
  refine hw_iconst C dX7_loseOf_17 (v := 1) (by decide) ?_
  refine hw_icmp_ne C dX7_loseOf_18 (tgt := 27) (by decide) (fun c6 => ?_) (fun c6 => ?_)
  · refine hw_iload_n C dX7_loseOf_27 rfl 0 rfl ?_
    refine hw_iconst C dX7_loseOf_28 (v := 3) (by decide) ?_
    refine hw_icmp_ne C dX7_loseOf_29 (tgt := 40) (by decide) (fun c7 => ?_) (fun c7 => ?_)
    · refine hw_iload_n C dX7_loseOf_40 rfl 1 rfl ?_
      exact hw_iret C dX7_loseOf_41
    · refine hw_iconst C dX7_loseOf_32 (v := 2) (by decide) ?_
      refine hw_iload_n C dX7_loseOf_33 rfl 1 rfl ?_
      refine hw_iconst C dX7_loseOf_34 (v := 3) (by decide) ?_
      refine hw_iadd C dX7_loseOf_35 ?_
      refine hw_imul C dX7_loseOf_36 ?_
      refine hw_goto C dX7_loseOf_37 (tgt := 41) (by decide) ?_
      exact hw_iret C dX7_loseOf_41
  · refine hw_iload_n C dX7_loseOf_21 rfl 1 rfl ?_
    refine hw_iconst C dX7_loseOf_22 (v := 3) (by decide) ?_
    refine hw_iadd C dX7_loseOf_23 ?_
    refine hw_goto C dX7_loseOf_24 (tgt := 41) (by decide) ?_
    exact hw_iret C dX7_loseOf_41
/-! HumWireModel worthOf(I)I, level 2 -/
def F_X7_worthOf  (a1 : Int32) (s0 : hw_St) : Option (Int32 × hw_St) := hw_bd (F_X7_of a1 (2 : Int32) s0) (fun r1 s2 => hw_bd (F_X7_of a1 (1 : Int32) s2) (fun r3 s4 => hw_gd (hw_nz r3) (hw_nm (r1 / r3) (fun x5 => hw_bd (F_X7_of a1 (0 : Int32) s4) (fun r6 s7 => if r6 = (1 : Int32) then (hw_bd (F_X7_of a1 (3 : Int32) s7) (fun r8 s9 => some ((x5 + r8), s9))) else (if r6 = (2 : Int32) then (some ((x5 / (2 : Int32)), s7)) else (if r6 = (3 : Int32) then (hw_bd (F_X7_of a1 (3 : Int32) s7) (fun r12 s13 => some (((x5 + r12) + (100 : Int32)), s13))) else (if r6 = (4 : Int32) then (hw_bd (F_X7_of a1 (2 : Int32) s7) (fun r15 s16 => some (r15, s16))) else (if r6 = (5 : Int32) then (some ((x5 - (5 : Int32)), s7)) else (some (x5, s7)))))))))))
set_option maxRecDepth 20000 in
theorem M_X7_worthOf (E : hw_E) (hE : hw_eT E = hw_TM) (a1 : Int32) (s0 : hw_St) : hw_M E yX7_worthOf cX7_worthOf 3 (some .int) 2 [hw_rv (hw_ea E) 200, .int a1] s0 hw_ri (F_X7_worthOf a1 s0) := by
  refine hw_entry (own := RX7) (TL := hw_TM) (by decide) rfl hE (hw_cR (hw_cI hw_cN)) (hw_l8 rfl) (fun G hG C => ?_)
  subst hG
  have hTL := hE
  show hw_K G 3 hw_ri _ 0 [(0, hw_rv (hw_ea (hw_gE G)) 200), (1, .int a1)] [] s0
  unfold F_X7_worthOf
  refine hw_aload_n C dX7_worthOf_0 rfl 0 rfl ?_
  refine hw_iload_n C dX7_worthOf_1 rfl 1 rfl ?_
  refine hw_iconst C dX7_worthOf_2 (v := 2) (by decide) ?_
  refine hw_callVi C (M_X7_of (hw_gE G) hTL a1 (2 : Int32) s0) W_X7_of SV_X7_of cf_X7 hw_T200 mw_194 (by decide) rfl ⟨rfl, hw_l8 rfl⟩ dX7_worthOf_3 (fun r1 s2 => ?_)
  refine hw_aload_n C dX7_worthOf_6 rfl 0 rfl ?_
  refine hw_iload_n C dX7_worthOf_7 rfl 1 rfl ?_
  refine hw_iconst C dX7_worthOf_8 (v := 1) (by decide) ?_
  refine hw_callVi C (M_X7_of (hw_gE G) hTL a1 (1 : Int32) s2) W_X7_of SV_X7_of cf_X7 hw_T200 mw_194 (by decide) rfl ⟨rfl, hw_l8 rfl⟩ dX7_worthOf_9 (fun r3 s4 => ?_)
  refine hw_idiv C dX7_worthOf_12 ?_
  refine hw_istore_nN C dX7_worthOf_13 rfl (by decide) (fun _ => rfl) (fun x5 => ?_)
  refine hw_aload_n C dX7_worthOf_14 rfl 1 rfl ?_
  refine hw_iload_n C dX7_worthOf_15 rfl 2 rfl ?_
  refine hw_iconst C dX7_worthOf_16 (v := 0) (by decide) ?_
  refine hw_callVi C (M_X7_of (hw_gE G) hTL a1 (0 : Int32) s4) W_X7_of SV_X7_of cf_X7 hw_T200 mw_194 (by decide) rfl ⟨rfl, hw_l8 rfl⟩ dX7_worthOf_17 (fun r6 s7 => ?_)
  refine hw_ifK (fun c10 => ?_) (fun c10 => ?_)
  · refine hw_tabIn C dX7_worthOf_20 c10 (off := 36) (tgt := 56) (by decide) ?_
    refine hw_iload_n C dX7_worthOf_56 rfl 0 rfl ?_
    refine hw_aload_n C dX7_worthOf_57 rfl 1 rfl ?_
    refine hw_iload_n C dX7_worthOf_58 rfl 2 rfl ?_
    refine hw_iconst C dX7_worthOf_59 (v := 3) (by decide) ?_
    refine hw_callVi C (M_X7_of (hw_gE G) hTL a1 (3 : Int32) s7) W_X7_of SV_X7_of cf_X7 hw_T200 mw_194 (by decide) rfl ⟨rfl, hw_l8 rfl⟩ dX7_worthOf_60 (fun r8 s9 => ?_)
    refine hw_iadd C dX7_worthOf_63 ?_
    exact hw_iret C dX7_worthOf_64
  · refine hw_ifK (fun c11 => ?_) (fun c11 => ?_)
    · refine hw_tabIn C dX7_worthOf_20 c11 (off := 45) (tgt := 65) (by decide) ?_
      refine hw_iload_n C dX7_worthOf_65 rfl 0 rfl ?_
      refine hw_iconst C dX7_worthOf_66 (v := 2) (by decide) ?_
      refine hw_idivC C dX7_worthOf_67 (by decide) ?_
      exact hw_iret C dX7_worthOf_68
    · refine hw_ifK (fun c14 => ?_) (fun c14 => ?_)
      · refine hw_tabIn C dX7_worthOf_20 c14 (off := 49) (tgt := 69) (by decide) ?_
        refine hw_iload_n C dX7_worthOf_69 rfl 0 rfl ?_
        refine hw_aload_n C dX7_worthOf_70 rfl 1 rfl ?_
        refine hw_iload_n C dX7_worthOf_71 rfl 2 rfl ?_
        refine hw_iconst C dX7_worthOf_72 (v := 3) (by decide) ?_
        refine hw_callVi C (M_X7_of (hw_gE G) hTL a1 (3 : Int32) s7) W_X7_of SV_X7_of cf_X7 hw_T200 mw_194 (by decide) rfl ⟨rfl, hw_l8 rfl⟩ dX7_worthOf_73 (fun r12 s13 => ?_)
        refine hw_iadd C dX7_worthOf_76 ?_
        refine hw_bipush C dX7_worthOf_77 (v := 100) (by decide) ?_
        refine hw_iadd C dX7_worthOf_79 ?_
        exact hw_iret C dX7_worthOf_80
      · refine hw_ifK (fun c17 => ?_) (fun c17 => ?_)
        · refine hw_tabIn C dX7_worthOf_20 c17 (off := 61) (tgt := 81) (by decide) ?_
          refine hw_aload_n C dX7_worthOf_81 rfl 1 rfl ?_
          refine hw_iload_n C dX7_worthOf_82 rfl 2 rfl ?_
          refine hw_iconst C dX7_worthOf_83 (v := 2) (by decide) ?_
          refine hw_callVi C (M_X7_of (hw_gE G) hTL a1 (2 : Int32) s7) W_X7_of SV_X7_of cf_X7 hw_T200 mw_194 (by decide) rfl ⟨rfl, hw_l8 rfl⟩ dX7_worthOf_84 (fun r15 s16 => ?_)
          exact hw_iret C dX7_worthOf_87
        · refine hw_ifK (fun c18 => ?_) (fun c18 => ?_)
          · refine hw_tabIn C dX7_worthOf_20 c18 (off := 68) (tgt := 88) (by decide) ?_
            refine hw_iload_n C dX7_worthOf_88 rfl 0 rfl ?_
            refine hw_iconst C dX7_worthOf_89 (v := 5) (by decide) ?_
            refine hw_isub C dX7_worthOf_90 ?_
            exact hw_iret C dX7_worthOf_91
          · refine hw_tabD C dX7_worthOf_20 (cs := [1, 2, 3, 4, 5]) (by decide) (List.forall_mem_cons.mpr ⟨hw_ni c10 (z := 1) (by decide), List.forall_mem_cons.mpr ⟨hw_ni c11 (z := 2) (by decide), List.forall_mem_cons.mpr ⟨hw_ni c14 (z := 3) (by decide), List.forall_mem_cons.mpr ⟨hw_ni c17 (z := 4) (by decide), List.forall_mem_cons.mpr ⟨hw_ni c18 (z := 5) (by decide), fun _ h => absurd h List.not_mem_nil⟩⟩⟩⟩⟩) (tgt := 92) (by decide) ?_
            refine hw_iload_n C dX7_worthOf_92 rfl 0 rfl ?_
            exact hw_iret C dX7_worthOf_93
/-! HumWireModel told(II)I, level 3 -/
def F_X7_told  (a1 : Int32) (a2 : Int32) (s0 : hw_St) : Option (Int32 × hw_St) := hw_bd (F_X7_isWire a1 s0) (fun r1 s2 => if r1 = 0 then (some ((-1000000001 : Int32), s2)) else (hw_bd (F_X7_in a2 (0 : Int32) (8 : Int32) s2) (fun r4 s5 => if r4 = 0 then (some ((-1000000001 : Int32), s5)) else (if (7 : Int32) ≤ a2 then (if a2 = (7 : Int32) then (hw_bd (F_X7_loseOf a1 s5) (fun r11 s12 => some (r11, s12))) else (hw_bd (F_X7_worthOf a1 s5) (fun r9 s10 => some (r9, s10)))) else (hw_bd (F_X7_of a1 a2 s5) (fun r13 s14 => some (r13, s14)))))))
set_option maxRecDepth 20000 in
theorem M_X7_told (E : hw_E) (hE : hw_eT E = hw_TM) (a1 : Int32) (a2 : Int32) (s0 : hw_St) : hw_M E yX7_told cX7_told 3 (some .int) 3 [hw_rv (hw_ea E) 200, .int a1, .int a2] s0 hw_ri (F_X7_told a1 a2 s0) := by
  refine hw_entry (own := RX7) (TL := hw_TM) (by decide) rfl hE (hw_cR (hw_cI (hw_cI hw_cN))) (hw_l8 rfl) (fun G hG C => ?_)
  subst hG
  have hTL := hE
  show hw_K G 3 hw_ri _ 0 [(0, hw_rv (hw_ea (hw_gE G)) 200), (1, .int a1), (2, .int a2)] [] s0
  unfold F_X7_told
  refine hw_aload_n C dX7_told_0 rfl 0 rfl ?_
  refine hw_iload_n C dX7_told_1 rfl 1 rfl ?_
  refine hw_callVi C (M_X7_isWire (hw_gE G) hTL a1 s0) W_X7_isWire SV_X7_isWire cf_X7 hw_T200 mw_190 (by decide) rfl ⟨rfl, hw_l8 rfl⟩ dX7_told_2 (fun r1 s2 => ?_)
  refine hw_if_eq C dX7_told_5 (tgt := 18) (by decide) (fun c3 => ?_) (fun c3 => ?_)
  · refine hw_ldc C mw_155 dX7_told_18 ?_
    exact hw_iret C dX7_told_20
  · refine hw_iload_n C dX7_told_8 rfl 2 rfl ?_
    refine hw_iconst C dX7_told_9 (v := 0) (by decide) ?_
    refine hw_bipush C dX7_told_10 (v := 8) (by decide) ?_
    refine hw_callSi C (M_X7_in (hw_gE G) hTL a2 (0 : Int32) (8 : Int32) s2) W_X7_in SS_X7_in mw_157 (by decide) rfl ⟨rfl, hw_l8 rfl⟩ dX7_told_12 (fun r4 s5 => ?_)
    refine hw_if_ne C dX7_told_15 (tgt := 21) (by decide) (fun c6 => ?_) (fun c6 => ?_)
    · refine hw_iload_n C dX7_told_21 rfl 2 rfl ?_
      refine hw_bipush C dX7_told_22 (v := 7) (by decide) ?_
      refine hw_icmp_ge C dX7_told_24 (tgt := 36) (by decide) (fun c7 => ?_) (fun c7 => ?_)
      · refine hw_iload_n C dX7_told_36 rfl 2 rfl ?_
        refine hw_bipush C dX7_told_37 (v := 7) (by decide) ?_
        refine hw_icmp_ne C dX7_told_39 (tgt := 50) (by decide) (fun c8 => ?_) (fun c8 => ?_)
        · refine hw_aload_n C dX7_told_50 rfl 0 rfl ?_
          refine hw_iload_n C dX7_told_51 rfl 1 rfl ?_
          refine hw_callVi C (M_X7_worthOf (hw_gE G) hTL a1 s5) W_X7_worthOf SV_X7_worthOf cf_X7 hw_T200 mw_202 (by decide) rfl ⟨rfl, hw_l8 rfl⟩ dX7_told_52 (fun r9 s10 => ?_)
          exact hw_iret C dX7_told_55
        · refine hw_aload_n C dX7_told_42 rfl 0 rfl ?_
          refine hw_iload_n C dX7_told_43 rfl 1 rfl ?_
          refine hw_callVi C (M_X7_loseOf (hw_gE G) hTL a1 s5) W_X7_loseOf SV_X7_loseOf cf_X7 hw_T200 mw_198 (by decide) rfl ⟨rfl, hw_l8 rfl⟩ dX7_told_44 (fun r11 s12 => ?_)
          refine hw_goto C dX7_told_47 (tgt := 55) (by decide) ?_
          exact hw_iret C dX7_told_55
      · refine hw_aload_n C dX7_told_27 rfl 0 rfl ?_
        refine hw_iload_n C dX7_told_28 rfl 1 rfl ?_
        refine hw_iload_n C dX7_told_29 rfl 2 rfl ?_
        refine hw_callVi C (M_X7_of (hw_gE G) hTL a1 a2 s5) W_X7_of SV_X7_of cf_X7 hw_T200 mw_194 (by decide) rfl ⟨rfl, hw_l8 rfl⟩ dX7_told_30 (fun r13 s14 => ?_)
        refine hw_goto C dX7_told_33 (tgt := 55) (by decide) ?_
        exact hw_iret C dX7_told_55
    · refine hw_ldc C mw_155 dX7_told_18 ?_
      exact hw_iret C dX7_told_20
/-! HumWireModel isUnder(II)Z, level 1 -/
def B_X7_isUnder_29  (s0 : hw_St) : Option (Int32 × hw_St) := some ((1 : Int32), s0)
def B_X7_isUnder_19  (l0 : Int32) (l1 : Int32) (s0 : hw_St) : Option (Int32 × hw_St) := if l1 = (2 : Int32) then (if l0 = (4 : Int32) then (B_X7_isUnder_29  s0) else (some ((0 : Int32), s0))) else (some ((0 : Int32), s0))
def F_X7_isUnder  (a0 : Int32) (a1 : Int32) (s0 : hw_St) : Option (Int32 × hw_St) := if a1 = 0 then (B_X7_isUnder_29  s0) else (if a0 = a1 then (B_X7_isUnder_29  s0) else (if a1 = (1 : Int32) then (if a0 = (3 : Int32) then (B_X7_isUnder_29  s0) else (B_X7_isUnder_19 a0 a1 s0)) else (B_X7_isUnder_19 a0 a1 s0)))
set_option maxRecDepth 20000 in
theorem KB_X7_isUnder_29 {G : hw_G} (C : hw_Ok G cX7_isUnder RX7 2 1 (some .boolean) hw_TM) (hTL : hw_eT (hw_gE G) = hw_TM) (s0 : hw_St) : hw_K G 2 hw_ri (B_X7_isUnder_29  s0) 29 [] [] s0 := by
  unfold B_X7_isUnder_29
  refine hw_iconst C dX7_isUnder_29 (v := 1) (by decide) ?_
  refine hw_goto C dX7_isUnder_30 (tgt := 34) (by decide) ?_
  exact hw_zret1 C (by decide) dX7_isUnder_34
set_option maxRecDepth 20000 in
theorem KB_X7_isUnder_19 {G : hw_G} (C : hw_Ok G cX7_isUnder RX7 2 1 (some .boolean) hw_TM) (hTL : hw_eT (hw_gE G) = hw_TM) (l0 : Int32) (l1 : Int32) (s0 : hw_St) : hw_K G 2 hw_ri (B_X7_isUnder_19 l0 l1 s0) 19 [(0, .int l0), (1, .int l1)] [] s0 := by
  unfold B_X7_isUnder_19
  refine hw_iload_n C dX7_isUnder_19 rfl 1 rfl ?_
  refine hw_iconst C dX7_isUnder_20 (v := 2) (by decide) ?_
  refine hw_icmp_ne C dX7_isUnder_21 (tgt := 33) (by decide) (fun c5 => ?_) (fun c5 => ?_)
  · refine hw_iconst C dX7_isUnder_33 (v := 0) (by decide) ?_
    exact hw_zret1 C (by decide) dX7_isUnder_34
  · refine hw_iload_n C dX7_isUnder_24 rfl 0 rfl ?_
    refine hw_iconst C dX7_isUnder_25 (v := 4) (by decide) ?_
    refine hw_icmp_ne C dX7_isUnder_26 (tgt := 33) (by decide) (fun c6 => ?_) (fun c6 => ?_)
    · refine hw_iconst C dX7_isUnder_33 (v := 0) (by decide) ?_
      exact hw_zret1 C (by decide) dX7_isUnder_34
    · exact hw_lv [] rfl (KB_X7_isUnder_29 C hTL  s0)
set_option maxRecDepth 20000 in
theorem M_X7_isUnder (E : hw_E) (hE : hw_eT E = hw_TM) (a0 : Int32) (a1 : Int32) (s0 : hw_St) : hw_M E yX7_isUnder cX7_isUnder 2 (some .boolean) 1 [.int a0, .int a1] s0 hw_ri (F_X7_isUnder a0 a1 s0) := by
  refine hw_entry (own := RX7) (TL := hw_TM) (by decide) rfl hE (hw_cI (hw_cI hw_cN)) (hw_l8 rfl) (fun G hG C => ?_)
  subst hG
  have hTL := hE
  show hw_K G 2 hw_ri _ 0 [(0, .int a0), (1, .int a1)] [] s0
  unfold F_X7_isUnder
  refine hw_iload_n C dX7_isUnder_0 rfl 1 rfl ?_
  refine hw_if_eq C dX7_isUnder_1 (tgt := 29) (by decide) (fun c1 => ?_) (fun c1 => ?_)
  · exact hw_lv [] rfl (KB_X7_isUnder_29 C hTL  s0)
  · refine hw_iload_n C dX7_isUnder_4 rfl 0 rfl ?_
    refine hw_iload_n C dX7_isUnder_5 rfl 1 rfl ?_
    refine hw_icmp_eq C dX7_isUnder_6 (tgt := 29) (by decide) (fun c2 => ?_) (fun c2 => ?_)
    · exact hw_lv [] rfl (KB_X7_isUnder_29 C hTL  s0)
    · refine hw_iload_n C dX7_isUnder_9 rfl 1 rfl ?_
      refine hw_iconst C dX7_isUnder_10 (v := 1) (by decide) ?_
      refine hw_icmp_ne C dX7_isUnder_11 (tgt := 19) (by decide) (fun c3 => ?_) (fun c3 => ?_)
      · exact hw_lv [0, 1] rfl (KB_X7_isUnder_19 C hTL a0 a1 s0)
      · refine hw_iload_n C dX7_isUnder_14 rfl 0 rfl ?_
        refine hw_iconst C dX7_isUnder_15 (v := 3) (by decide) ?_
        refine hw_icmp_eq C dX7_isUnder_16 (tgt := 29) (by decide) (fun c4 => ?_) (fun c4 => ?_)
        · exact hw_lv [] rfl (KB_X7_isUnder_29 C hTL  s0)
        · exact hw_lv [0, 1] rfl (KB_X7_isUnder_19 C hTL a0 a1 s0)
/-! HumWireModel as(II)I, level 3 -/
def F_X7_as  (a1 : Int32) (a2 : Int32) (s0 : hw_St) : Option (Int32 × hw_St) := hw_bd (F_X7_isWire a1 s0) (fun r1 s2 => if r1 = 0 then (some ((-1000000001 : Int32), s2)) else (hw_bd (F_X7_in a2 (0 : Int32) (5 : Int32) s2) (fun r4 s5 => if r4 = 0 then (some ((-1000000001 : Int32), s5)) else (hw_bd (F_X7_of a1 (0 : Int32) s5) (fun r7 s8 => hw_bd (F_X7_isUnder r7 a2 s8) (fun r9 s10 => if r9 = 0 then (some ((-1000000012 : Int32), s10)) else (hw_bd (F_X7_of a1 (2 : Int32) s10) (fun r12 s13 => some (r12, s13)))))))))
set_option maxRecDepth 20000 in
theorem M_X7_as (E : hw_E) (hE : hw_eT E = hw_TM) (a1 : Int32) (a2 : Int32) (s0 : hw_St) : hw_M E yX7_as cX7_as 3 (some .int) 3 [hw_rv (hw_ea E) 200, .int a1, .int a2] s0 hw_ri (F_X7_as a1 a2 s0) := by
  refine hw_entry (own := RX7) (TL := hw_TM) (by decide) rfl hE (hw_cR (hw_cI (hw_cI hw_cN))) (hw_l8 rfl) (fun G hG C => ?_)
  subst hG
  have hTL := hE
  show hw_K G 3 hw_ri _ 0 [(0, hw_rv (hw_ea (hw_gE G)) 200), (1, .int a1), (2, .int a2)] [] s0
  unfold F_X7_as
  refine hw_aload_n C dX7_as_0 rfl 0 rfl ?_
  refine hw_iload_n C dX7_as_1 rfl 1 rfl ?_
  refine hw_callVi C (M_X7_isWire (hw_gE G) hTL a1 s0) W_X7_isWire SV_X7_isWire cf_X7 hw_T200 mw_190 (by decide) rfl ⟨rfl, hw_l8 rfl⟩ dX7_as_2 (fun r1 s2 => ?_)
  refine hw_if_eq C dX7_as_5 (tgt := 17) (by decide) (fun c3 => ?_) (fun c3 => ?_)
  · refine hw_ldc C mw_155 dX7_as_17 ?_
    exact hw_iret C dX7_as_19
  · refine hw_iload_n C dX7_as_8 rfl 2 rfl ?_
    refine hw_iconst C dX7_as_9 (v := 0) (by decide) ?_
    refine hw_iconst C dX7_as_10 (v := 5) (by decide) ?_
    refine hw_callSi C (M_X7_in (hw_gE G) hTL a2 (0 : Int32) (5 : Int32) s2) W_X7_in SS_X7_in mw_157 (by decide) rfl ⟨rfl, hw_l8 rfl⟩ dX7_as_11 (fun r4 s5 => ?_)
    refine hw_if_ne C dX7_as_14 (tgt := 20) (by decide) (fun c6 => ?_) (fun c6 => ?_)
    · refine hw_aload_n C dX7_as_20 rfl 0 rfl ?_
      refine hw_iload_n C dX7_as_21 rfl 1 rfl ?_
      refine hw_iconst C dX7_as_22 (v := 0) (by decide) ?_
      refine hw_callVi C (M_X7_of (hw_gE G) hTL a1 (0 : Int32) s5) W_X7_of SV_X7_of cf_X7 hw_T200 mw_194 (by decide) rfl ⟨rfl, hw_l8 rfl⟩ dX7_as_23 (fun r7 s8 => ?_)
      refine hw_iload_n C dX7_as_26 rfl 2 rfl ?_
      refine hw_callSi C (M_X7_isUnder (hw_gE G) hTL r7 a2 s8) W_X7_isUnder SS_X7_isUnder mw_220 (by decide) rfl ⟨rfl, hw_l8 rfl⟩ dX7_as_27 (fun r9 s10 => ?_)
      refine hw_if_eq C dX7_as_30 (tgt := 42) (by decide) (fun c11 => ?_) (fun c11 => ?_)
      · refine hw_ldc C mw_219 dX7_as_42 ?_
        exact hw_iret C dX7_as_44
      · refine hw_aload_n C dX7_as_33 rfl 0 rfl ?_
        refine hw_iload_n C dX7_as_34 rfl 1 rfl ?_
        refine hw_iconst C dX7_as_35 (v := 2) (by decide) ?_
        refine hw_callVi C (M_X7_of (hw_gE G) hTL a1 (2 : Int32) s10) W_X7_of SV_X7_of cf_X7 hw_T200 mw_194 (by decide) rfl ⟨rfl, hw_l8 rfl⟩ dX7_as_36 (fun r12 s13 => ?_)
        refine hw_goto C dX7_as_39 (tgt := 44) (by decide) ?_
        exact hw_iret C dX7_as_44
    · refine hw_ldc C mw_155 dX7_as_17 ?_
      exact hw_iret C dX7_as_19
/-! HumWireModel turns(II)I, level 3 -/
def F_X7_turns  (a1 : Int32) (a2 : Int32) (s0 : hw_St) : Option (Int32 × hw_St) := hw_bd (F_X7_isWire a1 s0) (fun r1 s2 => if r1 = 0 then (some ((-1000000001 : Int32), s2)) else (hw_bd (F_X7_in a2 (0 : Int32) (5 : Int32) s2) (fun r4 s5 => if r4 = 0 then (some ((-1000000001 : Int32), s5)) else (hw_bd (F_X7_becomes ((29 : Int32) + ((7 : Int32) * a1)) a2 s5) (fun r7 s8 => some (r7, s8))))))
set_option maxRecDepth 20000 in
theorem M_X7_turns (E : hw_E) (hE : hw_eT E = hw_TM) (a1 : Int32) (a2 : Int32) (s0 : hw_St) : hw_M E yX7_turns cX7_turns 3 (some .int) 3 [hw_rv (hw_ea E) 200, .int a1, .int a2] s0 hw_ri (F_X7_turns a1 a2 s0) := by
  refine hw_entry (own := RX7) (TL := hw_TM) (by decide) rfl hE (hw_cR (hw_cI (hw_cI hw_cN))) (hw_l8 rfl) (fun G hG C => ?_)
  subst hG
  have hTL := hE
  show hw_K G 3 hw_ri _ 0 [(0, hw_rv (hw_ea (hw_gE G)) 200), (1, .int a1), (2, .int a2)] [] s0
  unfold F_X7_turns
  refine hw_aload_n C dX7_turns_0 rfl 0 rfl ?_
  refine hw_iload_n C dX7_turns_1 rfl 1 rfl ?_
  refine hw_callVi C (M_X7_isWire (hw_gE G) hTL a1 s0) W_X7_isWire SV_X7_isWire cf_X7 hw_T200 mw_190 (by decide) rfl ⟨rfl, hw_l8 rfl⟩ dX7_turns_2 (fun r1 s2 => ?_)
  refine hw_if_eq C dX7_turns_5 (tgt := 32) (by decide) (fun c3 => ?_) (fun c3 => ?_)
  · refine hw_ldc C mw_155 dX7_turns_32 ?_
    exact hw_iret C dX7_turns_34
  · refine hw_iload_n C dX7_turns_8 rfl 2 rfl ?_
    refine hw_iconst C dX7_turns_9 (v := 0) (by decide) ?_
    refine hw_iconst C dX7_turns_10 (v := 5) (by decide) ?_
    refine hw_callSi C (M_X7_in (hw_gE G) hTL a2 (0 : Int32) (5 : Int32) s2) W_X7_in SS_X7_in mw_157 (by decide) rfl ⟨rfl, hw_l8 rfl⟩ dX7_turns_11 (fun r4 s5 => ?_)
    refine hw_if_eq C dX7_turns_14 (tgt := 32) (by decide) (fun c6 => ?_) (fun c6 => ?_)
    · refine hw_ldc C mw_155 dX7_turns_32 ?_
      exact hw_iret C dX7_turns_34
    · refine hw_aload_n C dX7_turns_17 rfl 0 rfl ?_
      refine hw_bipush C dX7_turns_18 (v := 29) (by decide) ?_
      refine hw_bipush C dX7_turns_20 (v := 7) (by decide) ?_
      refine hw_iload_n C dX7_turns_22 rfl 1 rfl ?_
      refine hw_imul C dX7_turns_23 ?_
      refine hw_iadd C dX7_turns_24 ?_
      refine hw_iload_n C dX7_turns_25 rfl 2 rfl ?_
      refine hw_callVi C (M_X7_becomes (hw_gE G) hTL ((29 : Int32) + ((7 : Int32) * a1)) a2 s5) W_X7_becomes SV_X7_becomes cf_X7 hw_T200 mw_231 (by decide) rfl ⟨rfl, hw_l8 rfl⟩ dX7_turns_26 (fun r7 s8 => ?_)
      refine hw_goto C dX7_turns_29 (tgt := 34) (by decide) ?_
      exact hw_iret C dX7_turns_34
/-! HumWireModel set(III)I, level 3 -/
def F_X7_set  (a1 : Int32) (a2 : Int32) (a3 : Int32) (s0 : hw_St) : Option (Int32 × hw_St) := hw_bd (F_X7_isWire a1 s0) (fun r1 s2 => if r1 = 0 then (some ((-1000000001 : Int32), s2)) else (hw_bd (F_X7_in a2 (1 : Int32) (4 : Int32) s2) (fun r4 s5 => if r4 = 0 then (some ((-1000000001 : Int32), s5)) else (hw_bd (F_X7_isPart a2 a3 s5) (fun r7 s8 => if r7 = 0 then (some ((-1000000001 : Int32), s8)) else (hw_bd (F_X7_becomes (((29 : Int32) + ((7 : Int32) * a1)) + a2) a3 s8) (fun r10 s11 => some (r10, s11))))))))
set_option maxRecDepth 20000 in
theorem M_X7_set (E : hw_E) (hE : hw_eT E = hw_TM) (a1 : Int32) (a2 : Int32) (a3 : Int32) (s0 : hw_St) : hw_M E yX7_set cX7_set 4 (some .int) 3 [hw_rv (hw_ea E) 200, .int a1, .int a2, .int a3] s0 hw_ri (F_X7_set a1 a2 a3 s0) := by
  refine hw_entry (own := RX7) (TL := hw_TM) (by decide) rfl hE (hw_cR (hw_cI (hw_cI (hw_cI hw_cN)))) (hw_l8 rfl) (fun G hG C => ?_)
  subst hG
  have hTL := hE
  show hw_K G 4 hw_ri _ 0 [(0, hw_rv (hw_ea (hw_gE G)) 200), (1, .int a1), (2, .int a2), (3, .int a3)] [] s0
  unfold F_X7_set
  refine hw_aload_n C dX7_set_0 rfl 0 rfl ?_
  refine hw_iload_n C dX7_set_1 rfl 1 rfl ?_
  refine hw_callVi C (M_X7_isWire (hw_gE G) hTL a1 s0) W_X7_isWire SV_X7_isWire cf_X7 hw_T200 mw_190 (by decide) rfl ⟨rfl, hw_l8 rfl⟩ dX7_set_2 (fun r1 s2 => ?_)
  refine hw_if_eq C dX7_set_5 (tgt := 42) (by decide) (fun c3 => ?_) (fun c3 => ?_)
  · refine hw_ldc C mw_155 dX7_set_42 ?_
    exact hw_iret C dX7_set_44
  · refine hw_iload_n C dX7_set_8 rfl 2 rfl ?_
    refine hw_iconst C dX7_set_9 (v := 1) (by decide) ?_
    refine hw_iconst C dX7_set_10 (v := 4) (by decide) ?_
    refine hw_callSi C (M_X7_in (hw_gE G) hTL a2 (1 : Int32) (4 : Int32) s2) W_X7_in SS_X7_in mw_157 (by decide) rfl ⟨rfl, hw_l8 rfl⟩ dX7_set_11 (fun r4 s5 => ?_)
    refine hw_if_eq C dX7_set_14 (tgt := 42) (by decide) (fun c6 => ?_) (fun c6 => ?_)
    · refine hw_ldc C mw_155 dX7_set_42 ?_
      exact hw_iret C dX7_set_44
    · refine hw_iload_n C dX7_set_17 rfl 2 rfl ?_
      refine hw_iload_n C dX7_set_18 rfl 3 rfl ?_
      refine hw_callSi C (M_X7_isPart (hw_gE G) hTL a2 a3 s5) W_X7_isPart SS_X7_isPart mw_160 (by decide) rfl ⟨rfl, hw_l8 rfl⟩ dX7_set_19 (fun r7 s8 => ?_)
      refine hw_if_eq C dX7_set_22 (tgt := 42) (by decide) (fun c9 => ?_) (fun c9 => ?_)
      · refine hw_ldc C mw_155 dX7_set_42 ?_
        exact hw_iret C dX7_set_44
      · refine hw_aload_n C dX7_set_25 rfl 0 rfl ?_
        refine hw_bipush C dX7_set_26 (v := 29) (by decide) ?_
        refine hw_bipush C dX7_set_28 (v := 7) (by decide) ?_
        refine hw_iload_n C dX7_set_30 rfl 1 rfl ?_
        refine hw_imul C dX7_set_31 ?_
        refine hw_iadd C dX7_set_32 ?_
        refine hw_iload_n C dX7_set_33 rfl 2 rfl ?_
        refine hw_iadd C dX7_set_34 ?_
        refine hw_iload_n C dX7_set_35 rfl 3 rfl ?_
        refine hw_callVi C (M_X7_becomes (hw_gE G) hTL (((29 : Int32) + ((7 : Int32) * a1)) + a2) a3 s8) W_X7_becomes SV_X7_becomes cf_X7 hw_T200 mw_231 (by decide) rfl ⟨rfl, hw_l8 rfl⟩ dX7_set_36 (fun r10 s11 => ?_)
        refine hw_goto C dX7_set_39 (tgt := 44) (by decide) ?_
        exact hw_iret C dX7_set_44
/-! HumWireModel wind(II)I, level 3 -/
def F_X7_wind  (a1 : Int32) (a2 : Int32) (s0 : hw_St) : Option (Int32 × hw_St) := hw_bd (F_X7_isHour a1 s0) (fun r1 s2 => if r1 = 0 then (some ((-1000000001 : Int32), s2)) else (hw_bd (F_X7_isWind a2 s2) (fun r4 s5 => if r4 = 0 then (some ((-1000000001 : Int32), s5)) else (hw_bd (F_X7_becomes ((5 : Int32) + a1) a2 s5) (fun r7 s8 => some (r7, s8))))))
set_option maxRecDepth 20000 in
theorem M_X7_wind (E : hw_E) (hE : hw_eT E = hw_TM) (a1 : Int32) (a2 : Int32) (s0 : hw_St) : hw_M E yX7_wind cX7_wind 3 (some .int) 3 [hw_rv (hw_ea E) 200, .int a1, .int a2] s0 hw_ri (F_X7_wind a1 a2 s0) := by
  refine hw_entry (own := RX7) (TL := hw_TM) (by decide) rfl hE (hw_cR (hw_cI (hw_cI hw_cN))) (hw_l8 rfl) (fun G hG C => ?_)
  subst hG
  have hTL := hE
  show hw_K G 3 hw_ri _ 0 [(0, hw_rv (hw_ea (hw_gE G)) 200), (1, .int a1), (2, .int a2)] [] s0
  unfold F_X7_wind
  refine hw_iload_n C dX7_wind_0 rfl 1 rfl ?_
  refine hw_callSi C (M_X7_isHour (hw_gE G) hTL a1 s0) W_X7_isHour SS_X7_isHour mw_265 (by decide) rfl ⟨rfl, hw_l8 rfl⟩ dX7_wind_1 (fun r1 s2 => ?_)
  refine hw_if_eq C dX7_wind_4 (tgt := 25) (by decide) (fun c3 => ?_) (fun c3 => ?_)
  · refine hw_ldc C mw_155 dX7_wind_25 ?_
    exact hw_iret C dX7_wind_27
  · refine hw_iload_n C dX7_wind_7 rfl 2 rfl ?_
    refine hw_callSi C (M_X7_isWind (hw_gE G) hTL a2 s2) W_X7_isWind SS_X7_isWind mw_268 (by decide) rfl ⟨rfl, hw_l8 rfl⟩ dX7_wind_8 (fun r4 s5 => ?_)
    refine hw_if_eq C dX7_wind_11 (tgt := 25) (by decide) (fun c6 => ?_) (fun c6 => ?_)
    · refine hw_ldc C mw_155 dX7_wind_25 ?_
      exact hw_iret C dX7_wind_27
    · refine hw_aload_n C dX7_wind_14 rfl 0 rfl ?_
      refine hw_iconst C dX7_wind_15 (v := 5) (by decide) ?_
      refine hw_iload_n C dX7_wind_16 rfl 1 rfl ?_
      refine hw_iadd C dX7_wind_17 ?_
      refine hw_iload_n C dX7_wind_18 rfl 2 rfl ?_
      refine hw_callVi C (M_X7_becomes (hw_gE G) hTL ((5 : Int32) + a1) a2 s5) W_X7_becomes SV_X7_becomes cf_X7 hw_T200 mw_231 (by decide) rfl ⟨rfl, hw_l8 rfl⟩ dX7_wind_19 (fun r7 s8 => ?_)
      refine hw_goto C dX7_wind_22 (tgt := 27) (by decide) ?_
      exact hw_iret C dX7_wind_27
/-! HumWireModel windAt(I)I, level 3 -/
def F_X7_windAt  (a1 : Int32) (s0 : hw_St) : Option (Int32 × hw_St) := hw_bd (F_X7_isHour a1 s0) (fun r1 s2 => if r1 = 0 then (some ((-1000000001 : Int32), s2)) else (hw_gd (hw_inb ((5 : Int32) + a1) 1443) (some ((s2 201 ((5 : Int32) + a1).toNatClampNeg), s2))))
set_option maxRecDepth 20000 in
theorem M_X7_windAt (E : hw_E) (hE : hw_eT E = hw_TM) (a1 : Int32) (s0 : hw_St) : hw_M E yX7_windAt cX7_windAt 2 (some .int) 3 [hw_rv (hw_ea E) 200, .int a1] s0 hw_ri (F_X7_windAt a1 s0) := by
  refine hw_entry (own := RX7) (TL := hw_TM) (by decide) rfl hE (hw_cR (hw_cI hw_cN)) (hw_l8 rfl) (fun G hG C => ?_)
  subst hG
  have hTL := hE
  show hw_K G 2 hw_ri _ 0 [(0, hw_rv (hw_ea (hw_gE G)) 200), (1, .int a1)] [] s0
  unfold F_X7_windAt
  refine hw_iload_n C dX7_windAt_0 rfl 1 rfl ?_
  refine hw_callSi C (M_X7_isHour (hw_gE G) hTL a1 s0) W_X7_isHour SS_X7_isHour mw_265 (by decide) rfl ⟨rfl, hw_l8 rfl⟩ dX7_windAt_1 (fun r1 s2 => ?_)
  refine hw_if_eq C dX7_windAt_4 (tgt := 18) (by decide) (fun c3 => ?_) (fun c3 => ?_)
  · refine hw_ldc C mw_155 dX7_windAt_18 ?_
    exact hw_iret C dX7_windAt_20
  · refine hw_aload_n C dX7_windAt_7 rfl 0 rfl ?_
    refine hw_getR C cf_X7 lf_X7_9 hw_T200 (t2 := 201) (by decide) dX7_windAt_8 ?_
    refine hw_iconst C dX7_windAt_11 (v := 5) (by decide) ?_
    refine hw_iload_n C dX7_windAt_12 rfl 1 rfl ?_
    refine hw_iadd C dX7_windAt_13 ?_
    refine hw_iald C hw_T201 (by decide) dX7_windAt_14 (fun h4 => ?_)
    refine hw_goto C dX7_windAt_15 (tgt := 20) (by decide) ?_
    exact hw_iret C dX7_windAt_20
/-! HumWireModel limit(I)I, level 2 -/
def F_X7_limit  (a1 : Int32) (s0 : hw_St) : Option (Int32 × hw_St) := hw_bd (F_X7_in a1 (0 : Int32) (9999 : Int32) s0) (fun r1 s2 => if r1 = 0 then (some ((-1000000001 : Int32), s2)) else (hw_bd (F_X7_becomes (3 : Int32) a1 s2) (fun r4 s5 => some (r4, s5))))
set_option maxRecDepth 20000 in
theorem M_X7_limit (E : hw_E) (hE : hw_eT E = hw_TM) (a1 : Int32) (s0 : hw_St) : hw_M E yX7_limit cX7_limit 2 (some .int) 2 [hw_rv (hw_ea E) 200, .int a1] s0 hw_ri (F_X7_limit a1 s0) := by
  refine hw_entry (own := RX7) (TL := hw_TM) (by decide) rfl hE (hw_cR (hw_cI hw_cN)) (hw_l8 rfl) (fun G hG C => ?_)
  subst hG
  have hTL := hE
  show hw_K G 2 hw_ri _ 0 [(0, hw_rv (hw_ea (hw_gE G)) 200), (1, .int a1)] [] s0
  unfold F_X7_limit
  refine hw_iload_n C dX7_limit_0 rfl 1 rfl ?_
  refine hw_iconst C dX7_limit_1 (v := 0) (by decide) ?_
  refine hw_sipush C dX7_limit_2 (v := 9999) (by decide) ?_
  refine hw_callSi C (M_X7_in (hw_gE G) hTL a1 (0 : Int32) (9999 : Int32) s0) W_X7_in SS_X7_in mw_157 (by decide) rfl ⟨rfl, hw_l8 rfl⟩ dX7_limit_5 (fun r1 s2 => ?_)
  refine hw_if_eq C dX7_limit_8 (tgt := 20) (by decide) (fun c3 => ?_) (fun c3 => ?_)
  · refine hw_ldc C mw_155 dX7_limit_20 ?_
    exact hw_iret C dX7_limit_22
  · refine hw_aload_n C dX7_limit_11 rfl 0 rfl ?_
    refine hw_iconst C dX7_limit_12 (v := 3) (by decide) ?_
    refine hw_iload_n C dX7_limit_13 rfl 1 rfl ?_
    refine hw_callVi C (M_X7_becomes (hw_gE G) hTL (3 : Int32) a1 s2) W_X7_becomes SV_X7_becomes cf_X7 hw_T200 mw_231 (by decide) rfl ⟨rfl, hw_l8 rfl⟩ dX7_limit_14 (fun r4 s5 => ?_)
    refine hw_goto C dX7_limit_17 (tgt := 22) (by decide) ?_
    exact hw_iret C dX7_limit_22
/-! HumWireModel draw()I, level 1 -/
def F_X7_draw  (s0 : hw_St) : Option (Int32 × hw_St) := hw_gd (hw_inb (0 : Int32) 1443) (hw_gd (hw_inb (0 : Int32) 1443) (hw_nm (hw_up s0 201 (0 : Int32).toNatClampNeg (((s0 201 (0 : Int32).toNatClampNeg) * (1103515245 : Int32)) + (12345 : Int32))) (fun s2 => hw_gd (hw_inb (0 : Int32) 1443) (some ((hw_ushr (s2 201 (0 : Int32).toNatClampNeg) (8 : Int32)), s2)))))
set_option maxRecDepth 20000 in
theorem M_X7_draw (E : hw_E) (hE : hw_eT E = hw_TM) (s0 : hw_St) : hw_M E yX7_draw cX7_draw 1 (some .int) 1 [hw_rv (hw_ea E) 200] s0 hw_ri (F_X7_draw  s0) := by
  refine hw_entry (own := RX7) (TL := hw_TM) (by decide) rfl hE (hw_cR hw_cN) (hw_l8 rfl) (fun G hG C => ?_)
  subst hG
  have hTL := hE
  show hw_K G 1 hw_ri _ 0 [(0, hw_rv (hw_ea (hw_gE G)) 200)] [] s0
  unfold F_X7_draw
  refine hw_aload_n C dX7_draw_0 rfl 0 rfl ?_
  refine hw_getR C cf_X7 lf_X7_9 hw_T200 (t2 := 201) (by decide) dX7_draw_1 ?_
  refine hw_iconst C dX7_draw_4 (v := 0) (by decide) ?_
  refine hw_aload_n C dX7_draw_5 rfl 0 rfl ?_
  refine hw_getR C cf_X7 lf_X7_9 hw_T200 (t2 := 201) (by decide) dX7_draw_6 ?_
  refine hw_iconst C dX7_draw_9 (v := 0) (by decide) ?_
  refine hw_iald C hw_T201 (by decide) dX7_draw_10 (fun h1 => ?_)
  refine hw_ldc C mw_314 dX7_draw_11 ?_
  refine hw_imul C dX7_draw_13 ?_
  refine hw_sipush C dX7_draw_14 (v := 12345) (by decide) ?_
  refine hw_iadd C dX7_draw_17 ?_
  refine hw_iast C hw_T201 (by decide) dX7_draw_18 (fun h3 s2 => ?_)
  refine hw_aload_n C dX7_draw_19 rfl 0 rfl ?_
  refine hw_getR C cf_X7 lf_X7_9 hw_T200 (t2 := 201) (by decide) dX7_draw_20 ?_
  refine hw_iconst C dX7_draw_23 (v := 0) (by decide) ?_
  refine hw_iald C hw_T201 (by decide) dX7_draw_24 (fun h4 => ?_)
  refine hw_bipush C dX7_draw_25 (v := 8) (by decide) ?_
  refine hw_iushr C dX7_draw_27 ?_
  exact hw_iret C dX7_draw_28
/-! HumWireModel deal(II)I, level 3 -/
def S_X7_deal_25  (w25 : Int32 → Int32 → Int32 → Int32 → hw_St → Option (Int32 × hw_St)) (l1 : Int32) (l2 : Int32) (l3 : Int32) (l4 : Int32) (s0 : hw_St) : Option (Int32 × hw_St) := if l2 ≤ l4 then (some (l3, s0)) else (hw_nm (hw_rem (l1 + l4) (24 : Int32)) (fun x8 => hw_gd (hw_inb ((5 : Int32) + (hw_rem ((x8 + (24 : Int32)) - (1 : Int32)) (24 : Int32))) 1443) (hw_bd (F_X7_draw  s0) (fun r10 s11 => hw_bd (F_X7_within (((s0 201 ((5 : Int32) + (hw_rem ((x8 + (24 : Int32)) - (1 : Int32)) (24 : Int32))).toNatClampNeg) + (hw_rem r10 (11 : Int32))) - (5 : Int32)) (0 : Int32) (99 : Int32) s11) (fun r12 s13 => hw_gd (hw_inb ((5 : Int32) + x8) 1443) (hw_nm (hw_up s13 201 ((5 : Int32) + x8).toNatClampNeg r12) (fun s14 => w25 l1 l2 r12 (l4 + 1) s14)))))))
def L_X7_deal_25  : Nat → Int32 → Int32 → Int32 → Int32 → hw_St → Option (Int32 × hw_St)
  | 0 => fun _ _ _ _ _ => none
  | n + 1 => S_X7_deal_25  (L_X7_deal_25  n)
def F_X7_deal  (a1 : Int32) (a2 : Int32) (s0 : hw_St) : Option (Int32 × hw_St) := hw_bd (F_X7_isHour a1 s0) (fun r1 s2 => if r1 = 0 then (some ((-1000000001 : Int32), s2)) else (hw_bd (F_X7_in a2 (1 : Int32) (24 : Int32) s2) (fun r4 s5 => if r4 = 0 then (some ((-1000000001 : Int32), s5)) else (L_X7_deal_25 130 a1 a2 (0 : Int32) (0 : Int32) s5))))
set_option maxRecDepth 20000 in
theorem KS_X7_deal_25 {G : hw_G} (C : hw_Ok G cX7_deal RX7 6 3 (some .int) hw_TM) (hTL : hw_eT (hw_gE G) = hw_TM) (w25 : Int32 → Int32 → Int32 → Int32 → hw_St → Option (Int32 × hw_St)) (H_w25 : ∀ (l1 : Int32) (l2 : Int32) (l3 : Int32) (l4 : Int32) (s0 : hw_St), hw_K G 6 hw_ri (w25 l1 l2 l3 l4 s0) 25 [(0, hw_rv (hw_ea (hw_gE G)) 200), (1, .int l1), (2, .int l2), (3, .int l3), (4, .int l4)] [] s0) (l1 : Int32) (l2 : Int32) (l3 : Int32) (l4 : Int32) (s0 : hw_St) : hw_K G 6 hw_ri (S_X7_deal_25 w25 l1 l2 l3 l4 s0) 25 [(0, hw_rv (hw_ea (hw_gE G)) 200), (1, .int l1), (2, .int l2), (3, .int l3), (4, .int l4)] [] s0 := by
  unfold S_X7_deal_25
  refine hw_iload C dX7_deal_25 4 rfl ?_
  refine hw_iload_n C dX7_deal_27 rfl 2 rfl ?_
  refine hw_icmp_ge C dX7_deal_28 (tgt := 90) (by decide) (fun c7 => ?_) (fun c7 => ?_)
  · refine hw_iload_n C dX7_deal_90 rfl 3 rfl ?_
    exact hw_iret C dX7_deal_91
  · refine hw_iload_n C dX7_deal_31 rfl 1 rfl ?_
    refine hw_iload C dX7_deal_32 4 rfl ?_
    refine hw_iadd C dX7_deal_34 ?_
    refine hw_bipush C dX7_deal_35 (v := 24) (by decide) ?_
    refine hw_iremC C dX7_deal_37 (by decide) ?_
    refine hw_istoreN C dX7_deal_38 (by decide) (fun _ => rfl) (fun x8 => ?_)
    refine hw_aload_n C dX7_deal_40 rfl 1 rfl ?_
    refine hw_getR C cf_X7 lf_X7_9 hw_T200 (t2 := 201) (by decide) dX7_deal_41 ?_
    refine hw_iconst C dX7_deal_44 (v := 5) (by decide) ?_
    refine hw_iload C dX7_deal_45 0 rfl ?_
    refine hw_bipush C dX7_deal_47 (v := 24) (by decide) ?_
    refine hw_iadd C dX7_deal_49 ?_
    refine hw_iconst C dX7_deal_50 (v := 1) (by decide) ?_
    refine hw_isub C dX7_deal_51 ?_
    refine hw_bipush C dX7_deal_52 (v := 24) (by decide) ?_
    refine hw_iremC C dX7_deal_54 (by decide) ?_
    refine hw_iadd C dX7_deal_55 ?_
    refine hw_iald C hw_T201 (by decide) dX7_deal_56 (fun h9 => ?_)
    refine hw_aload_n C dX7_deal_57 rfl 1 rfl ?_
    refine hw_callVi C (M_X7_draw (hw_gE G) hTL  s0) W_X7_draw SV_X7_draw cf_X7 hw_T200 mw_310 (by decide) rfl ⟨rfl, hw_l8 rfl⟩ dX7_deal_58 (fun r10 s11 => ?_)
    refine hw_bipush C dX7_deal_61 (v := 11) (by decide) ?_
    refine hw_iremC C dX7_deal_63 (by decide) ?_
    refine hw_iadd C dX7_deal_64 ?_
    refine hw_iconst C dX7_deal_65 (v := 5) (by decide) ?_
    refine hw_isub C dX7_deal_66 ?_
    refine hw_iconst C dX7_deal_67 (v := 0) (by decide) ?_
    refine hw_bipush C dX7_deal_68 (v := 99) (by decide) ?_
    refine hw_callSi C (M_X7_within (hw_gE G) hTL (((s0 201 ((5 : Int32) + (hw_rem ((x8 + (24 : Int32)) - (1 : Int32)) (24 : Int32))).toNatClampNeg) + (hw_rem r10 (11 : Int32))) - (5 : Int32)) (0 : Int32) (99 : Int32) s11) W_X7_within SS_X7_within mw_315 (by decide) rfl ⟨rfl, hw_l8 rfl⟩ dX7_deal_70 (fun r12 s13 => ?_)
    refine hw_istore_n C dX7_deal_73 rfl (by decide) rfl ?_
    refine hw_aload_n C dX7_deal_74 rfl 2 rfl ?_
    refine hw_getR C cf_X7 lf_X7_9 hw_T200 (t2 := 201) (by decide) dX7_deal_75 ?_
    refine hw_iconst C dX7_deal_78 (v := 5) (by decide) ?_
    refine hw_iload C dX7_deal_79 1 rfl ?_
    refine hw_iadd C dX7_deal_81 ?_
    refine hw_iload_n C dX7_deal_82 rfl 0 rfl ?_
    refine hw_iast C hw_T201 (by decide) dX7_deal_83 (fun h15 s14 => ?_)
    refine hw_iinc C dX7_deal_84 5 rfl (v := 1) (by decide) (by decide) rfl ?_
    refine hw_goto C dX7_deal_87 (tgt := 25) (by decide) ?_
    exact hw_lv [3, 4, 5, 1, 0] rfl (H_w25 l1 l2 r12 (l4 + 1) s14)
theorem KL_X7_deal_25 {G : hw_G} (C : hw_Ok G cX7_deal RX7 6 3 (some .int) hw_TM) (hTL : hw_eT (hw_gE G) = hw_TM) : ∀ (n_ : Nat) (l1 : Int32) (l2 : Int32) (l3 : Int32) (l4 : Int32) (s0 : hw_St), hw_K G 6 hw_ri (L_X7_deal_25 n_ l1 l2 l3 l4 s0) 25 [(0, hw_rv (hw_ea (hw_gE G)) 200), (1, .int l1), (2, .int l2), (3, .int l3), (4, .int l4)] [] s0 := by
  intro n_
  induction n_ with
  | zero => intros; exact hw_nil
  | succ n_ ih => intro l1 l2 l3 l4 s0; exact KS_X7_deal_25 C hTL (L_X7_deal_25 n_) ih l1 l2 l3 l4 s0
set_option maxRecDepth 20000 in
theorem M_X7_deal (E : hw_E) (hE : hw_eT E = hw_TM) (a1 : Int32) (a2 : Int32) (s0 : hw_St) : hw_M E yX7_deal cX7_deal 6 (some .int) 3 [hw_rv (hw_ea E) 200, .int a1, .int a2] s0 hw_ri (F_X7_deal a1 a2 s0) := by
  refine hw_entry (own := RX7) (TL := hw_TM) (by decide) rfl hE (hw_cR (hw_cI (hw_cI hw_cN))) (hw_l8 rfl) (fun G hG C => ?_)
  subst hG
  have hTL := hE
  show hw_K G 6 hw_ri _ 0 [(0, hw_rv (hw_ea (hw_gE G)) 200), (1, .int a1), (2, .int a2)] [] s0
  unfold F_X7_deal
  refine hw_iload_n C dX7_deal_0 rfl 1 rfl ?_
  refine hw_callSi C (M_X7_isHour (hw_gE G) hTL a1 s0) W_X7_isHour SS_X7_isHour mw_265 (by decide) rfl ⟨rfl, hw_l8 rfl⟩ dX7_deal_1 (fun r1 s2 => ?_)
  refine hw_if_eq C dX7_deal_4 (tgt := 17) (by decide) (fun c3 => ?_) (fun c3 => ?_)
  · refine hw_ldc C mw_155 dX7_deal_17 ?_
    exact hw_iret C dX7_deal_19
  · refine hw_iload_n C dX7_deal_7 rfl 2 rfl ?_
    refine hw_iconst C dX7_deal_8 (v := 1) (by decide) ?_
    refine hw_bipush C dX7_deal_9 (v := 24) (by decide) ?_
    refine hw_callSi C (M_X7_in (hw_gE G) hTL a2 (1 : Int32) (24 : Int32) s2) W_X7_in SS_X7_in mw_157 (by decide) rfl ⟨rfl, hw_l8 rfl⟩ dX7_deal_11 (fun r4 s5 => ?_)
    refine hw_if_ne C dX7_deal_14 (tgt := 20) (by decide) (fun c6 => ?_) (fun c6 => ?_)
    · refine hw_iconst C dX7_deal_20 (v := 0) (by decide) ?_
      refine hw_istore_n C dX7_deal_21 rfl (by decide) rfl ?_
      refine hw_iconst C dX7_deal_22 (v := 0) (by decide) ?_
      refine hw_istore C dX7_deal_23 (by decide) rfl ?_
      exact hw_lv [2, 3, 4, 1, 0] rfl (KL_X7_deal_25 C hTL 130 a1 a2 (0 : Int32) (0 : Int32) s5)
    · refine hw_ldc C mw_155 dX7_deal_17 ?_
      exact hw_iret C dX7_deal_19
/-! HumWireModel seed(I)I, level 1 -/
def F_X7_seed  (a1 : Int32) (s0 : hw_St) : Option (Int32 × hw_St) := hw_gd (hw_inb (0 : Int32) 1443) (hw_nm (s0 201 (0 : Int32).toNatClampNeg) (fun x2 => hw_gd (hw_inb (0 : Int32) 1443) (hw_nm (hw_up s0 201 (0 : Int32).toNatClampNeg a1) (fun s3 => some (x2, s3)))))
set_option maxRecDepth 20000 in
theorem M_X7_seed (E : hw_E) (hE : hw_eT E = hw_TM) (a1 : Int32) (s0 : hw_St) : hw_M E yX7_seed cX7_seed 3 (some .int) 1 [hw_rv (hw_ea E) 200, .int a1] s0 hw_ri (F_X7_seed a1 s0) := by
  refine hw_entry (own := RX7) (TL := hw_TM) (by decide) rfl hE (hw_cR (hw_cI hw_cN)) (hw_l8 rfl) (fun G hG C => ?_)
  subst hG
  have hTL := hE
  show hw_K G 3 hw_ri _ 0 [(0, hw_rv (hw_ea (hw_gE G)) 200), (1, .int a1)] [] s0
  unfold F_X7_seed
  refine hw_aload_n C dX7_seed_0 rfl 0 rfl ?_
  refine hw_getR C cf_X7 lf_X7_9 hw_T200 (t2 := 201) (by decide) dX7_seed_1 ?_
  refine hw_iconst C dX7_seed_4 (v := 0) (by decide) ?_
  refine hw_iald C hw_T201 (by decide) dX7_seed_5 (fun h1 => ?_)
  refine hw_istore_nN C dX7_seed_6 rfl (by decide) (fun _ => rfl) (fun x2 => ?_)
  refine hw_aload_n C dX7_seed_7 rfl 1 rfl ?_
  refine hw_getR C cf_X7 lf_X7_9 hw_T200 (t2 := 201) (by decide) dX7_seed_8 ?_
  refine hw_iconst C dX7_seed_11 (v := 0) (by decide) ?_
  refine hw_iload_n C dX7_seed_12 rfl 2 rfl ?_
  refine hw_iast C hw_T201 (by decide) dX7_seed_13 (fun h4 s3 => ?_)
  refine hw_iload_n C dX7_seed_14 rfl 0 rfl ?_
  exact hw_iret C dX7_seed_15
/-! HumWireModel airOf(II)I, level 2 -/
def F_X7_airOf  (a1 : Int32) (a2 : Int32) (s0 : hw_St) : Option (Int32 × hw_St) := hw_bd (F_X7_of a1 (0 : Int32) s0) (fun r1 s2 => if r1 = (5 : Int32) then (some ((a2 / (2 : Int32)), s2)) else (some (a2, s2)))
set_option maxRecDepth 20000 in
theorem M_X7_airOf (E : hw_E) (hE : hw_eT E = hw_TM) (a1 : Int32) (a2 : Int32) (s0 : hw_St) : hw_M E yX7_airOf cX7_airOf 3 (some .int) 2 [hw_rv (hw_ea E) 200, .int a1, .int a2] s0 hw_ri (F_X7_airOf a1 a2 s0) := by
  refine hw_entry (own := RX7) (TL := hw_TM) (by decide) rfl hE (hw_cR (hw_cI (hw_cI hw_cN))) (hw_l8 rfl) (fun G hG C => ?_)
  subst hG
  have hTL := hE
  show hw_K G 3 hw_ri _ 0 [(0, hw_rv (hw_ea (hw_gE G)) 200), (1, .int a1), (2, .int a2)] [] s0
  unfold F_X7_airOf
  refine hw_aload_n C dX7_airOf_0 rfl 0 rfl ?_
  refine hw_iload_n C dX7_airOf_1 rfl 1 rfl ?_
  refine hw_iconst C dX7_airOf_2 (v := 0) (by decide) ?_
  refine hw_callVi C (M_X7_of (hw_gE G) hTL a1 (0 : Int32) s0) W_X7_of SV_X7_of cf_X7 hw_T200 mw_194 (by decide) rfl ⟨rfl, hw_l8 rfl⟩ dX7_airOf_3 (fun r1 s2 => ?_)
  refine hw_iconst C dX7_airOf_6 (v := 5) (by decide) ?_
  refine hw_icmp_ne C dX7_airOf_7 (tgt := 16) (by decide) (fun c3 => ?_) (fun c3 => ?_)
  · refine hw_iload_n C dX7_airOf_16 rfl 2 rfl ?_
    exact hw_iret C dX7_airOf_17
  · refine hw_iload_n C dX7_airOf_10 rfl 2 rfl ?_
    refine hw_iconst C dX7_airOf_11 (v := 2) (by decide) ?_
    refine hw_idivC C dX7_airOf_12 (by decide) ?_
    refine hw_goto C dX7_airOf_13 (tgt := 17) (by decide) ?_
    exact hw_iret C dX7_airOf_17
/-! HumWireModel eddyOf(II)I, level 3 -/
def F_X7_eddyOf  (a1 : Int32) (a2 : Int32) (s0 : hw_St) : Option (Int32 × hw_St) := hw_bd (F_X7_airOf a1 a2 s0) (fun r1 s2 => hw_bd (F_X7_of a1 (1 : Int32) s2) (fun r3 s4 => hw_gd (hw_nz r3) (some ((((20 : Int32) * r1) / r3), s4))))
set_option maxRecDepth 20000 in
theorem M_X7_eddyOf (E : hw_E) (hE : hw_eT E = hw_TM) (a1 : Int32) (a2 : Int32) (s0 : hw_St) : hw_M E yX7_eddyOf cX7_eddyOf 3 (some .int) 3 [hw_rv (hw_ea E) 200, .int a1, .int a2] s0 hw_ri (F_X7_eddyOf a1 a2 s0) := by
  refine hw_entry (own := RX7) (TL := hw_TM) (by decide) rfl hE (hw_cR (hw_cI (hw_cI hw_cN))) (hw_l8 rfl) (fun G hG C => ?_)
  subst hG
  have hTL := hE
  show hw_K G 3 hw_ri _ 0 [(0, hw_rv (hw_ea (hw_gE G)) 200), (1, .int a1), (2, .int a2)] [] s0
  unfold F_X7_eddyOf
  refine hw_bipush C dX7_eddyOf_0 (v := 20) (by decide) ?_
  refine hw_aload_n C dX7_eddyOf_2 rfl 0 rfl ?_
  refine hw_iload_n C dX7_eddyOf_3 rfl 1 rfl ?_
  refine hw_iload_n C dX7_eddyOf_4 rfl 2 rfl ?_
  refine hw_callVi C (M_X7_airOf (hw_gE G) hTL a1 a2 s0) W_X7_airOf SV_X7_airOf cf_X7 hw_T200 mw_388 (by decide) rfl ⟨rfl, hw_l8 rfl⟩ dX7_eddyOf_5 (fun r1 s2 => ?_)
  refine hw_imul C dX7_eddyOf_8 ?_
  refine hw_aload_n C dX7_eddyOf_9 rfl 0 rfl ?_
  refine hw_iload_n C dX7_eddyOf_10 rfl 1 rfl ?_
  refine hw_iconst C dX7_eddyOf_11 (v := 1) (by decide) ?_
  refine hw_callVi C (M_X7_of (hw_gE G) hTL a1 (1 : Int32) s2) W_X7_of SV_X7_of cf_X7 hw_T200 mw_194 (by decide) rfl ⟨rfl, hw_l8 rfl⟩ dX7_eddyOf_12 (fun r3 s4 => ?_)
  refine hw_idiv C dX7_eddyOf_15 ?_
  exact hw_iret C dX7_eddyOf_16
/-! HumWireModel offOf(II)I, level 4 -/
def F_X7_offOf  (a1 : Int32) (a2 : Int32) (s0 : hw_St) : Option (Int32 × hw_St) := hw_bd (F_X7_eddyOf a1 a2 s0) (fun r1 s2 => hw_bd (F_X7_of a1 (2 : Int32) s2) (fun r3 s4 => hw_nm (r1 - r3) (fun x5 => if 0 ≤ x5 then (some (x5, s4)) else (some ((-x5), s4)))))
set_option maxRecDepth 20000 in
theorem M_X7_offOf (E : hw_E) (hE : hw_eT E = hw_TM) (a1 : Int32) (a2 : Int32) (s0 : hw_St) : hw_M E yX7_offOf cX7_offOf 4 (some .int) 4 [hw_rv (hw_ea E) 200, .int a1, .int a2] s0 hw_ri (F_X7_offOf a1 a2 s0) := by
  refine hw_entry (own := RX7) (TL := hw_TM) (by decide) rfl hE (hw_cR (hw_cI (hw_cI hw_cN))) (hw_l8 rfl) (fun G hG C => ?_)
  subst hG
  have hTL := hE
  show hw_K G 4 hw_ri _ 0 [(0, hw_rv (hw_ea (hw_gE G)) 200), (1, .int a1), (2, .int a2)] [] s0
  unfold F_X7_offOf
  refine hw_aload_n C dX7_offOf_0 rfl 0 rfl ?_
  refine hw_iload_n C dX7_offOf_1 rfl 1 rfl ?_
  refine hw_iload_n C dX7_offOf_2 rfl 2 rfl ?_
  refine hw_callVi C (M_X7_eddyOf (hw_gE G) hTL a1 a2 s0) W_X7_eddyOf SV_X7_eddyOf cf_X7 hw_T200 mw_392 (by decide) rfl ⟨rfl, hw_l8 rfl⟩ dX7_offOf_3 (fun r1 s2 => ?_)
  refine hw_aload_n C dX7_offOf_6 rfl 0 rfl ?_
  refine hw_iload_n C dX7_offOf_7 rfl 1 rfl ?_
  refine hw_iconst C dX7_offOf_8 (v := 2) (by decide) ?_
  refine hw_callVi C (M_X7_of (hw_gE G) hTL a1 (2 : Int32) s2) W_X7_of SV_X7_of cf_X7 hw_T200 mw_194 (by decide) rfl ⟨rfl, hw_l8 rfl⟩ dX7_offOf_9 (fun r3 s4 => ?_)
  refine hw_isub C dX7_offOf_12 ?_
  refine hw_istore_nN C dX7_offOf_13 rfl (by decide) (fun _ => rfl) (fun x5 => ?_)
  refine hw_iload_n C dX7_offOf_14 rfl 0 rfl ?_
  refine hw_if_ge C dX7_offOf_15 (tgt := 23) (by decide) (fun c6 => ?_) (fun c6 => ?_)
  · refine hw_iload_n C dX7_offOf_23 rfl 0 rfl ?_
    exact hw_iret C dX7_offOf_24
  · refine hw_iload_n C dX7_offOf_18 rfl 0 rfl ?_
    refine hw_ineg C dX7_offOf_19 ?_
    refine hw_goto C dX7_offOf_20 (tgt := 24) (by decide) ?_
    exact hw_iret C dX7_offOf_24
/-! HumWireModel counts(I)I, level 1 -/
def S_X7_counts_9  (w9 : Int32 → Int32 → hw_St → Option (Int32 × hw_St)) (l1 : Int32) (l2 : Int32) (s0 : hw_St) : Option (Int32 × hw_St) := if l2 < 0 then (some ((-1 : Int32), s0)) else (hw_gd (hw_inb ((71 : Int32) + ((2 : Int32) * l2)) 1443) (if ((s0 201 ((71 : Int32) + ((2 : Int32) * l2)).toNatClampNeg) / (1000 : Int32)) = l1 then (some (l2, s0)) else (w9 l1 (l2 + -1) s0)))
def L_X7_counts_9  : Nat → Int32 → Int32 → hw_St → Option (Int32 × hw_St)
  | 0 => fun _ _ _ => none
  | n + 1 => S_X7_counts_9  (L_X7_counts_9  n)
def F_X7_counts  (a1 : Int32) (s0 : hw_St) : Option (Int32 × hw_St) := hw_gd (hw_inb (4 : Int32) 1443) (hw_nm ((s0 201 (4 : Int32).toNatClampNeg) - (1 : Int32)) (fun x2 => L_X7_counts_9 130 a1 x2 s0))
set_option maxRecDepth 20000 in
theorem KS_X7_counts_9 {G : hw_G} (C : hw_Ok G cX7_counts RX7 3 1 (some .int) hw_TM) (hTL : hw_eT (hw_gE G) = hw_TM) (w9 : Int32 → Int32 → hw_St → Option (Int32 × hw_St)) (H_w9 : ∀ (l1 : Int32) (l2 : Int32) (s0 : hw_St), hw_K G 3 hw_ri (w9 l1 l2 s0) 9 [(0, hw_rv (hw_ea (hw_gE G)) 200), (1, .int l1), (2, .int l2)] [] s0) (l1 : Int32) (l2 : Int32) (s0 : hw_St) : hw_K G 3 hw_ri (S_X7_counts_9 w9 l1 l2 s0) 9 [(0, hw_rv (hw_ea (hw_gE G)) 200), (1, .int l1), (2, .int l2)] [] s0 := by
  unfold S_X7_counts_9
  refine hw_iload_n C dX7_counts_9 rfl 2 rfl ?_
  refine hw_if_lt C dX7_counts_10 (tgt := 40) (by decide) (fun c3 => ?_) (fun c3 => ?_)
  · refine hw_iconst C dX7_counts_40 (v := -1) (by decide) ?_
    exact hw_iret C dX7_counts_41
  · refine hw_aload_n C dX7_counts_13 rfl 0 rfl ?_
    refine hw_getR C cf_X7 lf_X7_9 hw_T200 (t2 := 201) (by decide) dX7_counts_14 ?_
    refine hw_bipush C dX7_counts_17 (v := 71) (by decide) ?_
    refine hw_iconst C dX7_counts_19 (v := 2) (by decide) ?_
    refine hw_iload_n C dX7_counts_20 rfl 2 rfl ?_
    refine hw_imul C dX7_counts_21 ?_
    refine hw_iadd C dX7_counts_22 ?_
    refine hw_iald C hw_T201 (by decide) dX7_counts_23 (fun h4 => ?_)
    refine hw_sipush C dX7_counts_24 (v := 1000) (by decide) ?_
    refine hw_idivC C dX7_counts_27 (by decide) ?_
    refine hw_iload_n C dX7_counts_28 rfl 1 rfl ?_
    refine hw_icmp_ne C dX7_counts_29 (tgt := 34) (by decide) (fun c5 => ?_) (fun c5 => ?_)
    · refine hw_iinc C dX7_counts_34 2 rfl (v := -1) (by decide) (by decide) rfl ?_
      refine hw_goto C dX7_counts_37 (tgt := 9) (by decide) ?_
      exact hw_lv [1, 2, 0] rfl (H_w9 l1 (l2 + -1) s0)
    · refine hw_iload_n C dX7_counts_32 rfl 2 rfl ?_
      exact hw_iret C dX7_counts_33
theorem KL_X7_counts_9 {G : hw_G} (C : hw_Ok G cX7_counts RX7 3 1 (some .int) hw_TM) (hTL : hw_eT (hw_gE G) = hw_TM) : ∀ (n_ : Nat) (l1 : Int32) (l2 : Int32) (s0 : hw_St), hw_K G 3 hw_ri (L_X7_counts_9 n_ l1 l2 s0) 9 [(0, hw_rv (hw_ea (hw_gE G)) 200), (1, .int l1), (2, .int l2)] [] s0 := by
  intro n_
  induction n_ with
  | zero => intros; exact hw_nil
  | succ n_ ih => intro l1 l2 s0; exact KS_X7_counts_9 C hTL (L_X7_counts_9 n_) ih l1 l2 s0
set_option maxRecDepth 20000 in
theorem M_X7_counts (E : hw_E) (hE : hw_eT E = hw_TM) (a1 : Int32) (s0 : hw_St) : hw_M E yX7_counts cX7_counts 3 (some .int) 1 [hw_rv (hw_ea E) 200, .int a1] s0 hw_ri (F_X7_counts a1 s0) := by
  refine hw_entry (own := RX7) (TL := hw_TM) (by decide) rfl hE (hw_cR (hw_cI hw_cN)) (hw_l8 rfl) (fun G hG C => ?_)
  subst hG
  have hTL := hE
  show hw_K G 3 hw_ri _ 0 [(0, hw_rv (hw_ea (hw_gE G)) 200), (1, .int a1)] [] s0
  unfold F_X7_counts
  refine hw_aload_n C dX7_counts_0 rfl 0 rfl ?_
  refine hw_getR C cf_X7 lf_X7_9 hw_T200 (t2 := 201) (by decide) dX7_counts_1 ?_
  refine hw_iconst C dX7_counts_4 (v := 4) (by decide) ?_
  refine hw_iald C hw_T201 (by decide) dX7_counts_5 (fun h1 => ?_)
  refine hw_iconst C dX7_counts_6 (v := 1) (by decide) ?_
  refine hw_isub C dX7_counts_7 ?_
  refine hw_istore_nN C dX7_counts_8 rfl (by decide) (fun _ => rfl) (fun x2 => ?_)
  exact hw_lv [1, 2, 0] rfl (KL_X7_counts_9 C hTL 130 a1 x2 s0)
/-! HumWireModel two(III)I, level 1 -/
def B_X7_two_56  (s0 : hw_St) : Option (Int32 × hw_St) := some ((1 : Int32), s0)
def F_X7_two  (a0 : Int32) (a1 : Int32) (a2 : Int32) (s0 : hw_St) : Option (Int32 × hw_St) := if a0 = (-8 : Int32) then (some ((a1 * a2), s0)) else (if a0 = (-7 : Int32) then (some ((a1 - a2), s0)) else (if a0 = (-6 : Int32) then (some ((a1 + a2), s0)) else (if a0 = (-5 : Int32) then (if a1 ≤ a2 then (some ((0 : Int32), s0)) else (some ((1 : Int32), s0))) else (if a0 = (-4 : Int32) then (if a1 = a2 then (some ((1 : Int32), s0)) else (some ((0 : Int32), s0))) else (if a0 = (-3 : Int32) then (if a2 ≤ a1 then (some ((0 : Int32), s0)) else (some ((1 : Int32), s0))) else (if a0 = (-2 : Int32) then (if a1 = 0 then (some ((0 : Int32), s0)) else (if a2 = 0 then (some ((0 : Int32), s0)) else (some ((1 : Int32), s0)))) else (if a0 = (-1 : Int32) then (if a1 = 0 then (if a2 = 0 then (some ((0 : Int32), s0)) else (B_X7_two_56  s0)) else (B_X7_two_56  s0)) else (if a2 = 0 then (some ((0 : Int32), s0)) else (hw_gd (hw_nz a2) (some ((a1 / a2), s0)))))))))))
set_option maxRecDepth 20000 in
theorem KB_X7_two_56 {G : hw_G} (C : hw_Ok G cX7_two RX7 3 1 (some .int) hw_TM) (hTL : hw_eT (hw_gE G) = hw_TM) (s0 : hw_St) : hw_K G 3 hw_ri (B_X7_two_56  s0) 56 [] [] s0 := by
  unfold B_X7_two_56
  refine hw_iconst C dX7_two_56 (v := 1) (by decide) ?_
  refine hw_goto C dX7_two_57 (tgt := 61) (by decide) ?_
  exact hw_iret C dX7_two_61
set_option maxRecDepth 20000 in
theorem M_X7_two (E : hw_E) (hE : hw_eT E = hw_TM) (a0 : Int32) (a1 : Int32) (a2 : Int32) (s0 : hw_St) : hw_M E yX7_two cX7_two 3 (some .int) 1 [.int a0, .int a1, .int a2] s0 hw_ri (F_X7_two a0 a1 a2 s0) := by
  refine hw_entry (own := RX7) (TL := hw_TM) (by decide) rfl hE (hw_cI (hw_cI (hw_cI hw_cN))) (hw_l8 rfl) (fun G hG C => ?_)
  subst hG
  have hTL := hE
  show hw_K G 3 hw_ri _ 0 [(0, .int a0), (1, .int a1), (2, .int a2)] [] s0
  unfold F_X7_two
  refine hw_iload_n C dX7_two_0 rfl 0 rfl ?_
  refine hw_ifK (fun c1 => ?_) (fun c1 => ?_)
  · refine hw_tabIn C dX7_two_1 c1 (off := 116) (tgt := 117) (by decide) ?_
    refine hw_iload_n C dX7_two_117 rfl 1 rfl ?_
    refine hw_iload_n C dX7_two_118 rfl 2 rfl ?_
    refine hw_imul C dX7_two_119 ?_
    exact hw_iret C dX7_two_120
  · refine hw_ifK (fun c2 => ?_) (fun c2 => ?_)
    · refine hw_tabIn C dX7_two_1 c2 (off := 112) (tgt := 113) (by decide) ?_
      refine hw_iload_n C dX7_two_113 rfl 1 rfl ?_
      refine hw_iload_n C dX7_two_114 rfl 2 rfl ?_
      refine hw_isub C dX7_two_115 ?_
      exact hw_iret C dX7_two_116
    · refine hw_ifK (fun c3 => ?_) (fun c3 => ?_)
      · refine hw_tabIn C dX7_two_1 c3 (off := 108) (tgt := 109) (by decide) ?_
        refine hw_iload_n C dX7_two_109 rfl 1 rfl ?_
        refine hw_iload_n C dX7_two_110 rfl 2 rfl ?_
        refine hw_iadd C dX7_two_111 ?_
        exact hw_iret C dX7_two_112
      · refine hw_ifK (fun c5 => ?_) (fun c5 => ?_)
        · refine hw_tabIn C dX7_two_1 c5 (off := 97) (tgt := 98) (by decide) ?_
          refine hw_iload_n C dX7_two_98 rfl 1 rfl ?_
          refine hw_iload_n C dX7_two_99 rfl 2 rfl ?_
          refine hw_icmp_le C dX7_two_100 (tgt := 107) (by decide) (fun c4 => ?_) (fun c4 => ?_)
          · refine hw_iconst C dX7_two_107 (v := 0) (by decide) ?_
            exact hw_iret C dX7_two_108
          · refine hw_iconst C dX7_two_103 (v := 1) (by decide) ?_
            refine hw_goto C dX7_two_104 (tgt := 108) (by decide) ?_
            exact hw_iret C dX7_two_108
        · refine hw_ifK (fun c7 => ?_) (fun c7 => ?_)
          · refine hw_tabIn C dX7_two_1 c7 (off := 86) (tgt := 87) (by decide) ?_
            refine hw_iload_n C dX7_two_87 rfl 1 rfl ?_
            refine hw_iload_n C dX7_two_88 rfl 2 rfl ?_
            refine hw_icmp_ne C dX7_two_89 (tgt := 96) (by decide) (fun c6 => ?_) (fun c6 => ?_)
            · refine hw_iconst C dX7_two_96 (v := 0) (by decide) ?_
              exact hw_iret C dX7_two_97
            · refine hw_iconst C dX7_two_92 (v := 1) (by decide) ?_
              refine hw_goto C dX7_two_93 (tgt := 97) (by decide) ?_
              exact hw_iret C dX7_two_97
          · refine hw_ifK (fun c9 => ?_) (fun c9 => ?_)
            · refine hw_tabIn C dX7_two_1 c9 (off := 75) (tgt := 76) (by decide) ?_
              refine hw_iload_n C dX7_two_76 rfl 1 rfl ?_
              refine hw_iload_n C dX7_two_77 rfl 2 rfl ?_
              refine hw_icmp_ge C dX7_two_78 (tgt := 85) (by decide) (fun c8 => ?_) (fun c8 => ?_)
              · refine hw_iconst C dX7_two_85 (v := 0) (by decide) ?_
                exact hw_iret C dX7_two_86
              · refine hw_iconst C dX7_two_81 (v := 1) (by decide) ?_
                refine hw_goto C dX7_two_82 (tgt := 86) (by decide) ?_
                exact hw_iret C dX7_two_86
            · refine hw_ifK (fun c12 => ?_) (fun c12 => ?_)
              · refine hw_tabIn C dX7_two_1 c12 (off := 61) (tgt := 62) (by decide) ?_
                refine hw_iload_n C dX7_two_62 rfl 1 rfl ?_
                refine hw_if_eq C dX7_two_63 (tgt := 74) (by decide) (fun c10 => ?_) (fun c10 => ?_)
                · refine hw_iconst C dX7_two_74 (v := 0) (by decide) ?_
                  exact hw_iret C dX7_two_75
                · refine hw_iload_n C dX7_two_66 rfl 2 rfl ?_
                  refine hw_if_eq C dX7_two_67 (tgt := 74) (by decide) (fun c11 => ?_) (fun c11 => ?_)
                  · refine hw_iconst C dX7_two_74 (v := 0) (by decide) ?_
                    exact hw_iret C dX7_two_75
                  · refine hw_iconst C dX7_two_70 (v := 1) (by decide) ?_
                    refine hw_goto C dX7_two_71 (tgt := 75) (by decide) ?_
                    exact hw_iret C dX7_two_75
              · refine hw_ifK (fun c15 => ?_) (fun c15 => ?_)
                · refine hw_tabIn C dX7_two_1 c15 (off := 47) (tgt := 48) (by decide) ?_
                  refine hw_iload_n C dX7_two_48 rfl 1 rfl ?_
                  refine hw_if_ne C dX7_two_49 (tgt := 56) (by decide) (fun c13 => ?_) (fun c13 => ?_)
                  · exact hw_lv [] rfl (KB_X7_two_56 C hTL  s0)
                  · refine hw_iload_n C dX7_two_52 rfl 2 rfl ?_
                    refine hw_if_eq C dX7_two_53 (tgt := 60) (by decide) (fun c14 => ?_) (fun c14 => ?_)
                    · refine hw_iconst C dX7_two_60 (v := 0) (by decide) ?_
                      exact hw_iret C dX7_two_61
                    · exact hw_lv [] rfl (KB_X7_two_56 C hTL  s0)
                · refine hw_tabD C dX7_two_1 (cs := [-8, -7, -6, -5, -4, -3, -2, -1]) (by decide) (List.forall_mem_cons.mpr ⟨hw_ni c1 (z := -8) (by decide), List.forall_mem_cons.mpr ⟨hw_ni c2 (z := -7) (by decide), List.forall_mem_cons.mpr ⟨hw_ni c3 (z := -6) (by decide), List.forall_mem_cons.mpr ⟨hw_ni c5 (z := -5) (by decide), List.forall_mem_cons.mpr ⟨hw_ni c7 (z := -4) (by decide), List.forall_mem_cons.mpr ⟨hw_ni c9 (z := -3) (by decide), List.forall_mem_cons.mpr ⟨hw_ni c12 (z := -2) (by decide), List.forall_mem_cons.mpr ⟨hw_ni c15 (z := -1) (by decide), fun _ h => absurd h List.not_mem_nil⟩⟩⟩⟩⟩⟩⟩⟩) (tgt := 121) (by decide) ?_
                  refine hw_iload_n C dX7_two_121 rfl 2 rfl ?_
                  refine hw_if_ne C dX7_two_122 (tgt := 129) (by decide) (fun c16 => ?_) (fun c16 => ?_)
                  · refine hw_iload_n C dX7_two_129 rfl 1 rfl ?_
                    refine hw_iload_n C dX7_two_130 rfl 2 rfl ?_
                    refine hw_idiv C dX7_two_131 ?_
                    exact hw_iret C dX7_two_132
                  · refine hw_iconst C dX7_two_125 (v := 0) (by decide) ?_
                    refine hw_goto C dX7_two_126 (tgt := 132) (by decide) ?_
                    exact hw_iret C dX7_two_132
/-! HumWireModel worksOut(I)I, level 2 -/
def B_X7_worksOut_149  (w21 : Int32 → Int32 → Int32 → Int32 → hw_St → Option (Int32 × hw_St)) (l1 : Int32) (l2 : Int32) (l3 : Int32) (l4 : Int32) (s0 : hw_St) : Option (Int32 × hw_St) := w21 l1 l2 l3 (l4 + 1) s0
def B_X7_worksOut_78  (w21 : Int32 → Int32 → Int32 → Int32 → hw_St → Option (Int32 × hw_St)) (l1 : Int32) (l2 : Int32) (l3 : Int32) (l4 : Int32) (k0 : Int32) (k1 : Int32) (s0 : hw_St) : Option (Int32 × hw_St) := hw_gd (hw_inb k1 96) (hw_nm (hw_up s0 212 k1.toNatClampNeg k0) (fun s21 => B_X7_worksOut_149 w21 l1 (l2 + 1) l3 l4 s21))
def B_X7_worksOut_115  (w21 : Int32 → Int32 → Int32 → Int32 → hw_St → Option (Int32 × hw_St)) (l1 : Int32) (l2 : Int32) (l3 : Int32) (l4 : Int32) (k0 : Int32) (k1 : Int32) (s0 : hw_St) : Option (Int32 × hw_St) := hw_gd (hw_inb k1 96) (hw_nm (hw_up s0 212 k1.toNatClampNeg k0) (fun s19 => B_X7_worksOut_149 w21 l1 l2 l3 l4 s19))
def S_X7_worksOut_21  (w21 : Int32 → Int32 → Int32 → Int32 → hw_St → Option (Int32 × hw_St)) (l1 : Int32) (l2 : Int32) (l3 : Int32) (l4 : Int32) (s0 : hw_St) : Option (Int32 × hw_St) := if l3 ≤ l4 then (hw_gd (hw_inb (0 : Int32) 96) (some ((s0 212 (0 : Int32).toNatClampNeg), s0))) else (hw_gd (hw_inb (((99 : Int32) + ((96 : Int32) * l1)) + l4) 1443) (hw_nm (s0 201 (((99 : Int32) + ((96 : Int32) * l1)) + l4).toNatClampNeg) (fun x6 => if x6 < 0 then (if x6 = (-10 : Int32) then (hw_gd (hw_inb (l2 - (1 : Int32)) 96) (if (s0 212 (l2 - (1 : Int32)).toNatClampNeg) = 0 then (B_X7_worksOut_115 w21 l1 l2 l3 l4 (1 : Int32) (l2 - (1 : Int32)) s0) else (B_X7_worksOut_115 w21 l1 l2 l3 l4 (0 : Int32) (l2 - (1 : Int32)) s0))) else (hw_gd (hw_inb ((l2 + -1) - (1 : Int32)) 96) (hw_gd (hw_inb (l2 + -1) 96) (hw_bd (F_X7_two x6 (s0 212 ((l2 + -1) - (1 : Int32)).toNatClampNeg) (s0 212 (l2 + -1).toNatClampNeg) s0) (fun r11 s12 => hw_gd (hw_inb ((l2 + -1) - (1 : Int32)) 96) (hw_nm (hw_up s12 212 ((l2 + -1) - (1 : Int32)).toNatClampNeg r11) (fun s13 => B_X7_worksOut_149 w21 l1 (l2 + -1) l3 l4 s13))))))) else (if (10000 : Int32) ≤ x6 then (hw_gd (hw_inb (x6 - (10000 : Int32)) 4) (B_X7_worksOut_78 w21 l1 l2 l3 l4 (s0 213 (x6 - (10000 : Int32)).toNatClampNeg) l2 s0)) else (B_X7_worksOut_78 w21 l1 l2 l3 l4 x6 l2 s0)))))
def L_X7_worksOut_21  : Nat → Int32 → Int32 → Int32 → Int32 → hw_St → Option (Int32 × hw_St)
  | 0 => fun _ _ _ _ _ => none
  | n + 1 => S_X7_worksOut_21  (L_X7_worksOut_21  n)
def F_X7_worksOut  (a1 : Int32) (s0 : hw_St) : Option (Int32 × hw_St) := hw_gd (hw_inb ((71 : Int32) + ((2 : Int32) * a1)) 1443) (hw_nm (hw_rem (s0 201 ((71 : Int32) + ((2 : Int32) * a1)).toNatClampNeg) (1000 : Int32)) (fun x2 => L_X7_worksOut_21 130 a1 (0 : Int32) x2 (0 : Int32) s0))
set_option maxRecDepth 20000 in
theorem KB_X7_worksOut_149 {G : hw_G} (C : hw_Ok G cX7_worksOut RX7 6 2 (some .int) hw_TM) (hTL : hw_eT (hw_gE G) = hw_TM) (w21 : Int32 → Int32 → Int32 → Int32 → hw_St → Option (Int32 × hw_St)) (H_w21 : ∀ (l1 : Int32) (l2 : Int32) (l3 : Int32) (l4 : Int32) (s0 : hw_St), hw_K G 6 hw_ri (w21 l1 l2 l3 l4 s0) 21 [(0, hw_rv (hw_ea (hw_gE G)) 200), (1, .int l1), (2, .int l2), (3, .int l3), (4, .int l4)] [] s0) (l1 : Int32) (l2 : Int32) (l3 : Int32) (l4 : Int32) (s0 : hw_St) : hw_K G 6 hw_ri (B_X7_worksOut_149 w21 l1 l2 l3 l4 s0) 149 [(0, hw_rv (hw_ea (hw_gE G)) 200), (1, .int l1), (2, .int l2), (3, .int l3), (4, .int l4)] [] s0 := by
  unfold B_X7_worksOut_149
  refine hw_iinc C dX7_worksOut_149 4 rfl (v := 1) (by decide) (by decide) rfl ?_
  refine hw_goto C dX7_worksOut_152 (tgt := 21) (by decide) ?_
  exact hw_lv [1, 2, 3, 4, 0] rfl (H_w21 l1 l2 l3 (l4 + 1) s0)
set_option maxRecDepth 20000 in
theorem KB_X7_worksOut_78 {G : hw_G} (C : hw_Ok G cX7_worksOut RX7 6 2 (some .int) hw_TM) (hTL : hw_eT (hw_gE G) = hw_TM) (w21 : Int32 → Int32 → Int32 → Int32 → hw_St → Option (Int32 × hw_St)) (H_w21 : ∀ (l1 : Int32) (l2 : Int32) (l3 : Int32) (l4 : Int32) (s0 : hw_St), hw_K G 6 hw_ri (w21 l1 l2 l3 l4 s0) 21 [(0, hw_rv (hw_ea (hw_gE G)) 200), (1, .int l1), (2, .int l2), (3, .int l3), (4, .int l4)] [] s0) (l1 : Int32) (l2 : Int32) (l3 : Int32) (l4 : Int32) (k0 : Int32) (k1 : Int32) (s0 : hw_St) : hw_K G 6 hw_ri (B_X7_worksOut_78 w21 l1 l2 l3 l4 k0 k1 s0) 78 [(0, hw_rv (hw_ea (hw_gE G)) 200), (1, .int l1), (2, .int l2), (3, .int l3), (4, .int l4)] [.int k0, .int k1, hw_rv (hw_ea (hw_gE G)) 212] s0 := by
  unfold B_X7_worksOut_78
  refine hw_iast C hw_T212 (by decide) dX7_worksOut_78 (fun h22 s21 => ?_)
  refine hw_iinc C dX7_worksOut_79 2 rfl (v := 1) (by decide) (by decide) rfl ?_
  refine hw_goto C dX7_worksOut_82 (tgt := 149) (by decide) ?_
  exact hw_lv [1, 2, 0, 3, 4] rfl (KB_X7_worksOut_149 C hTL w21 H_w21 l1 (l2 + 1) l3 l4 s21)
set_option maxRecDepth 20000 in
theorem KB_X7_worksOut_115 {G : hw_G} (C : hw_Ok G cX7_worksOut RX7 6 2 (some .int) hw_TM) (hTL : hw_eT (hw_gE G) = hw_TM) (w21 : Int32 → Int32 → Int32 → Int32 → hw_St → Option (Int32 × hw_St)) (H_w21 : ∀ (l1 : Int32) (l2 : Int32) (l3 : Int32) (l4 : Int32) (s0 : hw_St), hw_K G 6 hw_ri (w21 l1 l2 l3 l4 s0) 21 [(0, hw_rv (hw_ea (hw_gE G)) 200), (1, .int l1), (2, .int l2), (3, .int l3), (4, .int l4)] [] s0) (l1 : Int32) (l2 : Int32) (l3 : Int32) (l4 : Int32) (k0 : Int32) (k1 : Int32) (s0 : hw_St) : hw_K G 6 hw_ri (B_X7_worksOut_115 w21 l1 l2 l3 l4 k0 k1 s0) 115 [(0, hw_rv (hw_ea (hw_gE G)) 200), (1, .int l1), (2, .int l2), (3, .int l3), (4, .int l4)] [.int k0, .int k1, hw_rv (hw_ea (hw_gE G)) 212] s0 := by
  unfold B_X7_worksOut_115
  refine hw_iast C hw_T212 (by decide) dX7_worksOut_115 (fun h20 s19 => ?_)
  refine hw_goto C dX7_worksOut_116 (tgt := 149) (by decide) ?_
  exact hw_lv [0, 1, 2, 3, 4] rfl (KB_X7_worksOut_149 C hTL w21 H_w21 l1 l2 l3 l4 s19)
set_option maxRecDepth 20000 in
theorem KS_X7_worksOut_21 {G : hw_G} (C : hw_Ok G cX7_worksOut RX7 6 2 (some .int) hw_TM) (hTL : hw_eT (hw_gE G) = hw_TM) (w21 : Int32 → Int32 → Int32 → Int32 → hw_St → Option (Int32 × hw_St)) (H_w21 : ∀ (l1 : Int32) (l2 : Int32) (l3 : Int32) (l4 : Int32) (s0 : hw_St), hw_K G 6 hw_ri (w21 l1 l2 l3 l4 s0) 21 [(0, hw_rv (hw_ea (hw_gE G)) 200), (1, .int l1), (2, .int l2), (3, .int l3), (4, .int l4)] [] s0) (l1 : Int32) (l2 : Int32) (l3 : Int32) (l4 : Int32) (s0 : hw_St) : hw_K G 6 hw_ri (S_X7_worksOut_21 w21 l1 l2 l3 l4 s0) 21 [(0, hw_rv (hw_ea (hw_gE G)) 200), (1, .int l1), (2, .int l2), (3, .int l3), (4, .int l4)] [] s0 := by
  unfold S_X7_worksOut_21
  refine hw_iload C dX7_worksOut_21 4 rfl ?_
  refine hw_iload_n C dX7_worksOut_23 rfl 3 rfl ?_
  refine hw_icmp_ge C dX7_worksOut_24 (tgt := 155) (by decide) (fun c3 => ?_) (fun c3 => ?_)
  · refine hw_aload_n C dX7_worksOut_155 rfl 0 rfl ?_
    refine hw_getR C cf_X7 lf_X7_45 hw_T200 (t2 := 212) (by decide) dX7_worksOut_156 ?_
    refine hw_iconst C dX7_worksOut_159 (v := 0) (by decide) ?_
    refine hw_iald C hw_T212 (by decide) dX7_worksOut_160 (fun h4 => ?_)
    exact hw_iret C dX7_worksOut_161
  · refine hw_aload_n C dX7_worksOut_27 rfl 0 rfl ?_
    refine hw_getR C cf_X7 lf_X7_9 hw_T200 (t2 := 201) (by decide) dX7_worksOut_28 ?_
    refine hw_bipush C dX7_worksOut_31 (v := 99) (by decide) ?_
    refine hw_bipush C dX7_worksOut_33 (v := 96) (by decide) ?_
    refine hw_iload_n C dX7_worksOut_35 rfl 1 rfl ?_
    refine hw_imul C dX7_worksOut_36 ?_
    refine hw_iadd C dX7_worksOut_37 ?_
    refine hw_iload C dX7_worksOut_38 4 rfl ?_
    refine hw_iadd C dX7_worksOut_40 ?_
    refine hw_iald C hw_T201 (by decide) dX7_worksOut_41 (fun h5 => ?_)
    refine hw_istoreN C dX7_worksOut_42 (by decide) (fun _ => rfl) (fun x6 => ?_)
    refine hw_iload C dX7_worksOut_44 0 rfl ?_
    refine hw_if_lt C dX7_worksOut_46 (tgt := 85) (by decide) (fun c7 => ?_) (fun c7 => ?_)
    · refine hw_iload C dX7_worksOut_85 0 rfl ?_
      refine hw_bipush C dX7_worksOut_87 (v := -10) (by decide) ?_
      refine hw_icmp_ne C dX7_worksOut_89 (tgt := 119) (by decide) (fun c8 => ?_) (fun c8 => ?_)
      · refine hw_iinc C dX7_worksOut_119 3 rfl (v := -1) (by decide) (by decide) rfl ?_
        refine hw_aload_n C dX7_worksOut_122 rfl 2 rfl ?_
        refine hw_getR C cf_X7 lf_X7_45 hw_T200 (t2 := 212) (by decide) dX7_worksOut_123 ?_
        refine hw_iload_n C dX7_worksOut_126 rfl 0 rfl ?_
        refine hw_iconst C dX7_worksOut_127 (v := 1) (by decide) ?_
        refine hw_isub C dX7_worksOut_128 ?_
        refine hw_iload C dX7_worksOut_129 1 rfl ?_
        refine hw_aload_n C dX7_worksOut_131 rfl 2 rfl ?_
        refine hw_getR C cf_X7 lf_X7_45 hw_T200 (t2 := 212) (by decide) dX7_worksOut_132 ?_
        refine hw_iload_n C dX7_worksOut_135 rfl 0 rfl ?_
        refine hw_iconst C dX7_worksOut_136 (v := 1) (by decide) ?_
        refine hw_isub C dX7_worksOut_137 ?_
        refine hw_iald C hw_T212 (by decide) dX7_worksOut_138 (fun h9 => ?_)
        refine hw_aload_n C dX7_worksOut_139 rfl 2 rfl ?_
        refine hw_getR C cf_X7 lf_X7_45 hw_T200 (t2 := 212) (by decide) dX7_worksOut_140 ?_
        refine hw_iload_n C dX7_worksOut_143 rfl 0 rfl ?_
        refine hw_iald C hw_T212 (by decide) dX7_worksOut_144 (fun h10 => ?_)
        refine hw_callSi C (M_X7_two (hw_gE G) hTL x6 (s0 212 ((l2 + -1) - (1 : Int32)).toNatClampNeg) (s0 212 (l2 + -1).toNatClampNeg) s0) W_X7_two SS_X7_two mw_412 (by decide) rfl ⟨rfl, hw_l8 rfl⟩ dX7_worksOut_145 (fun r11 s12 => ?_)
        refine hw_iast C hw_T212 (by decide) dX7_worksOut_148 (fun h14 s13 => ?_)
        exact hw_lv [2, 3, 0, 4, 5] rfl (KB_X7_worksOut_149 C hTL w21 H_w21 l1 (l2 + -1) l3 l4 s13)
      · refine hw_aload_n C dX7_worksOut_92 rfl 1 rfl ?_
        refine hw_getR C cf_X7 lf_X7_45 hw_T200 (t2 := 212) (by decide) dX7_worksOut_93 ?_
        refine hw_iload_n C dX7_worksOut_96 rfl 3 rfl ?_
        refine hw_iconst C dX7_worksOut_97 (v := 1) (by decide) ?_
        refine hw_isub C dX7_worksOut_98 ?_
        refine hw_aload_n C dX7_worksOut_99 rfl 1 rfl ?_
        refine hw_getR C cf_X7 lf_X7_45 hw_T200 (t2 := 212) (by decide) dX7_worksOut_100 ?_
        refine hw_iload_n C dX7_worksOut_103 rfl 3 rfl ?_
        refine hw_iconst C dX7_worksOut_104 (v := 1) (by decide) ?_
        refine hw_isub C dX7_worksOut_105 ?_
        refine hw_iald C hw_T212 (by decide) dX7_worksOut_106 (fun h15 => ?_)
        refine hw_if_ne C dX7_worksOut_107 (tgt := 114) (by decide) (fun c16 => ?_) (fun c16 => ?_)
        · refine hw_iconst C dX7_worksOut_114 (v := 0) (by decide) ?_
          exact hw_lv [1, 2, 3, 4, 5] rfl (KB_X7_worksOut_115 C hTL w21 H_w21 l1 l2 l3 l4 (0 : Int32) (l2 - (1 : Int32)) s0)
        · refine hw_iconst C dX7_worksOut_110 (v := 1) (by decide) ?_
          refine hw_goto C dX7_worksOut_111 (tgt := 115) (by decide) ?_
          exact hw_lv [1, 2, 3, 4, 5] rfl (KB_X7_worksOut_115 C hTL w21 H_w21 l1 l2 l3 l4 (1 : Int32) (l2 - (1 : Int32)) s0)
    · refine hw_aload_n C dX7_worksOut_49 rfl 1 rfl ?_
      refine hw_getR C cf_X7 lf_X7_45 hw_T200 (t2 := 212) (by decide) dX7_worksOut_50 ?_
      refine hw_iload_n C dX7_worksOut_53 rfl 3 rfl ?_
      refine hw_iload C dX7_worksOut_54 0 rfl ?_
      refine hw_sipush C dX7_worksOut_56 (v := 10000) (by decide) ?_
      refine hw_icmp_ge C dX7_worksOut_59 (tgt := 67) (by decide) (fun c17 => ?_) (fun c17 => ?_)
      · refine hw_aload_n C dX7_worksOut_67 rfl 1 rfl ?_
        refine hw_getR C cf_X7 lf_X7_48 hw_T200 (t2 := 213) (by decide) dX7_worksOut_68 ?_
        refine hw_iload C dX7_worksOut_71 0 rfl ?_
        refine hw_sipush C dX7_worksOut_73 (v := 10000) (by decide) ?_
        refine hw_isub C dX7_worksOut_76 ?_
        refine hw_iald C hw_T213 (by decide) dX7_worksOut_77 (fun h18 => ?_)
        exact hw_lv [1, 2, 3, 4, 5] rfl (KB_X7_worksOut_78 C hTL w21 H_w21 l1 l2 l3 l4 (s0 213 (x6 - (10000 : Int32)).toNatClampNeg) l2 s0)
      · refine hw_iload C dX7_worksOut_62 0 rfl ?_
        refine hw_goto C dX7_worksOut_64 (tgt := 78) (by decide) ?_
        exact hw_lv [1, 2, 3, 4, 5] rfl (KB_X7_worksOut_78 C hTL w21 H_w21 l1 l2 l3 l4 x6 l2 s0)
theorem KL_X7_worksOut_21 {G : hw_G} (C : hw_Ok G cX7_worksOut RX7 6 2 (some .int) hw_TM) (hTL : hw_eT (hw_gE G) = hw_TM) : ∀ (n_ : Nat) (l1 : Int32) (l2 : Int32) (l3 : Int32) (l4 : Int32) (s0 : hw_St), hw_K G 6 hw_ri (L_X7_worksOut_21 n_ l1 l2 l3 l4 s0) 21 [(0, hw_rv (hw_ea (hw_gE G)) 200), (1, .int l1), (2, .int l2), (3, .int l3), (4, .int l4)] [] s0 := by
  intro n_
  induction n_ with
  | zero => intros; exact hw_nil
  | succ n_ ih => intro l1 l2 l3 l4 s0; exact KS_X7_worksOut_21 C hTL (L_X7_worksOut_21 n_) ih l1 l2 l3 l4 s0
set_option maxRecDepth 20000 in
theorem M_X7_worksOut (E : hw_E) (hE : hw_eT E = hw_TM) (a1 : Int32) (s0 : hw_St) : hw_M E yX7_worksOut cX7_worksOut 6 (some .int) 2 [hw_rv (hw_ea E) 200, .int a1] s0 hw_ri (F_X7_worksOut a1 s0) := by
  refine hw_entry (own := RX7) (TL := hw_TM) (by decide) rfl hE (hw_cR (hw_cI hw_cN)) (hw_l8 rfl) (fun G hG C => ?_)
  subst hG
  have hTL := hE
  show hw_K G 6 hw_ri _ 0 [(0, hw_rv (hw_ea (hw_gE G)) 200), (1, .int a1)] [] s0
  unfold F_X7_worksOut
  refine hw_iconst C dX7_worksOut_0 (v := 0) (by decide) ?_
  refine hw_istore_n C dX7_worksOut_1 rfl (by decide) rfl ?_
  refine hw_aload_n C dX7_worksOut_2 rfl 1 rfl ?_
  refine hw_getR C cf_X7 lf_X7_9 hw_T200 (t2 := 201) (by decide) dX7_worksOut_3 ?_
  refine hw_bipush C dX7_worksOut_6 (v := 71) (by decide) ?_
  refine hw_iconst C dX7_worksOut_8 (v := 2) (by decide) ?_
  refine hw_iload_n C dX7_worksOut_9 rfl 2 rfl ?_
  refine hw_imul C dX7_worksOut_10 ?_
  refine hw_iadd C dX7_worksOut_11 ?_
  refine hw_iald C hw_T201 (by decide) dX7_worksOut_12 (fun h1 => ?_)
  refine hw_sipush C dX7_worksOut_13 (v := 1000) (by decide) ?_
  refine hw_iremC C dX7_worksOut_16 (by decide) ?_
  refine hw_istore_nN C dX7_worksOut_17 rfl (by decide) (fun _ => rfl) (fun x2 => ?_)
  refine hw_iconst C dX7_worksOut_18 (v := 0) (by decide) ?_
  refine hw_istore C dX7_worksOut_19 (by decide) rfl ?_
  exact hw_lv [3, 4, 2, 1, 0] rfl (KL_X7_worksOut_21 C hTL 130 a1 (0 : Int32) x2 (0 : Int32) s0)
/-! HumWireModel bandOf(II)I, level 4 -/
def B_X7_bandOf_71  (l1 : Int32) (k0 : Int32) (s0 : hw_St) : Option (Int32 × hw_St) := hw_bd (F_X7_of l1 (0 : Int32) s0) (fun r22 s23 => if r22 = (2 : Int32) then (some ((k0 / (2 : Int32)), s23)) else (if r22 = (4 : Int32) then (hw_bd (F_X7_within ((k0 / (2 : Int32)) - (2 : Int32)) (0 : Int32) (9999 : Int32) s23) (fun r26 s27 => some (r26, s27))) else (some (k0, s23))))
def F_X7_bandOf  (a1 : Int32) (a2 : Int32) (s0 : hw_St) : Option (Int32 × hw_St) := hw_bd (F_X7_counts (0 : Int32) s0) (fun r1 s2 => hw_bd (F_X7_eddyOf a1 a2 s2) (fun r3 s4 => hw_gd (hw_inb (0 : Int32) 4) (hw_nm (hw_up s4 213 (0 : Int32).toNatClampNeg r3) (fun s5 => hw_bd (F_X7_of a1 (2 : Int32) s5) (fun r7 s8 => hw_gd (hw_inb (1 : Int32) 4) (hw_nm (hw_up s8 213 (1 : Int32).toNatClampNeg r7) (fun s9 => hw_bd (F_X7_of a1 (4 : Int32) s9) (fun r11 s12 => hw_gd (hw_inb (2 : Int32) 4) (hw_nm (hw_up s12 213 (2 : Int32).toNatClampNeg r11) (fun s13 => if 0 ≤ r1 then (hw_bd (F_X7_worksOut r1 s13) (fun r16 s17 => hw_bd (F_X7_within r16 (0 : Int32) (99 : Int32) s17) (fun r18 s19 => B_X7_bandOf_71 a1 r18 s19))) else (hw_bd (F_X7_of a1 (4 : Int32) s13) (fun r20 s21 => B_X7_bandOf_71 a1 ((r20 / (20 : Int32)) + (4 : Int32)) s21))))))))))))
set_option maxRecDepth 20000 in
theorem KB_X7_bandOf_71 {G : hw_G} (C : hw_Ok G cX7_bandOf RX7 6 4 (some .int) hw_TM) (hTL : hw_eT (hw_gE G) = hw_TM) (l1 : Int32) (k0 : Int32) (s0 : hw_St) : hw_K G 6 hw_ri (B_X7_bandOf_71 l1 k0 s0) 71 [(0, hw_rv (hw_ea (hw_gE G)) 200), (1, .int l1)] [.int k0] s0 := by
  unfold B_X7_bandOf_71
  refine hw_istore C dX7_bandOf_71 (by decide) rfl ?_
  refine hw_aload_n C dX7_bandOf_73 rfl 1 rfl ?_
  refine hw_iload_n C dX7_bandOf_74 rfl 2 rfl ?_
  refine hw_iconst C dX7_bandOf_75 (v := 0) (by decide) ?_
  refine hw_callVi C (M_X7_of (hw_gE G) hTL l1 (0 : Int32) s0) W_X7_of SV_X7_of cf_X7 hw_T200 mw_194 (by decide) rfl ⟨rfl, hw_l8 rfl⟩ dX7_bandOf_76 (fun r22 s23 => ?_)
  refine hw_istore C dX7_bandOf_79 (by decide) rfl ?_
  refine hw_iload C dX7_bandOf_81 0 rfl ?_
  refine hw_iconst C dX7_bandOf_83 (v := 2) (by decide) ?_
  refine hw_icmp_ne C dX7_bandOf_84 (tgt := 94) (by decide) (fun c24 => ?_) (fun c24 => ?_)
  · refine hw_iload C dX7_bandOf_94 0 rfl ?_
    refine hw_iconst C dX7_bandOf_96 (v := 4) (by decide) ?_
    refine hw_icmp_ne C dX7_bandOf_97 (tgt := 116) (by decide) (fun c25 => ?_) (fun c25 => ?_)
    · refine hw_iload C dX7_bandOf_116 1 rfl ?_
      exact hw_iret C dX7_bandOf_118
    · refine hw_iload C dX7_bandOf_100 1 rfl ?_
      refine hw_iconst C dX7_bandOf_102 (v := 2) (by decide) ?_
      refine hw_idivC C dX7_bandOf_103 (by decide) ?_
      refine hw_iconst C dX7_bandOf_104 (v := 2) (by decide) ?_
      refine hw_isub C dX7_bandOf_105 ?_
      refine hw_iconst C dX7_bandOf_106 (v := 0) (by decide) ?_
      refine hw_sipush C dX7_bandOf_107 (v := 9999) (by decide) ?_
      refine hw_callSi C (M_X7_within (hw_gE G) hTL ((k0 / (2 : Int32)) - (2 : Int32)) (0 : Int32) (9999 : Int32) s23) W_X7_within SS_X7_within mw_315 (by decide) rfl ⟨rfl, hw_l8 rfl⟩ dX7_bandOf_110 (fun r26 s27 => ?_)
      refine hw_goto C dX7_bandOf_113 (tgt := 118) (by decide) ?_
      exact hw_iret C dX7_bandOf_118
  · refine hw_iload C dX7_bandOf_87 1 rfl ?_
    refine hw_iconst C dX7_bandOf_89 (v := 2) (by decide) ?_
    refine hw_idivC C dX7_bandOf_90 (by decide) ?_
    refine hw_goto C dX7_bandOf_91 (tgt := 118) (by decide) ?_
    exact hw_iret C dX7_bandOf_118
set_option maxRecDepth 20000 in
theorem M_X7_bandOf (E : hw_E) (hE : hw_eT E = hw_TM) (a1 : Int32) (a2 : Int32) (s0 : hw_St) : hw_M E yX7_bandOf cX7_bandOf 6 (some .int) 4 [hw_rv (hw_ea E) 200, .int a1, .int a2] s0 hw_ri (F_X7_bandOf a1 a2 s0) := by
  refine hw_entry (own := RX7) (TL := hw_TM) (by decide) rfl hE (hw_cR (hw_cI (hw_cI hw_cN))) (hw_l8 rfl) (fun G hG C => ?_)
  subst hG
  have hTL := hE
  show hw_K G 6 hw_ri _ 0 [(0, hw_rv (hw_ea (hw_gE G)) 200), (1, .int a1), (2, .int a2)] [] s0
  unfold F_X7_bandOf
  refine hw_aload_n C dX7_bandOf_0 rfl 0 rfl ?_
  refine hw_iconst C dX7_bandOf_1 (v := 0) (by decide) ?_
  refine hw_callVi C (M_X7_counts (hw_gE G) hTL (0 : Int32) s0) W_X7_counts SV_X7_counts cf_X7 hw_T200 mw_404 (by decide) rfl ⟨rfl, hw_l8 rfl⟩ dX7_bandOf_2 (fun r1 s2 => ?_)
  refine hw_istore_n C dX7_bandOf_5 rfl (by decide) rfl ?_
  refine hw_aload_n C dX7_bandOf_6 rfl 1 rfl ?_
  refine hw_getR C cf_X7 lf_X7_48 hw_T200 (t2 := 213) (by decide) dX7_bandOf_7 ?_
  refine hw_iconst C dX7_bandOf_10 (v := 0) (by decide) ?_
  refine hw_aload_n C dX7_bandOf_11 rfl 1 rfl ?_
  refine hw_iload_n C dX7_bandOf_12 rfl 2 rfl ?_
  refine hw_iload_n C dX7_bandOf_13 rfl 3 rfl ?_
  refine hw_callVi C (M_X7_eddyOf (hw_gE G) hTL a1 a2 s2) W_X7_eddyOf SV_X7_eddyOf cf_X7 hw_T200 mw_392 (by decide) rfl ⟨rfl, hw_l8 rfl⟩ dX7_bandOf_14 (fun r3 s4 => ?_)
  refine hw_iast C hw_T213 (by decide) dX7_bandOf_17 (fun h6 s5 => ?_)
  refine hw_aload_n C dX7_bandOf_18 rfl 1 rfl ?_
  refine hw_getR C cf_X7 lf_X7_48 hw_T200 (t2 := 213) (by decide) dX7_bandOf_19 ?_
  refine hw_iconst C dX7_bandOf_22 (v := 1) (by decide) ?_
  refine hw_aload_n C dX7_bandOf_23 rfl 1 rfl ?_
  refine hw_iload_n C dX7_bandOf_24 rfl 2 rfl ?_
  refine hw_iconst C dX7_bandOf_25 (v := 2) (by decide) ?_
  refine hw_callVi C (M_X7_of (hw_gE G) hTL a1 (2 : Int32) s5) W_X7_of SV_X7_of cf_X7 hw_T200 mw_194 (by decide) rfl ⟨rfl, hw_l8 rfl⟩ dX7_bandOf_26 (fun r7 s8 => ?_)
  refine hw_iast C hw_T213 (by decide) dX7_bandOf_29 (fun h10 s9 => ?_)
  refine hw_aload_n C dX7_bandOf_30 rfl 1 rfl ?_
  refine hw_getR C cf_X7 lf_X7_48 hw_T200 (t2 := 213) (by decide) dX7_bandOf_31 ?_
  refine hw_iconst C dX7_bandOf_34 (v := 2) (by decide) ?_
  refine hw_aload_n C dX7_bandOf_35 rfl 1 rfl ?_
  refine hw_iload_n C dX7_bandOf_36 rfl 2 rfl ?_
  refine hw_iconst C dX7_bandOf_37 (v := 4) (by decide) ?_
  refine hw_callVi C (M_X7_of (hw_gE G) hTL a1 (4 : Int32) s9) W_X7_of SV_X7_of cf_X7 hw_T200 mw_194 (by decide) rfl ⟨rfl, hw_l8 rfl⟩ dX7_bandOf_38 (fun r11 s12 => ?_)
  refine hw_iast C hw_T213 (by decide) dX7_bandOf_41 (fun h14 s13 => ?_)
  refine hw_iload_n C dX7_bandOf_42 rfl 0 rfl ?_
  refine hw_if_ge C dX7_bandOf_43 (tgt := 60) (by decide) (fun c15 => ?_) (fun c15 => ?_)
  · refine hw_aload_n C dX7_bandOf_60 rfl 1 rfl ?_
    refine hw_iload_n C dX7_bandOf_61 rfl 0 rfl ?_
    refine hw_callVi C (M_X7_worksOut (hw_gE G) hTL r1 s13) W_X7_worksOut SV_X7_worksOut cf_X7 hw_T200 mw_408 (by decide) rfl ⟨rfl, hw_l8 rfl⟩ dX7_bandOf_62 (fun r16 s17 => ?_)
    refine hw_iconst C dX7_bandOf_65 (v := 0) (by decide) ?_
    refine hw_bipush C dX7_bandOf_66 (v := 99) (by decide) ?_
    refine hw_callSi C (M_X7_within (hw_gE G) hTL r16 (0 : Int32) (99 : Int32) s17) W_X7_within SS_X7_within mw_315 (by decide) rfl ⟨rfl, hw_l8 rfl⟩ dX7_bandOf_68 (fun r18 s19 => ?_)
    exact hw_lv [1, 2] rfl (KB_X7_bandOf_71 C hTL a1 r18 s19)
  · refine hw_aload_n C dX7_bandOf_46 rfl 1 rfl ?_
    refine hw_iload_n C dX7_bandOf_47 rfl 2 rfl ?_
    refine hw_iconst C dX7_bandOf_48 (v := 4) (by decide) ?_
    refine hw_callVi C (M_X7_of (hw_gE G) hTL a1 (4 : Int32) s13) W_X7_of SV_X7_of cf_X7 hw_T200 mw_194 (by decide) rfl ⟨rfl, hw_l8 rfl⟩ dX7_bandOf_49 (fun r20 s21 => ?_)
    refine hw_bipush C dX7_bandOf_52 (v := 20) (by decide) ?_
    refine hw_idivC C dX7_bandOf_54 (by decide) ?_
    refine hw_iconst C dX7_bandOf_55 (v := 4) (by decide) ?_
    refine hw_iadd C dX7_bandOf_56 ?_
    refine hw_goto C dX7_bandOf_57 (tgt := 71) (by decide) ?_
    exact hw_lv [1, 2] rfl (KB_X7_bandOf_71 C hTL a1 ((r20 / (20 : Int32)) + (4 : Int32)) s21)
/-! HumWireModel growsOf(II)I, level 3 -/
def F_X7_growsOf  (a1 : Int32) (a2 : Int32) (s0 : hw_St) : Option (Int32 × hw_St) := hw_bd (F_X7_counts (1 : Int32) s0) (fun r1 s2 => hw_bd (F_X7_airOf a1 a2 s2) (fun r3 s4 => hw_gd (hw_inb (0 : Int32) 4) (hw_nm (hw_up s4 213 (0 : Int32).toNatClampNeg r3) (fun s5 => hw_bd (F_X7_of a1 (4 : Int32) s5) (fun r7 s8 => hw_gd (hw_inb (1 : Int32) 4) (hw_nm (hw_up s8 213 (1 : Int32).toNatClampNeg r7) (fun s9 => if 0 ≤ r1 then (hw_bd (F_X7_worksOut r1 s9) (fun r12 s13 => hw_bd (F_X7_within r12 (0 : Int32) (999 : Int32) s13) (fun r14 s15 => some (r14, s15)))) else (hw_bd (F_X7_airOf a1 a2 s9) (fun r16 s17 => some (r16, s17))))))))))
set_option maxRecDepth 20000 in
theorem M_X7_growsOf (E : hw_E) (hE : hw_eT E = hw_TM) (a1 : Int32) (a2 : Int32) (s0 : hw_St) : hw_M E yX7_growsOf cX7_growsOf 4 (some .int) 3 [hw_rv (hw_ea E) 200, .int a1, .int a2] s0 hw_ri (F_X7_growsOf a1 a2 s0) := by
  refine hw_entry (own := RX7) (TL := hw_TM) (by decide) rfl hE (hw_cR (hw_cI (hw_cI hw_cN))) (hw_l8 rfl) (fun G hG C => ?_)
  subst hG
  have hTL := hE
  show hw_K G 4 hw_ri _ 0 [(0, hw_rv (hw_ea (hw_gE G)) 200), (1, .int a1), (2, .int a2)] [] s0
  unfold F_X7_growsOf
  refine hw_aload_n C dX7_growsOf_0 rfl 0 rfl ?_
  refine hw_iconst C dX7_growsOf_1 (v := 1) (by decide) ?_
  refine hw_callVi C (M_X7_counts (hw_gE G) hTL (1 : Int32) s0) W_X7_counts SV_X7_counts cf_X7 hw_T200 mw_404 (by decide) rfl ⟨rfl, hw_l8 rfl⟩ dX7_growsOf_2 (fun r1 s2 => ?_)
  refine hw_istore_n C dX7_growsOf_5 rfl (by decide) rfl ?_
  refine hw_aload_n C dX7_growsOf_6 rfl 1 rfl ?_
  refine hw_getR C cf_X7 lf_X7_48 hw_T200 (t2 := 213) (by decide) dX7_growsOf_7 ?_
  refine hw_iconst C dX7_growsOf_10 (v := 0) (by decide) ?_
  refine hw_aload_n C dX7_growsOf_11 rfl 1 rfl ?_
  refine hw_iload_n C dX7_growsOf_12 rfl 2 rfl ?_
  refine hw_iload_n C dX7_growsOf_13 rfl 3 rfl ?_
  refine hw_callVi C (M_X7_airOf (hw_gE G) hTL a1 a2 s2) W_X7_airOf SV_X7_airOf cf_X7 hw_T200 mw_388 (by decide) rfl ⟨rfl, hw_l8 rfl⟩ dX7_growsOf_14 (fun r3 s4 => ?_)
  refine hw_iast C hw_T213 (by decide) dX7_growsOf_17 (fun h6 s5 => ?_)
  refine hw_aload_n C dX7_growsOf_18 rfl 1 rfl ?_
  refine hw_getR C cf_X7 lf_X7_48 hw_T200 (t2 := 213) (by decide) dX7_growsOf_19 ?_
  refine hw_iconst C dX7_growsOf_22 (v := 1) (by decide) ?_
  refine hw_aload_n C dX7_growsOf_23 rfl 1 rfl ?_
  refine hw_iload_n C dX7_growsOf_24 rfl 2 rfl ?_
  refine hw_iconst C dX7_growsOf_25 (v := 4) (by decide) ?_
  refine hw_callVi C (M_X7_of (hw_gE G) hTL a1 (4 : Int32) s5) W_X7_of SV_X7_of cf_X7 hw_T200 mw_194 (by decide) rfl ⟨rfl, hw_l8 rfl⟩ dX7_growsOf_26 (fun r7 s8 => ?_)
  refine hw_iast C hw_T213 (by decide) dX7_growsOf_29 (fun h10 s9 => ?_)
  refine hw_iload_n C dX7_growsOf_30 rfl 0 rfl ?_
  refine hw_if_ge C dX7_growsOf_31 (tgt := 43) (by decide) (fun c11 => ?_) (fun c11 => ?_)
  · refine hw_aload_n C dX7_growsOf_43 rfl 1 rfl ?_
    refine hw_iload_n C dX7_growsOf_44 rfl 0 rfl ?_
    refine hw_callVi C (M_X7_worksOut (hw_gE G) hTL r1 s9) W_X7_worksOut SV_X7_worksOut cf_X7 hw_T200 mw_408 (by decide) rfl ⟨rfl, hw_l8 rfl⟩ dX7_growsOf_45 (fun r12 s13 => ?_)
    refine hw_iconst C dX7_growsOf_48 (v := 0) (by decide) ?_
    refine hw_sipush C dX7_growsOf_49 (v := 999) (by decide) ?_
    refine hw_callSi C (M_X7_within (hw_gE G) hTL r12 (0 : Int32) (999 : Int32) s13) W_X7_within SS_X7_within mw_315 (by decide) rfl ⟨rfl, hw_l8 rfl⟩ dX7_growsOf_52 (fun r14 s15 => ?_)
    exact hw_iret C dX7_growsOf_55
  · refine hw_aload_n C dX7_growsOf_34 rfl 1 rfl ?_
    refine hw_iload_n C dX7_growsOf_35 rfl 2 rfl ?_
    refine hw_iload_n C dX7_growsOf_36 rfl 3 rfl ?_
    refine hw_callVi C (M_X7_airOf (hw_gE G) hTL a1 a2 s9) W_X7_airOf SV_X7_airOf cf_X7 hw_T200 mw_388 (by decide) rfl ⟨rfl, hw_l8 rfl⟩ dX7_growsOf_37 (fun r16 s17 => ?_)
    refine hw_goto C dX7_growsOf_40 (tgt := 55) (by decide) ?_
    exact hw_iret C dX7_growsOf_55
/-! HumWireModel isHeldBy(II)Z, level 5 -/
def B_X7_isHeldBy_27  (k0 : Int32) (k1 : Int32) (k2 : Int32) (s0 : hw_St) : Option (Int32 × hw_St) := if (k1 * k0) < k2 then (some ((0 : Int32), s0)) else (some ((1 : Int32), s0))
def F_X7_isHeldBy  (a1 : Int32) (a2 : Int32) (s0 : hw_St) : Option (Int32 × hw_St) := hw_bd (F_X7_offOf a1 a2 s0) (fun r1 s2 => hw_bd (F_X7_bandOf a1 a2 s2) (fun r3 s4 => hw_bd (F_X7_of a1 (5 : Int32) s4) (fun r5 s6 => if r5 = (1 : Int32) then (B_X7_isHeldBy_27 (2 : Int32) r3 r1 s6) else (B_X7_isHeldBy_27 (1 : Int32) r3 r1 s6))))
set_option maxRecDepth 20000 in
theorem KB_X7_isHeldBy_27 {G : hw_G} (C : hw_Ok G cX7_isHeldBy RX7 3 5 (some .boolean) hw_TM) (hTL : hw_eT (hw_gE G) = hw_TM) (k0 : Int32) (k1 : Int32) (k2 : Int32) (s0 : hw_St) : hw_K G 3 hw_ri (B_X7_isHeldBy_27 k0 k1 k2 s0) 27 [] [.int k0, .int k1, .int k2] s0 := by
  unfold B_X7_isHeldBy_27
  refine hw_imul C dX7_isHeldBy_27 ?_
  refine hw_icmp_gt C dX7_isHeldBy_28 (tgt := 35) (by decide) (fun c8 => ?_) (fun c8 => ?_)
  · refine hw_iconst C dX7_isHeldBy_35 (v := 0) (by decide) ?_
    exact hw_zret1 C (by decide) dX7_isHeldBy_36
  · refine hw_iconst C dX7_isHeldBy_31 (v := 1) (by decide) ?_
    refine hw_goto C dX7_isHeldBy_32 (tgt := 36) (by decide) ?_
    exact hw_zret1 C (by decide) dX7_isHeldBy_36
set_option maxRecDepth 20000 in
theorem M_X7_isHeldBy (E : hw_E) (hE : hw_eT E = hw_TM) (a1 : Int32) (a2 : Int32) (s0 : hw_St) : hw_M E yX7_isHeldBy cX7_isHeldBy 3 (some .boolean) 5 [hw_rv (hw_ea E) 200, .int a1, .int a2] s0 hw_ri (F_X7_isHeldBy a1 a2 s0) := by
  refine hw_entry (own := RX7) (TL := hw_TM) (by decide) rfl hE (hw_cR (hw_cI (hw_cI hw_cN))) (hw_l8 rfl) (fun G hG C => ?_)
  subst hG
  have hTL := hE
  show hw_K G 3 hw_ri _ 0 [(0, hw_rv (hw_ea (hw_gE G)) 200), (1, .int a1), (2, .int a2)] [] s0
  unfold F_X7_isHeldBy
  refine hw_aload_n C dX7_isHeldBy_0 rfl 0 rfl ?_
  refine hw_iload_n C dX7_isHeldBy_1 rfl 1 rfl ?_
  refine hw_iload_n C dX7_isHeldBy_2 rfl 2 rfl ?_
  refine hw_callVi C (M_X7_offOf (hw_gE G) hTL a1 a2 s0) W_X7_offOf SV_X7_offOf cf_X7 hw_T200 mw_396 (by decide) rfl ⟨rfl, hw_l8 rfl⟩ dX7_isHeldBy_3 (fun r1 s2 => ?_)
  refine hw_aload_n C dX7_isHeldBy_6 rfl 0 rfl ?_
  refine hw_iload_n C dX7_isHeldBy_7 rfl 1 rfl ?_
  refine hw_iload_n C dX7_isHeldBy_8 rfl 2 rfl ?_
  refine hw_callVi C (M_X7_bandOf (hw_gE G) hTL a1 a2 s2) W_X7_bandOf SV_X7_bandOf cf_X7 hw_T200 mw_400 (by decide) rfl ⟨rfl, hw_l8 rfl⟩ dX7_isHeldBy_9 (fun r3 s4 => ?_)
  refine hw_aload_n C dX7_isHeldBy_12 rfl 0 rfl ?_
  refine hw_iload_n C dX7_isHeldBy_13 rfl 1 rfl ?_
  refine hw_iconst C dX7_isHeldBy_14 (v := 5) (by decide) ?_
  refine hw_callVi C (M_X7_of (hw_gE G) hTL a1 (5 : Int32) s4) W_X7_of SV_X7_of cf_X7 hw_T200 mw_194 (by decide) rfl ⟨rfl, hw_l8 rfl⟩ dX7_isHeldBy_15 (fun r5 s6 => ?_)
  refine hw_iconst C dX7_isHeldBy_18 (v := 1) (by decide) ?_
  refine hw_icmp_ne C dX7_isHeldBy_19 (tgt := 26) (by decide) (fun c7 => ?_) (fun c7 => ?_)
  · refine hw_iconst C dX7_isHeldBy_26 (v := 1) (by decide) ?_
    exact hw_lv [] rfl (KB_X7_isHeldBy_27 C hTL (1 : Int32) r3 r1 s6)
  · refine hw_iconst C dX7_isHeldBy_22 (v := 2) (by decide) ?_
    refine hw_goto C dX7_isHeldBy_23 (tgt := 27) (by decide) ?_
    exact hw_lv [] rfl (KB_X7_isHeldBy_27 C hTL (2 : Int32) r3 r1 s6)
/-! HumWireModel ticks(II)I, level 6 -/
def B_X7_ticks_183  (l1 : Int32) (l2 : Int32) (l4 : Int32) (k0 : Int32) (k1 : Int32) (k2 : Int32) (s0 : hw_St) : Option (Int32 × hw_St) := hw_gd (hw_inb k2 1443) (hw_nm (hw_up s0 201 k2.toNatClampNeg (k1 + k0)) (fun s42 => if l4 = 0 then (hw_bd (F_X7_eddyOf l1 l2 s42) (fun r45 s46 => some (r45, s46))) else (hw_bd (F_X7_of l1 (2 : Int32) s42) (fun r47 s48 => some (r47, s48)))))
def B_X7_ticks_86  (l1 : Int32) (l2 : Int32) (l3 : Int32) (l4 : Int32) (k0 : Int32) (k1 : Int32) (s0 : hw_St) : Option (Int32 × hw_St) := hw_gd (hw_inb k1 1443) (hw_nm (hw_up s0 201 k1.toNatClampNeg k0) (fun s17 => hw_bd (F_X7_counts (2 : Int32) s17) (fun r19 s20 => hw_bd (F_X7_of l1 (4 : Int32) s20) (fun r21 s22 => hw_gd (hw_inb (0 : Int32) 4) (hw_nm (hw_up s22 213 (0 : Int32).toNatClampNeg r21) (fun s23 => hw_gd (hw_inb (3 : Int32) 1443) (hw_gd (hw_inb (1 : Int32) 4) (hw_nm (hw_up s23 213 (1 : Int32).toNatClampNeg (s23 201 (3 : Int32).toNatClampNeg)) (fun s26 => hw_gd (hw_inb (l3 + (5 : Int32)) 1443) (hw_gd (hw_inb (2 : Int32) 4) (hw_nm (hw_up s26 213 (2 : Int32).toNatClampNeg (s26 201 (l3 + (5 : Int32)).toNatClampNeg)) (fun s29 => hw_gd (hw_inb (l3 + (6 : Int32)) 1443) (if 0 ≤ r19 then (hw_bd (F_X7_worksOut r19 s29) (fun r33 s34 => hw_bd (F_X7_within r33 (0 : Int32) (999 : Int32) s34) (fun r35 s36 => B_X7_ticks_183 l1 l2 l4 r35 (s29 201 (l3 + (6 : Int32)).toNatClampNeg) (l3 + (6 : Int32)) s36))) else (hw_bd (F_X7_of l1 (4 : Int32) s29) (fun r37 s38 => hw_gd (hw_inb (3 : Int32) 1443) (hw_bd (F_X7_within (r37 - (s38 201 (3 : Int32).toNatClampNeg)) (0 : Int32) (9999 : Int32) s38) (fun r40 s41 => B_X7_ticks_183 l1 l2 l4 r40 (s29 201 (l3 + (6 : Int32)).toNatClampNeg) (l3 + (6 : Int32)) s41)))))))))))))))))
def B_X7_ticks_37  (l1 : Int32) (l2 : Int32) (l3 : Int32) (l4 : Int32) (k0 : Int32) (k1 : Int32) (s0 : hw_St) : Option (Int32 × hw_St) := hw_nm (k1 + k0) (fun x9 => hw_bd (F_X7_loseOf l1 s0) (fun r10 s11 => hw_bd (F_X7_within (x9 - ((x9 * r10) / (20 : Int32))) (0 : Int32) (9999 : Int32) s11) (fun r12 s13 => hw_gd (hw_inb (l3 + (4 : Int32)) 1443) (hw_nm (hw_up s13 201 (l3 + (4 : Int32)).toNatClampNeg r12) (fun s14 => if l4 = 0 then (B_X7_ticks_86 l1 l2 l3 l4 (0 : Int32) (l3 + (5 : Int32)) s14) else (B_X7_ticks_86 l1 l2 l3 l4 (1 : Int32) (l3 + (5 : Int32)) s14))))))
def F_X7_ticks  (a1 : Int32) (a2 : Int32) (s0 : hw_St) : Option (Int32 × hw_St) := hw_nm ((29 : Int32) + ((7 : Int32) * a1)) (fun x1 => hw_bd (F_X7_isHeldBy a1 a2 s0) (fun r2 s3 => hw_bd (F_X7_of a1 (4 : Int32) s3) (fun r4 s5 => if r2 = 0 then (B_X7_ticks_37 a1 a2 x1 r2 (0 : Int32) r4 s5) else (hw_bd (F_X7_growsOf a1 a2 s5) (fun r7 s8 => B_X7_ticks_37 a1 a2 x1 r2 r7 r4 s8)))))
set_option maxRecDepth 20000 in
theorem KB_X7_ticks_183 {G : hw_G} (C : hw_Ok G cX7_ticks RX7 7 6 (some .int) hw_TM) (hTL : hw_eT (hw_gE G) = hw_TM) (l1 : Int32) (l2 : Int32) (l4 : Int32) (k0 : Int32) (k1 : Int32) (k2 : Int32) (s0 : hw_St) : hw_K G 7 hw_ri (B_X7_ticks_183 l1 l2 l4 k0 k1 k2 s0) 183 [(0, hw_rv (hw_ea (hw_gE G)) 200), (1, .int l1), (2, .int l2), (4, .int l4)] [.int k0, .int k1, .int k2, hw_rv (hw_ea (hw_gE G)) 201] s0 := by
  unfold B_X7_ticks_183
  refine hw_iadd C dX7_ticks_183 ?_
  refine hw_iast C hw_T201 (by decide) dX7_ticks_184 (fun h43 s42 => ?_)
  refine hw_iload C dX7_ticks_185 3 rfl ?_
  refine hw_if_eq C dX7_ticks_187 (tgt := 199) (by decide) (fun c44 => ?_) (fun c44 => ?_)
  · refine hw_aload_n C dX7_ticks_199 rfl 0 rfl ?_
    refine hw_iload_n C dX7_ticks_200 rfl 1 rfl ?_
    refine hw_iload_n C dX7_ticks_201 rfl 2 rfl ?_
    refine hw_callVi C (M_X7_eddyOf (hw_gE G) hTL l1 l2 s42) W_X7_eddyOf SV_X7_eddyOf cf_X7 hw_T200 mw_392 (by decide) rfl ⟨rfl, hw_l8 rfl⟩ dX7_ticks_202 (fun r45 s46 => ?_)
    exact hw_iret C dX7_ticks_205
  · refine hw_aload_n C dX7_ticks_190 rfl 0 rfl ?_
    refine hw_iload_n C dX7_ticks_191 rfl 1 rfl ?_
    refine hw_iconst C dX7_ticks_192 (v := 2) (by decide) ?_
    refine hw_callVi C (M_X7_of (hw_gE G) hTL l1 (2 : Int32) s42) W_X7_of SV_X7_of cf_X7 hw_T200 mw_194 (by decide) rfl ⟨rfl, hw_l8 rfl⟩ dX7_ticks_193 (fun r47 s48 => ?_)
    refine hw_goto C dX7_ticks_196 (tgt := 205) (by decide) ?_
    exact hw_iret C dX7_ticks_205
set_option maxRecDepth 20000 in
theorem KB_X7_ticks_86 {G : hw_G} (C : hw_Ok G cX7_ticks RX7 7 6 (some .int) hw_TM) (hTL : hw_eT (hw_gE G) = hw_TM) (l1 : Int32) (l2 : Int32) (l3 : Int32) (l4 : Int32) (k0 : Int32) (k1 : Int32) (s0 : hw_St) : hw_K G 7 hw_ri (B_X7_ticks_86 l1 l2 l3 l4 k0 k1 s0) 86 [(0, hw_rv (hw_ea (hw_gE G)) 200), (1, .int l1), (2, .int l2), (3, .int l3), (4, .int l4)] [.int k0, .int k1, hw_rv (hw_ea (hw_gE G)) 201] s0 := by
  unfold B_X7_ticks_86
  refine hw_iast C hw_T201 (by decide) dX7_ticks_86 (fun h18 s17 => ?_)
  refine hw_aload_n C dX7_ticks_87 rfl 0 rfl ?_
  refine hw_iconst C dX7_ticks_88 (v := 2) (by decide) ?_
  refine hw_callVi C (M_X7_counts (hw_gE G) hTL (2 : Int32) s17) W_X7_counts SV_X7_counts cf_X7 hw_T200 mw_404 (by decide) rfl ⟨rfl, hw_l8 rfl⟩ dX7_ticks_89 (fun r19 s20 => ?_)
  refine hw_istore C dX7_ticks_92 (by decide) rfl ?_
  refine hw_aload_n C dX7_ticks_94 rfl 1 rfl ?_
  refine hw_getR C cf_X7 lf_X7_48 hw_T200 (t2 := 213) (by decide) dX7_ticks_95 ?_
  refine hw_iconst C dX7_ticks_98 (v := 0) (by decide) ?_
  refine hw_aload_n C dX7_ticks_99 rfl 1 rfl ?_
  refine hw_iload_n C dX7_ticks_100 rfl 2 rfl ?_
  refine hw_iconst C dX7_ticks_101 (v := 4) (by decide) ?_
  refine hw_callVi C (M_X7_of (hw_gE G) hTL l1 (4 : Int32) s20) W_X7_of SV_X7_of cf_X7 hw_T200 mw_194 (by decide) rfl ⟨rfl, hw_l8 rfl⟩ dX7_ticks_102 (fun r21 s22 => ?_)
  refine hw_iast C hw_T213 (by decide) dX7_ticks_105 (fun h24 s23 => ?_)
  refine hw_aload_n C dX7_ticks_106 rfl 1 rfl ?_
  refine hw_getR C cf_X7 lf_X7_48 hw_T200 (t2 := 213) (by decide) dX7_ticks_107 ?_
  refine hw_iconst C dX7_ticks_110 (v := 1) (by decide) ?_
  refine hw_aload_n C dX7_ticks_111 rfl 1 rfl ?_
  refine hw_getR C cf_X7 lf_X7_9 hw_T200 (t2 := 201) (by decide) dX7_ticks_112 ?_
  refine hw_iconst C dX7_ticks_115 (v := 3) (by decide) ?_
  refine hw_iald C hw_T201 (by decide) dX7_ticks_116 (fun h25 => ?_)
  refine hw_iast C hw_T213 (by decide) dX7_ticks_117 (fun h27 s26 => ?_)
  refine hw_aload_n C dX7_ticks_118 rfl 1 rfl ?_
  refine hw_getR C cf_X7 lf_X7_48 hw_T200 (t2 := 213) (by decide) dX7_ticks_119 ?_
  refine hw_iconst C dX7_ticks_122 (v := 2) (by decide) ?_
  refine hw_aload_n C dX7_ticks_123 rfl 1 rfl ?_
  refine hw_getR C cf_X7 lf_X7_9 hw_T200 (t2 := 201) (by decide) dX7_ticks_124 ?_
  refine hw_iload_n C dX7_ticks_127 rfl 4 rfl ?_
  refine hw_iconst C dX7_ticks_128 (v := 5) (by decide) ?_
  refine hw_iadd C dX7_ticks_129 ?_
  refine hw_iald C hw_T201 (by decide) dX7_ticks_130 (fun h28 => ?_)
  refine hw_iast C hw_T213 (by decide) dX7_ticks_131 (fun h30 s29 => ?_)
  refine hw_aload_n C dX7_ticks_132 rfl 1 rfl ?_
  refine hw_getR C cf_X7 lf_X7_9 hw_T200 (t2 := 201) (by decide) dX7_ticks_133 ?_
  refine hw_iload_n C dX7_ticks_136 rfl 4 rfl ?_
  refine hw_bipush C dX7_ticks_137 (v := 6) (by decide) ?_
  refine hw_iadd C dX7_ticks_139 ?_
  refine hw_dup2 C dX7_ticks_140 ?_
  refine hw_iald C hw_T201 (by decide) dX7_ticks_141 (fun h31 => ?_)
  refine hw_iload C dX7_ticks_142 0 rfl ?_
  refine hw_if_ge C dX7_ticks_144 (tgt := 170) (by decide) (fun c32 => ?_) (fun c32 => ?_)
  · refine hw_aload_n C dX7_ticks_170 rfl 1 rfl ?_
    refine hw_iload C dX7_ticks_171 0 rfl ?_
    refine hw_callVi C (M_X7_worksOut (hw_gE G) hTL r19 s29) W_X7_worksOut SV_X7_worksOut cf_X7 hw_T200 mw_408 (by decide) rfl ⟨rfl, hw_l8 rfl⟩ dX7_ticks_173 (fun r33 s34 => ?_)
    refine hw_iconst C dX7_ticks_176 (v := 0) (by decide) ?_
    refine hw_sipush C dX7_ticks_177 (v := 999) (by decide) ?_
    refine hw_callSi C (M_X7_within (hw_gE G) hTL r33 (0 : Int32) (999 : Int32) s34) W_X7_within SS_X7_within mw_315 (by decide) rfl ⟨rfl, hw_l8 rfl⟩ dX7_ticks_180 (fun r35 s36 => ?_)
    exact hw_lv [1, 2, 3, 5] rfl (KB_X7_ticks_183 C hTL l1 l2 l4 r35 (s29 201 (l3 + (6 : Int32)).toNatClampNeg) (l3 + (6 : Int32)) s36)
  · refine hw_aload_n C dX7_ticks_147 rfl 1 rfl ?_
    refine hw_iload_n C dX7_ticks_148 rfl 2 rfl ?_
    refine hw_iconst C dX7_ticks_149 (v := 4) (by decide) ?_
    refine hw_callVi C (M_X7_of (hw_gE G) hTL l1 (4 : Int32) s29) W_X7_of SV_X7_of cf_X7 hw_T200 mw_194 (by decide) rfl ⟨rfl, hw_l8 rfl⟩ dX7_ticks_150 (fun r37 s38 => ?_)
    refine hw_aload_n C dX7_ticks_153 rfl 1 rfl ?_
    refine hw_getR C cf_X7 lf_X7_9 hw_T200 (t2 := 201) (by decide) dX7_ticks_154 ?_
    refine hw_iconst C dX7_ticks_157 (v := 3) (by decide) ?_
    refine hw_iald C hw_T201 (by decide) dX7_ticks_158 (fun h39 => ?_)
    refine hw_isub C dX7_ticks_159 ?_
    refine hw_iconst C dX7_ticks_160 (v := 0) (by decide) ?_
    refine hw_sipush C dX7_ticks_161 (v := 9999) (by decide) ?_
    refine hw_callSi C (M_X7_within (hw_gE G) hTL (r37 - (s38 201 (3 : Int32).toNatClampNeg)) (0 : Int32) (9999 : Int32) s38) W_X7_within SS_X7_within mw_315 (by decide) rfl ⟨rfl, hw_l8 rfl⟩ dX7_ticks_164 (fun r40 s41 => ?_)
    refine hw_goto C dX7_ticks_167 (tgt := 183) (by decide) ?_
    exact hw_lv [1, 2, 3, 5] rfl (KB_X7_ticks_183 C hTL l1 l2 l4 r40 (s29 201 (l3 + (6 : Int32)).toNatClampNeg) (l3 + (6 : Int32)) s41)
set_option maxRecDepth 20000 in
theorem KB_X7_ticks_37 {G : hw_G} (C : hw_Ok G cX7_ticks RX7 7 6 (some .int) hw_TM) (hTL : hw_eT (hw_gE G) = hw_TM) (l1 : Int32) (l2 : Int32) (l3 : Int32) (l4 : Int32) (k0 : Int32) (k1 : Int32) (s0 : hw_St) : hw_K G 7 hw_ri (B_X7_ticks_37 l1 l2 l3 l4 k0 k1 s0) 37 [(0, hw_rv (hw_ea (hw_gE G)) 200), (1, .int l1), (2, .int l2), (3, .int l3), (4, .int l4)] [.int k0, .int k1] s0 := by
  unfold B_X7_ticks_37
  refine hw_iadd C dX7_ticks_37 ?_
  refine hw_istoreN C dX7_ticks_38 (by decide) (fun _ => rfl) (fun x9 => ?_)
  refine hw_aload_n C dX7_ticks_40 rfl 1 rfl ?_
  refine hw_getR C cf_X7 lf_X7_9 hw_T200 (t2 := 201) (by decide) dX7_ticks_41 ?_
  refine hw_iload_n C dX7_ticks_44 rfl 4 rfl ?_
  refine hw_iconst C dX7_ticks_45 (v := 4) (by decide) ?_
  refine hw_iadd C dX7_ticks_46 ?_
  refine hw_iload C dX7_ticks_47 0 rfl ?_
  refine hw_iload C dX7_ticks_49 0 rfl ?_
  refine hw_aload_n C dX7_ticks_51 rfl 1 rfl ?_
  refine hw_iload_n C dX7_ticks_52 rfl 2 rfl ?_
  refine hw_callVi C (M_X7_loseOf (hw_gE G) hTL l1 s0) W_X7_loseOf SV_X7_loseOf cf_X7 hw_T200 mw_198 (by decide) rfl ⟨rfl, hw_l8 rfl⟩ dX7_ticks_53 (fun r10 s11 => ?_)
  refine hw_imul C dX7_ticks_56 ?_
  refine hw_bipush C dX7_ticks_57 (v := 20) (by decide) ?_
  refine hw_idivC C dX7_ticks_59 (by decide) ?_
  refine hw_isub C dX7_ticks_60 ?_
  refine hw_iconst C dX7_ticks_61 (v := 0) (by decide) ?_
  refine hw_sipush C dX7_ticks_62 (v := 9999) (by decide) ?_
  refine hw_callSi C (M_X7_within (hw_gE G) hTL (x9 - ((x9 * r10) / (20 : Int32))) (0 : Int32) (9999 : Int32) s11) W_X7_within SS_X7_within mw_315 (by decide) rfl ⟨rfl, hw_l8 rfl⟩ dX7_ticks_65 (fun r12 s13 => ?_)
  refine hw_iast C hw_T201 (by decide) dX7_ticks_68 (fun h15 s14 => ?_)
  refine hw_aload_n C dX7_ticks_69 rfl 1 rfl ?_
  refine hw_getR C cf_X7 lf_X7_9 hw_T200 (t2 := 201) (by decide) dX7_ticks_70 ?_
  refine hw_iload_n C dX7_ticks_73 rfl 4 rfl ?_
  refine hw_iconst C dX7_ticks_74 (v := 5) (by decide) ?_
  refine hw_iadd C dX7_ticks_75 ?_
  refine hw_iload C dX7_ticks_76 5 rfl ?_
  refine hw_if_eq C dX7_ticks_78 (tgt := 85) (by decide) (fun c16 => ?_) (fun c16 => ?_)
  · refine hw_iconst C dX7_ticks_85 (v := 0) (by decide) ?_
    exact hw_lv [1, 2, 3, 4, 5] rfl (KB_X7_ticks_86 C hTL l1 l2 l3 l4 (0 : Int32) (l3 + (5 : Int32)) s14)
  · refine hw_iconst C dX7_ticks_81 (v := 1) (by decide) ?_
    refine hw_goto C dX7_ticks_82 (tgt := 86) (by decide) ?_
    exact hw_lv [1, 2, 3, 4, 5] rfl (KB_X7_ticks_86 C hTL l1 l2 l3 l4 (1 : Int32) (l3 + (5 : Int32)) s14)
set_option maxRecDepth 20000 in
theorem M_X7_ticks (E : hw_E) (hE : hw_eT E = hw_TM) (a1 : Int32) (a2 : Int32) (s0 : hw_St) : hw_M E yX7_ticks cX7_ticks 7 (some .int) 6 [hw_rv (hw_ea E) 200, .int a1, .int a2] s0 hw_ri (F_X7_ticks a1 a2 s0) := by
  refine hw_entry (own := RX7) (TL := hw_TM) (by decide) rfl hE (hw_cR (hw_cI (hw_cI hw_cN))) (hw_l8 rfl) (fun G hG C => ?_)
  subst hG
  have hTL := hE
  show hw_K G 7 hw_ri _ 0 [(0, hw_rv (hw_ea (hw_gE G)) 200), (1, .int a1), (2, .int a2)] [] s0
  unfold F_X7_ticks
  refine hw_bipush C dX7_ticks_0 (v := 29) (by decide) ?_
  refine hw_bipush C dX7_ticks_2 (v := 7) (by decide) ?_
  refine hw_iload_n C dX7_ticks_4 rfl 1 rfl ?_
  refine hw_imul C dX7_ticks_5 ?_
  refine hw_iadd C dX7_ticks_6 ?_
  refine hw_istore_nN C dX7_ticks_7 rfl (by decide) (fun _ => rfl) (fun x1 => ?_)
  refine hw_aload_n C dX7_ticks_8 rfl 1 rfl ?_
  refine hw_iload_n C dX7_ticks_9 rfl 2 rfl ?_
  refine hw_iload_n C dX7_ticks_10 rfl 3 rfl ?_
  refine hw_callVi C (M_X7_isHeldBy (hw_gE G) hTL a1 a2 s0) W_X7_isHeldBy SV_X7_isHeldBy cf_X7 hw_T200 mw_419 (by decide) rfl ⟨rfl, hw_l8 rfl⟩ dX7_ticks_11 (fun r2 s3 => ?_)
  refine hw_istore C dX7_ticks_14 (by decide) rfl ?_
  refine hw_aload_n C dX7_ticks_16 rfl 2 rfl ?_
  refine hw_iload_n C dX7_ticks_17 rfl 3 rfl ?_
  refine hw_iconst C dX7_ticks_18 (v := 4) (by decide) ?_
  refine hw_callVi C (M_X7_of (hw_gE G) hTL a1 (4 : Int32) s3) W_X7_of SV_X7_of cf_X7 hw_T200 mw_194 (by decide) rfl ⟨rfl, hw_l8 rfl⟩ dX7_ticks_19 (fun r4 s5 => ?_)
  refine hw_iload C dX7_ticks_22 0 rfl ?_
  refine hw_if_eq C dX7_ticks_24 (tgt := 36) (by decide) (fun c6 => ?_) (fun c6 => ?_)
  · refine hw_iconst C dX7_ticks_36 (v := 0) (by decide) ?_
    exact hw_lv [2, 3, 4, 1, 0] rfl (KB_X7_ticks_37 C hTL a1 a2 x1 r2 (0 : Int32) r4 s5)
  · refine hw_aload_n C dX7_ticks_27 rfl 2 rfl ?_
    refine hw_iload_n C dX7_ticks_28 rfl 3 rfl ?_
    refine hw_iload_n C dX7_ticks_29 rfl 4 rfl ?_
    refine hw_callVi C (M_X7_growsOf (hw_gE G) hTL a1 a2 s5) W_X7_growsOf SV_X7_growsOf cf_X7 hw_T200 mw_415 (by decide) rfl ⟨rfl, hw_l8 rfl⟩ dX7_ticks_30 (fun r7 s8 => ?_)
    refine hw_goto C dX7_ticks_33 (tgt := 37) (by decide) ?_
    exact hw_lv [2, 3, 4, 1, 0] rfl (KB_X7_ticks_37 C hTL a1 a2 x1 r2 r7 r4 s8)
/-! HumWireModel by(III)I, level 6 -/
def F_X7_by  (a1 : Int32) (a2 : Int32) (a3 : Int32) (s0 : hw_St) : Option (Int32 × hw_St) := hw_bd (F_X7_isWire a1 s0) (fun r1 s2 => if r1 = 0 then (some ((-1000000001 : Int32), s2)) else (hw_bd (F_X7_isWind a2 s2) (fun r4 s5 => if r4 = 0 then (some ((-1000000001 : Int32), s5)) else (if a3 = (0 : Int32) then (hw_bd (F_X7_airOf a1 a2 s5) (fun r7 s8 => some (r7, s8))) else (if a3 = (1 : Int32) then (hw_bd (F_X7_eddyOf a1 a2 s5) (fun r10 s11 => some (r10, s11))) else (if a3 = (2 : Int32) then (hw_bd (F_X7_offOf a1 a2 s5) (fun r13 s14 => some (r13, s14))) else (if a3 = (3 : Int32) then (hw_bd (F_X7_bandOf a1 a2 s5) (fun r16 s17 => some (r16, s17))) else (if a3 = (4 : Int32) then (hw_bd (F_X7_growsOf a1 a2 s5) (fun r19 s20 => some (r19, s20))) else (if a3 = (5 : Int32) then (hw_bd (F_X7_isHeldBy a1 a2 s5) (fun r22 s23 => if r22 = 0 then (hw_bd (F_X7_eddyOf a1 a2 s23) (fun r25 s26 => some (r25, s26))) else (hw_bd (F_X7_of a1 (2 : Int32) s23) (fun r27 s28 => some (r27, s28))))) else (some ((-1000000001 : Int32), s5)))))))))))
set_option maxRecDepth 20000 in
theorem M_X7_by (E : hw_E) (hE : hw_eT E = hw_TM) (a1 : Int32) (a2 : Int32) (a3 : Int32) (s0 : hw_St) : hw_M E yX7_by cX7_by 4 (some .int) 6 [hw_rv (hw_ea E) 200, .int a1, .int a2, .int a3] s0 hw_ri (F_X7_by a1 a2 a3 s0) := by
  refine hw_entry (own := RX7) (TL := hw_TM) (by decide) rfl hE (hw_cR (hw_cI (hw_cI (hw_cI hw_cN)))) (hw_l8 rfl) (fun G hG C => ?_)
  subst hG
  have hTL := hE
  show hw_K G 4 hw_ri _ 0 [(0, hw_rv (hw_ea (hw_gE G)) 200), (1, .int a1), (2, .int a2), (3, .int a3)] [] s0
  unfold F_X7_by
  refine hw_aload_n C dX7_by_0 rfl 0 rfl ?_
  refine hw_iload_n C dX7_by_1 rfl 1 rfl ?_
  refine hw_callVi C (M_X7_isWire (hw_gE G) hTL a1 s0) W_X7_isWire SV_X7_isWire cf_X7 hw_T200 mw_190 (by decide) rfl ⟨rfl, hw_l8 rfl⟩ dX7_by_2 (fun r1 s2 => ?_)
  refine hw_if_eq C dX7_by_5 (tgt := 15) (by decide) (fun c3 => ?_) (fun c3 => ?_)
  · refine hw_ldc C mw_155 dX7_by_15 ?_
    exact hw_iret C dX7_by_17
  · refine hw_iload_n C dX7_by_8 rfl 2 rfl ?_
    refine hw_callSi C (M_X7_isWind (hw_gE G) hTL a2 s2) W_X7_isWind SS_X7_isWind mw_268 (by decide) rfl ⟨rfl, hw_l8 rfl⟩ dX7_by_9 (fun r4 s5 => ?_)
    refine hw_if_ne C dX7_by_12 (tgt := 18) (by decide) (fun c6 => ?_) (fun c6 => ?_)
    · refine hw_iload_n C dX7_by_18 rfl 3 rfl ?_
      refine hw_ifK (fun c9 => ?_) (fun c9 => ?_)
      · refine hw_tabIn C dX7_by_19 c9 (off := 37) (tgt := 56) (by decide) ?_
        refine hw_aload_n C dX7_by_56 rfl 0 rfl ?_
        refine hw_iload_n C dX7_by_57 rfl 1 rfl ?_
        refine hw_iload_n C dX7_by_58 rfl 2 rfl ?_
        refine hw_callVi C (M_X7_airOf (hw_gE G) hTL a1 a2 s5) W_X7_airOf SV_X7_airOf cf_X7 hw_T200 mw_388 (by decide) rfl ⟨rfl, hw_l8 rfl⟩ dX7_by_59 (fun r7 s8 => ?_)
        exact hw_iret C dX7_by_62
      · refine hw_ifK (fun c12 => ?_) (fun c12 => ?_)
        · refine hw_tabIn C dX7_by_19 c12 (off := 44) (tgt := 63) (by decide) ?_
          refine hw_aload_n C dX7_by_63 rfl 0 rfl ?_
          refine hw_iload_n C dX7_by_64 rfl 1 rfl ?_
          refine hw_iload_n C dX7_by_65 rfl 2 rfl ?_
          refine hw_callVi C (M_X7_eddyOf (hw_gE G) hTL a1 a2 s5) W_X7_eddyOf SV_X7_eddyOf cf_X7 hw_T200 mw_392 (by decide) rfl ⟨rfl, hw_l8 rfl⟩ dX7_by_66 (fun r10 s11 => ?_)
          exact hw_iret C dX7_by_69
        · refine hw_ifK (fun c15 => ?_) (fun c15 => ?_)
          · refine hw_tabIn C dX7_by_19 c15 (off := 51) (tgt := 70) (by decide) ?_
            refine hw_aload_n C dX7_by_70 rfl 0 rfl ?_
            refine hw_iload_n C dX7_by_71 rfl 1 rfl ?_
            refine hw_iload_n C dX7_by_72 rfl 2 rfl ?_
            refine hw_callVi C (M_X7_offOf (hw_gE G) hTL a1 a2 s5) W_X7_offOf SV_X7_offOf cf_X7 hw_T200 mw_396 (by decide) rfl ⟨rfl, hw_l8 rfl⟩ dX7_by_73 (fun r13 s14 => ?_)
            exact hw_iret C dX7_by_76
          · refine hw_ifK (fun c18 => ?_) (fun c18 => ?_)
            · refine hw_tabIn C dX7_by_19 c18 (off := 58) (tgt := 77) (by decide) ?_
              refine hw_aload_n C dX7_by_77 rfl 0 rfl ?_
              refine hw_iload_n C dX7_by_78 rfl 1 rfl ?_
              refine hw_iload_n C dX7_by_79 rfl 2 rfl ?_
              refine hw_callVi C (M_X7_bandOf (hw_gE G) hTL a1 a2 s5) W_X7_bandOf SV_X7_bandOf cf_X7 hw_T200 mw_400 (by decide) rfl ⟨rfl, hw_l8 rfl⟩ dX7_by_80 (fun r16 s17 => ?_)
              exact hw_iret C dX7_by_83
            · refine hw_ifK (fun c21 => ?_) (fun c21 => ?_)
              · refine hw_tabIn C dX7_by_19 c21 (off := 65) (tgt := 84) (by decide) ?_
                refine hw_aload_n C dX7_by_84 rfl 0 rfl ?_
                refine hw_iload_n C dX7_by_85 rfl 1 rfl ?_
                refine hw_iload_n C dX7_by_86 rfl 2 rfl ?_
                refine hw_callVi C (M_X7_growsOf (hw_gE G) hTL a1 a2 s5) W_X7_growsOf SV_X7_growsOf cf_X7 hw_T200 mw_415 (by decide) rfl ⟨rfl, hw_l8 rfl⟩ dX7_by_87 (fun r19 s20 => ?_)
                exact hw_iret C dX7_by_90
              · refine hw_ifK (fun c29 => ?_) (fun c29 => ?_)
                · refine hw_tabIn C dX7_by_19 c29 (off := 72) (tgt := 91) (by decide) ?_
                  refine hw_aload_n C dX7_by_91 rfl 0 rfl ?_
                  refine hw_iload_n C dX7_by_92 rfl 1 rfl ?_
                  refine hw_iload_n C dX7_by_93 rfl 2 rfl ?_
                  refine hw_callVi C (M_X7_isHeldBy (hw_gE G) hTL a1 a2 s5) W_X7_isHeldBy SV_X7_isHeldBy cf_X7 hw_T200 mw_419 (by decide) rfl ⟨rfl, hw_l8 rfl⟩ dX7_by_94 (fun r22 s23 => ?_)
                  refine hw_if_eq C dX7_by_97 (tgt := 109) (by decide) (fun c24 => ?_) (fun c24 => ?_)
                  · refine hw_aload_n C dX7_by_109 rfl 0 rfl ?_
                    refine hw_iload_n C dX7_by_110 rfl 1 rfl ?_
                    refine hw_iload_n C dX7_by_111 rfl 2 rfl ?_
                    refine hw_callVi C (M_X7_eddyOf (hw_gE G) hTL a1 a2 s23) W_X7_eddyOf SV_X7_eddyOf cf_X7 hw_T200 mw_392 (by decide) rfl ⟨rfl, hw_l8 rfl⟩ dX7_by_112 (fun r25 s26 => ?_)
                    exact hw_iret C dX7_by_115
                  · refine hw_aload_n C dX7_by_100 rfl 0 rfl ?_
                    refine hw_iload_n C dX7_by_101 rfl 1 rfl ?_
                    refine hw_iconst C dX7_by_102 (v := 2) (by decide) ?_
                    refine hw_callVi C (M_X7_of (hw_gE G) hTL a1 (2 : Int32) s23) W_X7_of SV_X7_of cf_X7 hw_T200 mw_194 (by decide) rfl ⟨rfl, hw_l8 rfl⟩ dX7_by_103 (fun r27 s28 => ?_)
                    refine hw_goto C dX7_by_106 (tgt := 115) (by decide) ?_
                    exact hw_iret C dX7_by_115
                · refine hw_tabD C dX7_by_19 (cs := [0, 1, 2, 3, 4, 5]) (by decide) (List.forall_mem_cons.mpr ⟨hw_ni c9 (z := 0) (by decide), List.forall_mem_cons.mpr ⟨hw_ni c12 (z := 1) (by decide), List.forall_mem_cons.mpr ⟨hw_ni c15 (z := 2) (by decide), List.forall_mem_cons.mpr ⟨hw_ni c18 (z := 3) (by decide), List.forall_mem_cons.mpr ⟨hw_ni c21 (z := 4) (by decide), List.forall_mem_cons.mpr ⟨hw_ni c29 (z := 5) (by decide), fun _ h => absurd h List.not_mem_nil⟩⟩⟩⟩⟩⟩) (tgt := 116) (by decide) ?_
                  refine hw_ldc C mw_155 dX7_by_116 ?_
                  exact hw_iret C dX7_by_118
    · refine hw_ldc C mw_155 dX7_by_15 ?_
      exact hw_iret C dX7_by_17
/-! HumWireModel tick(II)I, level 7 -/
def F_X7_tick  (a1 : Int32) (a2 : Int32) (s0 : hw_St) : Option (Int32 × hw_St) := hw_bd (F_X7_isWire a1 s0) (fun r1 s2 => if r1 = 0 then (some ((-1000000001 : Int32), s2)) else (hw_bd (F_X7_isWind a2 s2) (fun r4 s5 => if r4 = 0 then (some ((-1000000001 : Int32), s5)) else (hw_bd (F_X7_ticks a1 a2 s5) (fun r7 s8 => some (r7, s8))))))
set_option maxRecDepth 20000 in
theorem M_X7_tick (E : hw_E) (hE : hw_eT E = hw_TM) (a1 : Int32) (a2 : Int32) (s0 : hw_St) : hw_M E yX7_tick cX7_tick 3 (some .int) 7 [hw_rv (hw_ea E) 200, .int a1, .int a2] s0 hw_ri (F_X7_tick a1 a2 s0) := by
  refine hw_entry (own := RX7) (TL := hw_TM) (by decide) rfl hE (hw_cR (hw_cI (hw_cI hw_cN))) (hw_l8 rfl) (fun G hG C => ?_)
  subst hG
  have hTL := hE
  show hw_K G 3 hw_ri _ 0 [(0, hw_rv (hw_ea (hw_gE G)) 200), (1, .int a1), (2, .int a2)] [] s0
  unfold F_X7_tick
  refine hw_aload_n C dX7_tick_0 rfl 0 rfl ?_
  refine hw_iload_n C dX7_tick_1 rfl 1 rfl ?_
  refine hw_callVi C (M_X7_isWire (hw_gE G) hTL a1 s0) W_X7_isWire SV_X7_isWire cf_X7 hw_T200 mw_190 (by decide) rfl ⟨rfl, hw_l8 rfl⟩ dX7_tick_2 (fun r1 s2 => ?_)
  refine hw_if_eq C dX7_tick_5 (tgt := 24) (by decide) (fun c3 => ?_) (fun c3 => ?_)
  · refine hw_ldc C mw_155 dX7_tick_24 ?_
    exact hw_iret C dX7_tick_26
  · refine hw_iload_n C dX7_tick_8 rfl 2 rfl ?_
    refine hw_callSi C (M_X7_isWind (hw_gE G) hTL a2 s2) W_X7_isWind SS_X7_isWind mw_268 (by decide) rfl ⟨rfl, hw_l8 rfl⟩ dX7_tick_9 (fun r4 s5 => ?_)
    refine hw_if_eq C dX7_tick_12 (tgt := 24) (by decide) (fun c6 => ?_) (fun c6 => ?_)
    · refine hw_ldc C mw_155 dX7_tick_24 ?_
      exact hw_iret C dX7_tick_26
    · refine hw_aload_n C dX7_tick_15 rfl 0 rfl ?_
      refine hw_iload_n C dX7_tick_16 rfl 1 rfl ?_
      refine hw_iload_n C dX7_tick_17 rfl 2 rfl ?_
      refine hw_callVi C (M_X7_ticks (hw_gE G) hTL a1 a2 s5) W_X7_ticks SV_X7_ticks cf_X7 hw_T200 mw_444 (by decide) rfl ⟨rfl, hw_l8 rfl⟩ dX7_tick_18 (fun r7 s8 => ?_)
      refine hw_goto C dX7_tick_21 (tgt := 26) (by decide) ?_
      exact hw_iret C dX7_tick_26
/-! HumWireModel anHour()V, level 7 -/
def S_X7_anHour_2  (w2 : Int32 → hw_St → Option (Unit × hw_St)) (l1 : Int32) (s0 : hw_St) : Option (Unit × hw_St) := hw_gd (hw_inb (1 : Int32) 1443) (if (s0 201 (1 : Int32).toNatClampNeg) ≤ l1 then (hw_gd (hw_inb (2 : Int32) 1443) (hw_gd (hw_inb (2 : Int32) 1443) (hw_nm (hw_up s0 201 (2 : Int32).toNatClampNeg (hw_rem ((s0 201 (2 : Int32).toNatClampNeg) + (1 : Int32)) (24 : Int32))) (fun s4 => some ((), s4))))) else (hw_gd (hw_inb (2 : Int32) 1443) (hw_gd (hw_inb ((5 : Int32) + (s0 201 (2 : Int32).toNatClampNeg)) 1443) (hw_bd (F_X7_ticks l1 (s0 201 ((5 : Int32) + (s0 201 (2 : Int32).toNatClampNeg)).toNatClampNeg) s0) (fun r8 s9 => w2 (l1 + 1) s9)))))
def L_X7_anHour_2  : Nat → Int32 → hw_St → Option (Unit × hw_St)
  | 0 => fun _ _ => none
  | n + 1 => S_X7_anHour_2  (L_X7_anHour_2  n)
def F_X7_anHour  (s0 : hw_St) : Option (Unit × hw_St) := L_X7_anHour_2 130 (0 : Int32) s0
set_option maxRecDepth 20000 in
theorem KS_X7_anHour_2 {G : hw_G} (C : hw_Ok G cX7_anHour RX7 3 7 none hw_TM) (hTL : hw_eT (hw_gE G) = hw_TM) (w2 : Int32 → hw_St → Option (Unit × hw_St)) (H_w2 : ∀ (l1 : Int32) (s0 : hw_St), hw_K G 3 hw_r0 (w2 l1 s0) 2 [(0, hw_rv (hw_ea (hw_gE G)) 200), (1, .int l1)] [] s0) (l1 : Int32) (s0 : hw_St) : hw_K G 3 hw_r0 (S_X7_anHour_2 w2 l1 s0) 2 [(0, hw_rv (hw_ea (hw_gE G)) 200), (1, .int l1)] [] s0 := by
  unfold S_X7_anHour_2
  refine hw_iload_n C dX7_anHour_2 rfl 1 rfl ?_
  refine hw_aload_n C dX7_anHour_3 rfl 0 rfl ?_
  refine hw_getR C cf_X7 lf_X7_9 hw_T200 (t2 := 201) (by decide) dX7_anHour_4 ?_
  refine hw_iconst C dX7_anHour_7 (v := 1) (by decide) ?_
  refine hw_iald C hw_T201 (by decide) dX7_anHour_8 (fun h1 => ?_)
  refine hw_icmp_ge C dX7_anHour_9 (tgt := 37) (by decide) (fun c2 => ?_) (fun c2 => ?_)
  · refine hw_aload_n C dX7_anHour_37 rfl 0 rfl ?_
    refine hw_getR C cf_X7 lf_X7_9 hw_T200 (t2 := 201) (by decide) dX7_anHour_38 ?_
    refine hw_iconst C dX7_anHour_41 (v := 2) (by decide) ?_
    refine hw_aload_n C dX7_anHour_42 rfl 0 rfl ?_
    refine hw_getR C cf_X7 lf_X7_9 hw_T200 (t2 := 201) (by decide) dX7_anHour_43 ?_
    refine hw_iconst C dX7_anHour_46 (v := 2) (by decide) ?_
    refine hw_iald C hw_T201 (by decide) dX7_anHour_47 (fun h3 => ?_)
    refine hw_iconst C dX7_anHour_48 (v := 1) (by decide) ?_
    refine hw_iadd C dX7_anHour_49 ?_
    refine hw_bipush C dX7_anHour_50 (v := 24) (by decide) ?_
    refine hw_iremC C dX7_anHour_52 (by decide) ?_
    refine hw_iast C hw_T201 (by decide) dX7_anHour_53 (fun h5 s4 => ?_)
    exact hw_vret C dX7_anHour_54
  · refine hw_aload_n C dX7_anHour_12 rfl 0 rfl ?_
    refine hw_iload_n C dX7_anHour_13 rfl 1 rfl ?_
    refine hw_aload_n C dX7_anHour_14 rfl 0 rfl ?_
    refine hw_getR C cf_X7 lf_X7_9 hw_T200 (t2 := 201) (by decide) dX7_anHour_15 ?_
    refine hw_iconst C dX7_anHour_18 (v := 5) (by decide) ?_
    refine hw_aload_n C dX7_anHour_19 rfl 0 rfl ?_
    refine hw_getR C cf_X7 lf_X7_9 hw_T200 (t2 := 201) (by decide) dX7_anHour_20 ?_
    refine hw_iconst C dX7_anHour_23 (v := 2) (by decide) ?_
    refine hw_iald C hw_T201 (by decide) dX7_anHour_24 (fun h6 => ?_)
    refine hw_iadd C dX7_anHour_25 ?_
    refine hw_iald C hw_T201 (by decide) dX7_anHour_26 (fun h7 => ?_)
    refine hw_callVi C (M_X7_ticks (hw_gE G) hTL l1 (s0 201 ((5 : Int32) + (s0 201 (2 : Int32).toNatClampNeg)).toNatClampNeg) s0) W_X7_ticks SV_X7_ticks cf_X7 hw_T200 mw_444 (by decide) rfl ⟨rfl, hw_l8 rfl⟩ dX7_anHour_27 (fun r8 s9 => ?_)
    refine hw_istore_n C dX7_anHour_30 rfl (by decide) rfl ?_
    refine hw_iinc C dX7_anHour_31 2 rfl (v := 1) (by decide) (by decide) rfl ?_
    refine hw_goto C dX7_anHour_34 (tgt := 2) (by decide) ?_
    exact hw_lv [2, 0] rfl (H_w2 (l1 + 1) s9)
theorem KL_X7_anHour_2 {G : hw_G} (C : hw_Ok G cX7_anHour RX7 3 7 none hw_TM) (hTL : hw_eT (hw_gE G) = hw_TM) : ∀ (n_ : Nat) (l1 : Int32) (s0 : hw_St), hw_K G 3 hw_r0 (L_X7_anHour_2 n_ l1 s0) 2 [(0, hw_rv (hw_ea (hw_gE G)) 200), (1, .int l1)] [] s0 := by
  intro n_
  induction n_ with
  | zero => intros; exact hw_nil
  | succ n_ ih => intro l1 s0; exact KS_X7_anHour_2 C hTL (L_X7_anHour_2 n_) ih l1 s0
set_option maxRecDepth 20000 in
theorem M_X7_anHour (E : hw_E) (hE : hw_eT E = hw_TM) (s0 : hw_St) : hw_M E yX7_anHour cX7_anHour 3 none 7 [hw_rv (hw_ea E) 200] s0 hw_r0 (F_X7_anHour  s0) := by
  refine hw_entry (own := RX7) (TL := hw_TM) (by decide) rfl hE (hw_cR hw_cN) (hw_l8 rfl) (fun G hG C => ?_)
  subst hG
  have hTL := hE
  show hw_K G 3 hw_r0 _ 0 [(0, hw_rv (hw_ea (hw_gE G)) 200)] [] s0
  unfold F_X7_anHour
  refine hw_iconst C dX7_anHour_0 (v := 0) (by decide) ?_
  refine hw_istore_n C dX7_anHour_1 rfl (by decide) rfl ?_
  exact hw_lv [1, 0] rfl (KL_X7_anHour_2 C hTL 130 (0 : Int32) s0)
/-! HumWireModel run(I)I, level 8 -/
def S_X7_run_15  (w15 : Int32 → Int32 → hw_St → Option (Int32 × hw_St)) (l1 : Int32) (l2 : Int32) (s0 : hw_St) : Option (Int32 × hw_St) := if l1 ≤ l2 then (hw_gd (hw_inb (2 : Int32) 1443) (some ((s0 201 (2 : Int32).toNatClampNeg), s0))) else (hw_bd (F_X7_anHour  s0) (fun _ s7 => w15 l1 (l2 + 1) s7))
def L_X7_run_15  : Nat → Int32 → Int32 → hw_St → Option (Int32 × hw_St)
  | 0 => fun _ _ _ => none
  | n + 1 => S_X7_run_15  (L_X7_run_15  n)
def F_X7_run  (a1 : Int32) (s0 : hw_St) : Option (Int32 × hw_St) := hw_bd (F_X7_in a1 (1 : Int32) (60 : Int32) s0) (fun r1 s2 => if r1 = 0 then (some ((-1000000001 : Int32), s2)) else (L_X7_run_15 130 a1 (0 : Int32) s2))
set_option maxRecDepth 20000 in
theorem KS_X7_run_15 {G : hw_G} (C : hw_Ok G cX7_run RX7 3 8 (some .int) hw_TM) (hTL : hw_eT (hw_gE G) = hw_TM) (w15 : Int32 → Int32 → hw_St → Option (Int32 × hw_St)) (H_w15 : ∀ (l1 : Int32) (l2 : Int32) (s0 : hw_St), hw_K G 3 hw_ri (w15 l1 l2 s0) 15 [(0, hw_rv (hw_ea (hw_gE G)) 200), (1, .int l1), (2, .int l2)] [] s0) (l1 : Int32) (l2 : Int32) (s0 : hw_St) : hw_K G 3 hw_ri (S_X7_run_15 w15 l1 l2 s0) 15 [(0, hw_rv (hw_ea (hw_gE G)) 200), (1, .int l1), (2, .int l2)] [] s0 := by
  unfold S_X7_run_15
  refine hw_iload_n C dX7_run_15 rfl 2 rfl ?_
  refine hw_iload_n C dX7_run_16 rfl 1 rfl ?_
  refine hw_icmp_ge C dX7_run_17 (tgt := 30) (by decide) (fun c4 => ?_) (fun c4 => ?_)
  · refine hw_aload_n C dX7_run_30 rfl 0 rfl ?_
    refine hw_getR C cf_X7 lf_X7_9 hw_T200 (t2 := 201) (by decide) dX7_run_31 ?_
    refine hw_iconst C dX7_run_34 (v := 2) (by decide) ?_
    refine hw_iald C hw_T201 (by decide) dX7_run_35 (fun h5 => ?_)
    exact hw_iret C dX7_run_36
  · refine hw_aload_n C dX7_run_20 rfl 0 rfl ?_
    refine hw_callVv C (M_X7_anHour (hw_gE G) hTL  s0) W_X7_anHour SV_X7_anHour cf_X7 hw_T200 mw_462 (by decide) rfl ⟨rfl, hw_l8 rfl⟩ dX7_run_21 (fun r6 s7 => ?_)
    refine hw_iinc C dX7_run_24 2 rfl (v := 1) (by decide) (by decide) rfl ?_
    refine hw_goto C dX7_run_27 (tgt := 15) (by decide) ?_
    exact hw_lv [1, 2, 0] rfl (H_w15 l1 (l2 + 1) s7)
theorem KL_X7_run_15 {G : hw_G} (C : hw_Ok G cX7_run RX7 3 8 (some .int) hw_TM) (hTL : hw_eT (hw_gE G) = hw_TM) : ∀ (n_ : Nat) (l1 : Int32) (l2 : Int32) (s0 : hw_St), hw_K G 3 hw_ri (L_X7_run_15 n_ l1 l2 s0) 15 [(0, hw_rv (hw_ea (hw_gE G)) 200), (1, .int l1), (2, .int l2)] [] s0 := by
  intro n_
  induction n_ with
  | zero => intros; exact hw_nil
  | succ n_ ih => intro l1 l2 s0; exact KS_X7_run_15 C hTL (L_X7_run_15 n_) ih l1 l2 s0
set_option maxRecDepth 20000 in
theorem M_X7_run (E : hw_E) (hE : hw_eT E = hw_TM) (a1 : Int32) (s0 : hw_St) : hw_M E yX7_run cX7_run 3 (some .int) 8 [hw_rv (hw_ea E) 200, .int a1] s0 hw_ri (F_X7_run a1 s0) := by
  refine hw_entry (own := RX7) (TL := hw_TM) (by decide) rfl hE (hw_cR (hw_cI hw_cN)) (hw_l8 rfl) (fun G hG C => ?_)
  subst hG
  have hTL := hE
  show hw_K G 3 hw_ri _ 0 [(0, hw_rv (hw_ea (hw_gE G)) 200), (1, .int a1)] [] s0
  unfold F_X7_run
  refine hw_iload_n C dX7_run_0 rfl 1 rfl ?_
  refine hw_iconst C dX7_run_1 (v := 1) (by decide) ?_
  refine hw_bipush C dX7_run_2 (v := 60) (by decide) ?_
  refine hw_callSi C (M_X7_in (hw_gE G) hTL a1 (1 : Int32) (60 : Int32) s0) W_X7_in SS_X7_in mw_157 (by decide) rfl ⟨rfl, hw_l8 rfl⟩ dX7_run_4 (fun r1 s2 => ?_)
  refine hw_if_ne C dX7_run_7 (tgt := 13) (by decide) (fun c3 => ?_) (fun c3 => ?_)
  · refine hw_iconst C dX7_run_13 (v := 0) (by decide) ?_
    refine hw_istore_n C dX7_run_14 rfl (by decide) rfl ?_
    exact hw_lv [1, 2, 0] rfl (KL_X7_run_15 C hTL 130 a1 (0 : Int32) s2)
  · refine hw_ldc C mw_155 dX7_run_10 ?_
    exact hw_iret C dX7_run_12
/-! HumWireModel thinks(I)V, level 2 -/
def S_X7_thinks_2  (w2 : Int32 → Int32 → hw_St → Option (Unit × hw_St)) (l1 : Int32) (l2 : Int32) (s0 : hw_St) : Option (Unit × hw_St) := if (7 : Int32) ≤ l2 then (some ((), s0)) else (hw_bd (F_X7_of l1 l2 s0) (fun r2 s3 => hw_gd (hw_inb l2 7) (hw_nm (hw_up s3 204 l2.toNatClampNeg r2) (fun s4 => w2 l1 (l2 + 1) s4))))
def L_X7_thinks_2  : Nat → Int32 → Int32 → hw_St → Option (Unit × hw_St)
  | 0 => fun _ _ _ => none
  | n + 1 => S_X7_thinks_2  (L_X7_thinks_2  n)
def F_X7_thinks  (a1 : Int32) (s0 : hw_St) : Option (Unit × hw_St) := L_X7_thinks_2 130 a1 (0 : Int32) s0
set_option maxRecDepth 20000 in
theorem KS_X7_thinks_2 {G : hw_G} (C : hw_Ok G cX7_thinks RX7 3 2 none hw_TM) (hTL : hw_eT (hw_gE G) = hw_TM) (w2 : Int32 → Int32 → hw_St → Option (Unit × hw_St)) (H_w2 : ∀ (l1 : Int32) (l2 : Int32) (s0 : hw_St), hw_K G 3 hw_r0 (w2 l1 l2 s0) 2 [(0, hw_rv (hw_ea (hw_gE G)) 200), (1, .int l1), (2, .int l2)] [] s0) (l1 : Int32) (l2 : Int32) (s0 : hw_St) : hw_K G 3 hw_r0 (S_X7_thinks_2 w2 l1 l2 s0) 2 [(0, hw_rv (hw_ea (hw_gE G)) 200), (1, .int l1), (2, .int l2)] [] s0 := by
  unfold S_X7_thinks_2
  refine hw_iload_n C dX7_thinks_2 rfl 2 rfl ?_
  refine hw_bipush C dX7_thinks_3 (v := 7) (by decide) ?_
  refine hw_icmp_ge C dX7_thinks_5 (tgt := 26) (by decide) (fun c1 => ?_) (fun c1 => ?_)
  · exact hw_vret C dX7_thinks_26
  · refine hw_aload_n C dX7_thinks_8 rfl 0 rfl ?_
    refine hw_getR C cf_X7 lf_X7_19 hw_T200 (t2 := 204) (by decide) dX7_thinks_9 ?_
    refine hw_iload_n C dX7_thinks_12 rfl 2 rfl ?_
    refine hw_aload_n C dX7_thinks_13 rfl 0 rfl ?_
    refine hw_iload_n C dX7_thinks_14 rfl 1 rfl ?_
    refine hw_iload_n C dX7_thinks_15 rfl 2 rfl ?_
    refine hw_callVi C (M_X7_of (hw_gE G) hTL l1 l2 s0) W_X7_of SV_X7_of cf_X7 hw_T200 mw_194 (by decide) rfl ⟨rfl, hw_l8 rfl⟩ dX7_thinks_16 (fun r2 s3 => ?_)
    refine hw_iast C hw_T204 (by decide) dX7_thinks_19 (fun h5 s4 => ?_)
    refine hw_iinc C dX7_thinks_20 2 rfl (v := 1) (by decide) (by decide) rfl ?_
    refine hw_goto C dX7_thinks_23 (tgt := 2) (by decide) ?_
    exact hw_lv [1, 2, 0] rfl (H_w2 l1 (l2 + 1) s4)
theorem KL_X7_thinks_2 {G : hw_G} (C : hw_Ok G cX7_thinks RX7 3 2 none hw_TM) (hTL : hw_eT (hw_gE G) = hw_TM) : ∀ (n_ : Nat) (l1 : Int32) (l2 : Int32) (s0 : hw_St), hw_K G 3 hw_r0 (L_X7_thinks_2 n_ l1 l2 s0) 2 [(0, hw_rv (hw_ea (hw_gE G)) 200), (1, .int l1), (2, .int l2)] [] s0 := by
  intro n_
  induction n_ with
  | zero => intros; exact hw_nil
  | succ n_ ih => intro l1 l2 s0; exact KS_X7_thinks_2 C hTL (L_X7_thinks_2 n_) ih l1 l2 s0
set_option maxRecDepth 20000 in
theorem M_X7_thinks (E : hw_E) (hE : hw_eT E = hw_TM) (a1 : Int32) (s0 : hw_St) : hw_M E yX7_thinks cX7_thinks 3 none 2 [hw_rv (hw_ea E) 200, .int a1] s0 hw_r0 (F_X7_thinks a1 s0) := by
  refine hw_entry (own := RX7) (TL := hw_TM) (by decide) rfl hE (hw_cR (hw_cI hw_cN)) (hw_l8 rfl) (fun G hG C => ?_)
  subst hG
  have hTL := hE
  show hw_K G 3 hw_r0 _ 0 [(0, hw_rv (hw_ea (hw_gE G)) 200), (1, .int a1)] [] s0
  unfold F_X7_thinks
  refine hw_iconst C dX7_thinks_0 (v := 0) (by decide) ?_
  refine hw_istore_n C dX7_thinks_1 rfl (by decide) rfl ?_
  exact hw_lv [1, 2, 0] rfl (KL_X7_thinks_2 C hTL 130 a1 (0 : Int32) s0)
/-! HumWireModel putsBack(I)V, level 1 -/
def S_X7_putsBack_2  (w2 : Int32 → Int32 → hw_St → Option (Unit × hw_St)) (l1 : Int32) (l2 : Int32) (s0 : hw_St) : Option (Unit × hw_St) := if (7 : Int32) ≤ l2 then (some ((), s0)) else (hw_gd (hw_inb l2 7) (hw_gd (hw_inb (((29 : Int32) + ((7 : Int32) * l1)) + l2) 1443) (hw_nm (hw_up s0 201 (((29 : Int32) + ((7 : Int32) * l1)) + l2).toNatClampNeg (s0 204 l2.toNatClampNeg)) (fun s3 => w2 l1 (l2 + 1) s3))))
def L_X7_putsBack_2  : Nat → Int32 → Int32 → hw_St → Option (Unit × hw_St)
  | 0 => fun _ _ _ => none
  | n + 1 => S_X7_putsBack_2  (L_X7_putsBack_2  n)
def F_X7_putsBack  (a1 : Int32) (s0 : hw_St) : Option (Unit × hw_St) := L_X7_putsBack_2 130 a1 (0 : Int32) s0
set_option maxRecDepth 20000 in
theorem KS_X7_putsBack_2 {G : hw_G} (C : hw_Ok G cX7_putsBack RX7 3 1 none hw_TM) (hTL : hw_eT (hw_gE G) = hw_TM) (w2 : Int32 → Int32 → hw_St → Option (Unit × hw_St)) (H_w2 : ∀ (l1 : Int32) (l2 : Int32) (s0 : hw_St), hw_K G 3 hw_r0 (w2 l1 l2 s0) 2 [(0, hw_rv (hw_ea (hw_gE G)) 200), (1, .int l1), (2, .int l2)] [] s0) (l1 : Int32) (l2 : Int32) (s0 : hw_St) : hw_K G 3 hw_r0 (S_X7_putsBack_2 w2 l1 l2 s0) 2 [(0, hw_rv (hw_ea (hw_gE G)) 200), (1, .int l1), (2, .int l2)] [] s0 := by
  unfold S_X7_putsBack_2
  refine hw_iload_n C dX7_putsBack_2 rfl 2 rfl ?_
  refine hw_bipush C dX7_putsBack_3 (v := 7) (by decide) ?_
  refine hw_icmp_ge C dX7_putsBack_5 (tgt := 34) (by decide) (fun c1 => ?_) (fun c1 => ?_)
  · exact hw_vret C dX7_putsBack_34
  · refine hw_aload_n C dX7_putsBack_8 rfl 0 rfl ?_
    refine hw_getR C cf_X7 lf_X7_9 hw_T200 (t2 := 201) (by decide) dX7_putsBack_9 ?_
    refine hw_bipush C dX7_putsBack_12 (v := 29) (by decide) ?_
    refine hw_bipush C dX7_putsBack_14 (v := 7) (by decide) ?_
    refine hw_iload_n C dX7_putsBack_16 rfl 1 rfl ?_
    refine hw_imul C dX7_putsBack_17 ?_
    refine hw_iadd C dX7_putsBack_18 ?_
    refine hw_iload_n C dX7_putsBack_19 rfl 2 rfl ?_
    refine hw_iadd C dX7_putsBack_20 ?_
    refine hw_aload_n C dX7_putsBack_21 rfl 0 rfl ?_
    refine hw_getR C cf_X7 lf_X7_19 hw_T200 (t2 := 204) (by decide) dX7_putsBack_22 ?_
    refine hw_iload_n C dX7_putsBack_25 rfl 2 rfl ?_
    refine hw_iald C hw_T204 (by decide) dX7_putsBack_26 (fun h2 => ?_)
    refine hw_iast C hw_T201 (by decide) dX7_putsBack_27 (fun h4 s3 => ?_)
    refine hw_iinc C dX7_putsBack_28 2 rfl (v := 1) (by decide) (by decide) rfl ?_
    refine hw_goto C dX7_putsBack_31 (tgt := 2) (by decide) ?_
    exact hw_lv [1, 2, 0] rfl (H_w2 l1 (l2 + 1) s3)
theorem KL_X7_putsBack_2 {G : hw_G} (C : hw_Ok G cX7_putsBack RX7 3 1 none hw_TM) (hTL : hw_eT (hw_gE G) = hw_TM) : ∀ (n_ : Nat) (l1 : Int32) (l2 : Int32) (s0 : hw_St), hw_K G 3 hw_r0 (L_X7_putsBack_2 n_ l1 l2 s0) 2 [(0, hw_rv (hw_ea (hw_gE G)) 200), (1, .int l1), (2, .int l2)] [] s0 := by
  intro n_
  induction n_ with
  | zero => intros; exact hw_nil
  | succ n_ ih => intro l1 l2 s0; exact KS_X7_putsBack_2 C hTL (L_X7_putsBack_2 n_) ih l1 l2 s0
set_option maxRecDepth 20000 in
theorem M_X7_putsBack (E : hw_E) (hE : hw_eT E = hw_TM) (a1 : Int32) (s0 : hw_St) : hw_M E yX7_putsBack cX7_putsBack 3 none 1 [hw_rv (hw_ea E) 200, .int a1] s0 hw_r0 (F_X7_putsBack a1 s0) := by
  refine hw_entry (own := RX7) (TL := hw_TM) (by decide) rfl hE (hw_cR (hw_cI hw_cN)) (hw_l8 rfl) (fun G hG C => ?_)
  subst hG
  have hTL := hE
  show hw_K G 3 hw_r0 _ 0 [(0, hw_rv (hw_ea (hw_gE G)) 200), (1, .int a1)] [] s0
  unfold F_X7_putsBack
  refine hw_iconst C dX7_putsBack_0 (v := 0) (by decide) ?_
  refine hw_istore_n C dX7_putsBack_1 rfl (by decide) rfl ?_
  exact hw_lv [1, 2, 0] rfl (KL_X7_putsBack_2 C hTL 130 a1 (0 : Int32) s0)
/-! HumWireModel line(II)I, level 7 -/
def B_X7_line_144  (w50 : Int32 → Int32 → Int32 → Int32 → Int32 → hw_St → Option (Int32 × hw_St)) (l1 : Int32) (l2 : Int32) (l4 : Int32) (l5 : Int32) (k0 : Int32) (s0 : hw_St) : Option (Int32 × hw_St) := w50 l1 l2 k0 l4 (l5 + 1) s0
def B_X7_line_143  (w50 : Int32 → Int32 → Int32 → Int32 → Int32 → hw_St → Option (Int32 × hw_St)) (l1 : Int32) (l2 : Int32) (l3 : Int32) (l4 : Int32) (l5 : Int32) (s0 : hw_St) : Option (Int32 × hw_St) := B_X7_line_144 w50 l1 l2 l4 l5 l3 s0
def B_X7_line_125  (w50 : Int32 → Int32 → Int32 → Int32 → Int32 → hw_St → Option (Int32 × hw_St)) (l1 : Int32) (l2 : Int32) (l3 : Int32) (l5 : Int32) (l6 : Int32) (l8 : Int32) (k0 : Int32) (s0 : hw_St) : Option (Int32 × hw_St) := if l3 = (-1000000005 : Int32) then (if l8 = 0 then (B_X7_line_143 w50 l1 l2 l3 k0 l5 s0) else (B_X7_line_144 w50 l1 l2 k0 l5 l6 s0)) else (B_X7_line_143 w50 l1 l2 l3 k0 l5 s0)
def B_X7_line_123  (w50 : Int32 → Int32 → Int32 → Int32 → Int32 → hw_St → Option (Int32 × hw_St)) (l1 : Int32) (l2 : Int32) (l3 : Int32) (l4 : Int32) (l5 : Int32) (l6 : Int32) (l8 : Int32) (s0 : hw_St) : Option (Int32 × hw_St) := B_X7_line_125 w50 l1 l2 l3 l5 l6 l8 l4 s0
def B_X7_line_98  (w50 : Int32 → Int32 → Int32 → Int32 → Int32 → hw_St → Option (Int32 × hw_St)) (l1 : Int32) (l2 : Int32) (l3 : Int32) (l4 : Int32) (l5 : Int32) (l6 : Int32) (k0 : Int32) (s0 : hw_St) : Option (Int32 × hw_St) := if l3 = (-1000000005 : Int32) then (B_X7_line_123 w50 l1 l2 l3 l4 l5 l6 k0 s0) else (if l4 = (-1000000005 : Int32) then (if k0 = 0 then (B_X7_line_125 w50 l1 l2 l3 l5 l6 k0 l6 s0) else (B_X7_line_123 w50 l1 l2 l3 l4 l5 l6 k0 s0)) else (B_X7_line_123 w50 l1 l2 l3 l4 l5 l6 k0 s0))
def B_X7_line_72  (w50 : Int32 → Int32 → Int32 → Int32 → Int32 → hw_St → Option (Int32 × hw_St)) (l1 : Int32) (l2 : Int32) (l3 : Int32) (l4 : Int32) (l5 : Int32) (k0 : Int32) (s0 : hw_St) : Option (Int32 × hw_St) := hw_bd (F_X7_ticks l1 k0 s0) (fun r16 s17 => hw_bd (F_X7_of l1 (5 : Int32) s17) (fun r18 s19 => if r18 = (1 : Int32) then (B_X7_line_98 w50 l1 l2 l3 l4 l5 k0 (1 : Int32) s19) else (B_X7_line_98 w50 l1 l2 l3 l4 l5 k0 (0 : Int32) s19)))
def S_X7_line_50  (w50 : Int32 → Int32 → Int32 → Int32 → Int32 → hw_St → Option (Int32 × hw_St)) (l1 : Int32) (l2 : Int32) (l3 : Int32) (l4 : Int32) (l5 : Int32) (s0 : hw_St) : Option (Int32 × hw_St) := if (100 : Int32) ≤ l5 then (hw_bd (F_X7_putsBack l1 s0) (fun _ s13 => if (hw_rem l2 (2 : Int32)) = 0 then (some (l3, s13)) else (some (l4, s13)))) else (if (2 : Int32) ≤ l2 then (B_X7_line_72 w50 l1 l2 l3 l4 l5 ((99 : Int32) - l5) s0) else (B_X7_line_72 w50 l1 l2 l3 l4 l5 l5 s0))
def L_X7_line_50  : Nat → Int32 → Int32 → Int32 → Int32 → Int32 → hw_St → Option (Int32 × hw_St)
  | 0 => fun _ _ _ _ _ _ => none
  | n + 1 => S_X7_line_50  (L_X7_line_50  n)
def F_X7_line  (a1 : Int32) (a2 : Int32) (s0 : hw_St) : Option (Int32 × hw_St) := hw_bd (F_X7_isWire a1 s0) (fun r1 s2 => if r1 = 0 then (some ((-1000000001 : Int32), s2)) else (hw_bd (F_X7_in a2 (0 : Int32) (3 : Int32) s2) (fun r4 s5 => if r4 = 0 then (some ((-1000000001 : Int32), s5)) else (hw_bd (F_X7_thinks a1 s5) (fun _ s8 => hw_gd (hw_inb (((29 : Int32) + ((7 : Int32) * a1)) + (5 : Int32)) 1443) (hw_nm (hw_up s8 201 (((29 : Int32) + ((7 : Int32) * a1)) + (5 : Int32)).toNatClampNeg (0 : Int32)) (fun s9 => L_X7_line_50 130 a1 a2 (-1000000005 : Int32) (-1000000005 : Int32) (0 : Int32) s9)))))))
set_option maxRecDepth 20000 in
theorem KB_X7_line_144 {G : hw_G} (C : hw_Ok G cX7_line RX7 9 7 (some .int) hw_TM) (hTL : hw_eT (hw_gE G) = hw_TM) (w50 : Int32 → Int32 → Int32 → Int32 → Int32 → hw_St → Option (Int32 × hw_St)) (H_w50 : ∀ (l1 : Int32) (l2 : Int32) (l3 : Int32) (l4 : Int32) (l5 : Int32) (s0 : hw_St), hw_K G 9 hw_ri (w50 l1 l2 l3 l4 l5 s0) 50 [(0, hw_rv (hw_ea (hw_gE G)) 200), (1, .int l1), (2, .int l2), (3, .int l3), (4, .int l4), (5, .int l5)] [] s0) (l1 : Int32) (l2 : Int32) (l4 : Int32) (l5 : Int32) (k0 : Int32) (s0 : hw_St) : hw_K G 9 hw_ri (B_X7_line_144 w50 l1 l2 l4 l5 k0 s0) 144 [(0, hw_rv (hw_ea (hw_gE G)) 200), (1, .int l1), (2, .int l2), (4, .int l4), (5, .int l5)] [.int k0] s0 := by
  unfold B_X7_line_144
  refine hw_istore_n C dX7_line_144 rfl (by decide) rfl ?_
  refine hw_iinc C dX7_line_145 5 rfl (v := 1) (by decide) (by decide) rfl ?_
  refine hw_goto C dX7_line_148 (tgt := 50) (by decide) ?_
  exact hw_lv [2, 3, 4, 1, 5, 0] rfl (H_w50 l1 l2 k0 l4 (l5 + 1) s0)
set_option maxRecDepth 20000 in
theorem KB_X7_line_143 {G : hw_G} (C : hw_Ok G cX7_line RX7 9 7 (some .int) hw_TM) (hTL : hw_eT (hw_gE G) = hw_TM) (w50 : Int32 → Int32 → Int32 → Int32 → Int32 → hw_St → Option (Int32 × hw_St)) (H_w50 : ∀ (l1 : Int32) (l2 : Int32) (l3 : Int32) (l4 : Int32) (l5 : Int32) (s0 : hw_St), hw_K G 9 hw_ri (w50 l1 l2 l3 l4 l5 s0) 50 [(0, hw_rv (hw_ea (hw_gE G)) 200), (1, .int l1), (2, .int l2), (3, .int l3), (4, .int l4), (5, .int l5)] [] s0) (l1 : Int32) (l2 : Int32) (l3 : Int32) (l4 : Int32) (l5 : Int32) (s0 : hw_St) : hw_K G 9 hw_ri (B_X7_line_143 w50 l1 l2 l3 l4 l5 s0) 143 [(0, hw_rv (hw_ea (hw_gE G)) 200), (1, .int l1), (2, .int l2), (3, .int l3), (4, .int l4), (5, .int l5)] [] s0 := by
  unfold B_X7_line_143
  refine hw_iload_n C dX7_line_143 rfl 3 rfl ?_
  exact hw_lv [0, 1, 2, 4, 5] rfl (KB_X7_line_144 C hTL w50 H_w50 l1 l2 l4 l5 l3 s0)
set_option maxRecDepth 20000 in
theorem KB_X7_line_125 {G : hw_G} (C : hw_Ok G cX7_line RX7 9 7 (some .int) hw_TM) (hTL : hw_eT (hw_gE G) = hw_TM) (w50 : Int32 → Int32 → Int32 → Int32 → Int32 → hw_St → Option (Int32 × hw_St)) (H_w50 : ∀ (l1 : Int32) (l2 : Int32) (l3 : Int32) (l4 : Int32) (l5 : Int32) (s0 : hw_St), hw_K G 9 hw_ri (w50 l1 l2 l3 l4 l5 s0) 50 [(0, hw_rv (hw_ea (hw_gE G)) 200), (1, .int l1), (2, .int l2), (3, .int l3), (4, .int l4), (5, .int l5)] [] s0) (l1 : Int32) (l2 : Int32) (l3 : Int32) (l5 : Int32) (l6 : Int32) (l8 : Int32) (k0 : Int32) (s0 : hw_St) : hw_K G 9 hw_ri (B_X7_line_125 w50 l1 l2 l3 l5 l6 l8 k0 s0) 125 [(0, hw_rv (hw_ea (hw_gE G)) 200), (1, .int l1), (2, .int l2), (3, .int l3), (5, .int l5), (6, .int l6), (8, .int l8)] [.int k0] s0 := by
  unfold B_X7_line_125
  refine hw_istore C dX7_line_125 (by decide) rfl ?_
  refine hw_iload_n C dX7_line_127 rfl 4 rfl ?_
  refine hw_ldc C mw_483 dX7_line_128 ?_
  refine hw_icmp_ne C dX7_line_130 (tgt := 143) (by decide) (fun c24 => ?_) (fun c24 => ?_)
  · exact hw_lv [1, 2, 3, 4, 0, 5] rfl (KB_X7_line_143 C hTL w50 H_w50 l1 l2 l3 k0 l5 s0)
  · refine hw_iload C dX7_line_133 7 rfl ?_
    refine hw_if_eq C dX7_line_135 (tgt := 143) (by decide) (fun c25 => ?_) (fun c25 => ?_)
    · exact hw_lv [1, 2, 3, 4, 0, 5] rfl (KB_X7_line_143 C hTL w50 H_w50 l1 l2 l3 k0 l5 s0)
    · refine hw_iload C dX7_line_138 6 rfl ?_
      refine hw_goto C dX7_line_140 (tgt := 144) (by decide) ?_
      exact hw_lv [1, 2, 3, 0, 5] rfl (KB_X7_line_144 C hTL w50 H_w50 l1 l2 k0 l5 l6 s0)
set_option maxRecDepth 20000 in
theorem KB_X7_line_123 {G : hw_G} (C : hw_Ok G cX7_line RX7 9 7 (some .int) hw_TM) (hTL : hw_eT (hw_gE G) = hw_TM) (w50 : Int32 → Int32 → Int32 → Int32 → Int32 → hw_St → Option (Int32 × hw_St)) (H_w50 : ∀ (l1 : Int32) (l2 : Int32) (l3 : Int32) (l4 : Int32) (l5 : Int32) (s0 : hw_St), hw_K G 9 hw_ri (w50 l1 l2 l3 l4 l5 s0) 50 [(0, hw_rv (hw_ea (hw_gE G)) 200), (1, .int l1), (2, .int l2), (3, .int l3), (4, .int l4), (5, .int l5)] [] s0) (l1 : Int32) (l2 : Int32) (l3 : Int32) (l4 : Int32) (l5 : Int32) (l6 : Int32) (l8 : Int32) (s0 : hw_St) : hw_K G 9 hw_ri (B_X7_line_123 w50 l1 l2 l3 l4 l5 l6 l8 s0) 123 [(0, hw_rv (hw_ea (hw_gE G)) 200), (1, .int l1), (2, .int l2), (3, .int l3), (4, .int l4), (5, .int l5), (6, .int l6), (8, .int l8)] [] s0 := by
  unfold B_X7_line_123
  refine hw_iload C dX7_line_123 4 rfl ?_
  exact hw_lv [0, 1, 2, 3, 5, 6, 7] rfl (KB_X7_line_125 C hTL w50 H_w50 l1 l2 l3 l5 l6 l8 l4 s0)
set_option maxRecDepth 20000 in
theorem KB_X7_line_98 {G : hw_G} (C : hw_Ok G cX7_line RX7 9 7 (some .int) hw_TM) (hTL : hw_eT (hw_gE G) = hw_TM) (w50 : Int32 → Int32 → Int32 → Int32 → Int32 → hw_St → Option (Int32 × hw_St)) (H_w50 : ∀ (l1 : Int32) (l2 : Int32) (l3 : Int32) (l4 : Int32) (l5 : Int32) (s0 : hw_St), hw_K G 9 hw_ri (w50 l1 l2 l3 l4 l5 s0) 50 [(0, hw_rv (hw_ea (hw_gE G)) 200), (1, .int l1), (2, .int l2), (3, .int l3), (4, .int l4), (5, .int l5)] [] s0) (l1 : Int32) (l2 : Int32) (l3 : Int32) (l4 : Int32) (l5 : Int32) (l6 : Int32) (k0 : Int32) (s0 : hw_St) : hw_K G 9 hw_ri (B_X7_line_98 w50 l1 l2 l3 l4 l5 l6 k0 s0) 98 [(0, hw_rv (hw_ea (hw_gE G)) 200), (1, .int l1), (2, .int l2), (3, .int l3), (4, .int l4), (5, .int l5), (6, .int l6)] [.int k0] s0 := by
  unfold B_X7_line_98
  refine hw_istore C dX7_line_98 (by decide) rfl ?_
  refine hw_iload_n C dX7_line_100 rfl 4 rfl ?_
  refine hw_ldc C mw_483 dX7_line_101 ?_
  refine hw_icmp_eq C dX7_line_103 (tgt := 123) (by decide) (fun c21 => ?_) (fun c21 => ?_)
  · exact hw_lv [1, 2, 3, 4, 5, 6, 7, 0] rfl (KB_X7_line_123 C hTL w50 H_w50 l1 l2 l3 l4 l5 l6 k0 s0)
  · refine hw_iload C dX7_line_106 5 rfl ?_
    refine hw_ldc C mw_483 dX7_line_108 ?_
    refine hw_icmp_ne C dX7_line_110 (tgt := 123) (by decide) (fun c22 => ?_) (fun c22 => ?_)
    · exact hw_lv [1, 2, 3, 4, 5, 6, 7, 0] rfl (KB_X7_line_123 C hTL w50 H_w50 l1 l2 l3 l4 l5 l6 k0 s0)
    · refine hw_iload C dX7_line_113 0 rfl ?_
      refine hw_if_ne C dX7_line_115 (tgt := 123) (by decide) (fun c23 => ?_) (fun c23 => ?_)
      · exact hw_lv [1, 2, 3, 4, 5, 6, 7, 0] rfl (KB_X7_line_123 C hTL w50 H_w50 l1 l2 l3 l4 l5 l6 k0 s0)
      · refine hw_iload C dX7_line_118 7 rfl ?_
        refine hw_goto C dX7_line_120 (tgt := 125) (by decide) ?_
        exact hw_lv [1, 2, 3, 4, 6, 7, 0] rfl (KB_X7_line_125 C hTL w50 H_w50 l1 l2 l3 l5 l6 k0 l6 s0)
set_option maxRecDepth 20000 in
theorem KB_X7_line_72 {G : hw_G} (C : hw_Ok G cX7_line RX7 9 7 (some .int) hw_TM) (hTL : hw_eT (hw_gE G) = hw_TM) (w50 : Int32 → Int32 → Int32 → Int32 → Int32 → hw_St → Option (Int32 × hw_St)) (H_w50 : ∀ (l1 : Int32) (l2 : Int32) (l3 : Int32) (l4 : Int32) (l5 : Int32) (s0 : hw_St), hw_K G 9 hw_ri (w50 l1 l2 l3 l4 l5 s0) 50 [(0, hw_rv (hw_ea (hw_gE G)) 200), (1, .int l1), (2, .int l2), (3, .int l3), (4, .int l4), (5, .int l5)] [] s0) (l1 : Int32) (l2 : Int32) (l3 : Int32) (l4 : Int32) (l5 : Int32) (k0 : Int32) (s0 : hw_St) : hw_K G 9 hw_ri (B_X7_line_72 w50 l1 l2 l3 l4 l5 k0 s0) 72 [(0, hw_rv (hw_ea (hw_gE G)) 200), (1, .int l1), (2, .int l2), (3, .int l3), (4, .int l4), (5, .int l5)] [.int k0] s0 := by
  unfold B_X7_line_72
  refine hw_istore C dX7_line_72 (by decide) rfl ?_
  refine hw_aload_n C dX7_line_74 rfl 1 rfl ?_
  refine hw_iload_n C dX7_line_75 rfl 2 rfl ?_
  refine hw_iload C dX7_line_76 0 rfl ?_
  refine hw_callVi C (M_X7_ticks (hw_gE G) hTL l1 k0 s0) W_X7_ticks SV_X7_ticks cf_X7 hw_T200 mw_444 (by decide) rfl ⟨rfl, hw_l8 rfl⟩ dX7_line_78 (fun r16 s17 => ?_)
  refine hw_istore C dX7_line_81 (by decide) rfl ?_
  refine hw_aload_n C dX7_line_83 rfl 2 rfl ?_
  refine hw_iload_n C dX7_line_84 rfl 3 rfl ?_
  refine hw_iconst C dX7_line_85 (v := 5) (by decide) ?_
  refine hw_callVi C (M_X7_of (hw_gE G) hTL l1 (5 : Int32) s17) W_X7_of SV_X7_of cf_X7 hw_T200 mw_194 (by decide) rfl ⟨rfl, hw_l8 rfl⟩ dX7_line_86 (fun r18 s19 => ?_)
  refine hw_iconst C dX7_line_89 (v := 1) (by decide) ?_
  refine hw_icmp_ne C dX7_line_90 (tgt := 97) (by decide) (fun c20 => ?_) (fun c20 => ?_)
  · refine hw_iconst C dX7_line_97 (v := 0) (by decide) ?_
    exact hw_lv [2, 3, 4, 5, 6, 7, 1] rfl (KB_X7_line_98 C hTL w50 H_w50 l1 l2 l3 l4 l5 k0 (0 : Int32) s19)
  · refine hw_iconst C dX7_line_93 (v := 1) (by decide) ?_
    refine hw_goto C dX7_line_94 (tgt := 98) (by decide) ?_
    exact hw_lv [2, 3, 4, 5, 6, 7, 1] rfl (KB_X7_line_98 C hTL w50 H_w50 l1 l2 l3 l4 l5 k0 (1 : Int32) s19)
set_option maxRecDepth 20000 in
theorem KS_X7_line_50 {G : hw_G} (C : hw_Ok G cX7_line RX7 9 7 (some .int) hw_TM) (hTL : hw_eT (hw_gE G) = hw_TM) (w50 : Int32 → Int32 → Int32 → Int32 → Int32 → hw_St → Option (Int32 × hw_St)) (H_w50 : ∀ (l1 : Int32) (l2 : Int32) (l3 : Int32) (l4 : Int32) (l5 : Int32) (s0 : hw_St), hw_K G 9 hw_ri (w50 l1 l2 l3 l4 l5 s0) 50 [(0, hw_rv (hw_ea (hw_gE G)) 200), (1, .int l1), (2, .int l2), (3, .int l3), (4, .int l4), (5, .int l5)] [] s0) (l1 : Int32) (l2 : Int32) (l3 : Int32) (l4 : Int32) (l5 : Int32) (s0 : hw_St) : hw_K G 9 hw_ri (S_X7_line_50 w50 l1 l2 l3 l4 l5 s0) 50 [(0, hw_rv (hw_ea (hw_gE G)) 200), (1, .int l1), (2, .int l2), (3, .int l3), (4, .int l4), (5, .int l5)] [] s0 := by
  unfold S_X7_line_50
  refine hw_iload C dX7_line_50 5 rfl ?_
  refine hw_bipush C dX7_line_52 (v := 100) (by decide) ?_
  refine hw_icmp_ge C dX7_line_54 (tgt := 151) (by decide) (fun c11 => ?_) (fun c11 => ?_)
  · refine hw_aload_n C dX7_line_151 rfl 0 rfl ?_
    refine hw_iload_n C dX7_line_152 rfl 1 rfl ?_
    refine hw_callVv C (M_X7_putsBack (hw_gE G) hTL l1 s0) W_X7_putsBack SV_X7_putsBack cf_X7 hw_T200 mw_488 (by decide) rfl ⟨rfl, hw_l8 rfl⟩ dX7_line_153 (fun r12 s13 => ?_)
    refine hw_iload_n C dX7_line_156 rfl 2 rfl ?_
    refine hw_iconst C dX7_line_157 (v := 2) (by decide) ?_
    refine hw_iremC C dX7_line_158 (by decide) ?_
    refine hw_if_ne C dX7_line_159 (tgt := 166) (by decide) (fun c14 => ?_) (fun c14 => ?_)
    · refine hw_iload C dX7_line_166 4 rfl ?_
      exact hw_iret C dX7_line_168
    · refine hw_iload_n C dX7_line_162 rfl 3 rfl ?_
      refine hw_goto C dX7_line_163 (tgt := 168) (by decide) ?_
      exact hw_iret C dX7_line_168
  · refine hw_iload_n C dX7_line_57 rfl 2 rfl ?_
    refine hw_iconst C dX7_line_58 (v := 2) (by decide) ?_
    refine hw_icmp_ge C dX7_line_59 (tgt := 67) (by decide) (fun c15 => ?_) (fun c15 => ?_)
    · refine hw_bipush C dX7_line_67 (v := 99) (by decide) ?_
      refine hw_iload C dX7_line_69 5 rfl ?_
      refine hw_isub C dX7_line_71 ?_
      exact hw_lv [0, 1, 2, 3, 4, 5] rfl (KB_X7_line_72 C hTL w50 H_w50 l1 l2 l3 l4 l5 ((99 : Int32) - l5) s0)
    · refine hw_iload C dX7_line_62 5 rfl ?_
      refine hw_goto C dX7_line_64 (tgt := 72) (by decide) ?_
      exact hw_lv [0, 1, 2, 3, 4, 5] rfl (KB_X7_line_72 C hTL w50 H_w50 l1 l2 l3 l4 l5 l5 s0)
theorem KL_X7_line_50 {G : hw_G} (C : hw_Ok G cX7_line RX7 9 7 (some .int) hw_TM) (hTL : hw_eT (hw_gE G) = hw_TM) : ∀ (n_ : Nat) (l1 : Int32) (l2 : Int32) (l3 : Int32) (l4 : Int32) (l5 : Int32) (s0 : hw_St), hw_K G 9 hw_ri (L_X7_line_50 n_ l1 l2 l3 l4 l5 s0) 50 [(0, hw_rv (hw_ea (hw_gE G)) 200), (1, .int l1), (2, .int l2), (3, .int l3), (4, .int l4), (5, .int l5)] [] s0 := by
  intro n_
  induction n_ with
  | zero => intros; exact hw_nil
  | succ n_ ih => intro l1 l2 l3 l4 l5 s0; exact KS_X7_line_50 C hTL (L_X7_line_50 n_) ih l1 l2 l3 l4 l5 s0
set_option maxRecDepth 20000 in
theorem M_X7_line (E : hw_E) (hE : hw_eT E = hw_TM) (a1 : Int32) (a2 : Int32) (s0 : hw_St) : hw_M E yX7_line cX7_line 9 (some .int) 7 [hw_rv (hw_ea E) 200, .int a1, .int a2] s0 hw_ri (F_X7_line a1 a2 s0) := by
  refine hw_entry (own := RX7) (TL := hw_TM) (by decide) rfl hE (hw_cR (hw_cI (hw_cI hw_cN))) (hw_l8 rfl) (fun G hG C => ?_)
  subst hG
  have hTL := hE
  show hw_K G 9 hw_ri _ 0 [(0, hw_rv (hw_ea (hw_gE G)) 200), (1, .int a1), (2, .int a2)] [] s0
  unfold F_X7_line
  refine hw_aload_n C dX7_line_0 rfl 0 rfl ?_
  refine hw_iload_n C dX7_line_1 rfl 1 rfl ?_
  refine hw_callVi C (M_X7_isWire (hw_gE G) hTL a1 s0) W_X7_isWire SV_X7_isWire cf_X7 hw_T200 mw_190 (by decide) rfl ⟨rfl, hw_l8 rfl⟩ dX7_line_2 (fun r1 s2 => ?_)
  refine hw_if_eq C dX7_line_5 (tgt := 17) (by decide) (fun c3 => ?_) (fun c3 => ?_)
  · refine hw_ldc C mw_155 dX7_line_17 ?_
    exact hw_iret C dX7_line_19
  · refine hw_iload_n C dX7_line_8 rfl 2 rfl ?_
    refine hw_iconst C dX7_line_9 (v := 0) (by decide) ?_
    refine hw_iconst C dX7_line_10 (v := 3) (by decide) ?_
    refine hw_callSi C (M_X7_in (hw_gE G) hTL a2 (0 : Int32) (3 : Int32) s2) W_X7_in SS_X7_in mw_157 (by decide) rfl ⟨rfl, hw_l8 rfl⟩ dX7_line_11 (fun r4 s5 => ?_)
    refine hw_if_ne C dX7_line_14 (tgt := 20) (by decide) (fun c6 => ?_) (fun c6 => ?_)
    · refine hw_aload_n C dX7_line_20 rfl 0 rfl ?_
      refine hw_iload_n C dX7_line_21 rfl 1 rfl ?_
      refine hw_callVv C (M_X7_thinks (hw_gE G) hTL a1 s5) W_X7_thinks SV_X7_thinks cf_X7 hw_T200 mw_484 (by decide) rfl ⟨rfl, hw_l8 rfl⟩ dX7_line_22 (fun r7 s8 => ?_)
      refine hw_aload_n C dX7_line_25 rfl 0 rfl ?_
      refine hw_getR C cf_X7 lf_X7_9 hw_T200 (t2 := 201) (by decide) dX7_line_26 ?_
      refine hw_bipush C dX7_line_29 (v := 29) (by decide) ?_
      refine hw_bipush C dX7_line_31 (v := 7) (by decide) ?_
      refine hw_iload_n C dX7_line_33 rfl 1 rfl ?_
      refine hw_imul C dX7_line_34 ?_
      refine hw_iadd C dX7_line_35 ?_
      refine hw_iconst C dX7_line_36 (v := 5) (by decide) ?_
      refine hw_iadd C dX7_line_37 ?_
      refine hw_iconst C dX7_line_38 (v := 0) (by decide) ?_
      refine hw_iast C hw_T201 (by decide) dX7_line_39 (fun h10 s9 => ?_)
      refine hw_ldc C mw_483 dX7_line_40 ?_
      refine hw_istore_n C dX7_line_42 rfl (by decide) rfl ?_
      refine hw_ldc C mw_483 dX7_line_43 ?_
      refine hw_istore C dX7_line_45 (by decide) rfl ?_
      refine hw_iconst C dX7_line_47 (v := 0) (by decide) ?_
      refine hw_istore C dX7_line_48 (by decide) rfl ?_
      exact hw_lv [3, 4, 5, 2, 1, 0] rfl (KL_X7_line_50 C hTL 130 a1 a2 (-1000000005 : Int32) (-1000000005 : Int32) (0 : Int32) s9)
    · refine hw_ldc C mw_155 dX7_line_17 ?_
      exact hw_iret C dX7_line_19
/-! HumWireModel findDay(I)V, level 7 -/
def B_X7_findDay_94  (w17 : Int32 → Int32 → hw_St → Option (Unit × hw_St)) (l1 : Int32) (l2 : Int32) (k0 : Int32) (s0 : hw_St) : Option (Unit × hw_St) := hw_nm (hw_up s0 200 7 k0) (fun s25 => w17 l1 (l2 + 1) s25)
def S_X7_findDay_17  (w17 : Int32 → Int32 → hw_St → Option (Unit × hw_St)) (l1 : Int32) (l2 : Int32) (s0 : hw_St) : Option (Unit × hw_St) := if (24 : Int32) ≤ l2 then (hw_bd (F_X7_of l1 (6 : Int32) s0) (fun r6 s7 => hw_nm (hw_up s7 200 6 r6) (fun s8 => hw_bd (F_X7_putsBack l1 s8) (fun _ s10 => some ((), s10))))) else (hw_gd (hw_inb (2 : Int32) 1443) (hw_gd (hw_inb ((5 : Int32) + (hw_rem ((s0 201 (2 : Int32).toNatClampNeg) + l2) (24 : Int32))) 1443) (hw_bd (F_X7_ticks l1 (s0 201 ((5 : Int32) + (hw_rem ((s0 201 (2 : Int32).toNatClampNeg) + l2) (24 : Int32))).toNatClampNeg) s0) (fun r13 s14 => hw_gd (hw_inb l2 24) (hw_nm (hw_up s14 205 l2.toNatClampNeg r13) (fun s15 => hw_bd (F_X7_of l1 (5 : Int32) s15) (fun r17 s18 => hw_nm (hw_up s18 200 5 ((s15 200 5) + r17)) (fun s19 => hw_bd (F_X7_of l1 (4 : Int32) s19) (fun r20 s21 => if r20 ≤ (s21 200 7) then (B_X7_findDay_94 w17 l1 l2 (s21 200 7) s21) else (hw_bd (F_X7_of l1 (4 : Int32) s21) (fun r23 s24 => B_X7_findDay_94 w17 l1 l2 r23 s24)))))))))))
def L_X7_findDay_17  : Nat → Int32 → Int32 → hw_St → Option (Unit × hw_St)
  | 0 => fun _ _ _ => none
  | n + 1 => S_X7_findDay_17  (L_X7_findDay_17  n)
def F_X7_findDay  (a1 : Int32) (s0 : hw_St) : Option (Unit × hw_St) := hw_bd (F_X7_thinks a1 s0) (fun _ s2 => hw_nm (hw_up s2 200 5 (0 : Int32)) (fun s3 => hw_nm (hw_up s3 200 7 (0 : Int32)) (fun s4 => L_X7_findDay_17 130 a1 (0 : Int32) s4)))
set_option maxRecDepth 20000 in
theorem KB_X7_findDay_94 {G : hw_G} (C : hw_Ok G cX7_findDay RX7 3 7 none hw_TM) (hTL : hw_eT (hw_gE G) = hw_TM) (w17 : Int32 → Int32 → hw_St → Option (Unit × hw_St)) (H_w17 : ∀ (l1 : Int32) (l2 : Int32) (s0 : hw_St), hw_K G 3 hw_r0 (w17 l1 l2 s0) 17 [(0, hw_rv (hw_ea (hw_gE G)) 200), (1, .int l1), (2, .int l2)] [] s0) (l1 : Int32) (l2 : Int32) (k0 : Int32) (s0 : hw_St) : hw_K G 3 hw_r0 (B_X7_findDay_94 w17 l1 l2 k0 s0) 94 [(0, hw_rv (hw_ea (hw_gE G)) 200), (1, .int l1), (2, .int l2)] [.int k0, hw_rv (hw_ea (hw_gE G)) 200] s0 := by
  unfold B_X7_findDay_94
  refine hw_putI C cf_X7 lf_X7_167 hw_T200 rfl rfl dX7_findDay_94 (fun s25 => ?_)
  refine hw_iinc C dX7_findDay_97 2 rfl (v := 1) (by decide) (by decide) rfl ?_
  refine hw_goto C dX7_findDay_100 (tgt := 17) (by decide) ?_
  exact hw_lv [1, 2, 0] rfl (H_w17 l1 (l2 + 1) s25)
set_option maxRecDepth 20000 in
theorem KS_X7_findDay_17 {G : hw_G} (C : hw_Ok G cX7_findDay RX7 3 7 none hw_TM) (hTL : hw_eT (hw_gE G) = hw_TM) (w17 : Int32 → Int32 → hw_St → Option (Unit × hw_St)) (H_w17 : ∀ (l1 : Int32) (l2 : Int32) (s0 : hw_St), hw_K G 3 hw_r0 (w17 l1 l2 s0) 17 [(0, hw_rv (hw_ea (hw_gE G)) 200), (1, .int l1), (2, .int l2)] [] s0) (l1 : Int32) (l2 : Int32) (s0 : hw_St) : hw_K G 3 hw_r0 (S_X7_findDay_17 w17 l1 l2 s0) 17 [(0, hw_rv (hw_ea (hw_gE G)) 200), (1, .int l1), (2, .int l2)] [] s0 := by
  unfold S_X7_findDay_17
  refine hw_iload_n C dX7_findDay_17 rfl 2 rfl ?_
  refine hw_bipush C dX7_findDay_18 (v := 24) (by decide) ?_
  refine hw_icmp_ge C dX7_findDay_20 (tgt := 103) (by decide) (fun c5 => ?_) (fun c5 => ?_)
  · refine hw_aload_n C dX7_findDay_103 rfl 0 rfl ?_
    refine hw_aload_n C dX7_findDay_104 rfl 0 rfl ?_
    refine hw_iload_n C dX7_findDay_105 rfl 1 rfl ?_
    refine hw_bipush C dX7_findDay_106 (v := 6) (by decide) ?_
    refine hw_callVi C (M_X7_of (hw_gE G) hTL l1 (6 : Int32) s0) W_X7_of SV_X7_of cf_X7 hw_T200 mw_194 (by decide) rfl ⟨rfl, hw_l8 rfl⟩ dX7_findDay_108 (fun r6 s7 => ?_)
    refine hw_putI C cf_X7 lf_X7_170 hw_T200 rfl rfl dX7_findDay_111 (fun s8 => ?_)
    refine hw_aload_n C dX7_findDay_114 rfl 0 rfl ?_
    refine hw_iload_n C dX7_findDay_115 rfl 1 rfl ?_
    refine hw_callVv C (M_X7_putsBack (hw_gE G) hTL l1 s8) W_X7_putsBack SV_X7_putsBack cf_X7 hw_T200 mw_488 (by decide) rfl ⟨rfl, hw_l8 rfl⟩ dX7_findDay_116 (fun r9 s10 => ?_)
    exact hw_vret C dX7_findDay_119
  · refine hw_aload_n C dX7_findDay_23 rfl 0 rfl ?_
    refine hw_getR C cf_X7 lf_X7_22 hw_T200 (t2 := 205) (by decide) dX7_findDay_24 ?_
    refine hw_iload_n C dX7_findDay_27 rfl 2 rfl ?_
    refine hw_aload_n C dX7_findDay_28 rfl 0 rfl ?_
    refine hw_iload_n C dX7_findDay_29 rfl 1 rfl ?_
    refine hw_aload_n C dX7_findDay_30 rfl 0 rfl ?_
    refine hw_getR C cf_X7 lf_X7_9 hw_T200 (t2 := 201) (by decide) dX7_findDay_31 ?_
    refine hw_iconst C dX7_findDay_34 (v := 5) (by decide) ?_
    refine hw_aload_n C dX7_findDay_35 rfl 0 rfl ?_
    refine hw_getR C cf_X7 lf_X7_9 hw_T200 (t2 := 201) (by decide) dX7_findDay_36 ?_
    refine hw_iconst C dX7_findDay_39 (v := 2) (by decide) ?_
    refine hw_iald C hw_T201 (by decide) dX7_findDay_40 (fun h11 => ?_)
    refine hw_iload_n C dX7_findDay_41 rfl 2 rfl ?_
    refine hw_iadd C dX7_findDay_42 ?_
    refine hw_bipush C dX7_findDay_43 (v := 24) (by decide) ?_
    refine hw_iremC C dX7_findDay_45 (by decide) ?_
    refine hw_iadd C dX7_findDay_46 ?_
    refine hw_iald C hw_T201 (by decide) dX7_findDay_47 (fun h12 => ?_)
    refine hw_callVi C (M_X7_ticks (hw_gE G) hTL l1 (s0 201 ((5 : Int32) + (hw_rem ((s0 201 (2 : Int32).toNatClampNeg) + l2) (24 : Int32))).toNatClampNeg) s0) W_X7_ticks SV_X7_ticks cf_X7 hw_T200 mw_444 (by decide) rfl ⟨rfl, hw_l8 rfl⟩ dX7_findDay_48 (fun r13 s14 => ?_)
    refine hw_iast C hw_T205 (by decide) dX7_findDay_51 (fun h16 s15 => ?_)
    refine hw_aload_n C dX7_findDay_52 rfl 0 rfl ?_
    refine hw_dup C dX7_findDay_53 ?_
    refine hw_getI C cf_X7 lf_X7_163 hw_T200 dX7_findDay_54 ?_
    refine hw_aload_n C dX7_findDay_57 rfl 0 rfl ?_
    refine hw_iload_n C dX7_findDay_58 rfl 1 rfl ?_
    refine hw_iconst C dX7_findDay_59 (v := 5) (by decide) ?_
    refine hw_callVi C (M_X7_of (hw_gE G) hTL l1 (5 : Int32) s15) W_X7_of SV_X7_of cf_X7 hw_T200 mw_194 (by decide) rfl ⟨rfl, hw_l8 rfl⟩ dX7_findDay_60 (fun r17 s18 => ?_)
    refine hw_iadd C dX7_findDay_63 ?_
    refine hw_putI C cf_X7 lf_X7_163 hw_T200 rfl rfl dX7_findDay_64 (fun s19 => ?_)
    refine hw_aload_n C dX7_findDay_67 rfl 0 rfl ?_
    refine hw_aload_n C dX7_findDay_68 rfl 0 rfl ?_
    refine hw_iload_n C dX7_findDay_69 rfl 1 rfl ?_
    refine hw_iconst C dX7_findDay_70 (v := 4) (by decide) ?_
    refine hw_callVi C (M_X7_of (hw_gE G) hTL l1 (4 : Int32) s19) W_X7_of SV_X7_of cf_X7 hw_T200 mw_194 (by decide) rfl ⟨rfl, hw_l8 rfl⟩ dX7_findDay_71 (fun r20 s21 => ?_)
    refine hw_aload_n C dX7_findDay_74 rfl 0 rfl ?_
    refine hw_getI C cf_X7 lf_X7_167 hw_T200 dX7_findDay_75 ?_
    refine hw_icmp_le C dX7_findDay_78 (tgt := 90) (by decide) (fun c22 => ?_) (fun c22 => ?_)
    · refine hw_aload_n C dX7_findDay_90 rfl 0 rfl ?_
      refine hw_getI C cf_X7 lf_X7_167 hw_T200 dX7_findDay_91 ?_
      exact hw_lv [0, 1, 2] rfl (KB_X7_findDay_94 C hTL w17 H_w17 l1 l2 (s21 200 7) s21)
    · refine hw_aload_n C dX7_findDay_81 rfl 0 rfl ?_
      refine hw_iload_n C dX7_findDay_82 rfl 1 rfl ?_
      refine hw_iconst C dX7_findDay_83 (v := 4) (by decide) ?_
      refine hw_callVi C (M_X7_of (hw_gE G) hTL l1 (4 : Int32) s21) W_X7_of SV_X7_of cf_X7 hw_T200 mw_194 (by decide) rfl ⟨rfl, hw_l8 rfl⟩ dX7_findDay_84 (fun r23 s24 => ?_)
      refine hw_goto C dX7_findDay_87 (tgt := 94) (by decide) ?_
      exact hw_lv [0, 1, 2] rfl (KB_X7_findDay_94 C hTL w17 H_w17 l1 l2 r23 s24)
theorem KL_X7_findDay_17 {G : hw_G} (C : hw_Ok G cX7_findDay RX7 3 7 none hw_TM) (hTL : hw_eT (hw_gE G) = hw_TM) : ∀ (n_ : Nat) (l1 : Int32) (l2 : Int32) (s0 : hw_St), hw_K G 3 hw_r0 (L_X7_findDay_17 n_ l1 l2 s0) 17 [(0, hw_rv (hw_ea (hw_gE G)) 200), (1, .int l1), (2, .int l2)] [] s0 := by
  intro n_
  induction n_ with
  | zero => intros; exact hw_nil
  | succ n_ ih => intro l1 l2 s0; exact KS_X7_findDay_17 C hTL (L_X7_findDay_17 n_) ih l1 l2 s0
set_option maxRecDepth 20000 in
theorem M_X7_findDay (E : hw_E) (hE : hw_eT E = hw_TM) (a1 : Int32) (s0 : hw_St) : hw_M E yX7_findDay cX7_findDay 3 none 7 [hw_rv (hw_ea E) 200, .int a1] s0 hw_r0 (F_X7_findDay a1 s0) := by
  refine hw_entry (own := RX7) (TL := hw_TM) (by decide) rfl hE (hw_cR (hw_cI hw_cN)) (hw_l8 rfl) (fun G hG C => ?_)
  subst hG
  have hTL := hE
  show hw_K G 3 hw_r0 _ 0 [(0, hw_rv (hw_ea (hw_gE G)) 200), (1, .int a1)] [] s0
  unfold F_X7_findDay
  refine hw_aload_n C dX7_findDay_0 rfl 0 rfl ?_
  refine hw_iload_n C dX7_findDay_1 rfl 1 rfl ?_
  refine hw_callVv C (M_X7_thinks (hw_gE G) hTL a1 s0) W_X7_thinks SV_X7_thinks cf_X7 hw_T200 mw_484 (by decide) rfl ⟨rfl, hw_l8 rfl⟩ dX7_findDay_2 (fun r1 s2 => ?_)
  refine hw_aload_n C dX7_findDay_5 rfl 0 rfl ?_
  refine hw_iconst C dX7_findDay_6 (v := 0) (by decide) ?_
  refine hw_putI C cf_X7 lf_X7_163 hw_T200 rfl rfl dX7_findDay_7 (fun s3 => ?_)
  refine hw_aload_n C dX7_findDay_10 rfl 0 rfl ?_
  refine hw_iconst C dX7_findDay_11 (v := 0) (by decide) ?_
  refine hw_putI C cf_X7 lf_X7_167 hw_T200 rfl rfl dX7_findDay_12 (fun s4 => ?_)
  refine hw_iconst C dX7_findDay_15 (v := 0) (by decide) ?_
  refine hw_istore_n C dX7_findDay_16 rfl (by decide) rfl ?_
  exact hw_lv [1, 2, 0] rfl (KL_X7_findDay_17 C hTL 130 a1 (0 : Int32) s4)
/-! HumWireModel day(II)I, level 8 -/
def F_X7_day  (a1 : Int32) (a2 : Int32) (s0 : hw_St) : Option (Int32 × hw_St) := hw_bd (F_X7_isWire a1 s0) (fun r1 s2 => if r1 = 0 then (some ((-1000000001 : Int32), s2)) else (hw_bd (F_X7_in a2 (0 : Int32) (2 : Int32) s2) (fun r4 s5 => if r4 = 0 then (some ((-1000000001 : Int32), s5)) else (hw_bd (F_X7_findDay a1 s5) (fun _ s8 => if a2 = 0 then (some ((s8 200 5), s8)) else (if a2 = (1 : Int32) then (some ((s8 200 6), s8)) else (some ((s8 200 7), s8))))))))
set_option maxRecDepth 20000 in
theorem M_X7_day (E : hw_E) (hE : hw_eT E = hw_TM) (a1 : Int32) (a2 : Int32) (s0 : hw_St) : hw_M E yX7_day cX7_day 3 (some .int) 8 [hw_rv (hw_ea E) 200, .int a1, .int a2] s0 hw_ri (F_X7_day a1 a2 s0) := by
  refine hw_entry (own := RX7) (TL := hw_TM) (by decide) rfl hE (hw_cR (hw_cI (hw_cI hw_cN))) (hw_l8 rfl) (fun G hG C => ?_)
  subst hG
  have hTL := hE
  show hw_K G 3 hw_ri _ 0 [(0, hw_rv (hw_ea (hw_gE G)) 200), (1, .int a1), (2, .int a2)] [] s0
  unfold F_X7_day
  refine hw_aload_n C dX7_day_0 rfl 0 rfl ?_
  refine hw_iload_n C dX7_day_1 rfl 1 rfl ?_
  refine hw_callVi C (M_X7_isWire (hw_gE G) hTL a1 s0) W_X7_isWire SV_X7_isWire cf_X7 hw_T200 mw_190 (by decide) rfl ⟨rfl, hw_l8 rfl⟩ dX7_day_2 (fun r1 s2 => ?_)
  refine hw_if_eq C dX7_day_5 (tgt := 17) (by decide) (fun c3 => ?_) (fun c3 => ?_)
  · refine hw_ldc C mw_155 dX7_day_17 ?_
    exact hw_iret C dX7_day_19
  · refine hw_iload_n C dX7_day_8 rfl 2 rfl ?_
    refine hw_iconst C dX7_day_9 (v := 0) (by decide) ?_
    refine hw_iconst C dX7_day_10 (v := 2) (by decide) ?_
    refine hw_callSi C (M_X7_in (hw_gE G) hTL a2 (0 : Int32) (2 : Int32) s2) W_X7_in SS_X7_in mw_157 (by decide) rfl ⟨rfl, hw_l8 rfl⟩ dX7_day_11 (fun r4 s5 => ?_)
    refine hw_if_ne C dX7_day_14 (tgt := 20) (by decide) (fun c6 => ?_) (fun c6 => ?_)
    · refine hw_aload_n C dX7_day_20 rfl 0 rfl ?_
      refine hw_iload_n C dX7_day_21 rfl 1 rfl ?_
      refine hw_callVv C (M_X7_findDay (hw_gE G) hTL a1 s5) W_X7_findDay SV_X7_findDay cf_X7 hw_T200 mw_511 (by decide) rfl ⟨rfl, hw_l8 rfl⟩ dX7_day_22 (fun r7 s8 => ?_)
      refine hw_iload_n C dX7_day_25 rfl 2 rfl ?_
      refine hw_if_ne C dX7_day_26 (tgt := 36) (by decide) (fun c9 => ?_) (fun c9 => ?_)
      · refine hw_iload_n C dX7_day_36 rfl 2 rfl ?_
        refine hw_iconst C dX7_day_37 (v := 1) (by decide) ?_
        refine hw_icmp_ne C dX7_day_38 (tgt := 48) (by decide) (fun c10 => ?_) (fun c10 => ?_)
        · refine hw_aload_n C dX7_day_48 rfl 0 rfl ?_
          refine hw_getI C cf_X7 lf_X7_167 hw_T200 dX7_day_49 ?_
          exact hw_iret C dX7_day_52
        · refine hw_aload_n C dX7_day_41 rfl 0 rfl ?_
          refine hw_getI C cf_X7 lf_X7_170 hw_T200 dX7_day_42 ?_
          refine hw_goto C dX7_day_45 (tgt := 52) (by decide) ?_
          exact hw_iret C dX7_day_52
      · refine hw_aload_n C dX7_day_29 rfl 0 rfl ?_
        refine hw_getI C cf_X7 lf_X7_163 hw_T200 dX7_day_30 ?_
        refine hw_goto C dX7_day_33 (tgt := 52) (by decide) ?_
        exact hw_iret C dX7_day_52
    · refine hw_ldc C mw_155 dX7_day_17 ?_
      exact hw_iret C dX7_day_19
/-! HumWireModel life(II)I, level 7 -/
def B_X7_life_77  (l1 : Int32) (l3 : Int32) (s0 : hw_St) : Option (Int32 × hw_St) := hw_bd (F_X7_putsBack l1 s0) (fun _ s18 => if (500 : Int32) < l3 then (some ((-1000000005 : Int32), s18)) else (some (l3, s18)))
def S_X7_life_28  (w28 : Int32 → Int32 → Int32 → hw_St → Option (Int32 × hw_St)) (l1 : Int32) (l2 : Int32) (l3 : Int32) (s0 : hw_St) : Option (Int32 × hw_St) := if (500 : Int32) < l3 then (B_X7_life_77 l1 l3 s0) else (hw_bd (F_X7_of l1 (6 : Int32) s0) (fun r10 s11 => if l2 ≤ r10 then (B_X7_life_77 l1 l3 s11) else (hw_gd (hw_inb (2 : Int32) 1443) (hw_gd (hw_inb ((5 : Int32) + (hw_rem ((s11 201 (2 : Int32).toNatClampNeg) + l3) (24 : Int32))) 1443) (hw_bd (F_X7_ticks l1 (s11 201 ((5 : Int32) + (hw_rem ((s11 201 (2 : Int32).toNatClampNeg) + l3) (24 : Int32))).toNatClampNeg) s11) (fun r15 s16 => w28 l1 l2 (l3 + 1) s16))))))
def L_X7_life_28  : Nat → Int32 → Int32 → Int32 → hw_St → Option (Int32 × hw_St)
  | 0 => fun _ _ _ _ => none
  | n + 1 => S_X7_life_28  (L_X7_life_28  n)
def F_X7_life  (a1 : Int32) (a2 : Int32) (s0 : hw_St) : Option (Int32 × hw_St) := hw_bd (F_X7_isWire a1 s0) (fun r1 s2 => if r1 = 0 then (some ((-1000000001 : Int32), s2)) else (hw_bd (F_X7_in a2 (0 : Int32) (99999 : Int32) s2) (fun r4 s5 => if r4 = 0 then (some ((-1000000001 : Int32), s5)) else (hw_bd (F_X7_thinks a1 s5) (fun _ s8 => L_X7_life_28 600 a1 a2 (0 : Int32) s8)))))
set_option maxRecDepth 20000 in
theorem KB_X7_life_77 {G : hw_G} (C : hw_Ok G cX7_life RX7 5 7 (some .int) hw_TM) (hTL : hw_eT (hw_gE G) = hw_TM) (l1 : Int32) (l3 : Int32) (s0 : hw_St) : hw_K G 5 hw_ri (B_X7_life_77 l1 l3 s0) 77 [(0, hw_rv (hw_ea (hw_gE G)) 200), (1, .int l1), (3, .int l3)] [] s0 := by
  unfold B_X7_life_77
  refine hw_aload_n C dX7_life_77 rfl 0 rfl ?_
  refine hw_iload_n C dX7_life_78 rfl 1 rfl ?_
  refine hw_callVv C (M_X7_putsBack (hw_gE G) hTL l1 s0) W_X7_putsBack SV_X7_putsBack cf_X7 hw_T200 mw_488 (by decide) rfl ⟨rfl, hw_l8 rfl⟩ dX7_life_79 (fun r17 s18 => ?_)
  refine hw_iload_n C dX7_life_82 rfl 2 rfl ?_
  refine hw_sipush C dX7_life_83 (v := 500) (by decide) ?_
  refine hw_icmp_gt C dX7_life_86 (tgt := 93) (by decide) (fun c19 => ?_) (fun c19 => ?_)
  · refine hw_ldc C mw_483 dX7_life_93 ?_
    exact hw_iret C dX7_life_95
  · refine hw_iload_n C dX7_life_89 rfl 2 rfl ?_
    refine hw_goto C dX7_life_90 (tgt := 95) (by decide) ?_
    exact hw_iret C dX7_life_95
set_option maxRecDepth 20000 in
theorem KS_X7_life_28 {G : hw_G} (C : hw_Ok G cX7_life RX7 5 7 (some .int) hw_TM) (hTL : hw_eT (hw_gE G) = hw_TM) (w28 : Int32 → Int32 → Int32 → hw_St → Option (Int32 × hw_St)) (H_w28 : ∀ (l1 : Int32) (l2 : Int32) (l3 : Int32) (s0 : hw_St), hw_K G 5 hw_ri (w28 l1 l2 l3 s0) 28 [(0, hw_rv (hw_ea (hw_gE G)) 200), (1, .int l1), (2, .int l2), (3, .int l3)] [] s0) (l1 : Int32) (l2 : Int32) (l3 : Int32) (s0 : hw_St) : hw_K G 5 hw_ri (S_X7_life_28 w28 l1 l2 l3 s0) 28 [(0, hw_rv (hw_ea (hw_gE G)) 200), (1, .int l1), (2, .int l2), (3, .int l3)] [] s0 := by
  unfold S_X7_life_28
  refine hw_iload_n C dX7_life_28 rfl 3 rfl ?_
  refine hw_sipush C dX7_life_29 (v := 500) (by decide) ?_
  refine hw_icmp_gt C dX7_life_32 (tgt := 77) (by decide) (fun c9 => ?_) (fun c9 => ?_)
  · exact hw_lv [0, 1, 3] rfl (KB_X7_life_77 C hTL l1 l3 s0)
  · refine hw_aload_n C dX7_life_35 rfl 0 rfl ?_
    refine hw_iload_n C dX7_life_36 rfl 1 rfl ?_
    refine hw_bipush C dX7_life_37 (v := 6) (by decide) ?_
    refine hw_callVi C (M_X7_of (hw_gE G) hTL l1 (6 : Int32) s0) W_X7_of SV_X7_of cf_X7 hw_T200 mw_194 (by decide) rfl ⟨rfl, hw_l8 rfl⟩ dX7_life_39 (fun r10 s11 => ?_)
    refine hw_iload_n C dX7_life_42 rfl 2 rfl ?_
    refine hw_icmp_ge C dX7_life_43 (tgt := 77) (by decide) (fun c12 => ?_) (fun c12 => ?_)
    · exact hw_lv [0, 1, 3] rfl (KB_X7_life_77 C hTL l1 l3 s11)
    · refine hw_aload_n C dX7_life_46 rfl 0 rfl ?_
      refine hw_iload_n C dX7_life_47 rfl 1 rfl ?_
      refine hw_aload_n C dX7_life_48 rfl 0 rfl ?_
      refine hw_getR C cf_X7 lf_X7_9 hw_T200 (t2 := 201) (by decide) dX7_life_49 ?_
      refine hw_iconst C dX7_life_52 (v := 5) (by decide) ?_
      refine hw_aload_n C dX7_life_53 rfl 0 rfl ?_
      refine hw_getR C cf_X7 lf_X7_9 hw_T200 (t2 := 201) (by decide) dX7_life_54 ?_
      refine hw_iconst C dX7_life_57 (v := 2) (by decide) ?_
      refine hw_iald C hw_T201 (by decide) dX7_life_58 (fun h13 => ?_)
      refine hw_iload_n C dX7_life_59 rfl 3 rfl ?_
      refine hw_iadd C dX7_life_60 ?_
      refine hw_bipush C dX7_life_61 (v := 24) (by decide) ?_
      refine hw_iremC C dX7_life_63 (by decide) ?_
      refine hw_iadd C dX7_life_64 ?_
      refine hw_iald C hw_T201 (by decide) dX7_life_65 (fun h14 => ?_)
      refine hw_callVi C (M_X7_ticks (hw_gE G) hTL l1 (s11 201 ((5 : Int32) + (hw_rem ((s11 201 (2 : Int32).toNatClampNeg) + l3) (24 : Int32))).toNatClampNeg) s11) W_X7_ticks SV_X7_ticks cf_X7 hw_T200 mw_444 (by decide) rfl ⟨rfl, hw_l8 rfl⟩ dX7_life_66 (fun r15 s16 => ?_)
      refine hw_istore C dX7_life_69 (by decide) rfl ?_
      refine hw_iinc C dX7_life_71 4 rfl (v := 1) (by decide) (by decide) rfl ?_
      refine hw_goto C dX7_life_74 (tgt := 28) (by decide) ?_
      exact hw_lv [2, 3, 4, 0] rfl (H_w28 l1 l2 (l3 + 1) s16)
theorem KL_X7_life_28 {G : hw_G} (C : hw_Ok G cX7_life RX7 5 7 (some .int) hw_TM) (hTL : hw_eT (hw_gE G) = hw_TM) : ∀ (n_ : Nat) (l1 : Int32) (l2 : Int32) (l3 : Int32) (s0 : hw_St), hw_K G 5 hw_ri (L_X7_life_28 n_ l1 l2 l3 s0) 28 [(0, hw_rv (hw_ea (hw_gE G)) 200), (1, .int l1), (2, .int l2), (3, .int l3)] [] s0 := by
  intro n_
  induction n_ with
  | zero => intros; exact hw_nil
  | succ n_ ih => intro l1 l2 l3 s0; exact KS_X7_life_28 C hTL (L_X7_life_28 n_) ih l1 l2 l3 s0
set_option maxRecDepth 20000 in
theorem M_X7_life (E : hw_E) (hE : hw_eT E = hw_TM) (a1 : Int32) (a2 : Int32) (s0 : hw_St) : hw_M E yX7_life cX7_life 5 (some .int) 7 [hw_rv (hw_ea E) 200, .int a1, .int a2] s0 hw_ri (F_X7_life a1 a2 s0) := by
  refine hw_entry (own := RX7) (TL := hw_TM) (by decide) rfl hE (hw_cR (hw_cI (hw_cI hw_cN))) (hw_l8 rfl) (fun G hG C => ?_)
  subst hG
  have hTL := hE
  show hw_K G 5 hw_ri _ 0 [(0, hw_rv (hw_ea (hw_gE G)) 200), (1, .int a1), (2, .int a2)] [] s0
  unfold F_X7_life
  refine hw_aload_n C dX7_life_0 rfl 0 rfl ?_
  refine hw_iload_n C dX7_life_1 rfl 1 rfl ?_
  refine hw_callVi C (M_X7_isWire (hw_gE G) hTL a1 s0) W_X7_isWire SV_X7_isWire cf_X7 hw_T200 mw_190 (by decide) rfl ⟨rfl, hw_l8 rfl⟩ dX7_life_2 (fun r1 s2 => ?_)
  refine hw_if_eq C dX7_life_5 (tgt := 18) (by decide) (fun c3 => ?_) (fun c3 => ?_)
  · refine hw_ldc C mw_155 dX7_life_18 ?_
    exact hw_iret C dX7_life_20
  · refine hw_iload_n C dX7_life_8 rfl 2 rfl ?_
    refine hw_iconst C dX7_life_9 (v := 0) (by decide) ?_
    refine hw_ldc C mw_524 dX7_life_10 ?_
    refine hw_callSi C (M_X7_in (hw_gE G) hTL a2 (0 : Int32) (99999 : Int32) s2) W_X7_in SS_X7_in mw_157 (by decide) rfl ⟨rfl, hw_l8 rfl⟩ dX7_life_12 (fun r4 s5 => ?_)
    refine hw_if_ne C dX7_life_15 (tgt := 21) (by decide) (fun c6 => ?_) (fun c6 => ?_)
    · refine hw_aload_n C dX7_life_21 rfl 0 rfl ?_
      refine hw_iload_n C dX7_life_22 rfl 1 rfl ?_
      refine hw_callVv C (M_X7_thinks (hw_gE G) hTL a1 s5) W_X7_thinks SV_X7_thinks cf_X7 hw_T200 mw_484 (by decide) rfl ⟨rfl, hw_l8 rfl⟩ dX7_life_23 (fun r7 s8 => ?_)
      refine hw_iconst C dX7_life_26 (v := 0) (by decide) ?_
      refine hw_istore_n C dX7_life_27 rfl (by decide) rfl ?_
      exact hw_lv [1, 2, 3, 0] rfl (KL_X7_life_28 C hTL 600 a1 a2 (0 : Int32) s8)
    · refine hw_ldc C mw_155 dX7_life_18 ?_
      exact hw_iret C dX7_life_20
/-! HumWireModel harp(II)I, level 8 -/
def B_X7_harp_104  (w47 : Int32 → Int32 → Int32 → Int32 → Int32 → Int32 → Int32 → hw_St → Option (Int32 × hw_St)) (l1 : Int32) (l2 : Int32) (l3 : Int32) (l4 : Int32) (l5 : Int32) (l7 : Int32) (k0 : Int32) (s0 : hw_St) : Option (Int32 × hw_St) := w47 l1 l2 l3 l4 l5 k0 (l7 + 5) s0
def B_X7_harp_84  (w47 : Int32 → Int32 → Int32 → Int32 → Int32 → Int32 → Int32 → hw_St → Option (Int32 × hw_St)) (l1 : Int32) (l2 : Int32) (l3 : Int32) (l4 : Int32) (l6 : Int32) (l7 : Int32) (k0 : Int32) (s0 : hw_St) : Option (Int32 × hw_St) := if (s0 200 5) ≤ l6 then (B_X7_harp_104 w47 l1 l2 l3 l4 k0 l7 l6 s0) else (B_X7_harp_104 w47 l1 l2 l3 l4 k0 l7 (s0 200 5) s0)
def S_X7_harp_47  (w47 : Int32 → Int32 → Int32 → Int32 → Int32 → Int32 → Int32 → hw_St → Option (Int32 × hw_St)) (l1 : Int32) (l2 : Int32) (l3 : Int32) (l4 : Int32) (l5 : Int32) (l6 : Int32) (l7 : Int32) (s0 : hw_St) : Option (Int32 × hw_St) := if (500 : Int32) < l7 then (hw_gd (hw_inb l3 1443) (hw_nm (hw_up s0 201 l3.toNatClampNeg l4) (fun s11 => if l2 = 0 then (some (l5, s11)) else (some (l6, s11))))) else (hw_gd (hw_inb l3 1443) (hw_nm (hw_up s0 201 l3.toNatClampNeg l7) (fun s14 => hw_bd (F_X7_findDay l1 s14) (fun _ s17 => if (s17 200 5) ≤ l6 then (B_X7_harp_84 w47 l1 l2 l3 l4 l6 l7 l5 s17) else (B_X7_harp_84 w47 l1 l2 l3 l4 l6 l7 l7 s17)))))
def L_X7_harp_47  : Nat → Int32 → Int32 → Int32 → Int32 → Int32 → Int32 → Int32 → hw_St → Option (Int32 × hw_St)
  | 0 => fun _ _ _ _ _ _ _ _ => none
  | n + 1 => S_X7_harp_47  (L_X7_harp_47  n)
def F_X7_harp  (a1 : Int32) (a2 : Int32) (s0 : hw_St) : Option (Int32 × hw_St) := hw_bd (F_X7_isWire a1 s0) (fun r1 s2 => if r1 = 0 then (some ((-1000000001 : Int32), s2)) else (hw_bd (F_X7_in a2 (0 : Int32) (1 : Int32) s2) (fun r4 s5 => if r4 = 0 then (some ((-1000000001 : Int32), s5)) else (hw_nm (((29 : Int32) + ((7 : Int32) * a1)) + (2 : Int32)) (fun x7 => hw_gd (hw_inb x7 1443) (hw_nm (s5 201 x7.toNatClampNeg) (fun x9 => L_X7_harp_47 130 a1 a2 x7 x9 (0 : Int32) (-1 : Int32) (5 : Int32) s5)))))))
set_option maxRecDepth 20000 in
theorem KB_X7_harp_104 {G : hw_G} (C : hw_Ok G cX7_harp RX7 8 8 (some .int) hw_TM) (hTL : hw_eT (hw_gE G) = hw_TM) (w47 : Int32 → Int32 → Int32 → Int32 → Int32 → Int32 → Int32 → hw_St → Option (Int32 × hw_St)) (H_w47 : ∀ (l1 : Int32) (l2 : Int32) (l3 : Int32) (l4 : Int32) (l5 : Int32) (l6 : Int32) (l7 : Int32) (s0 : hw_St), hw_K G 8 hw_ri (w47 l1 l2 l3 l4 l5 l6 l7 s0) 47 [(0, hw_rv (hw_ea (hw_gE G)) 200), (1, .int l1), (2, .int l2), (3, .int l3), (4, .int l4), (5, .int l5), (6, .int l6), (7, .int l7)] [] s0) (l1 : Int32) (l2 : Int32) (l3 : Int32) (l4 : Int32) (l5 : Int32) (l7 : Int32) (k0 : Int32) (s0 : hw_St) : hw_K G 8 hw_ri (B_X7_harp_104 w47 l1 l2 l3 l4 l5 l7 k0 s0) 104 [(0, hw_rv (hw_ea (hw_gE G)) 200), (1, .int l1), (2, .int l2), (3, .int l3), (4, .int l4), (5, .int l5), (7, .int l7)] [.int k0] s0 := by
  unfold B_X7_harp_104
  refine hw_istore C dX7_harp_104 (by decide) rfl ?_
  refine hw_iinc C dX7_harp_106 7 rfl (v := 5) (by decide) (by decide) rfl ?_
  refine hw_goto C dX7_harp_109 (tgt := 47) (by decide) ?_
  exact hw_lv [2, 3, 4, 5, 6, 7, 1, 0] rfl (H_w47 l1 l2 l3 l4 l5 k0 (l7 + 5) s0)
set_option maxRecDepth 20000 in
theorem KB_X7_harp_84 {G : hw_G} (C : hw_Ok G cX7_harp RX7 8 8 (some .int) hw_TM) (hTL : hw_eT (hw_gE G) = hw_TM) (w47 : Int32 → Int32 → Int32 → Int32 → Int32 → Int32 → Int32 → hw_St → Option (Int32 × hw_St)) (H_w47 : ∀ (l1 : Int32) (l2 : Int32) (l3 : Int32) (l4 : Int32) (l5 : Int32) (l6 : Int32) (l7 : Int32) (s0 : hw_St), hw_K G 8 hw_ri (w47 l1 l2 l3 l4 l5 l6 l7 s0) 47 [(0, hw_rv (hw_ea (hw_gE G)) 200), (1, .int l1), (2, .int l2), (3, .int l3), (4, .int l4), (5, .int l5), (6, .int l6), (7, .int l7)] [] s0) (l1 : Int32) (l2 : Int32) (l3 : Int32) (l4 : Int32) (l6 : Int32) (l7 : Int32) (k0 : Int32) (s0 : hw_St) : hw_K G 8 hw_ri (B_X7_harp_84 w47 l1 l2 l3 l4 l6 l7 k0 s0) 84 [(0, hw_rv (hw_ea (hw_gE G)) 200), (1, .int l1), (2, .int l2), (3, .int l3), (4, .int l4), (6, .int l6), (7, .int l7)] [.int k0] s0 := by
  unfold B_X7_harp_84
  refine hw_istore C dX7_harp_84 (by decide) rfl ?_
  refine hw_aload_n C dX7_harp_86 rfl 1 rfl ?_
  refine hw_getI C cf_X7 lf_X7_163 hw_T200 dX7_harp_87 ?_
  refine hw_iload C dX7_harp_90 6 rfl ?_
  refine hw_icmp_le C dX7_harp_92 (tgt := 102) (by decide) (fun c19 => ?_) (fun c19 => ?_)
  · refine hw_iload C dX7_harp_102 6 rfl ?_
    exact hw_lv [1, 2, 3, 4, 5, 0, 7] rfl (KB_X7_harp_104 C hTL w47 H_w47 l1 l2 l3 l4 k0 l7 l6 s0)
  · refine hw_aload_n C dX7_harp_95 rfl 1 rfl ?_
    refine hw_getI C cf_X7 lf_X7_163 hw_T200 dX7_harp_96 ?_
    refine hw_goto C dX7_harp_99 (tgt := 104) (by decide) ?_
    exact hw_lv [1, 2, 3, 4, 5, 0, 7] rfl (KB_X7_harp_104 C hTL w47 H_w47 l1 l2 l3 l4 k0 l7 (s0 200 5) s0)
set_option maxRecDepth 20000 in
theorem KS_X7_harp_47 {G : hw_G} (C : hw_Ok G cX7_harp RX7 8 8 (some .int) hw_TM) (hTL : hw_eT (hw_gE G) = hw_TM) (w47 : Int32 → Int32 → Int32 → Int32 → Int32 → Int32 → Int32 → hw_St → Option (Int32 × hw_St)) (H_w47 : ∀ (l1 : Int32) (l2 : Int32) (l3 : Int32) (l4 : Int32) (l5 : Int32) (l6 : Int32) (l7 : Int32) (s0 : hw_St), hw_K G 8 hw_ri (w47 l1 l2 l3 l4 l5 l6 l7 s0) 47 [(0, hw_rv (hw_ea (hw_gE G)) 200), (1, .int l1), (2, .int l2), (3, .int l3), (4, .int l4), (5, .int l5), (6, .int l6), (7, .int l7)] [] s0) (l1 : Int32) (l2 : Int32) (l3 : Int32) (l4 : Int32) (l5 : Int32) (l6 : Int32) (l7 : Int32) (s0 : hw_St) : hw_K G 8 hw_ri (S_X7_harp_47 w47 l1 l2 l3 l4 l5 l6 l7 s0) 47 [(0, hw_rv (hw_ea (hw_gE G)) 200), (1, .int l1), (2, .int l2), (3, .int l3), (4, .int l4), (5, .int l5), (6, .int l6), (7, .int l7)] [] s0 := by
  unfold S_X7_harp_47
  refine hw_iload C dX7_harp_47 7 rfl ?_
  refine hw_sipush C dX7_harp_49 (v := 500) (by decide) ?_
  refine hw_icmp_gt C dX7_harp_52 (tgt := 112) (by decide) (fun c10 => ?_) (fun c10 => ?_)
  · refine hw_aload_n C dX7_harp_112 rfl 0 rfl ?_
    refine hw_getR C cf_X7 lf_X7_9 hw_T200 (t2 := 201) (by decide) dX7_harp_113 ?_
    refine hw_iload_n C dX7_harp_116 rfl 3 rfl ?_
    refine hw_iload C dX7_harp_117 4 rfl ?_
    refine hw_iast C hw_T201 (by decide) dX7_harp_119 (fun h12 s11 => ?_)
    refine hw_iload_n C dX7_harp_120 rfl 2 rfl ?_
    refine hw_if_ne C dX7_harp_121 (tgt := 129) (by decide) (fun c13 => ?_) (fun c13 => ?_)
    · refine hw_iload C dX7_harp_129 6 rfl ?_
      exact hw_iret C dX7_harp_131
    · refine hw_iload C dX7_harp_124 5 rfl ?_
      refine hw_goto C dX7_harp_126 (tgt := 131) (by decide) ?_
      exact hw_iret C dX7_harp_131
  · refine hw_aload_n C dX7_harp_55 rfl 0 rfl ?_
    refine hw_getR C cf_X7 lf_X7_9 hw_T200 (t2 := 201) (by decide) dX7_harp_56 ?_
    refine hw_iload_n C dX7_harp_59 rfl 3 rfl ?_
    refine hw_iload C dX7_harp_60 7 rfl ?_
    refine hw_iast C hw_T201 (by decide) dX7_harp_62 (fun h15 s14 => ?_)
    refine hw_aload_n C dX7_harp_63 rfl 0 rfl ?_
    refine hw_iload_n C dX7_harp_64 rfl 1 rfl ?_
    refine hw_callVv C (M_X7_findDay (hw_gE G) hTL l1 s14) W_X7_findDay SV_X7_findDay cf_X7 hw_T200 mw_511 (by decide) rfl ⟨rfl, hw_l8 rfl⟩ dX7_harp_65 (fun r16 s17 => ?_)
    refine hw_aload_n C dX7_harp_68 rfl 0 rfl ?_
    refine hw_getI C cf_X7 lf_X7_163 hw_T200 dX7_harp_69 ?_
    refine hw_iload C dX7_harp_72 6 rfl ?_
    refine hw_icmp_le C dX7_harp_74 (tgt := 82) (by decide) (fun c18 => ?_) (fun c18 => ?_)
    · refine hw_iload C dX7_harp_82 5 rfl ?_
      exact hw_lv [0, 1, 2, 3, 4, 6, 7] rfl (KB_X7_harp_84 C hTL w47 H_w47 l1 l2 l3 l4 l6 l7 l5 s17)
    · refine hw_iload C dX7_harp_77 7 rfl ?_
      refine hw_goto C dX7_harp_79 (tgt := 84) (by decide) ?_
      exact hw_lv [0, 1, 2, 3, 4, 6, 7] rfl (KB_X7_harp_84 C hTL w47 H_w47 l1 l2 l3 l4 l6 l7 l7 s17)
theorem KL_X7_harp_47 {G : hw_G} (C : hw_Ok G cX7_harp RX7 8 8 (some .int) hw_TM) (hTL : hw_eT (hw_gE G) = hw_TM) : ∀ (n_ : Nat) (l1 : Int32) (l2 : Int32) (l3 : Int32) (l4 : Int32) (l5 : Int32) (l6 : Int32) (l7 : Int32) (s0 : hw_St), hw_K G 8 hw_ri (L_X7_harp_47 n_ l1 l2 l3 l4 l5 l6 l7 s0) 47 [(0, hw_rv (hw_ea (hw_gE G)) 200), (1, .int l1), (2, .int l2), (3, .int l3), (4, .int l4), (5, .int l5), (6, .int l6), (7, .int l7)] [] s0 := by
  intro n_
  induction n_ with
  | zero => intros; exact hw_nil
  | succ n_ ih => intro l1 l2 l3 l4 l5 l6 l7 s0; exact KS_X7_harp_47 C hTL (L_X7_harp_47 n_) ih l1 l2 l3 l4 l5 l6 l7 s0
set_option maxRecDepth 20000 in
theorem M_X7_harp (E : hw_E) (hE : hw_eT E = hw_TM) (a1 : Int32) (a2 : Int32) (s0 : hw_St) : hw_M E yX7_harp cX7_harp 8 (some .int) 8 [hw_rv (hw_ea E) 200, .int a1, .int a2] s0 hw_ri (F_X7_harp a1 a2 s0) := by
  refine hw_entry (own := RX7) (TL := hw_TM) (by decide) rfl hE (hw_cR (hw_cI (hw_cI hw_cN))) (hw_l8 rfl) (fun G hG C => ?_)
  subst hG
  have hTL := hE
  show hw_K G 8 hw_ri _ 0 [(0, hw_rv (hw_ea (hw_gE G)) 200), (1, .int a1), (2, .int a2)] [] s0
  unfold F_X7_harp
  refine hw_aload_n C dX7_harp_0 rfl 0 rfl ?_
  refine hw_iload_n C dX7_harp_1 rfl 1 rfl ?_
  refine hw_callVi C (M_X7_isWire (hw_gE G) hTL a1 s0) W_X7_isWire SV_X7_isWire cf_X7 hw_T200 mw_190 (by decide) rfl ⟨rfl, hw_l8 rfl⟩ dX7_harp_2 (fun r1 s2 => ?_)
  refine hw_if_eq C dX7_harp_5 (tgt := 17) (by decide) (fun c3 => ?_) (fun c3 => ?_)
  · refine hw_ldc C mw_155 dX7_harp_17 ?_
    exact hw_iret C dX7_harp_19
  · refine hw_iload_n C dX7_harp_8 rfl 2 rfl ?_
    refine hw_iconst C dX7_harp_9 (v := 0) (by decide) ?_
    refine hw_iconst C dX7_harp_10 (v := 1) (by decide) ?_
    refine hw_callSi C (M_X7_in (hw_gE G) hTL a2 (0 : Int32) (1 : Int32) s2) W_X7_in SS_X7_in mw_157 (by decide) rfl ⟨rfl, hw_l8 rfl⟩ dX7_harp_11 (fun r4 s5 => ?_)
    refine hw_if_ne C dX7_harp_14 (tgt := 20) (by decide) (fun c6 => ?_) (fun c6 => ?_)
    · refine hw_bipush C dX7_harp_20 (v := 29) (by decide) ?_
      refine hw_bipush C dX7_harp_22 (v := 7) (by decide) ?_
      refine hw_iload_n C dX7_harp_24 rfl 1 rfl ?_
      refine hw_imul C dX7_harp_25 ?_
      refine hw_iadd C dX7_harp_26 ?_
      refine hw_iconst C dX7_harp_27 (v := 2) (by decide) ?_
      refine hw_iadd C dX7_harp_28 ?_
      refine hw_istore_nN C dX7_harp_29 rfl (by decide) (fun _ => rfl) (fun x7 => ?_)
      refine hw_aload_n C dX7_harp_30 rfl 1 rfl ?_
      refine hw_getR C cf_X7 lf_X7_9 hw_T200 (t2 := 201) (by decide) dX7_harp_31 ?_
      refine hw_iload_n C dX7_harp_34 rfl 0 rfl ?_
      refine hw_iald C hw_T201 (by decide) dX7_harp_35 (fun h8 => ?_)
      refine hw_istoreN C dX7_harp_36 (by decide) (fun _ => rfl) (fun x9 => ?_)
      refine hw_iconst C dX7_harp_38 (v := 0) (by decide) ?_
      refine hw_istore C dX7_harp_39 (by decide) rfl ?_
      refine hw_iconst C dX7_harp_41 (v := -1) (by decide) ?_
      refine hw_istore C dX7_harp_42 (by decide) rfl ?_
      refine hw_iconst C dX7_harp_44 (v := 5) (by decide) ?_
      refine hw_istore C dX7_harp_45 (by decide) rfl ?_
      exact hw_lv [5, 6, 7, 4, 3, 2, 1, 0] rfl (KL_X7_harp_47 C hTL 130 a1 a2 x7 x9 (0 : Int32) (-1 : Int32) (5 : Int32) s5)
    · refine hw_ldc C mw_155 dX7_harp_17 ?_
      exact hw_iret C dX7_harp_19
/-! HumWireModel lumps(II)I, level 8 -/
def B_X7_lumps_88  (w46 : Int32 → Int32 → Int32 → Int32 → Int32 → Int32 → hw_St → Option (Int32 × hw_St)) (l1 : Int32) (l2 : Int32) (l3 : Int32) (l4 : Int32) (l6 : Int32) (k0 : Int32) (s0 : hw_St) : Option (Int32 × hw_St) := w46 l1 l2 l3 l4 k0 (l6 + 1) s0
def B_X7_lumps_96  (l3 : Int32) (l4 : Int32) (l5 : Int32) (s0 : hw_St) : Option (Int32 × hw_St) := hw_gd (hw_inb l3 1443) (hw_nm (hw_up s0 201 l3.toNatClampNeg l4) (fun s17 => some (l5, s17)))
def S_X7_lumps_46  (w46 : Int32 → Int32 → Int32 → Int32 → Int32 → Int32 → hw_St → Option (Int32 × hw_St)) (l1 : Int32) (l2 : Int32) (l3 : Int32) (l4 : Int32) (l5 : Int32) (l6 : Int32) (s0 : hw_St) : Option (Int32 × hw_St) := if (10 : Int32) ≤ l6 then (B_X7_lumps_96 l3 l4 l5 s0) else (if l5 = (-1000000005 : Int32) then (hw_gd (hw_inb l3 1443) (hw_nm (hw_up s0 201 l3.toNatClampNeg l6) (fun s12 => hw_bd (F_X7_findDay l1 s12) (fun _ s15 => if l2 < (s15 200 6) then (B_X7_lumps_88 w46 l1 l2 l3 l4 l6 (-1000000005 : Int32) s15) else (B_X7_lumps_88 w46 l1 l2 l3 l4 l6 l6 s15))))) else (B_X7_lumps_96 l3 l4 l5 s0))
def L_X7_lumps_46  : Nat → Int32 → Int32 → Int32 → Int32 → Int32 → Int32 → hw_St → Option (Int32 × hw_St)
  | 0 => fun _ _ _ _ _ _ _ => none
  | n + 1 => S_X7_lumps_46  (L_X7_lumps_46  n)
def F_X7_lumps  (a1 : Int32) (a2 : Int32) (s0 : hw_St) : Option (Int32 × hw_St) := hw_bd (F_X7_isWire a1 s0) (fun r1 s2 => if r1 = 0 then (some ((-1000000001 : Int32), s2)) else (hw_bd (F_X7_in a2 (0 : Int32) (99999 : Int32) s2) (fun r4 s5 => if r4 = 0 then (some ((-1000000001 : Int32), s5)) else (hw_nm (((29 : Int32) + ((7 : Int32) * a1)) + (3 : Int32)) (fun x7 => hw_gd (hw_inb x7 1443) (hw_nm (s5 201 x7.toNatClampNeg) (fun x9 => L_X7_lumps_46 130 a1 a2 x7 x9 (-1000000005 : Int32) (0 : Int32) s5)))))))
set_option maxRecDepth 20000 in
theorem KB_X7_lumps_88 {G : hw_G} (C : hw_Ok G cX7_lumps RX7 7 8 (some .int) hw_TM) (hTL : hw_eT (hw_gE G) = hw_TM) (w46 : Int32 → Int32 → Int32 → Int32 → Int32 → Int32 → hw_St → Option (Int32 × hw_St)) (H_w46 : ∀ (l1 : Int32) (l2 : Int32) (l3 : Int32) (l4 : Int32) (l5 : Int32) (l6 : Int32) (s0 : hw_St), hw_K G 7 hw_ri (w46 l1 l2 l3 l4 l5 l6 s0) 46 [(0, hw_rv (hw_ea (hw_gE G)) 200), (1, .int l1), (2, .int l2), (3, .int l3), (4, .int l4), (5, .int l5), (6, .int l6)] [] s0) (l1 : Int32) (l2 : Int32) (l3 : Int32) (l4 : Int32) (l6 : Int32) (k0 : Int32) (s0 : hw_St) : hw_K G 7 hw_ri (B_X7_lumps_88 w46 l1 l2 l3 l4 l6 k0 s0) 88 [(0, hw_rv (hw_ea (hw_gE G)) 200), (1, .int l1), (2, .int l2), (3, .int l3), (4, .int l4), (6, .int l6)] [.int k0] s0 := by
  unfold B_X7_lumps_88
  refine hw_istore C dX7_lumps_88 (by decide) rfl ?_
  refine hw_iinc C dX7_lumps_90 6 rfl (v := 1) (by decide) (by decide) rfl ?_
  refine hw_goto C dX7_lumps_93 (tgt := 46) (by decide) ?_
  exact hw_lv [2, 3, 4, 5, 6, 1, 0] rfl (H_w46 l1 l2 l3 l4 k0 (l6 + 1) s0)
set_option maxRecDepth 20000 in
theorem KB_X7_lumps_96 {G : hw_G} (C : hw_Ok G cX7_lumps RX7 7 8 (some .int) hw_TM) (hTL : hw_eT (hw_gE G) = hw_TM) (l3 : Int32) (l4 : Int32) (l5 : Int32) (s0 : hw_St) : hw_K G 7 hw_ri (B_X7_lumps_96 l3 l4 l5 s0) 96 [(0, hw_rv (hw_ea (hw_gE G)) 200), (3, .int l3), (4, .int l4), (5, .int l5)] [] s0 := by
  unfold B_X7_lumps_96
  refine hw_aload_n C dX7_lumps_96 rfl 0 rfl ?_
  refine hw_getR C cf_X7 lf_X7_9 hw_T200 (t2 := 201) (by decide) dX7_lumps_97 ?_
  refine hw_iload_n C dX7_lumps_100 rfl 1 rfl ?_
  refine hw_iload C dX7_lumps_101 2 rfl ?_
  refine hw_iast C hw_T201 (by decide) dX7_lumps_103 (fun h18 s17 => ?_)
  refine hw_iload C dX7_lumps_104 3 rfl ?_
  exact hw_iret C dX7_lumps_106
set_option maxRecDepth 20000 in
theorem KS_X7_lumps_46 {G : hw_G} (C : hw_Ok G cX7_lumps RX7 7 8 (some .int) hw_TM) (hTL : hw_eT (hw_gE G) = hw_TM) (w46 : Int32 → Int32 → Int32 → Int32 → Int32 → Int32 → hw_St → Option (Int32 × hw_St)) (H_w46 : ∀ (l1 : Int32) (l2 : Int32) (l3 : Int32) (l4 : Int32) (l5 : Int32) (l6 : Int32) (s0 : hw_St), hw_K G 7 hw_ri (w46 l1 l2 l3 l4 l5 l6 s0) 46 [(0, hw_rv (hw_ea (hw_gE G)) 200), (1, .int l1), (2, .int l2), (3, .int l3), (4, .int l4), (5, .int l5), (6, .int l6)] [] s0) (l1 : Int32) (l2 : Int32) (l3 : Int32) (l4 : Int32) (l5 : Int32) (l6 : Int32) (s0 : hw_St) : hw_K G 7 hw_ri (S_X7_lumps_46 w46 l1 l2 l3 l4 l5 l6 s0) 46 [(0, hw_rv (hw_ea (hw_gE G)) 200), (1, .int l1), (2, .int l2), (3, .int l3), (4, .int l4), (5, .int l5), (6, .int l6)] [] s0 := by
  unfold S_X7_lumps_46
  refine hw_iload C dX7_lumps_46 6 rfl ?_
  refine hw_bipush C dX7_lumps_48 (v := 10) (by decide) ?_
  refine hw_icmp_ge C dX7_lumps_50 (tgt := 96) (by decide) (fun c10 => ?_) (fun c10 => ?_)
  · exact hw_lv [0, 3, 4, 5] rfl (KB_X7_lumps_96 C hTL l3 l4 l5 s0)
  · refine hw_iload C dX7_lumps_53 5 rfl ?_
    refine hw_ldc C mw_483 dX7_lumps_55 ?_
    refine hw_icmp_ne C dX7_lumps_57 (tgt := 96) (by decide) (fun c11 => ?_) (fun c11 => ?_)
    · exact hw_lv [0, 3, 4, 5] rfl (KB_X7_lumps_96 C hTL l3 l4 l5 s0)
    · refine hw_aload_n C dX7_lumps_60 rfl 0 rfl ?_
      refine hw_getR C cf_X7 lf_X7_9 hw_T200 (t2 := 201) (by decide) dX7_lumps_61 ?_
      refine hw_iload_n C dX7_lumps_64 rfl 3 rfl ?_
      refine hw_iload C dX7_lumps_65 6 rfl ?_
      refine hw_iast C hw_T201 (by decide) dX7_lumps_67 (fun h13 s12 => ?_)
      refine hw_aload_n C dX7_lumps_68 rfl 0 rfl ?_
      refine hw_iload_n C dX7_lumps_69 rfl 1 rfl ?_
      refine hw_callVv C (M_X7_findDay (hw_gE G) hTL l1 s12) W_X7_findDay SV_X7_findDay cf_X7 hw_T200 mw_511 (by decide) rfl ⟨rfl, hw_l8 rfl⟩ dX7_lumps_70 (fun r14 s15 => ?_)
      refine hw_aload_n C dX7_lumps_73 rfl 0 rfl ?_
      refine hw_getI C cf_X7 lf_X7_170 hw_T200 dX7_lumps_74 ?_
      refine hw_iload_n C dX7_lumps_77 rfl 2 rfl ?_
      refine hw_icmp_gt C dX7_lumps_78 (tgt := 86) (by decide) (fun c16 => ?_) (fun c16 => ?_)
      · refine hw_ldc C mw_483 dX7_lumps_86 ?_
        exact hw_lv [0, 1, 2, 3, 4, 6] rfl (KB_X7_lumps_88 C hTL w46 H_w46 l1 l2 l3 l4 l6 (-1000000005 : Int32) s15)
      · refine hw_iload C dX7_lumps_81 6 rfl ?_
        refine hw_goto C dX7_lumps_83 (tgt := 88) (by decide) ?_
        exact hw_lv [0, 1, 2, 3, 4, 6] rfl (KB_X7_lumps_88 C hTL w46 H_w46 l1 l2 l3 l4 l6 l6 s15)
theorem KL_X7_lumps_46 {G : hw_G} (C : hw_Ok G cX7_lumps RX7 7 8 (some .int) hw_TM) (hTL : hw_eT (hw_gE G) = hw_TM) : ∀ (n_ : Nat) (l1 : Int32) (l2 : Int32) (l3 : Int32) (l4 : Int32) (l5 : Int32) (l6 : Int32) (s0 : hw_St), hw_K G 7 hw_ri (L_X7_lumps_46 n_ l1 l2 l3 l4 l5 l6 s0) 46 [(0, hw_rv (hw_ea (hw_gE G)) 200), (1, .int l1), (2, .int l2), (3, .int l3), (4, .int l4), (5, .int l5), (6, .int l6)] [] s0 := by
  intro n_
  induction n_ with
  | zero => intros; exact hw_nil
  | succ n_ ih => intro l1 l2 l3 l4 l5 l6 s0; exact KS_X7_lumps_46 C hTL (L_X7_lumps_46 n_) ih l1 l2 l3 l4 l5 l6 s0
set_option maxRecDepth 20000 in
theorem M_X7_lumps (E : hw_E) (hE : hw_eT E = hw_TM) (a1 : Int32) (a2 : Int32) (s0 : hw_St) : hw_M E yX7_lumps cX7_lumps 7 (some .int) 8 [hw_rv (hw_ea E) 200, .int a1, .int a2] s0 hw_ri (F_X7_lumps a1 a2 s0) := by
  refine hw_entry (own := RX7) (TL := hw_TM) (by decide) rfl hE (hw_cR (hw_cI (hw_cI hw_cN))) (hw_l8 rfl) (fun G hG C => ?_)
  subst hG
  have hTL := hE
  show hw_K G 7 hw_ri _ 0 [(0, hw_rv (hw_ea (hw_gE G)) 200), (1, .int a1), (2, .int a2)] [] s0
  unfold F_X7_lumps
  refine hw_aload_n C dX7_lumps_0 rfl 0 rfl ?_
  refine hw_iload_n C dX7_lumps_1 rfl 1 rfl ?_
  refine hw_callVi C (M_X7_isWire (hw_gE G) hTL a1 s0) W_X7_isWire SV_X7_isWire cf_X7 hw_T200 mw_190 (by decide) rfl ⟨rfl, hw_l8 rfl⟩ dX7_lumps_2 (fun r1 s2 => ?_)
  refine hw_if_eq C dX7_lumps_5 (tgt := 18) (by decide) (fun c3 => ?_) (fun c3 => ?_)
  · refine hw_ldc C mw_155 dX7_lumps_18 ?_
    exact hw_iret C dX7_lumps_20
  · refine hw_iload_n C dX7_lumps_8 rfl 2 rfl ?_
    refine hw_iconst C dX7_lumps_9 (v := 0) (by decide) ?_
    refine hw_ldc C mw_524 dX7_lumps_10 ?_
    refine hw_callSi C (M_X7_in (hw_gE G) hTL a2 (0 : Int32) (99999 : Int32) s2) W_X7_in SS_X7_in mw_157 (by decide) rfl ⟨rfl, hw_l8 rfl⟩ dX7_lumps_12 (fun r4 s5 => ?_)
    refine hw_if_ne C dX7_lumps_15 (tgt := 21) (by decide) (fun c6 => ?_) (fun c6 => ?_)
    · refine hw_bipush C dX7_lumps_21 (v := 29) (by decide) ?_
      refine hw_bipush C dX7_lumps_23 (v := 7) (by decide) ?_
      refine hw_iload_n C dX7_lumps_25 rfl 1 rfl ?_
      refine hw_imul C dX7_lumps_26 ?_
      refine hw_iadd C dX7_lumps_27 ?_
      refine hw_iconst C dX7_lumps_28 (v := 3) (by decide) ?_
      refine hw_iadd C dX7_lumps_29 ?_
      refine hw_istore_nN C dX7_lumps_30 rfl (by decide) (fun _ => rfl) (fun x7 => ?_)
      refine hw_aload_n C dX7_lumps_31 rfl 1 rfl ?_
      refine hw_getR C cf_X7 lf_X7_9 hw_T200 (t2 := 201) (by decide) dX7_lumps_32 ?_
      refine hw_iload_n C dX7_lumps_35 rfl 0 rfl ?_
      refine hw_iald C hw_T201 (by decide) dX7_lumps_36 (fun h8 => ?_)
      refine hw_istoreN C dX7_lumps_37 (by decide) (fun _ => rfl) (fun x9 => ?_)
      refine hw_ldc C mw_483 dX7_lumps_39 ?_
      refine hw_istore C dX7_lumps_41 (by decide) rfl ?_
      refine hw_iconst C dX7_lumps_43 (v := 0) (by decide) ?_
      refine hw_istore C dX7_lumps_44 (by decide) rfl ?_
      exact hw_lv [4, 5, 6, 3, 2, 1, 0] rfl (KL_X7_lumps_46 C hTL 130 a1 a2 x7 x9 (-1000000005 : Int32) (0 : Int32) s5)
    · refine hw_ldc C mw_155 dX7_lumps_18 ?_
      exact hw_iret C dX7_lumps_20
/-! HumWireModel blown(III)I, level 4 -/
def B_X7_blown_73  (w34 : Int32 → Int32 → Int32 → Int32 → Int32 → Int32 → Int32 → hw_St → Option (Int32 × hw_St)) (l1 : Int32) (l2 : Int32) (l3 : Int32) (l4 : Int32) (l5 : Int32) (l6 : Int32) (l7 : Int32) (s0 : hw_St) : Option (Int32 × hw_St) := w34 l1 l2 l3 l4 l5 l6 (l7 + 1) s0
def B_X7_blown_64  (w34 : Int32 → Int32 → Int32 → Int32 → Int32 → Int32 → Int32 → hw_St → Option (Int32 × hw_St)) (l1 : Int32) (l2 : Int32) (l3 : Int32) (l6 : Int32) (l7 : Int32) (k0 : Int32) (s0 : hw_St) : Option (Int32 × hw_St) := B_X7_blown_73 w34 l1 l2 l3 k0 l7 (l6 + 1) l7 s0
def S_X7_blown_34  (w34 : Int32 → Int32 → Int32 → Int32 → Int32 → Int32 → Int32 → hw_St → Option (Int32 × hw_St)) (l1 : Int32) (l2 : Int32) (l3 : Int32) (l4 : Int32) (l5 : Int32) (l6 : Int32) (l7 : Int32) (s0 : hw_St) : Option (Int32 × hw_St) := if (100 : Int32) ≤ l7 then (if l3 = 0 then (some (l4, s0)) else (if l3 = (1 : Int32) then (some (l5, s0)) else (some (l6, s0)))) else (hw_bd (F_X7_eddyOf l1 l7 s0) (fun r10 s11 => if r10 = l2 then (if l6 = 0 then (B_X7_blown_64 w34 l1 l2 l3 l6 l7 l7 s11) else (B_X7_blown_64 w34 l1 l2 l3 l6 l7 l4 s11)) else (B_X7_blown_73 w34 l1 l2 l3 l4 l5 l6 l7 s11)))
def L_X7_blown_34  : Nat → Int32 → Int32 → Int32 → Int32 → Int32 → Int32 → Int32 → hw_St → Option (Int32 × hw_St)
  | 0 => fun _ _ _ _ _ _ _ _ => none
  | n + 1 => S_X7_blown_34  (L_X7_blown_34  n)
def F_X7_blown  (a1 : Int32) (a2 : Int32) (a3 : Int32) (s0 : hw_St) : Option (Int32 × hw_St) := hw_bd (F_X7_isWire a1 s0) (fun r1 s2 => if r1 = 0 then (some ((-1000000001 : Int32), s2)) else (hw_bd (F_X7_in a3 (0 : Int32) (2 : Int32) s2) (fun r4 s5 => if r4 = 0 then (some ((-1000000001 : Int32), s5)) else (L_X7_blown_34 130 a1 a2 a3 (-1000000005 : Int32) (-1000000005 : Int32) (0 : Int32) (0 : Int32) s5))))
set_option maxRecDepth 20000 in
theorem KB_X7_blown_73 {G : hw_G} (C : hw_Ok G cX7_blown RX7 8 4 (some .int) hw_TM) (hTL : hw_eT (hw_gE G) = hw_TM) (w34 : Int32 → Int32 → Int32 → Int32 → Int32 → Int32 → Int32 → hw_St → Option (Int32 × hw_St)) (H_w34 : ∀ (l1 : Int32) (l2 : Int32) (l3 : Int32) (l4 : Int32) (l5 : Int32) (l6 : Int32) (l7 : Int32) (s0 : hw_St), hw_K G 8 hw_ri (w34 l1 l2 l3 l4 l5 l6 l7 s0) 34 [(0, hw_rv (hw_ea (hw_gE G)) 200), (1, .int l1), (2, .int l2), (3, .int l3), (4, .int l4), (5, .int l5), (6, .int l6), (7, .int l7)] [] s0) (l1 : Int32) (l2 : Int32) (l3 : Int32) (l4 : Int32) (l5 : Int32) (l6 : Int32) (l7 : Int32) (s0 : hw_St) : hw_K G 8 hw_ri (B_X7_blown_73 w34 l1 l2 l3 l4 l5 l6 l7 s0) 73 [(0, hw_rv (hw_ea (hw_gE G)) 200), (1, .int l1), (2, .int l2), (3, .int l3), (4, .int l4), (5, .int l5), (6, .int l6), (7, .int l7)] [] s0 := by
  unfold B_X7_blown_73
  refine hw_iinc C dX7_blown_73 7 rfl (v := 1) (by decide) (by decide) rfl ?_
  refine hw_goto C dX7_blown_76 (tgt := 34) (by decide) ?_
  exact hw_lv [1, 2, 3, 4, 5, 6, 7, 0] rfl (H_w34 l1 l2 l3 l4 l5 l6 (l7 + 1) s0)
set_option maxRecDepth 20000 in
theorem KB_X7_blown_64 {G : hw_G} (C : hw_Ok G cX7_blown RX7 8 4 (some .int) hw_TM) (hTL : hw_eT (hw_gE G) = hw_TM) (w34 : Int32 → Int32 → Int32 → Int32 → Int32 → Int32 → Int32 → hw_St → Option (Int32 × hw_St)) (H_w34 : ∀ (l1 : Int32) (l2 : Int32) (l3 : Int32) (l4 : Int32) (l5 : Int32) (l6 : Int32) (l7 : Int32) (s0 : hw_St), hw_K G 8 hw_ri (w34 l1 l2 l3 l4 l5 l6 l7 s0) 34 [(0, hw_rv (hw_ea (hw_gE G)) 200), (1, .int l1), (2, .int l2), (3, .int l3), (4, .int l4), (5, .int l5), (6, .int l6), (7, .int l7)] [] s0) (l1 : Int32) (l2 : Int32) (l3 : Int32) (l6 : Int32) (l7 : Int32) (k0 : Int32) (s0 : hw_St) : hw_K G 8 hw_ri (B_X7_blown_64 w34 l1 l2 l3 l6 l7 k0 s0) 64 [(0, hw_rv (hw_ea (hw_gE G)) 200), (1, .int l1), (2, .int l2), (3, .int l3), (6, .int l6), (7, .int l7)] [.int k0] s0 := by
  unfold B_X7_blown_64
  refine hw_istore C dX7_blown_64 (by decide) rfl ?_
  refine hw_iload C dX7_blown_66 6 rfl ?_
  refine hw_istore C dX7_blown_68 (by decide) rfl ?_
  refine hw_iinc C dX7_blown_70 6 rfl (v := 1) (by decide) (by decide) rfl ?_
  exact hw_lv [3, 4, 5, 6, 2, 1, 0, 7] rfl (KB_X7_blown_73 C hTL w34 H_w34 l1 l2 l3 k0 l7 (l6 + 1) l7 s0)
set_option maxRecDepth 20000 in
theorem KS_X7_blown_34 {G : hw_G} (C : hw_Ok G cX7_blown RX7 8 4 (some .int) hw_TM) (hTL : hw_eT (hw_gE G) = hw_TM) (w34 : Int32 → Int32 → Int32 → Int32 → Int32 → Int32 → Int32 → hw_St → Option (Int32 × hw_St)) (H_w34 : ∀ (l1 : Int32) (l2 : Int32) (l3 : Int32) (l4 : Int32) (l5 : Int32) (l6 : Int32) (l7 : Int32) (s0 : hw_St), hw_K G 8 hw_ri (w34 l1 l2 l3 l4 l5 l6 l7 s0) 34 [(0, hw_rv (hw_ea (hw_gE G)) 200), (1, .int l1), (2, .int l2), (3, .int l3), (4, .int l4), (5, .int l5), (6, .int l6), (7, .int l7)] [] s0) (l1 : Int32) (l2 : Int32) (l3 : Int32) (l4 : Int32) (l5 : Int32) (l6 : Int32) (l7 : Int32) (s0 : hw_St) : hw_K G 8 hw_ri (S_X7_blown_34 w34 l1 l2 l3 l4 l5 l6 l7 s0) 34 [(0, hw_rv (hw_ea (hw_gE G)) 200), (1, .int l1), (2, .int l2), (3, .int l3), (4, .int l4), (5, .int l5), (6, .int l6), (7, .int l7)] [] s0 := by
  unfold S_X7_blown_34
  refine hw_iload C dX7_blown_34 7 rfl ?_
  refine hw_bipush C dX7_blown_36 (v := 100) (by decide) ?_
  refine hw_icmp_ge C dX7_blown_38 (tgt := 79) (by decide) (fun c7 => ?_) (fun c7 => ?_)
  · refine hw_iload_n C dX7_blown_79 rfl 3 rfl ?_
    refine hw_if_ne C dX7_blown_80 (tgt := 88) (by decide) (fun c8 => ?_) (fun c8 => ?_)
    · refine hw_iload_n C dX7_blown_88 rfl 3 rfl ?_
      refine hw_iconst C dX7_blown_89 (v := 1) (by decide) ?_
      refine hw_icmp_ne C dX7_blown_90 (tgt := 98) (by decide) (fun c9 => ?_) (fun c9 => ?_)
      · refine hw_iload C dX7_blown_98 6 rfl ?_
        exact hw_iret C dX7_blown_100
      · refine hw_iload C dX7_blown_93 5 rfl ?_
        refine hw_goto C dX7_blown_95 (tgt := 100) (by decide) ?_
        exact hw_iret C dX7_blown_100
    · refine hw_iload C dX7_blown_83 4 rfl ?_
      refine hw_goto C dX7_blown_85 (tgt := 100) (by decide) ?_
      exact hw_iret C dX7_blown_100
  · refine hw_aload_n C dX7_blown_41 rfl 0 rfl ?_
    refine hw_iload_n C dX7_blown_42 rfl 1 rfl ?_
    refine hw_iload C dX7_blown_43 7 rfl ?_
    refine hw_callVi C (M_X7_eddyOf (hw_gE G) hTL l1 l7 s0) W_X7_eddyOf SV_X7_eddyOf cf_X7 hw_T200 mw_392 (by decide) rfl ⟨rfl, hw_l8 rfl⟩ dX7_blown_45 (fun r10 s11 => ?_)
    refine hw_iload_n C dX7_blown_48 rfl 2 rfl ?_
    refine hw_icmp_ne C dX7_blown_49 (tgt := 73) (by decide) (fun c12 => ?_) (fun c12 => ?_)
    · exact hw_lv [0, 1, 2, 3, 4, 5, 6, 7] rfl (KB_X7_blown_73 C hTL w34 H_w34 l1 l2 l3 l4 l5 l6 l7 s11)
    · refine hw_iload C dX7_blown_52 6 rfl ?_
      refine hw_if_ne C dX7_blown_54 (tgt := 62) (by decide) (fun c13 => ?_) (fun c13 => ?_)
      · refine hw_iload C dX7_blown_62 4 rfl ?_
        exact hw_lv [0, 1, 2, 3, 6, 7] rfl (KB_X7_blown_64 C hTL w34 H_w34 l1 l2 l3 l6 l7 l4 s11)
      · refine hw_iload C dX7_blown_57 7 rfl ?_
        refine hw_goto C dX7_blown_59 (tgt := 64) (by decide) ?_
        exact hw_lv [0, 1, 2, 3, 6, 7] rfl (KB_X7_blown_64 C hTL w34 H_w34 l1 l2 l3 l6 l7 l7 s11)
theorem KL_X7_blown_34 {G : hw_G} (C : hw_Ok G cX7_blown RX7 8 4 (some .int) hw_TM) (hTL : hw_eT (hw_gE G) = hw_TM) : ∀ (n_ : Nat) (l1 : Int32) (l2 : Int32) (l3 : Int32) (l4 : Int32) (l5 : Int32) (l6 : Int32) (l7 : Int32) (s0 : hw_St), hw_K G 8 hw_ri (L_X7_blown_34 n_ l1 l2 l3 l4 l5 l6 l7 s0) 34 [(0, hw_rv (hw_ea (hw_gE G)) 200), (1, .int l1), (2, .int l2), (3, .int l3), (4, .int l4), (5, .int l5), (6, .int l6), (7, .int l7)] [] s0 := by
  intro n_
  induction n_ with
  | zero => intros; exact hw_nil
  | succ n_ ih => intro l1 l2 l3 l4 l5 l6 l7 s0; exact KS_X7_blown_34 C hTL (L_X7_blown_34 n_) ih l1 l2 l3 l4 l5 l6 l7 s0
set_option maxRecDepth 20000 in
theorem M_X7_blown (E : hw_E) (hE : hw_eT E = hw_TM) (a1 : Int32) (a2 : Int32) (a3 : Int32) (s0 : hw_St) : hw_M E yX7_blown cX7_blown 8 (some .int) 4 [hw_rv (hw_ea E) 200, .int a1, .int a2, .int a3] s0 hw_ri (F_X7_blown a1 a2 a3 s0) := by
  refine hw_entry (own := RX7) (TL := hw_TM) (by decide) rfl hE (hw_cR (hw_cI (hw_cI (hw_cI hw_cN)))) (hw_l8 rfl) (fun G hG C => ?_)
  subst hG
  have hTL := hE
  show hw_K G 8 hw_ri _ 0 [(0, hw_rv (hw_ea (hw_gE G)) 200), (1, .int a1), (2, .int a2), (3, .int a3)] [] s0
  unfold F_X7_blown
  refine hw_aload_n C dX7_blown_0 rfl 0 rfl ?_
  refine hw_iload_n C dX7_blown_1 rfl 1 rfl ?_
  refine hw_callVi C (M_X7_isWire (hw_gE G) hTL a1 s0) W_X7_isWire SV_X7_isWire cf_X7 hw_T200 mw_190 (by decide) rfl ⟨rfl, hw_l8 rfl⟩ dX7_blown_2 (fun r1 s2 => ?_)
  refine hw_if_eq C dX7_blown_5 (tgt := 17) (by decide) (fun c3 => ?_) (fun c3 => ?_)
  · refine hw_ldc C mw_155 dX7_blown_17 ?_
    exact hw_iret C dX7_blown_19
  · refine hw_iload_n C dX7_blown_8 rfl 3 rfl ?_
    refine hw_iconst C dX7_blown_9 (v := 0) (by decide) ?_
    refine hw_iconst C dX7_blown_10 (v := 2) (by decide) ?_
    refine hw_callSi C (M_X7_in (hw_gE G) hTL a3 (0 : Int32) (2 : Int32) s2) W_X7_in SS_X7_in mw_157 (by decide) rfl ⟨rfl, hw_l8 rfl⟩ dX7_blown_11 (fun r4 s5 => ?_)
    refine hw_if_ne C dX7_blown_14 (tgt := 20) (by decide) (fun c6 => ?_) (fun c6 => ?_)
    · refine hw_ldc C mw_483 dX7_blown_20 ?_
      refine hw_istore C dX7_blown_22 (by decide) rfl ?_
      refine hw_ldc C mw_483 dX7_blown_24 ?_
      refine hw_istore C dX7_blown_26 (by decide) rfl ?_
      refine hw_iconst C dX7_blown_28 (v := 0) (by decide) ?_
      refine hw_istore C dX7_blown_29 (by decide) rfl ?_
      refine hw_iconst C dX7_blown_31 (v := 0) (by decide) ?_
      refine hw_istore C dX7_blown_32 (by decide) rfl ?_
      exact hw_lv [4, 5, 6, 7, 3, 2, 1, 0] rfl (KL_X7_blown_34 C hTL 130 a1 a2 a3 (-1000000005 : Int32) (-1000000005 : Int32) (0 : Int32) (0 : Int32) s5)
    · refine hw_ldc C mw_155 dX7_blown_17 ?_
      exact hw_iret C dX7_blown_19
/-! HumWireModel feed(III)I, level 1 -/
def B_X7_feed_47  (w18 : Int32 → Int32 → Int32 → Int32 → hw_St → Option (Int32 × hw_St)) (l1 : Int32) (l2 : Int32) (l3 : Int32) (l4 : Int32) (k0 : Int32) (s0 : hw_St) : Option (Int32 × hw_St) := hw_gd (hw_inb ((s0 200 10) + l4) 96) (hw_nm (hw_up s0 206 ((s0 200 10) + l4).toNatClampNeg ((k0 >>> (((24 : Int32) - ((8 : Int32) * (hw_rem l4 (4 : Int32)))) &&& 31)) &&& (255 : Int32))) (fun s6 => w18 l1 l2 l3 (l4 + 1) s6))
def S_X7_feed_18  (w18 : Int32 → Int32 → Int32 → Int32 → hw_St → Option (Int32 × hw_St)) (l1 : Int32) (l2 : Int32) (l3 : Int32) (l4 : Int32) (s0 : hw_St) : Option (Int32 × hw_St) := if (12 : Int32) ≤ l4 then (hw_nm (hw_up s0 200 10 ((s0 200 10) + (12 : Int32))) (fun s3 => some ((s3 200 10), s3))) else (if (4 : Int32) ≤ l4 then (if (8 : Int32) ≤ l4 then (B_X7_feed_47 w18 l1 l2 l3 l4 l3 s0) else (B_X7_feed_47 w18 l1 l2 l3 l4 l2 s0)) else (B_X7_feed_47 w18 l1 l2 l3 l4 l1 s0))
def L_X7_feed_18  : Nat → Int32 → Int32 → Int32 → Int32 → hw_St → Option (Int32 × hw_St)
  | 0 => fun _ _ _ _ _ => none
  | n + 1 => S_X7_feed_18  (L_X7_feed_18  n)
def F_X7_feed  (a1 : Int32) (a2 : Int32) (a3 : Int32) (s0 : hw_St) : Option (Int32 × hw_St) := if ((s0 200 10) + (12 : Int32)) ≤ (96 : Int32) then (L_X7_feed_18 130 a1 a2 a3 (0 : Int32) s0) else (some ((-1000000003 : Int32), s0))
set_option maxRecDepth 20000 in
theorem KB_X7_feed_47 {G : hw_G} (C : hw_Ok G cX7_feed RX7 6 1 (some .int) hw_TM) (hTL : hw_eT (hw_gE G) = hw_TM) (w18 : Int32 → Int32 → Int32 → Int32 → hw_St → Option (Int32 × hw_St)) (H_w18 : ∀ (l1 : Int32) (l2 : Int32) (l3 : Int32) (l4 : Int32) (s0 : hw_St), hw_K G 6 hw_ri (w18 l1 l2 l3 l4 s0) 18 [(0, hw_rv (hw_ea (hw_gE G)) 200), (1, .int l1), (2, .int l2), (3, .int l3), (4, .int l4)] [] s0) (l1 : Int32) (l2 : Int32) (l3 : Int32) (l4 : Int32) (k0 : Int32) (s0 : hw_St) : hw_K G 6 hw_ri (B_X7_feed_47 w18 l1 l2 l3 l4 k0 s0) 47 [(0, hw_rv (hw_ea (hw_gE G)) 200), (1, .int l1), (2, .int l2), (3, .int l3), (4, .int l4)] [.int k0] s0 := by
  unfold B_X7_feed_47
  refine hw_istore C dX7_feed_47 (by decide) rfl ?_
  refine hw_aload_n C dX7_feed_49 rfl 1 rfl ?_
  refine hw_getR C cf_X7 lf_X7_25 hw_T200 (t2 := 206) (by decide) dX7_feed_50 ?_
  refine hw_aload_n C dX7_feed_53 rfl 1 rfl ?_
  refine hw_getI C cf_X7 lf_X7_177 hw_T200 dX7_feed_54 ?_
  refine hw_iload C dX7_feed_57 5 rfl ?_
  refine hw_iadd C dX7_feed_59 ?_
  refine hw_iload C dX7_feed_60 0 rfl ?_
  refine hw_bipush C dX7_feed_62 (v := 24) (by decide) ?_
  refine hw_bipush C dX7_feed_64 (v := 8) (by decide) ?_
  refine hw_iload C dX7_feed_66 5 rfl ?_
  refine hw_iconst C dX7_feed_68 (v := 4) (by decide) ?_
  refine hw_iremC C dX7_feed_69 (by decide) ?_
  refine hw_imul C dX7_feed_70 ?_
  refine hw_isub C dX7_feed_71 ?_
  refine hw_ishr C dX7_feed_72 ?_
  refine hw_sipush C dX7_feed_73 (v := 255) (by decide) ?_
  refine hw_iand C dX7_feed_76 ?_
  refine hw_iast C hw_T206 (by decide) dX7_feed_77 (fun h7 s6 => ?_)
  refine hw_iinc C dX7_feed_78 5 rfl (v := 1) (by decide) (by decide) rfl ?_
  refine hw_goto C dX7_feed_81 (tgt := 18) (by decide) ?_
  exact hw_lv [2, 3, 4, 5, 0] rfl (H_w18 l1 l2 l3 (l4 + 1) s6)
set_option maxRecDepth 20000 in
theorem KS_X7_feed_18 {G : hw_G} (C : hw_Ok G cX7_feed RX7 6 1 (some .int) hw_TM) (hTL : hw_eT (hw_gE G) = hw_TM) (w18 : Int32 → Int32 → Int32 → Int32 → hw_St → Option (Int32 × hw_St)) (H_w18 : ∀ (l1 : Int32) (l2 : Int32) (l3 : Int32) (l4 : Int32) (s0 : hw_St), hw_K G 6 hw_ri (w18 l1 l2 l3 l4 s0) 18 [(0, hw_rv (hw_ea (hw_gE G)) 200), (1, .int l1), (2, .int l2), (3, .int l3), (4, .int l4)] [] s0) (l1 : Int32) (l2 : Int32) (l3 : Int32) (l4 : Int32) (s0 : hw_St) : hw_K G 6 hw_ri (S_X7_feed_18 w18 l1 l2 l3 l4 s0) 18 [(0, hw_rv (hw_ea (hw_gE G)) 200), (1, .int l1), (2, .int l2), (3, .int l3), (4, .int l4)] [] s0 := by
  unfold S_X7_feed_18
  refine hw_iload C dX7_feed_18 4 rfl ?_
  refine hw_bipush C dX7_feed_20 (v := 12) (by decide) ?_
  refine hw_icmp_ge C dX7_feed_22 (tgt := 84) (by decide) (fun c2 => ?_) (fun c2 => ?_)
  · refine hw_aload_n C dX7_feed_84 rfl 0 rfl ?_
    refine hw_dup C dX7_feed_85 ?_
    refine hw_getI C cf_X7 lf_X7_177 hw_T200 dX7_feed_86 ?_
    refine hw_bipush C dX7_feed_89 (v := 12) (by decide) ?_
    refine hw_iadd C dX7_feed_91 ?_
    refine hw_putI C cf_X7 lf_X7_177 hw_T200 rfl rfl dX7_feed_92 (fun s3 => ?_)
    refine hw_aload_n C dX7_feed_95 rfl 0 rfl ?_
    refine hw_getI C cf_X7 lf_X7_177 hw_T200 dX7_feed_96 ?_
    exact hw_iret C dX7_feed_99
  · refine hw_iload C dX7_feed_25 4 rfl ?_
    refine hw_iconst C dX7_feed_27 (v := 4) (by decide) ?_
    refine hw_icmp_ge C dX7_feed_28 (tgt := 35) (by decide) (fun c4 => ?_) (fun c4 => ?_)
    · refine hw_iload C dX7_feed_35 4 rfl ?_
      refine hw_bipush C dX7_feed_37 (v := 8) (by decide) ?_
      refine hw_icmp_ge C dX7_feed_39 (tgt := 46) (by decide) (fun c5 => ?_) (fun c5 => ?_)
      · refine hw_iload_n C dX7_feed_46 rfl 3 rfl ?_
        exact hw_lv [0, 1, 2, 3, 4] rfl (KB_X7_feed_47 C hTL w18 H_w18 l1 l2 l3 l4 l3 s0)
      · refine hw_iload_n C dX7_feed_42 rfl 2 rfl ?_
        refine hw_goto C dX7_feed_43 (tgt := 47) (by decide) ?_
        exact hw_lv [0, 1, 2, 3, 4] rfl (KB_X7_feed_47 C hTL w18 H_w18 l1 l2 l3 l4 l2 s0)
    · refine hw_iload_n C dX7_feed_31 rfl 1 rfl ?_
      refine hw_goto C dX7_feed_32 (tgt := 47) (by decide) ?_
      exact hw_lv [0, 1, 2, 3, 4] rfl (KB_X7_feed_47 C hTL w18 H_w18 l1 l2 l3 l4 l1 s0)
theorem KL_X7_feed_18 {G : hw_G} (C : hw_Ok G cX7_feed RX7 6 1 (some .int) hw_TM) (hTL : hw_eT (hw_gE G) = hw_TM) : ∀ (n_ : Nat) (l1 : Int32) (l2 : Int32) (l3 : Int32) (l4 : Int32) (s0 : hw_St), hw_K G 6 hw_ri (L_X7_feed_18 n_ l1 l2 l3 l4 s0) 18 [(0, hw_rv (hw_ea (hw_gE G)) 200), (1, .int l1), (2, .int l2), (3, .int l3), (4, .int l4)] [] s0 := by
  intro n_
  induction n_ with
  | zero => intros; exact hw_nil
  | succ n_ ih => intro l1 l2 l3 l4 s0; exact KS_X7_feed_18 C hTL (L_X7_feed_18 n_) ih l1 l2 l3 l4 s0
set_option maxRecDepth 20000 in
theorem M_X7_feed (E : hw_E) (hE : hw_eT E = hw_TM) (a1 : Int32) (a2 : Int32) (a3 : Int32) (s0 : hw_St) : hw_M E yX7_feed cX7_feed 6 (some .int) 1 [hw_rv (hw_ea E) 200, .int a1, .int a2, .int a3] s0 hw_ri (F_X7_feed a1 a2 a3 s0) := by
  refine hw_entry (own := RX7) (TL := hw_TM) (by decide) rfl hE (hw_cR (hw_cI (hw_cI (hw_cI hw_cN)))) (hw_l8 rfl) (fun G hG C => ?_)
  subst hG
  have hTL := hE
  show hw_K G 6 hw_ri _ 0 [(0, hw_rv (hw_ea (hw_gE G)) 200), (1, .int a1), (2, .int a2), (3, .int a3)] [] s0
  unfold F_X7_feed
  refine hw_aload_n C dX7_feed_0 rfl 0 rfl ?_
  refine hw_getI C cf_X7 lf_X7_177 hw_T200 dX7_feed_1 ?_
  refine hw_bipush C dX7_feed_4 (v := 12) (by decide) ?_
  refine hw_iadd C dX7_feed_6 ?_
  refine hw_bipush C dX7_feed_7 (v := 96) (by decide) ?_
  refine hw_icmp_le C dX7_feed_9 (tgt := 15) (by decide) (fun c1 => ?_) (fun c1 => ?_)
  · refine hw_iconst C dX7_feed_15 (v := 0) (by decide) ?_
    refine hw_istore C dX7_feed_16 (by decide) rfl ?_
    exact hw_lv [1, 2, 3, 4, 0] rfl (KL_X7_feed_18 C hTL 130 a1 a2 a3 (0 : Int32) s0)
  · refine hw_ldc C mw_156 dX7_feed_12 ?_
    exact hw_iret C dX7_feed_14
/-! HumWireModel trim(I)I, level 2 -/
def F_X7_trim  (a1 : Int32) (s0 : hw_St) : Option (Int32 × hw_St) := hw_bd (F_X7_in a1 (0 : Int32) (s0 200 10) s0) (fun r1 s2 => if r1 = 0 then (some ((-1000000001 : Int32), s2)) else (hw_nm (hw_up s2 200 10 a1) (fun s4 => some (a1, s4))))
set_option maxRecDepth 20000 in
theorem M_X7_trim (E : hw_E) (hE : hw_eT E = hw_TM) (a1 : Int32) (s0 : hw_St) : hw_M E yX7_trim cX7_trim 2 (some .int) 2 [hw_rv (hw_ea E) 200, .int a1] s0 hw_ri (F_X7_trim a1 s0) := by
  refine hw_entry (own := RX7) (TL := hw_TM) (by decide) rfl hE (hw_cR (hw_cI hw_cN)) (hw_l8 rfl) (fun G hG C => ?_)
  subst hG
  have hTL := hE
  show hw_K G 2 hw_ri _ 0 [(0, hw_rv (hw_ea (hw_gE G)) 200), (1, .int a1)] [] s0
  unfold F_X7_trim
  refine hw_iload_n C dX7_trim_0 rfl 1 rfl ?_
  refine hw_iconst C dX7_trim_1 (v := 0) (by decide) ?_
  refine hw_aload_n C dX7_trim_2 rfl 0 rfl ?_
  refine hw_getI C cf_X7 lf_X7_177 hw_T200 dX7_trim_3 ?_
  refine hw_callSi C (M_X7_in (hw_gE G) hTL a1 (0 : Int32) (s0 200 10) s0) W_X7_in SS_X7_in mw_157 (by decide) rfl ⟨rfl, hw_l8 rfl⟩ dX7_trim_6 (fun r1 s2 => ?_)
  refine hw_if_ne C dX7_trim_9 (tgt := 15) (by decide) (fun c3 => ?_) (fun c3 => ?_)
  · refine hw_aload_n C dX7_trim_15 rfl 0 rfl ?_
    refine hw_iload_n C dX7_trim_16 rfl 1 rfl ?_
    refine hw_putI C cf_X7 lf_X7_177 hw_T200 rfl rfl dX7_trim_17 (fun s4 => ?_)
    refine hw_iload_n C dX7_trim_20 rfl 1 rfl ?_
    exact hw_iret C dX7_trim_21
  · refine hw_ldc C mw_155 dX7_trim_12 ?_
    exact hw_iret C dX7_trim_14
/-! HumWireModel isLetter(I)Z, level 1 -/
def F_X7_isLetter  (a1 : Int32) (s0 : hw_St) : Option (Int32 × hw_St) := if (s0 200 10) ≤ a1 then (some ((0 : Int32), s0)) else (hw_gd (hw_inb a1 96) (if (s0 206 a1.toNatClampNeg) < (97 : Int32) then (some ((0 : Int32), s0)) else (hw_gd (hw_inb a1 96) (if (122 : Int32) < (s0 206 a1.toNatClampNeg) then (some ((0 : Int32), s0)) else (some ((1 : Int32), s0))))))
set_option maxRecDepth 20000 in
theorem M_X7_isLetter (E : hw_E) (hE : hw_eT E = hw_TM) (a1 : Int32) (s0 : hw_St) : hw_M E yX7_isLetter cX7_isLetter 2 (some .boolean) 1 [hw_rv (hw_ea E) 200, .int a1] s0 hw_ri (F_X7_isLetter a1 s0) := by
  refine hw_entry (own := RX7) (TL := hw_TM) (by decide) rfl hE (hw_cR (hw_cI hw_cN)) (hw_l8 rfl) (fun G hG C => ?_)
  subst hG
  have hTL := hE
  show hw_K G 2 hw_ri _ 0 [(0, hw_rv (hw_ea (hw_gE G)) 200), (1, .int a1)] [] s0
  unfold F_X7_isLetter
  refine hw_iload_n C dX7_isLetter_0 rfl 1 rfl ?_
  refine hw_aload_n C dX7_isLetter_1 rfl 0 rfl ?_
  refine hw_getI C cf_X7 lf_X7_177 hw_T200 dX7_isLetter_2 ?_
  refine hw_icmp_ge C dX7_isLetter_5 (tgt := 34) (by decide) (fun c1 => ?_) (fun c1 => ?_)
  · refine hw_iconst C dX7_isLetter_34 (v := 0) (by decide) ?_
    exact hw_zret1 C (by decide) dX7_isLetter_35
  · refine hw_aload_n C dX7_isLetter_8 rfl 0 rfl ?_
    refine hw_getR C cf_X7 lf_X7_25 hw_T200 (t2 := 206) (by decide) dX7_isLetter_9 ?_
    refine hw_iload_n C dX7_isLetter_12 rfl 1 rfl ?_
    refine hw_iald C hw_T206 (by decide) dX7_isLetter_13 (fun h2 => ?_)
    refine hw_bipush C dX7_isLetter_14 (v := 97) (by decide) ?_
    refine hw_icmp_lt C dX7_isLetter_16 (tgt := 34) (by decide) (fun c3 => ?_) (fun c3 => ?_)
    · refine hw_iconst C dX7_isLetter_34 (v := 0) (by decide) ?_
      exact hw_zret1 C (by decide) dX7_isLetter_35
    · refine hw_aload_n C dX7_isLetter_19 rfl 0 rfl ?_
      refine hw_getR C cf_X7 lf_X7_25 hw_T200 (t2 := 206) (by decide) dX7_isLetter_20 ?_
      refine hw_iload_n C dX7_isLetter_23 rfl 1 rfl ?_
      refine hw_iald C hw_T206 (by decide) dX7_isLetter_24 (fun h4 => ?_)
      refine hw_bipush C dX7_isLetter_25 (v := 122) (by decide) ?_
      refine hw_icmp_gt C dX7_isLetter_27 (tgt := 34) (by decide) (fun c5 => ?_) (fun c5 => ?_)
      · refine hw_iconst C dX7_isLetter_34 (v := 0) (by decide) ?_
        exact hw_zret1 C (by decide) dX7_isLetter_35
      · refine hw_iconst C dX7_isLetter_30 (v := 1) (by decide) ?_
        refine hw_goto C dX7_isLetter_31 (tgt := 35) (by decide) ?_
        exact hw_zret1 C (by decide) dX7_isLetter_35
/-! HumWireModel isFigure(I)Z, level 1 -/
def F_X7_isFigure  (a1 : Int32) (s0 : hw_St) : Option (Int32 × hw_St) := if (s0 200 10) ≤ a1 then (some ((0 : Int32), s0)) else (hw_gd (hw_inb a1 96) (if (s0 206 a1.toNatClampNeg) < (48 : Int32) then (some ((0 : Int32), s0)) else (hw_gd (hw_inb a1 96) (if (57 : Int32) < (s0 206 a1.toNatClampNeg) then (some ((0 : Int32), s0)) else (some ((1 : Int32), s0))))))
set_option maxRecDepth 20000 in
theorem M_X7_isFigure (E : hw_E) (hE : hw_eT E = hw_TM) (a1 : Int32) (s0 : hw_St) : hw_M E yX7_isFigure cX7_isFigure 2 (some .boolean) 1 [hw_rv (hw_ea E) 200, .int a1] s0 hw_ri (F_X7_isFigure a1 s0) := by
  refine hw_entry (own := RX7) (TL := hw_TM) (by decide) rfl hE (hw_cR (hw_cI hw_cN)) (hw_l8 rfl) (fun G hG C => ?_)
  subst hG
  have hTL := hE
  show hw_K G 2 hw_ri _ 0 [(0, hw_rv (hw_ea (hw_gE G)) 200), (1, .int a1)] [] s0
  unfold F_X7_isFigure
  refine hw_iload_n C dX7_isFigure_0 rfl 1 rfl ?_
  refine hw_aload_n C dX7_isFigure_1 rfl 0 rfl ?_
  refine hw_getI C cf_X7 lf_X7_177 hw_T200 dX7_isFigure_2 ?_
  refine hw_icmp_ge C dX7_isFigure_5 (tgt := 34) (by decide) (fun c1 => ?_) (fun c1 => ?_)
  · refine hw_iconst C dX7_isFigure_34 (v := 0) (by decide) ?_
    exact hw_zret1 C (by decide) dX7_isFigure_35
  · refine hw_aload_n C dX7_isFigure_8 rfl 0 rfl ?_
    refine hw_getR C cf_X7 lf_X7_25 hw_T200 (t2 := 206) (by decide) dX7_isFigure_9 ?_
    refine hw_iload_n C dX7_isFigure_12 rfl 1 rfl ?_
    refine hw_iald C hw_T206 (by decide) dX7_isFigure_13 (fun h2 => ?_)
    refine hw_bipush C dX7_isFigure_14 (v := 48) (by decide) ?_
    refine hw_icmp_lt C dX7_isFigure_16 (tgt := 34) (by decide) (fun c3 => ?_) (fun c3 => ?_)
    · refine hw_iconst C dX7_isFigure_34 (v := 0) (by decide) ?_
      exact hw_zret1 C (by decide) dX7_isFigure_35
    · refine hw_aload_n C dX7_isFigure_19 rfl 0 rfl ?_
      refine hw_getR C cf_X7 lf_X7_25 hw_T200 (t2 := 206) (by decide) dX7_isFigure_20 ?_
      refine hw_iload_n C dX7_isFigure_23 rfl 1 rfl ?_
      refine hw_iald C hw_T206 (by decide) dX7_isFigure_24 (fun h4 => ?_)
      refine hw_bipush C dX7_isFigure_25 (v := 57) (by decide) ?_
      refine hw_icmp_gt C dX7_isFigure_27 (tgt := 34) (by decide) (fun c5 => ?_) (fun c5 => ?_)
      · refine hw_iconst C dX7_isFigure_34 (v := 0) (by decide) ?_
        exact hw_zret1 C (by decide) dX7_isFigure_35
      · refine hw_iconst C dX7_isFigure_30 (v := 1) (by decide) ?_
        refine hw_goto C dX7_isFigure_31 (tgt := 35) (by decide) ?_
        exact hw_zret1 C (by decide) dX7_isFigure_35
/-! HumWireModel go()V, level 2 -/
def B_X7_go_127  (k0 : Int32) (s0 : hw_St) : Option (Unit × hw_St) := hw_nm (hw_up s0 200 13 k0) (fun s36 => hw_gd (hw_inb (s36 200 12) 96) (hw_nm (hw_up s36 200 14 (s36 206 (s36 200 12).toNatClampNeg)) (fun s38 => hw_nm (hw_up s38 200 15 (s38 200 11)) (fun s39 => some ((), s39)))))
def S_X7_go_93  (w93 : Int32 → hw_St → Option (Unit × hw_St)) (l1 : Int32) (s0 : hw_St) : Option (Unit × hw_St) := hw_bd (F_X7_isLetter (s0 200 11) s0) (fun r27 s28 => if r27 = 0 then (if l1 = 0 then (B_X7_go_127 (1 : Int32) s28) else (B_X7_go_127 (4 : Int32) s28)) else (hw_nm (hw_up s28 200 11 ((s28 200 11) + (1 : Int32))) (fun s31 => w93 l1 s31)))
def L_X7_go_93  : Nat → Int32 → hw_St → Option (Unit × hw_St)
  | 0 => fun _ _ => none
  | n + 1 => S_X7_go_93  (L_X7_go_93  n)
def B_X7_go_222  (w170 : Int32 → hw_St → Option (Unit × hw_St)) (l1 : Int32) (k0 : Int32) (s0 : hw_St) : Option (Unit × hw_St) := hw_nm (hw_up s0 200 14 k0) (fun s34 => hw_nm (hw_up s34 200 11 ((s34 200 11) + (1 : Int32))) (fun s35 => w170 l1 s35))
def B_X7_go_261  (k0 : Int32) (s0 : hw_St) : Option (Unit × hw_St) := hw_nm (hw_up s0 200 13 k0) (fun s32 => hw_nm (hw_up s32 200 15 (s32 200 11)) (fun s33 => some ((), s33)))
def B_X7_go_256  (s0 : hw_St) : Option (Unit × hw_St) := B_X7_go_261 (4 : Int32) s0
def S_X7_go_170  (w170 : Int32 → hw_St → Option (Unit × hw_St)) (l1 : Int32) (s0 : hw_St) : Option (Unit × hw_St) := hw_bd (F_X7_isFigure (s0 200 11) s0) (fun r20 s21 => if r20 = 0 then (if l1 = 0 then (if ((s21 200 11) - (s21 200 12)) ≤ (4 : Int32) then (B_X7_go_261 (2 : Int32) s21) else (B_X7_go_256  s21)) else (B_X7_go_256  s21)) else (if (4 : Int32) ≤ ((s21 200 11) - (s21 200 12)) then (B_X7_go_222 w170 l1 (s21 200 14) s21) else (hw_gd (hw_inb (s21 200 11) 96) (B_X7_go_222 w170 l1 ((((10 : Int32) * (s21 200 14)) + (s21 206 (s21 200 11).toNatClampNeg)) - (48 : Int32)) s21))))
def L_X7_go_170  : Nat → Int32 → hw_St → Option (Unit × hw_St)
  | 0 => fun _ _ => none
  | n + 1 => S_X7_go_170  (L_X7_go_170  n)
def B_X7_go_62  (k0 : Int32) (s0 : hw_St) : Option (Unit × hw_St) := if (s0 200 12) = (s0 200 10) then (hw_nm (hw_up s0 200 13 (0 : Int32)) (fun s19 => some ((), s19))) else (hw_bd (F_X7_isLetter (s0 200 12) s0) (fun r8 s9 => if r8 = 0 then (hw_bd (F_X7_isFigure (s9 200 12) s9) (fun r11 s12 => if r11 = 0 then (hw_nm (hw_up s12 200 13 (3 : Int32)) (fun s14 => hw_gd (hw_inb (s14 200 12) 96) (hw_nm (hw_up s14 200 14 (s14 206 (s14 200 12).toNatClampNeg)) (fun s16 => hw_nm (hw_up s16 200 11 ((s16 200 11) + (1 : Int32))) (fun s17 => some ((), s17)))))) else (hw_nm (hw_up s12 200 14 (0 : Int32)) (fun s18 => L_X7_go_170 130 k0 s18)))) else (L_X7_go_93 130 k0 s9)))
def B_X7_go_38  (s0 : hw_St) : Option (Unit × hw_St) := hw_nm (hw_up s0 200 12 (s0 200 11)) (fun s5 => if (s5 200 12) = (s5 200 15) then (B_X7_go_62 (1 : Int32) s5) else (B_X7_go_62 (0 : Int32) s5))
def S_X7_go_0  (w0 : hw_St → Option (Unit × hw_St)) (s0 : hw_St) : Option (Unit × hw_St) := if (s0 200 10) ≤ (s0 200 11) then (B_X7_go_38  s0) else (hw_gd (hw_inb (s0 200 11) 96) (if (s0 206 (s0 200 11).toNatClampNeg) = (32 : Int32) then (hw_nm (hw_up s0 200 11 ((s0 200 11) + (1 : Int32))) (fun s4 => w0 s4)) else (B_X7_go_38  s0)))
def L_X7_go_0  : Nat → hw_St → Option (Unit × hw_St)
  | 0 => fun _ => none
  | n + 1 => S_X7_go_0  (L_X7_go_0  n)
def F_X7_go  (s0 : hw_St) : Option (Unit × hw_St) := L_X7_go_0 130  s0
set_option maxRecDepth 20000 in
theorem KB_X7_go_127 {G : hw_G} (C : hw_Ok G cX7_go RX7 2 2 none hw_TM) (hTL : hw_eT (hw_gE G) = hw_TM) (k0 : Int32) (s0 : hw_St) : hw_K G 2 hw_r0 (B_X7_go_127 k0 s0) 127 [(0, hw_rv (hw_ea (hw_gE G)) 200)] [.int k0, hw_rv (hw_ea (hw_gE G)) 200] s0 := by
  unfold B_X7_go_127
  refine hw_putI C cf_X7 lf_X7_189 hw_T200 rfl rfl dX7_go_127 (fun s36 => ?_)
  refine hw_aload_n C dX7_go_130 rfl 0 rfl ?_
  refine hw_aload_n C dX7_go_131 rfl 0 rfl ?_
  refine hw_getR C cf_X7 lf_X7_25 hw_T200 (t2 := 206) (by decide) dX7_go_132 ?_
  refine hw_aload_n C dX7_go_135 rfl 0 rfl ?_
  refine hw_getI C cf_X7 lf_X7_183 hw_T200 dX7_go_136 ?_
  refine hw_iald C hw_T206 (by decide) dX7_go_139 (fun h37 => ?_)
  refine hw_putI C cf_X7 lf_X7_195 hw_T200 rfl rfl dX7_go_140 (fun s38 => ?_)
  refine hw_aload_n C dX7_go_143 rfl 0 rfl ?_
  refine hw_aload_n C dX7_go_144 rfl 0 rfl ?_
  refine hw_getI C cf_X7 lf_X7_180 hw_T200 dX7_go_145 ?_
  refine hw_putI C cf_X7 lf_X7_186 hw_T200 rfl rfl dX7_go_148 (fun s39 => ?_)
  refine hw_goto C dX7_go_151 (tgt := 303) (by decide) ?_
  exact hw_vret C dX7_go_303
set_option maxRecDepth 20000 in
theorem KS_X7_go_93 {G : hw_G} (C : hw_Ok G cX7_go RX7 2 2 none hw_TM) (hTL : hw_eT (hw_gE G) = hw_TM) (w93 : Int32 → hw_St → Option (Unit × hw_St)) (H_w93 : ∀ (l1 : Int32) (s0 : hw_St), hw_K G 2 hw_r0 (w93 l1 s0) 93 [(0, hw_rv (hw_ea (hw_gE G)) 200), (1, .int l1)] [] s0) (l1 : Int32) (s0 : hw_St) : hw_K G 2 hw_r0 (S_X7_go_93 w93 l1 s0) 93 [(0, hw_rv (hw_ea (hw_gE G)) 200), (1, .int l1)] [] s0 := by
  unfold S_X7_go_93
  refine hw_aload_n C dX7_go_93 rfl 0 rfl ?_
  refine hw_aload_n C dX7_go_94 rfl 0 rfl ?_
  refine hw_getI C cf_X7 lf_X7_180 hw_T200 dX7_go_95 ?_
  refine hw_callVi C (M_X7_isLetter (hw_gE G) hTL (s0 200 11) s0) W_X7_isLetter SV_X7_isLetter cf_X7 hw_T200 mw_819 (by decide) rfl ⟨rfl, hw_l8 rfl⟩ dX7_go_98 (fun r27 s28 => ?_)
  refine hw_if_eq C dX7_go_101 (tgt := 117) (by decide) (fun c29 => ?_) (fun c29 => ?_)
  · refine hw_aload_n C dX7_go_117 rfl 0 rfl ?_
    refine hw_iload_n C dX7_go_118 rfl 1 rfl ?_
    refine hw_if_eq C dX7_go_119 (tgt := 126) (by decide) (fun c30 => ?_) (fun c30 => ?_)
    · refine hw_iconst C dX7_go_126 (v := 1) (by decide) ?_
      exact hw_lv [0] rfl (KB_X7_go_127 C hTL (1 : Int32) s28)
    · refine hw_iconst C dX7_go_122 (v := 4) (by decide) ?_
      refine hw_goto C dX7_go_123 (tgt := 127) (by decide) ?_
      exact hw_lv [0] rfl (KB_X7_go_127 C hTL (4 : Int32) s28)
  · refine hw_aload_n C dX7_go_104 rfl 0 rfl ?_
    refine hw_dup C dX7_go_105 ?_
    refine hw_getI C cf_X7 lf_X7_180 hw_T200 dX7_go_106 ?_
    refine hw_iconst C dX7_go_109 (v := 1) (by decide) ?_
    refine hw_iadd C dX7_go_110 ?_
    refine hw_putI C cf_X7 lf_X7_180 hw_T200 rfl rfl dX7_go_111 (fun s31 => ?_)
    refine hw_goto C dX7_go_114 (tgt := 93) (by decide) ?_
    exact hw_lv [0, 1] rfl (H_w93 l1 s31)
theorem KL_X7_go_93 {G : hw_G} (C : hw_Ok G cX7_go RX7 2 2 none hw_TM) (hTL : hw_eT (hw_gE G) = hw_TM) : ∀ (n_ : Nat) (l1 : Int32) (s0 : hw_St), hw_K G 2 hw_r0 (L_X7_go_93 n_ l1 s0) 93 [(0, hw_rv (hw_ea (hw_gE G)) 200), (1, .int l1)] [] s0 := by
  intro n_
  induction n_ with
  | zero => intros; exact hw_nil
  | succ n_ ih => intro l1 s0; exact KS_X7_go_93 C hTL (L_X7_go_93 n_) ih l1 s0
set_option maxRecDepth 20000 in
theorem KB_X7_go_222 {G : hw_G} (C : hw_Ok G cX7_go RX7 2 2 none hw_TM) (hTL : hw_eT (hw_gE G) = hw_TM) (w170 : Int32 → hw_St → Option (Unit × hw_St)) (H_w170 : ∀ (l1 : Int32) (s0 : hw_St), hw_K G 2 hw_r0 (w170 l1 s0) 170 [(0, hw_rv (hw_ea (hw_gE G)) 200), (1, .int l1)] [] s0) (l1 : Int32) (k0 : Int32) (s0 : hw_St) : hw_K G 2 hw_r0 (B_X7_go_222 w170 l1 k0 s0) 222 [(0, hw_rv (hw_ea (hw_gE G)) 200), (1, .int l1)] [.int k0, hw_rv (hw_ea (hw_gE G)) 200] s0 := by
  unfold B_X7_go_222
  refine hw_putI C cf_X7 lf_X7_195 hw_T200 rfl rfl dX7_go_222 (fun s34 => ?_)
  refine hw_aload_n C dX7_go_225 rfl 0 rfl ?_
  refine hw_dup C dX7_go_226 ?_
  refine hw_getI C cf_X7 lf_X7_180 hw_T200 dX7_go_227 ?_
  refine hw_iconst C dX7_go_230 (v := 1) (by decide) ?_
  refine hw_iadd C dX7_go_231 ?_
  refine hw_putI C cf_X7 lf_X7_180 hw_T200 rfl rfl dX7_go_232 (fun s35 => ?_)
  refine hw_goto C dX7_go_235 (tgt := 170) (by decide) ?_
  exact hw_lv [0, 1] rfl (H_w170 l1 s35)
set_option maxRecDepth 20000 in
theorem KB_X7_go_261 {G : hw_G} (C : hw_Ok G cX7_go RX7 2 2 none hw_TM) (hTL : hw_eT (hw_gE G) = hw_TM) (k0 : Int32) (s0 : hw_St) : hw_K G 2 hw_r0 (B_X7_go_261 k0 s0) 261 [(0, hw_rv (hw_ea (hw_gE G)) 200)] [.int k0, hw_rv (hw_ea (hw_gE G)) 200] s0 := by
  unfold B_X7_go_261
  refine hw_putI C cf_X7 lf_X7_189 hw_T200 rfl rfl dX7_go_261 (fun s32 => ?_)
  refine hw_aload_n C dX7_go_264 rfl 0 rfl ?_
  refine hw_aload_n C dX7_go_265 rfl 0 rfl ?_
  refine hw_getI C cf_X7 lf_X7_180 hw_T200 dX7_go_266 ?_
  refine hw_putI C cf_X7 lf_X7_186 hw_T200 rfl rfl dX7_go_269 (fun s33 => ?_)
  refine hw_goto C dX7_go_272 (tgt := 303) (by decide) ?_
  exact hw_vret C dX7_go_303
set_option maxRecDepth 20000 in
theorem KB_X7_go_256 {G : hw_G} (C : hw_Ok G cX7_go RX7 2 2 none hw_TM) (hTL : hw_eT (hw_gE G) = hw_TM) (s0 : hw_St) : hw_K G 2 hw_r0 (B_X7_go_256  s0) 256 [(0, hw_rv (hw_ea (hw_gE G)) 200)] [hw_rv (hw_ea (hw_gE G)) 200] s0 := by
  unfold B_X7_go_256
  refine hw_iconst C dX7_go_256 (v := 4) (by decide) ?_
  refine hw_goto C dX7_go_257 (tgt := 261) (by decide) ?_
  exact hw_lv [0] rfl (KB_X7_go_261 C hTL (4 : Int32) s0)
set_option maxRecDepth 20000 in
theorem KS_X7_go_170 {G : hw_G} (C : hw_Ok G cX7_go RX7 2 2 none hw_TM) (hTL : hw_eT (hw_gE G) = hw_TM) (w170 : Int32 → hw_St → Option (Unit × hw_St)) (H_w170 : ∀ (l1 : Int32) (s0 : hw_St), hw_K G 2 hw_r0 (w170 l1 s0) 170 [(0, hw_rv (hw_ea (hw_gE G)) 200), (1, .int l1)] [] s0) (l1 : Int32) (s0 : hw_St) : hw_K G 2 hw_r0 (S_X7_go_170 w170 l1 s0) 170 [(0, hw_rv (hw_ea (hw_gE G)) 200), (1, .int l1)] [] s0 := by
  unfold S_X7_go_170
  refine hw_aload_n C dX7_go_170 rfl 0 rfl ?_
  refine hw_aload_n C dX7_go_171 rfl 0 rfl ?_
  refine hw_getI C cf_X7 lf_X7_180 hw_T200 dX7_go_172 ?_
  refine hw_callVi C (M_X7_isFigure (hw_gE G) hTL (s0 200 11) s0) W_X7_isFigure SV_X7_isFigure cf_X7 hw_T200 mw_823 (by decide) rfl ⟨rfl, hw_l8 rfl⟩ dX7_go_175 (fun r20 s21 => ?_)
  refine hw_if_eq C dX7_go_178 (tgt := 238) (by decide) (fun c22 => ?_) (fun c22 => ?_)
  · refine hw_aload_n C dX7_go_238 rfl 0 rfl ?_
    refine hw_iload_n C dX7_go_239 rfl 1 rfl ?_
    refine hw_if_ne C dX7_go_240 (tgt := 256) (by decide) (fun c23 => ?_) (fun c23 => ?_)
    · exact hw_lv [0] rfl (KB_X7_go_256 C hTL  s21)
    · refine hw_aload_n C dX7_go_243 rfl 0 rfl ?_
      refine hw_getI C cf_X7 lf_X7_180 hw_T200 dX7_go_244 ?_
      refine hw_aload_n C dX7_go_247 rfl 0 rfl ?_
      refine hw_getI C cf_X7 lf_X7_183 hw_T200 dX7_go_248 ?_
      refine hw_isub C dX7_go_251 ?_
      refine hw_iconst C dX7_go_252 (v := 4) (by decide) ?_
      refine hw_icmp_le C dX7_go_253 (tgt := 260) (by decide) (fun c24 => ?_) (fun c24 => ?_)
      · refine hw_iconst C dX7_go_260 (v := 2) (by decide) ?_
        exact hw_lv [0] rfl (KB_X7_go_261 C hTL (2 : Int32) s21)
      · exact hw_lv [0] rfl (KB_X7_go_256 C hTL  s21)
  · refine hw_aload_n C dX7_go_181 rfl 0 rfl ?_
    refine hw_aload_n C dX7_go_182 rfl 0 rfl ?_
    refine hw_getI C cf_X7 lf_X7_180 hw_T200 dX7_go_183 ?_
    refine hw_aload_n C dX7_go_186 rfl 0 rfl ?_
    refine hw_getI C cf_X7 lf_X7_183 hw_T200 dX7_go_187 ?_
    refine hw_isub C dX7_go_190 ?_
    refine hw_iconst C dX7_go_191 (v := 4) (by decide) ?_
    refine hw_icmp_ge C dX7_go_192 (tgt := 218) (by decide) (fun c25 => ?_) (fun c25 => ?_)
    · refine hw_aload_n C dX7_go_218 rfl 0 rfl ?_
      refine hw_getI C cf_X7 lf_X7_195 hw_T200 dX7_go_219 ?_
      exact hw_lv [0, 1] rfl (KB_X7_go_222 C hTL w170 H_w170 l1 (s21 200 14) s21)
    · refine hw_bipush C dX7_go_195 (v := 10) (by decide) ?_
      refine hw_aload_n C dX7_go_197 rfl 0 rfl ?_
      refine hw_getI C cf_X7 lf_X7_195 hw_T200 dX7_go_198 ?_
      refine hw_imul C dX7_go_201 ?_
      refine hw_aload_n C dX7_go_202 rfl 0 rfl ?_
      refine hw_getR C cf_X7 lf_X7_25 hw_T200 (t2 := 206) (by decide) dX7_go_203 ?_
      refine hw_aload_n C dX7_go_206 rfl 0 rfl ?_
      refine hw_getI C cf_X7 lf_X7_180 hw_T200 dX7_go_207 ?_
      refine hw_iald C hw_T206 (by decide) dX7_go_210 (fun h26 => ?_)
      refine hw_iadd C dX7_go_211 ?_
      refine hw_bipush C dX7_go_212 (v := 48) (by decide) ?_
      refine hw_isub C dX7_go_214 ?_
      refine hw_goto C dX7_go_215 (tgt := 222) (by decide) ?_
      exact hw_lv [0, 1] rfl (KB_X7_go_222 C hTL w170 H_w170 l1 ((((10 : Int32) * (s21 200 14)) + (s21 206 (s21 200 11).toNatClampNeg)) - (48 : Int32)) s21)
theorem KL_X7_go_170 {G : hw_G} (C : hw_Ok G cX7_go RX7 2 2 none hw_TM) (hTL : hw_eT (hw_gE G) = hw_TM) : ∀ (n_ : Nat) (l1 : Int32) (s0 : hw_St), hw_K G 2 hw_r0 (L_X7_go_170 n_ l1 s0) 170 [(0, hw_rv (hw_ea (hw_gE G)) 200), (1, .int l1)] [] s0 := by
  intro n_
  induction n_ with
  | zero => intros; exact hw_nil
  | succ n_ ih => intro l1 s0; exact KS_X7_go_170 C hTL (L_X7_go_170 n_) ih l1 s0
set_option maxRecDepth 20000 in
theorem KB_X7_go_62 {G : hw_G} (C : hw_Ok G cX7_go RX7 2 2 none hw_TM) (hTL : hw_eT (hw_gE G) = hw_TM) (k0 : Int32) (s0 : hw_St) : hw_K G 2 hw_r0 (B_X7_go_62 k0 s0) 62 [(0, hw_rv (hw_ea (hw_gE G)) 200)] [.int k0] s0 := by
  unfold B_X7_go_62
  refine hw_istore_n C dX7_go_62 rfl (by decide) rfl ?_
  refine hw_aload_n C dX7_go_63 rfl 1 rfl ?_
  refine hw_getI C cf_X7 lf_X7_183 hw_T200 dX7_go_64 ?_
  refine hw_aload_n C dX7_go_67 rfl 1 rfl ?_
  refine hw_getI C cf_X7 lf_X7_177 hw_T200 dX7_go_68 ?_
  refine hw_icmp_ne C dX7_go_71 (tgt := 82) (by decide) (fun c7 => ?_) (fun c7 => ?_)
  · refine hw_aload_n C dX7_go_82 rfl 1 rfl ?_
    refine hw_aload_n C dX7_go_83 rfl 1 rfl ?_
    refine hw_getI C cf_X7 lf_X7_183 hw_T200 dX7_go_84 ?_
    refine hw_callVi C (M_X7_isLetter (hw_gE G) hTL (s0 200 12) s0) W_X7_isLetter SV_X7_isLetter cf_X7 hw_T200 mw_819 (by decide) rfl ⟨rfl, hw_l8 rfl⟩ dX7_go_87 (fun r8 s9 => ?_)
    refine hw_if_eq C dX7_go_90 (tgt := 154) (by decide) (fun c10 => ?_) (fun c10 => ?_)
    · refine hw_aload_n C dX7_go_154 rfl 1 rfl ?_
      refine hw_aload_n C dX7_go_155 rfl 1 rfl ?_
      refine hw_getI C cf_X7 lf_X7_183 hw_T200 dX7_go_156 ?_
      refine hw_callVi C (M_X7_isFigure (hw_gE G) hTL (s9 200 12) s9) W_X7_isFigure SV_X7_isFigure cf_X7 hw_T200 mw_823 (by decide) rfl ⟨rfl, hw_l8 rfl⟩ dX7_go_159 (fun r11 s12 => ?_)
      refine hw_if_eq C dX7_go_162 (tgt := 275) (by decide) (fun c13 => ?_) (fun c13 => ?_)
      · refine hw_aload_n C dX7_go_275 rfl 1 rfl ?_
        refine hw_iconst C dX7_go_276 (v := 3) (by decide) ?_
        refine hw_putI C cf_X7 lf_X7_189 hw_T200 rfl rfl dX7_go_277 (fun s14 => ?_)
        refine hw_aload_n C dX7_go_280 rfl 1 rfl ?_
        refine hw_aload_n C dX7_go_281 rfl 1 rfl ?_
        refine hw_getR C cf_X7 lf_X7_25 hw_T200 (t2 := 206) (by decide) dX7_go_282 ?_
        refine hw_aload_n C dX7_go_285 rfl 1 rfl ?_
        refine hw_getI C cf_X7 lf_X7_183 hw_T200 dX7_go_286 ?_
        refine hw_iald C hw_T206 (by decide) dX7_go_289 (fun h15 => ?_)
        refine hw_putI C cf_X7 lf_X7_195 hw_T200 rfl rfl dX7_go_290 (fun s16 => ?_)
        refine hw_aload_n C dX7_go_293 rfl 1 rfl ?_
        refine hw_dup C dX7_go_294 ?_
        refine hw_getI C cf_X7 lf_X7_180 hw_T200 dX7_go_295 ?_
        refine hw_iconst C dX7_go_298 (v := 1) (by decide) ?_
        refine hw_iadd C dX7_go_299 ?_
        refine hw_putI C cf_X7 lf_X7_180 hw_T200 rfl rfl dX7_go_300 (fun s17 => ?_)
        exact hw_vret C dX7_go_303
      · refine hw_aload_n C dX7_go_165 rfl 1 rfl ?_
        refine hw_iconst C dX7_go_166 (v := 0) (by decide) ?_
        refine hw_putI C cf_X7 lf_X7_195 hw_T200 rfl rfl dX7_go_167 (fun s18 => ?_)
        exact hw_lv [1, 0] rfl (KL_X7_go_170 C hTL 130 k0 s18)
    · exact hw_lv [1, 0] rfl (KL_X7_go_93 C hTL 130 k0 s9)
  · refine hw_aload_n C dX7_go_74 rfl 1 rfl ?_
    refine hw_iconst C dX7_go_75 (v := 0) (by decide) ?_
    refine hw_putI C cf_X7 lf_X7_189 hw_T200 rfl rfl dX7_go_76 (fun s19 => ?_)
    refine hw_goto C dX7_go_79 (tgt := 303) (by decide) ?_
    exact hw_vret C dX7_go_303
set_option maxRecDepth 20000 in
theorem KB_X7_go_38 {G : hw_G} (C : hw_Ok G cX7_go RX7 2 2 none hw_TM) (hTL : hw_eT (hw_gE G) = hw_TM) (s0 : hw_St) : hw_K G 2 hw_r0 (B_X7_go_38  s0) 38 [(0, hw_rv (hw_ea (hw_gE G)) 200)] [] s0 := by
  unfold B_X7_go_38
  refine hw_aload_n C dX7_go_38 rfl 0 rfl ?_
  refine hw_aload_n C dX7_go_39 rfl 0 rfl ?_
  refine hw_getI C cf_X7 lf_X7_180 hw_T200 dX7_go_40 ?_
  refine hw_putI C cf_X7 lf_X7_183 hw_T200 rfl rfl dX7_go_43 (fun s5 => ?_)
  refine hw_aload_n C dX7_go_46 rfl 0 rfl ?_
  refine hw_getI C cf_X7 lf_X7_183 hw_T200 dX7_go_47 ?_
  refine hw_aload_n C dX7_go_50 rfl 0 rfl ?_
  refine hw_getI C cf_X7 lf_X7_186 hw_T200 dX7_go_51 ?_
  refine hw_icmp_ne C dX7_go_54 (tgt := 61) (by decide) (fun c6 => ?_) (fun c6 => ?_)
  · refine hw_iconst C dX7_go_61 (v := 0) (by decide) ?_
    exact hw_lv [0] rfl (KB_X7_go_62 C hTL (0 : Int32) s5)
  · refine hw_iconst C dX7_go_57 (v := 1) (by decide) ?_
    refine hw_goto C dX7_go_58 (tgt := 62) (by decide) ?_
    exact hw_lv [0] rfl (KB_X7_go_62 C hTL (1 : Int32) s5)
set_option maxRecDepth 20000 in
theorem KS_X7_go_0 {G : hw_G} (C : hw_Ok G cX7_go RX7 2 2 none hw_TM) (hTL : hw_eT (hw_gE G) = hw_TM) (w0 : hw_St → Option (Unit × hw_St)) (H_w0 : ∀ (s0 : hw_St), hw_K G 2 hw_r0 (w0 s0) 0 [(0, hw_rv (hw_ea (hw_gE G)) 200)] [] s0) (s0 : hw_St) : hw_K G 2 hw_r0 (S_X7_go_0 w0 s0) 0 [(0, hw_rv (hw_ea (hw_gE G)) 200)] [] s0 := by
  unfold S_X7_go_0
  refine hw_aload_n C dX7_go_0 rfl 0 rfl ?_
  refine hw_getI C cf_X7 lf_X7_180 hw_T200 dX7_go_1 ?_
  refine hw_aload_n C dX7_go_4 rfl 0 rfl ?_
  refine hw_getI C cf_X7 lf_X7_177 hw_T200 dX7_go_5 ?_
  refine hw_icmp_ge C dX7_go_8 (tgt := 38) (by decide) (fun c1 => ?_) (fun c1 => ?_)
  · exact hw_lv [0] rfl (KB_X7_go_38 C hTL  s0)
  · refine hw_aload_n C dX7_go_11 rfl 0 rfl ?_
    refine hw_getR C cf_X7 lf_X7_25 hw_T200 (t2 := 206) (by decide) dX7_go_12 ?_
    refine hw_aload_n C dX7_go_15 rfl 0 rfl ?_
    refine hw_getI C cf_X7 lf_X7_180 hw_T200 dX7_go_16 ?_
    refine hw_iald C hw_T206 (by decide) dX7_go_19 (fun h2 => ?_)
    refine hw_bipush C dX7_go_20 (v := 32) (by decide) ?_
    refine hw_icmp_ne C dX7_go_22 (tgt := 38) (by decide) (fun c3 => ?_) (fun c3 => ?_)
    · exact hw_lv [0] rfl (KB_X7_go_38 C hTL  s0)
    · refine hw_aload_n C dX7_go_25 rfl 0 rfl ?_
      refine hw_dup C dX7_go_26 ?_
      refine hw_getI C cf_X7 lf_X7_180 hw_T200 dX7_go_27 ?_
      refine hw_iconst C dX7_go_30 (v := 1) (by decide) ?_
      refine hw_iadd C dX7_go_31 ?_
      refine hw_putI C cf_X7 lf_X7_180 hw_T200 rfl rfl dX7_go_32 (fun s4 => ?_)
      refine hw_goto C dX7_go_35 (tgt := 0) (by decide) ?_
      exact hw_lv [0] rfl (H_w0  s4)
theorem KL_X7_go_0 {G : hw_G} (C : hw_Ok G cX7_go RX7 2 2 none hw_TM) (hTL : hw_eT (hw_gE G) = hw_TM) : ∀ (n_ : Nat) (s0 : hw_St), hw_K G 2 hw_r0 (L_X7_go_0 n_ s0) 0 [(0, hw_rv (hw_ea (hw_gE G)) 200)] [] s0 := by
  intro n_
  induction n_ with
  | zero => intros; exact hw_nil
  | succ n_ ih => intro s0; exact KS_X7_go_0 C hTL (L_X7_go_0 n_) ih s0
set_option maxRecDepth 20000 in
theorem M_X7_go (E : hw_E) (hE : hw_eT E = hw_TM) (s0 : hw_St) : hw_M E yX7_go cX7_go 2 none 2 [hw_rv (hw_ea E) 200] s0 hw_r0 (F_X7_go  s0) := by
  refine hw_entry (own := RX7) (TL := hw_TM) (by decide) rfl hE (hw_cR hw_cN) (hw_l8 rfl) (fun G hG C => ?_)
  subst hG
  have hTL := hE
  show hw_K G 2 hw_r0 _ 0 [(0, hw_rv (hw_ea (hw_gE G)) 200)] [] s0
  unfold F_X7_go
  exact hw_lv [0] rfl (KL_X7_go_0 C hTL 130  s0)
/-! HumWireModel takesKey()Z, level 3 -/
def B_X7_takesKey_99  (w12 : Int32 → hw_St → Option (Int32 × hw_St)) (w55 : Int32 → Int32 → Int32 → Int32 → hw_St → Option (Int32 × hw_St)) (l1 : Int32) (l2 : Int32) (l4 : Int32) (k0 : Int32) (s0 : hw_St) : Option (Int32 × hw_St) := w55 l1 l2 k0 (l4 + 1) s0
def B_X7_takesKey_106  (w12 : Int32 → hw_St → Option (Int32 × hw_St)) (l1 : Int32) (l3 : Int32) (s0 : hw_St) : Option (Int32 × hw_St) := if l3 = 0 then (w12 (l1 + 1) s0) else (hw_nm (hw_up s0 200 16 l1) (fun s14 => hw_bd (F_X7_go  s14) (fun _ s16 => some ((1 : Int32), s16))))
def S_X7_takesKey_55  (w12 : Int32 → hw_St → Option (Int32 × hw_St)) (w55 : Int32 → Int32 → Int32 → Int32 → hw_St → Option (Int32 × hw_St)) (l1 : Int32) (l2 : Int32) (l3 : Int32) (l4 : Int32) (s0 : hw_St) : Option (Int32 × hw_St) := if l2 ≤ l4 then (B_X7_takesKey_106 w12 l1 l3 s0) else (if l3 = 0 then (B_X7_takesKey_106 w12 l1 l3 s0) else (hw_gd (hw_inb ((s0 200 12) + l4) 96) (hw_gd (hw_inb l1 4) (hw_gd (hw_inb ((s0 208 l1.toNatClampNeg) + l4) 12) (if (s0 206 ((s0 200 12) + l4).toNatClampNeg) = (s0 207 ((s0 208 l1.toNatClampNeg) + l4).toNatClampNeg) then (B_X7_takesKey_99 w12 w55 l1 l2 l4 (1 : Int32) s0) else (B_X7_takesKey_99 w12 w55 l1 l2 l4 (0 : Int32) s0))))))
def L_X7_takesKey_55  (w12 : Int32 → hw_St → Option (Int32 × hw_St)) : Nat → Int32 → Int32 → Int32 → Int32 → hw_St → Option (Int32 × hw_St)
  | 0 => fun _ _ _ _ _ => none
  | n + 1 => S_X7_takesKey_55 w12  (L_X7_takesKey_55 w12  n)
def B_X7_takesKey_51  (w12 : Int32 → hw_St → Option (Int32 × hw_St)) (l1 : Int32) (l2 : Int32) (k0 : Int32) (s0 : hw_St) : Option (Int32 × hw_St) := L_X7_takesKey_55 w12 130 l1 l2 k0 (0 : Int32) s0
def S_X7_takesKey_12  (w12 : Int32 → hw_St → Option (Int32 × hw_St)) (l1 : Int32) (s0 : hw_St) : Option (Int32 × hw_St) := if (3 : Int32) ≤ l1 then (some ((0 : Int32), s0)) else (hw_gd (hw_inb (l1 + (1 : Int32)) 4) (hw_gd (hw_inb l1 4) (hw_nm ((s0 208 (l1 + (1 : Int32)).toNatClampNeg) - (s0 208 l1.toNatClampNeg)) (fun x5 => if x5 = ((s0 200 11) - (s0 200 12)) then (B_X7_takesKey_51 w12 l1 x5 (1 : Int32) s0) else (B_X7_takesKey_51 w12 l1 x5 (0 : Int32) s0)))))
def L_X7_takesKey_12  : Nat → Int32 → hw_St → Option (Int32 × hw_St)
  | 0 => fun _ _ => none
  | n + 1 => S_X7_takesKey_12  (L_X7_takesKey_12  n)
def F_X7_takesKey  (s0 : hw_St) : Option (Int32 × hw_St) := if (s0 200 13) = (1 : Int32) then (L_X7_takesKey_12 130 (0 : Int32) s0) else (some ((0 : Int32), s0))
set_option maxRecDepth 20000 in
theorem KB_X7_takesKey_99 {G : hw_G} (C : hw_Ok G cX7_takesKey RX7 5 3 (some .boolean) hw_TM) (hTL : hw_eT (hw_gE G) = hw_TM) (w12 : Int32 → hw_St → Option (Int32 × hw_St)) (H_w12 : ∀ (l1 : Int32) (s0 : hw_St), hw_K G 5 hw_ri (w12 l1 s0) 12 [(0, hw_rv (hw_ea (hw_gE G)) 200), (1, .int l1)] [] s0) (w55 : Int32 → Int32 → Int32 → Int32 → hw_St → Option (Int32 × hw_St)) (H_w55 : ∀ (l1 : Int32) (l2 : Int32) (l3 : Int32) (l4 : Int32) (s0 : hw_St), hw_K G 5 hw_ri (w55 l1 l2 l3 l4 s0) 55 [(0, hw_rv (hw_ea (hw_gE G)) 200), (1, .int l1), (2, .int l2), (3, .int l3), (4, .int l4)] [] s0) (l1 : Int32) (l2 : Int32) (l4 : Int32) (k0 : Int32) (s0 : hw_St) : hw_K G 5 hw_ri (B_X7_takesKey_99 w12 w55 l1 l2 l4 k0 s0) 99 [(0, hw_rv (hw_ea (hw_gE G)) 200), (1, .int l1), (2, .int l2), (4, .int l4)] [.int k0] s0 := by
  unfold B_X7_takesKey_99
  refine hw_istore_n C dX7_takesKey_99 rfl (by decide) rfl ?_
  refine hw_iinc C dX7_takesKey_100 4 rfl (v := 1) (by decide) (by decide) rfl ?_
  refine hw_goto C dX7_takesKey_103 (tgt := 55) (by decide) ?_
  exact hw_lv [2, 3, 4, 1, 0] rfl (H_w55 l1 l2 k0 (l4 + 1) s0)
set_option maxRecDepth 20000 in
theorem KB_X7_takesKey_106 {G : hw_G} (C : hw_Ok G cX7_takesKey RX7 5 3 (some .boolean) hw_TM) (hTL : hw_eT (hw_gE G) = hw_TM) (w12 : Int32 → hw_St → Option (Int32 × hw_St)) (H_w12 : ∀ (l1 : Int32) (s0 : hw_St), hw_K G 5 hw_ri (w12 l1 s0) 12 [(0, hw_rv (hw_ea (hw_gE G)) 200), (1, .int l1)] [] s0) (l1 : Int32) (l3 : Int32) (s0 : hw_St) : hw_K G 5 hw_ri (B_X7_takesKey_106 w12 l1 l3 s0) 106 [(0, hw_rv (hw_ea (hw_gE G)) 200), (1, .int l1), (3, .int l3)] [] s0 := by
  unfold B_X7_takesKey_106
  refine hw_iload_n C dX7_takesKey_106 rfl 2 rfl ?_
  refine hw_if_eq C dX7_takesKey_107 (tgt := 121) (by decide) (fun c13 => ?_) (fun c13 => ?_)
  · refine hw_iinc C dX7_takesKey_121 1 rfl (v := 1) (by decide) (by decide) rfl ?_
    refine hw_goto C dX7_takesKey_124 (tgt := 12) (by decide) ?_
    exact hw_lv [1, 0] rfl (H_w12 (l1 + 1) s0)
  · refine hw_aload_n C dX7_takesKey_110 rfl 0 rfl ?_
    refine hw_iload_n C dX7_takesKey_111 rfl 1 rfl ?_
    refine hw_putI C cf_X7 lf_X7_201 hw_T200 rfl rfl dX7_takesKey_112 (fun s14 => ?_)
    refine hw_aload_n C dX7_takesKey_115 rfl 0 rfl ?_
    refine hw_callVv C (M_X7_go (hw_gE G) hTL  s14) W_X7_go SV_X7_go cf_X7 hw_T200 mw_813 (by decide) rfl ⟨rfl, hw_l8 rfl⟩ dX7_takesKey_116 (fun r15 s16 => ?_)
    refine hw_iconst C dX7_takesKey_119 (v := 1) (by decide) ?_
    exact hw_zret1 C (by decide) dX7_takesKey_120
set_option maxRecDepth 20000 in
theorem KS_X7_takesKey_55 {G : hw_G} (C : hw_Ok G cX7_takesKey RX7 5 3 (some .boolean) hw_TM) (hTL : hw_eT (hw_gE G) = hw_TM) (w12 : Int32 → hw_St → Option (Int32 × hw_St)) (H_w12 : ∀ (l1 : Int32) (s0 : hw_St), hw_K G 5 hw_ri (w12 l1 s0) 12 [(0, hw_rv (hw_ea (hw_gE G)) 200), (1, .int l1)] [] s0) (w55 : Int32 → Int32 → Int32 → Int32 → hw_St → Option (Int32 × hw_St)) (H_w55 : ∀ (l1 : Int32) (l2 : Int32) (l3 : Int32) (l4 : Int32) (s0 : hw_St), hw_K G 5 hw_ri (w55 l1 l2 l3 l4 s0) 55 [(0, hw_rv (hw_ea (hw_gE G)) 200), (1, .int l1), (2, .int l2), (3, .int l3), (4, .int l4)] [] s0) (l1 : Int32) (l2 : Int32) (l3 : Int32) (l4 : Int32) (s0 : hw_St) : hw_K G 5 hw_ri (S_X7_takesKey_55 w12 w55 l1 l2 l3 l4 s0) 55 [(0, hw_rv (hw_ea (hw_gE G)) 200), (1, .int l1), (2, .int l2), (3, .int l3), (4, .int l4)] [] s0 := by
  unfold S_X7_takesKey_55
  refine hw_iload C dX7_takesKey_55 4 rfl ?_
  refine hw_iload_n C dX7_takesKey_57 rfl 2 rfl ?_
  refine hw_icmp_ge C dX7_takesKey_58 (tgt := 106) (by decide) (fun c7 => ?_) (fun c7 => ?_)
  · exact hw_lv [0, 1, 3] rfl (KB_X7_takesKey_106 C hTL w12 H_w12 l1 l3 s0)
  · refine hw_iload_n C dX7_takesKey_61 rfl 3 rfl ?_
    refine hw_if_eq C dX7_takesKey_62 (tgt := 106) (by decide) (fun c8 => ?_) (fun c8 => ?_)
    · exact hw_lv [0, 1, 3] rfl (KB_X7_takesKey_106 C hTL w12 H_w12 l1 l3 s0)
    · refine hw_aload_n C dX7_takesKey_65 rfl 0 rfl ?_
      refine hw_getR C cf_X7 lf_X7_25 hw_T200 (t2 := 206) (by decide) dX7_takesKey_66 ?_
      refine hw_aload_n C dX7_takesKey_69 rfl 0 rfl ?_
      refine hw_getI C cf_X7 lf_X7_183 hw_T200 dX7_takesKey_70 ?_
      refine hw_iload C dX7_takesKey_73 4 rfl ?_
      refine hw_iadd C dX7_takesKey_75 ?_
      refine hw_iald C hw_T206 (by decide) dX7_takesKey_76 (fun h9 => ?_)
      refine hw_aload_n C dX7_takesKey_77 rfl 0 rfl ?_
      refine hw_getR C cf_X7 lf_X7_28 hw_T200 (t2 := 207) (by decide) dX7_takesKey_78 ?_
      refine hw_aload_n C dX7_takesKey_81 rfl 0 rfl ?_
      refine hw_getR C cf_X7 lf_X7_32 hw_T200 (t2 := 208) (by decide) dX7_takesKey_82 ?_
      refine hw_iload_n C dX7_takesKey_85 rfl 1 rfl ?_
      refine hw_iald C hw_T208 (by decide) dX7_takesKey_86 (fun h10 => ?_)
      refine hw_iload C dX7_takesKey_87 4 rfl ?_
      refine hw_iadd C dX7_takesKey_89 ?_
      refine hw_cald C hw_T207 (by decide) dX7_takesKey_90 (fun h11 => ?_)
      refine hw_icmp_ne C dX7_takesKey_91 (tgt := 98) (by decide) (fun c12 => ?_) (fun c12 => ?_)
      · refine hw_iconst C dX7_takesKey_98 (v := 0) (by decide) ?_
        exact hw_lv [0, 1, 2, 4] rfl (KB_X7_takesKey_99 C hTL w12 H_w12 w55 H_w55 l1 l2 l4 (0 : Int32) s0)
      · refine hw_iconst C dX7_takesKey_94 (v := 1) (by decide) ?_
        refine hw_goto C dX7_takesKey_95 (tgt := 99) (by decide) ?_
        exact hw_lv [0, 1, 2, 4] rfl (KB_X7_takesKey_99 C hTL w12 H_w12 w55 H_w55 l1 l2 l4 (1 : Int32) s0)
theorem KL_X7_takesKey_55 {G : hw_G} (C : hw_Ok G cX7_takesKey RX7 5 3 (some .boolean) hw_TM) (hTL : hw_eT (hw_gE G) = hw_TM) (w12 : Int32 → hw_St → Option (Int32 × hw_St)) (H_w12 : ∀ (l1 : Int32) (s0 : hw_St), hw_K G 5 hw_ri (w12 l1 s0) 12 [(0, hw_rv (hw_ea (hw_gE G)) 200), (1, .int l1)] [] s0) : ∀ (n_ : Nat) (l1 : Int32) (l2 : Int32) (l3 : Int32) (l4 : Int32) (s0 : hw_St), hw_K G 5 hw_ri (L_X7_takesKey_55 w12 n_ l1 l2 l3 l4 s0) 55 [(0, hw_rv (hw_ea (hw_gE G)) 200), (1, .int l1), (2, .int l2), (3, .int l3), (4, .int l4)] [] s0 := by
  intro n_
  induction n_ with
  | zero => intros; exact hw_nil
  | succ n_ ih => intro l1 l2 l3 l4 s0; exact KS_X7_takesKey_55 C hTL w12 H_w12 (L_X7_takesKey_55 w12 n_) ih l1 l2 l3 l4 s0
set_option maxRecDepth 20000 in
theorem KB_X7_takesKey_51 {G : hw_G} (C : hw_Ok G cX7_takesKey RX7 5 3 (some .boolean) hw_TM) (hTL : hw_eT (hw_gE G) = hw_TM) (w12 : Int32 → hw_St → Option (Int32 × hw_St)) (H_w12 : ∀ (l1 : Int32) (s0 : hw_St), hw_K G 5 hw_ri (w12 l1 s0) 12 [(0, hw_rv (hw_ea (hw_gE G)) 200), (1, .int l1)] [] s0) (l1 : Int32) (l2 : Int32) (k0 : Int32) (s0 : hw_St) : hw_K G 5 hw_ri (B_X7_takesKey_51 w12 l1 l2 k0 s0) 51 [(0, hw_rv (hw_ea (hw_gE G)) 200), (1, .int l1), (2, .int l2)] [.int k0] s0 := by
  unfold B_X7_takesKey_51
  refine hw_istore_n C dX7_takesKey_51 rfl (by decide) rfl ?_
  refine hw_iconst C dX7_takesKey_52 (v := 0) (by decide) ?_
  refine hw_istore C dX7_takesKey_53 (by decide) rfl ?_
  exact hw_lv [2, 3, 4, 1, 0] rfl (KL_X7_takesKey_55 C hTL w12 H_w12 130 l1 l2 k0 (0 : Int32) s0)
set_option maxRecDepth 20000 in
theorem KS_X7_takesKey_12 {G : hw_G} (C : hw_Ok G cX7_takesKey RX7 5 3 (some .boolean) hw_TM) (hTL : hw_eT (hw_gE G) = hw_TM) (w12 : Int32 → hw_St → Option (Int32 × hw_St)) (H_w12 : ∀ (l1 : Int32) (s0 : hw_St), hw_K G 5 hw_ri (w12 l1 s0) 12 [(0, hw_rv (hw_ea (hw_gE G)) 200), (1, .int l1)] [] s0) (l1 : Int32) (s0 : hw_St) : hw_K G 5 hw_ri (S_X7_takesKey_12 w12 l1 s0) 12 [(0, hw_rv (hw_ea (hw_gE G)) 200), (1, .int l1)] [] s0 := by
  unfold S_X7_takesKey_12
  refine hw_iload_n C dX7_takesKey_12 rfl 1 rfl ?_
  refine hw_iconst C dX7_takesKey_13 (v := 3) (by decide) ?_
  refine hw_icmp_ge C dX7_takesKey_14 (tgt := 127) (by decide) (fun c2 => ?_) (fun c2 => ?_)
  · refine hw_iconst C dX7_takesKey_127 (v := 0) (by decide) ?_
    exact hw_zret1 C (by decide) dX7_takesKey_128
  · refine hw_aload_n C dX7_takesKey_17 rfl 0 rfl ?_
    refine hw_getR C cf_X7 lf_X7_32 hw_T200 (t2 := 208) (by decide) dX7_takesKey_18 ?_
    refine hw_iload_n C dX7_takesKey_21 rfl 1 rfl ?_
    refine hw_iconst C dX7_takesKey_22 (v := 1) (by decide) ?_
    refine hw_iadd C dX7_takesKey_23 ?_
    refine hw_iald C hw_T208 (by decide) dX7_takesKey_24 (fun h3 => ?_)
    refine hw_aload_n C dX7_takesKey_25 rfl 0 rfl ?_
    refine hw_getR C cf_X7 lf_X7_32 hw_T200 (t2 := 208) (by decide) dX7_takesKey_26 ?_
    refine hw_iload_n C dX7_takesKey_29 rfl 1 rfl ?_
    refine hw_iald C hw_T208 (by decide) dX7_takesKey_30 (fun h4 => ?_)
    refine hw_isub C dX7_takesKey_31 ?_
    refine hw_istore_nN C dX7_takesKey_32 rfl (by decide) (fun _ => rfl) (fun x5 => ?_)
    refine hw_iload_n C dX7_takesKey_33 rfl 0 rfl ?_
    refine hw_aload_n C dX7_takesKey_34 rfl 1 rfl ?_
    refine hw_getI C cf_X7 lf_X7_180 hw_T200 dX7_takesKey_35 ?_
    refine hw_aload_n C dX7_takesKey_38 rfl 1 rfl ?_
    refine hw_getI C cf_X7 lf_X7_183 hw_T200 dX7_takesKey_39 ?_
    refine hw_isub C dX7_takesKey_42 ?_
    refine hw_icmp_ne C dX7_takesKey_43 (tgt := 50) (by decide) (fun c6 => ?_) (fun c6 => ?_)
    · refine hw_iconst C dX7_takesKey_50 (v := 0) (by decide) ?_
      exact hw_lv [1, 2, 0] rfl (KB_X7_takesKey_51 C hTL w12 H_w12 l1 x5 (0 : Int32) s0)
    · refine hw_iconst C dX7_takesKey_46 (v := 1) (by decide) ?_
      refine hw_goto C dX7_takesKey_47 (tgt := 51) (by decide) ?_
      exact hw_lv [1, 2, 0] rfl (KB_X7_takesKey_51 C hTL w12 H_w12 l1 x5 (1 : Int32) s0)
theorem KL_X7_takesKey_12 {G : hw_G} (C : hw_Ok G cX7_takesKey RX7 5 3 (some .boolean) hw_TM) (hTL : hw_eT (hw_gE G) = hw_TM) : ∀ (n_ : Nat) (l1 : Int32) (s0 : hw_St), hw_K G 5 hw_ri (L_X7_takesKey_12 n_ l1 s0) 12 [(0, hw_rv (hw_ea (hw_gE G)) 200), (1, .int l1)] [] s0 := by
  intro n_
  induction n_ with
  | zero => intros; exact hw_nil
  | succ n_ ih => intro l1 s0; exact KS_X7_takesKey_12 C hTL (L_X7_takesKey_12 n_) ih l1 s0
set_option maxRecDepth 20000 in
theorem M_X7_takesKey (E : hw_E) (hE : hw_eT E = hw_TM) (s0 : hw_St) : hw_M E yX7_takesKey cX7_takesKey 5 (some .boolean) 3 [hw_rv (hw_ea E) 200] s0 hw_ri (F_X7_takesKey  s0) := by
  refine hw_entry (own := RX7) (TL := hw_TM) (by decide) rfl hE (hw_cR hw_cN) (hw_l8 rfl) (fun G hG C => ?_)
  subst hG
  have hTL := hE
  show hw_K G 5 hw_ri _ 0 [(0, hw_rv (hw_ea (hw_gE G)) 200)] [] s0
  unfold F_X7_takesKey
  refine hw_aload_n C dX7_takesKey_0 rfl 0 rfl ?_
  refine hw_getI C cf_X7 lf_X7_189 hw_T200 dX7_takesKey_1 ?_
  refine hw_iconst C dX7_takesKey_4 (v := 1) (by decide) ?_
  refine hw_icmp_eq C dX7_takesKey_5 (tgt := 10) (by decide) (fun c1 => ?_) (fun c1 => ?_)
  · refine hw_iconst C dX7_takesKey_10 (v := 0) (by decide) ?_
    refine hw_istore_n C dX7_takesKey_11 rfl (by decide) rfl ?_
    exact hw_lv [1, 0] rfl (KL_X7_takesKey_12 C hTL 130 (0 : Int32) s0)
  · refine hw_iconst C dX7_takesKey_8 (v := 0) (by decide) ?_
    exact hw_zret1 C (by decide) dX7_takesKey_9
/-! HumWireModel nameOf(I)I, level 1 -/
def F_X7_nameOf  (a1 : Int32) (s0 : hw_St) : Option (Int32 × hw_St) := if (s0 200 16) = (0 : Int32) then (if a1 = (101 : Int32) then (some ((0 : Int32), s0)) else (if a1 = (111 : Int32) then (some ((1 : Int32), s0)) else (if a1 = (115 : Int32) then (some ((2 : Int32), s0)) else (some ((-1 : Int32), s0))))) else (if (s0 200 16) = (1 : Int32) then (if a1 = (97 : Int32) then (some ((0 : Int32), s0)) else (if a1 = (115 : Int32) then (some ((1 : Int32), s0)) else (some ((-1 : Int32), s0)))) else (if a1 = (115 : Int32) then (some ((0 : Int32), s0)) else (if a1 = (108 : Int32) then (some ((1 : Int32), s0)) else (if a1 = (104 : Int32) then (some ((2 : Int32), s0)) else (some ((-1 : Int32), s0))))))
set_option maxRecDepth 20000 in
theorem M_X7_nameOf (E : hw_E) (hE : hw_eT E = hw_TM) (a1 : Int32) (s0 : hw_St) : hw_M E yX7_nameOf cX7_nameOf 2 (some .int) 1 [hw_rv (hw_ea E) 200, .int a1] s0 hw_ri (F_X7_nameOf a1 s0) := by
  refine hw_entry (own := RX7) (TL := hw_TM) (by decide) rfl hE (hw_cR (hw_cI hw_cN)) (hw_l8 rfl) (fun G hG C => ?_)
  subst hG
  have hTL := hE
  show hw_K G 2 hw_ri _ 0 [(0, hw_rv (hw_ea (hw_gE G)) 200), (1, .int a1)] [] s0
  unfold F_X7_nameOf
  refine hw_aload_n C dX7_nameOf_0 rfl 0 rfl ?_
  refine hw_getI C cf_X7 lf_X7_201 hw_T200 dX7_nameOf_1 ?_
  refine hw_ifK (fun c4 => ?_) (fun c4 => ?_)
  · refine hw_lookIn C dX7_nameOf_4 c4 (off := 28) (tgt := 32) (by decide) ?_
    refine hw_iload_n C dX7_nameOf_32 rfl 1 rfl ?_
    refine hw_bipush C dX7_nameOf_33 (v := 101) (by decide) ?_
    refine hw_icmp_ne C dX7_nameOf_35 (tgt := 42) (by decide) (fun c1 => ?_) (fun c1 => ?_)
    · refine hw_iload_n C dX7_nameOf_42 rfl 1 rfl ?_
      refine hw_bipush C dX7_nameOf_43 (v := 111) (by decide) ?_
      refine hw_icmp_ne C dX7_nameOf_45 (tgt := 52) (by decide) (fun c2 => ?_) (fun c2 => ?_)
      · refine hw_iload_n C dX7_nameOf_52 rfl 1 rfl ?_
        refine hw_bipush C dX7_nameOf_53 (v := 115) (by decide) ?_
        refine hw_icmp_ne C dX7_nameOf_55 (tgt := 62) (by decide) (fun c3 => ?_) (fun c3 => ?_)
        · refine hw_iconst C dX7_nameOf_62 (v := -1) (by decide) ?_
          exact hw_iret C dX7_nameOf_63
        · refine hw_iconst C dX7_nameOf_58 (v := 2) (by decide) ?_
          refine hw_goto C dX7_nameOf_59 (tgt := 63) (by decide) ?_
          exact hw_iret C dX7_nameOf_63
      · refine hw_iconst C dX7_nameOf_48 (v := 1) (by decide) ?_
        refine hw_goto C dX7_nameOf_49 (tgt := 63) (by decide) ?_
        exact hw_iret C dX7_nameOf_63
    · refine hw_iconst C dX7_nameOf_38 (v := 0) (by decide) ?_
      refine hw_goto C dX7_nameOf_39 (tgt := 63) (by decide) ?_
      exact hw_iret C dX7_nameOf_63
  · refine hw_ifK (fun c7 => ?_) (fun c7 => ?_)
    · refine hw_lookIn C dX7_nameOf_4 c7 (off := 60) (tgt := 64) (by decide) ?_
      refine hw_iload_n C dX7_nameOf_64 rfl 1 rfl ?_
      refine hw_bipush C dX7_nameOf_65 (v := 97) (by decide) ?_
      refine hw_icmp_ne C dX7_nameOf_67 (tgt := 74) (by decide) (fun c5 => ?_) (fun c5 => ?_)
      · refine hw_iload_n C dX7_nameOf_74 rfl 1 rfl ?_
        refine hw_bipush C dX7_nameOf_75 (v := 115) (by decide) ?_
        refine hw_icmp_ne C dX7_nameOf_77 (tgt := 84) (by decide) (fun c6 => ?_) (fun c6 => ?_)
        · refine hw_iconst C dX7_nameOf_84 (v := -1) (by decide) ?_
          exact hw_iret C dX7_nameOf_85
        · refine hw_iconst C dX7_nameOf_80 (v := 1) (by decide) ?_
          refine hw_goto C dX7_nameOf_81 (tgt := 85) (by decide) ?_
          exact hw_iret C dX7_nameOf_85
      · refine hw_iconst C dX7_nameOf_70 (v := 0) (by decide) ?_
        refine hw_goto C dX7_nameOf_71 (tgt := 85) (by decide) ?_
        exact hw_iret C dX7_nameOf_85
    · refine hw_lookD C dX7_nameOf_4 (cs := [0, 1]) (by decide) (List.forall_mem_cons.mpr ⟨hw_ni c4 (z := 0) (by decide), List.forall_mem_cons.mpr ⟨hw_ni c7 (z := 1) (by decide), fun _ h => absurd h List.not_mem_nil⟩⟩) (tgt := 86) (by decide) ?_
      refine hw_iload_n C dX7_nameOf_86 rfl 1 rfl ?_
      refine hw_bipush C dX7_nameOf_87 (v := 115) (by decide) ?_
      refine hw_icmp_ne C dX7_nameOf_89 (tgt := 96) (by decide) (fun c8 => ?_) (fun c8 => ?_)
      · refine hw_iload_n C dX7_nameOf_96 rfl 1 rfl ?_
        refine hw_bipush C dX7_nameOf_97 (v := 108) (by decide) ?_
        refine hw_icmp_ne C dX7_nameOf_99 (tgt := 106) (by decide) (fun c9 => ?_) (fun c9 => ?_)
        · refine hw_iload_n C dX7_nameOf_106 rfl 1 rfl ?_
          refine hw_bipush C dX7_nameOf_107 (v := 104) (by decide) ?_
          refine hw_icmp_ne C dX7_nameOf_109 (tgt := 116) (by decide) (fun c10 => ?_) (fun c10 => ?_)
          · refine hw_iconst C dX7_nameOf_116 (v := -1) (by decide) ?_
            exact hw_iret C dX7_nameOf_117
          · refine hw_iconst C dX7_nameOf_112 (v := 2) (by decide) ?_
            refine hw_goto C dX7_nameOf_113 (tgt := 117) (by decide) ?_
            exact hw_iret C dX7_nameOf_117
        · refine hw_iconst C dX7_nameOf_102 (v := 1) (by decide) ?_
          refine hw_goto C dX7_nameOf_103 (tgt := 117) (by decide) ?_
          exact hw_iret C dX7_nameOf_117
      · refine hw_iconst C dX7_nameOf_92 (v := 0) (by decide) ?_
        refine hw_goto C dX7_nameOf_93 (tgt := 117) (by decide) ?_
        exact hw_iret C dX7_nameOf_117
/-! HumWireModel rank(I)I, level 1 -/
def F_X7_rank  (a0 : Int32) (s0 : hw_St) : Option (Int32 × hw_St) := if a0 = (-1 : Int32) then (some ((1 : Int32), s0)) else (if a0 = (-2 : Int32) then (some ((2 : Int32), s0)) else (if a0 < (-5 : Int32) then (if a0 < (-7 : Int32) then (if a0 < (-9 : Int32) then (some ((6 : Int32), s0)) else (some ((5 : Int32), s0))) else (some ((4 : Int32), s0))) else (some ((3 : Int32), s0))))
set_option maxRecDepth 20000 in
theorem M_X7_rank (E : hw_E) (hE : hw_eT E = hw_TM) (a0 : Int32) (s0 : hw_St) : hw_M E yX7_rank cX7_rank 1 (some .int) 1 [.int a0] s0 hw_ri (F_X7_rank a0 s0) := by
  refine hw_entry (own := RX7) (TL := hw_TM) (by decide) rfl hE (hw_cI hw_cN) (hw_l8 rfl) (fun G hG C => ?_)
  subst hG
  have hTL := hE
  show hw_K G 1 hw_ri _ 0 [(0, .int a0)] [] s0
  unfold F_X7_rank
  refine hw_iload_n C dX7_rank_0 rfl 0 rfl ?_
  refine hw_iconst C dX7_rank_1 (v := -1) (by decide) ?_
  refine hw_icmp_ne C dX7_rank_2 (tgt := 9) (by decide) (fun c1 => ?_) (fun c1 => ?_)
  · refine hw_iload_n C dX7_rank_9 rfl 0 rfl ?_
    refine hw_bipush C dX7_rank_10 (v := -2) (by decide) ?_
    refine hw_icmp_ne C dX7_rank_12 (tgt := 19) (by decide) (fun c2 => ?_) (fun c2 => ?_)
    · refine hw_iload_n C dX7_rank_19 rfl 0 rfl ?_
      refine hw_bipush C dX7_rank_20 (v := -5) (by decide) ?_
      refine hw_icmp_lt C dX7_rank_22 (tgt := 29) (by decide) (fun c3 => ?_) (fun c3 => ?_)
      · refine hw_iload_n C dX7_rank_29 rfl 0 rfl ?_
        refine hw_bipush C dX7_rank_30 (v := -7) (by decide) ?_
        refine hw_icmp_lt C dX7_rank_32 (tgt := 39) (by decide) (fun c4 => ?_) (fun c4 => ?_)
        · refine hw_iload_n C dX7_rank_39 rfl 0 rfl ?_
          refine hw_bipush C dX7_rank_40 (v := -9) (by decide) ?_
          refine hw_icmp_lt C dX7_rank_42 (tgt := 49) (by decide) (fun c5 => ?_) (fun c5 => ?_)
          · refine hw_bipush C dX7_rank_49 (v := 6) (by decide) ?_
            exact hw_iret C dX7_rank_51
          · refine hw_iconst C dX7_rank_45 (v := 5) (by decide) ?_
            refine hw_goto C dX7_rank_46 (tgt := 51) (by decide) ?_
            exact hw_iret C dX7_rank_51
        · refine hw_iconst C dX7_rank_35 (v := 4) (by decide) ?_
          refine hw_goto C dX7_rank_36 (tgt := 51) (by decide) ?_
          exact hw_iret C dX7_rank_51
      · refine hw_iconst C dX7_rank_25 (v := 3) (by decide) ?_
        refine hw_goto C dX7_rank_26 (tgt := 51) (by decide) ?_
        exact hw_iret C dX7_rank_51
    · refine hw_iconst C dX7_rank_15 (v := 2) (by decide) ?_
      refine hw_goto C dX7_rank_16 (tgt := 51) (by decide) ?_
      exact hw_iret C dX7_rank_51
  · refine hw_iconst C dX7_rank_5 (v := 1) (by decide) ?_
    refine hw_goto C dX7_rank_6 (tgt := 51) (by decide) ?_
    exact hw_iret C dX7_rank_51
/-! HumWireModel settle(I)V, level 2 -/
def S_X7_settle_0  (w0 : Int32 → hw_St → Option (Unit × hw_St)) (l1 : Int32) (s0 : hw_St) : Option (Unit × hw_St) := if (s0 200 23) ≤ 0 then (some ((), s0)) else (hw_gd (hw_inb ((s0 200 23) - (1 : Int32)) 96) (if (s0 210 ((s0 200 23) - (1 : Int32)).toNatClampNeg) = (-11 : Int32) then (some ((), s0)) else (hw_gd (hw_inb ((s0 200 23) - (1 : Int32)) 96) (hw_bd (F_X7_rank (s0 210 ((s0 200 23) - (1 : Int32)).toNatClampNeg) s0) (fun r5 s6 => if r5 < l1 then (some ((), s6)) else (hw_nm (hw_up s6 200 23 ((s6 200 23) - (1 : Int32))) (fun s8 => hw_gd (hw_inb (s8 200 23) 96) (hw_gd (hw_inb (s8 200 20) 96) (hw_nm (hw_up s8 209 (s8 200 20).toNatClampNeg (s8 210 (s8 200 23).toNatClampNeg)) (fun s10 => hw_nm (hw_up s10 200 20 ((s10 200 20) + (1 : Int32))) (fun s12 => w0 l1 s12)))))))))))
def L_X7_settle_0  : Nat → Int32 → hw_St → Option (Unit × hw_St)
  | 0 => fun _ _ => none
  | n + 1 => S_X7_settle_0  (L_X7_settle_0  n)
def F_X7_settle  (a1 : Int32) (s0 : hw_St) : Option (Unit × hw_St) := L_X7_settle_0 130 a1 s0
set_option maxRecDepth 20000 in
theorem KS_X7_settle_0 {G : hw_G} (C : hw_Ok G cX7_settle RX7 2 2 none hw_TM) (hTL : hw_eT (hw_gE G) = hw_TM) (w0 : Int32 → hw_St → Option (Unit × hw_St)) (H_w0 : ∀ (l1 : Int32) (s0 : hw_St), hw_K G 2 hw_r0 (w0 l1 s0) 0 [(0, hw_rv (hw_ea (hw_gE G)) 200), (1, .int l1)] [] s0) (l1 : Int32) (s0 : hw_St) : hw_K G 2 hw_r0 (S_X7_settle_0 w0 l1 s0) 0 [(0, hw_rv (hw_ea (hw_gE G)) 200), (1, .int l1)] [] s0 := by
  unfold S_X7_settle_0
  refine hw_aload_n C dX7_settle_0 rfl 0 rfl ?_
  refine hw_getI C cf_X7 lf_X7_207 hw_T200 dX7_settle_1 ?_
  refine hw_if_le C dX7_settle_4 (tgt := 82) (by decide) (fun c1 => ?_) (fun c1 => ?_)
  · exact hw_vret C dX7_settle_82
  · refine hw_aload_n C dX7_settle_7 rfl 0 rfl ?_
    refine hw_getR C cf_X7 lf_X7_38 hw_T200 (t2 := 210) (by decide) dX7_settle_8 ?_
    refine hw_aload_n C dX7_settle_11 rfl 0 rfl ?_
    refine hw_getI C cf_X7 lf_X7_207 hw_T200 dX7_settle_12 ?_
    refine hw_iconst C dX7_settle_15 (v := 1) (by decide) ?_
    refine hw_isub C dX7_settle_16 ?_
    refine hw_iald C hw_T210 (by decide) dX7_settle_17 (fun h2 => ?_)
    refine hw_bipush C dX7_settle_18 (v := -11) (by decide) ?_
    refine hw_icmp_eq C dX7_settle_20 (tgt := 82) (by decide) (fun c3 => ?_) (fun c3 => ?_)
    · exact hw_vret C dX7_settle_82
    · refine hw_aload_n C dX7_settle_23 rfl 0 rfl ?_
      refine hw_getR C cf_X7 lf_X7_38 hw_T200 (t2 := 210) (by decide) dX7_settle_24 ?_
      refine hw_aload_n C dX7_settle_27 rfl 0 rfl ?_
      refine hw_getI C cf_X7 lf_X7_207 hw_T200 dX7_settle_28 ?_
      refine hw_iconst C dX7_settle_31 (v := 1) (by decide) ?_
      refine hw_isub C dX7_settle_32 ?_
      refine hw_iald C hw_T210 (by decide) dX7_settle_33 (fun h4 => ?_)
      refine hw_callSi C (M_X7_rank (hw_gE G) hTL (s0 210 ((s0 200 23) - (1 : Int32)).toNatClampNeg) s0) W_X7_rank SS_X7_rank mw_848 (by decide) rfl ⟨rfl, hw_l8 rfl⟩ dX7_settle_34 (fun r5 s6 => ?_)
      refine hw_iload_n C dX7_settle_37 rfl 1 rfl ?_
      refine hw_icmp_lt C dX7_settle_38 (tgt := 82) (by decide) (fun c7 => ?_) (fun c7 => ?_)
      · exact hw_vret C dX7_settle_82
      · refine hw_aload_n C dX7_settle_41 rfl 0 rfl ?_
        refine hw_dup C dX7_settle_42 ?_
        refine hw_getI C cf_X7 lf_X7_207 hw_T200 dX7_settle_43 ?_
        refine hw_iconst C dX7_settle_46 (v := 1) (by decide) ?_
        refine hw_isub C dX7_settle_47 ?_
        refine hw_putI C cf_X7 lf_X7_207 hw_T200 rfl rfl dX7_settle_48 (fun s8 => ?_)
        refine hw_aload_n C dX7_settle_51 rfl 0 rfl ?_
        refine hw_getR C cf_X7 lf_X7_35 hw_T200 (t2 := 209) (by decide) dX7_settle_52 ?_
        refine hw_aload_n C dX7_settle_55 rfl 0 rfl ?_
        refine hw_getI C cf_X7 lf_X7_213 hw_T200 dX7_settle_56 ?_
        refine hw_aload_n C dX7_settle_59 rfl 0 rfl ?_
        refine hw_getR C cf_X7 lf_X7_38 hw_T200 (t2 := 210) (by decide) dX7_settle_60 ?_
        refine hw_aload_n C dX7_settle_63 rfl 0 rfl ?_
        refine hw_getI C cf_X7 lf_X7_207 hw_T200 dX7_settle_64 ?_
        refine hw_iald C hw_T210 (by decide) dX7_settle_67 (fun h9 => ?_)
        refine hw_iast C hw_T209 (by decide) dX7_settle_68 (fun h11 s10 => ?_)
        refine hw_aload_n C dX7_settle_69 rfl 0 rfl ?_
        refine hw_dup C dX7_settle_70 ?_
        refine hw_getI C cf_X7 lf_X7_213 hw_T200 dX7_settle_71 ?_
        refine hw_iconst C dX7_settle_74 (v := 1) (by decide) ?_
        refine hw_iadd C dX7_settle_75 ?_
        refine hw_putI C cf_X7 lf_X7_213 hw_T200 rfl rfl dX7_settle_76 (fun s12 => ?_)
        refine hw_goto C dX7_settle_79 (tgt := 0) (by decide) ?_
        exact hw_lv [0, 1] rfl (H_w0 l1 s12)
theorem KL_X7_settle_0 {G : hw_G} (C : hw_Ok G cX7_settle RX7 2 2 none hw_TM) (hTL : hw_eT (hw_gE G) = hw_TM) : ∀ (n_ : Nat) (l1 : Int32) (s0 : hw_St), hw_K G 2 hw_r0 (L_X7_settle_0 n_ l1 s0) 0 [(0, hw_rv (hw_ea (hw_gE G)) 200), (1, .int l1)] [] s0 := by
  intro n_
  induction n_ with
  | zero => intros; exact hw_nil
  | succ n_ ih => intro l1 s0; exact KS_X7_settle_0 C hTL (L_X7_settle_0 n_) ih l1 s0
set_option maxRecDepth 20000 in
theorem M_X7_settle (E : hw_E) (hE : hw_eT E = hw_TM) (a1 : Int32) (s0 : hw_St) : hw_M E yX7_settle cX7_settle 2 none 2 [hw_rv (hw_ea E) 200, .int a1] s0 hw_r0 (F_X7_settle a1 s0) := by
  refine hw_entry (own := RX7) (TL := hw_TM) (by decide) rfl hE (hw_cR (hw_cI hw_cN)) (hw_l8 rfl) (fun G hG C => ?_)
  subst hG
  have hTL := hE
  show hw_K G 2 hw_r0 _ 0 [(0, hw_rv (hw_ea (hw_gE G)) 200), (1, .int a1)] [] s0
  unfold F_X7_settle
  exact hw_lv [0, 1] rfl (KL_X7_settle_0 C hTL 130 a1 s0)
/-! HumWireModel signHere()I, level 1 -/
def F_X7_signHere  (s0 : hw_St) : Option (Int32 × hw_St) := if (s0 200 13) = (3 : Int32) then (if (s0 200 14) = (38 : Int32) then (some ((-2 : Int32), s0)) else (if (s0 200 14) = (42 : Int32) then (some ((-8 : Int32), s0)) else (if (s0 200 14) = (43 : Int32) then (some ((-6 : Int32), s0)) else (if (s0 200 14) = (45 : Int32) then (some ((-7 : Int32), s0)) else (if (s0 200 14) = (47 : Int32) then (some ((-9 : Int32), s0)) else (if (s0 200 14) = (60 : Int32) then (some ((-3 : Int32), s0)) else (if (s0 200 14) = (61 : Int32) then (some ((-4 : Int32), s0)) else (if (s0 200 14) = (62 : Int32) then (some ((-5 : Int32), s0)) else (if (s0 200 14) = (124 : Int32) then (some ((-1 : Int32), s0)) else (some ((0 : Int32), s0))))))))))) else (some ((0 : Int32), s0))
set_option maxRecDepth 20000 in
theorem M_X7_signHere (E : hw_E) (hE : hw_eT E = hw_TM) (s0 : hw_St) : hw_M E yX7_signHere cX7_signHere 1 (some .int) 1 [hw_rv (hw_ea E) 200] s0 hw_ri (F_X7_signHere  s0) := by
  refine hw_entry (own := RX7) (TL := hw_TM) (by decide) rfl hE (hw_cR hw_cN) (hw_l8 rfl) (fun G hG C => ?_)
  subst hG
  have hTL := hE
  show hw_K G 1 hw_ri _ 0 [(0, hw_rv (hw_ea (hw_gE G)) 200)] [] s0
  unfold F_X7_signHere
  refine hw_aload_n C dX7_signHere_0 rfl 0 rfl ?_
  refine hw_getI C cf_X7 lf_X7_189 hw_T200 dX7_signHere_1 ?_
  refine hw_iconst C dX7_signHere_4 (v := 3) (by decide) ?_
  refine hw_icmp_eq C dX7_signHere_5 (tgt := 10) (by decide) (fun c1 => ?_) (fun c1 => ?_)
  · refine hw_aload_n C dX7_signHere_10 rfl 0 rfl ?_
    refine hw_getI C cf_X7 lf_X7_195 hw_T200 dX7_signHere_11 ?_
    refine hw_ifK (fun c2 => ?_) (fun c2 => ?_)
    · refine hw_lookIn C dX7_signHere_14 c2 (off := 84) (tgt := 98) (by decide) ?_
      refine hw_bipush C dX7_signHere_98 (v := -2) (by decide) ?_
      exact hw_iret C dX7_signHere_100
    · refine hw_ifK (fun c3 => ?_) (fun c3 => ?_)
      · refine hw_lookIn C dX7_signHere_14 c3 (off := 102) (tgt := 116) (by decide) ?_
        refine hw_bipush C dX7_signHere_116 (v := -8) (by decide) ?_
        exact hw_iret C dX7_signHere_118
      · refine hw_ifK (fun c4 => ?_) (fun c4 => ?_)
        · refine hw_lookIn C dX7_signHere_14 c4 (off := 96) (tgt := 110) (by decide) ?_
          refine hw_bipush C dX7_signHere_110 (v := -6) (by decide) ?_
          exact hw_iret C dX7_signHere_112
        · refine hw_ifK (fun c5 => ?_) (fun c5 => ?_)
          · refine hw_lookIn C dX7_signHere_14 c5 (off := 99) (tgt := 113) (by decide) ?_
            refine hw_bipush C dX7_signHere_113 (v := -7) (by decide) ?_
            exact hw_iret C dX7_signHere_115
          · refine hw_ifK (fun c6 => ?_) (fun c6 => ?_)
            · refine hw_lookIn C dX7_signHere_14 c6 (off := 105) (tgt := 119) (by decide) ?_
              refine hw_bipush C dX7_signHere_119 (v := -9) (by decide) ?_
              exact hw_iret C dX7_signHere_121
            · refine hw_ifK (fun c7 => ?_) (fun c7 => ?_)
              · refine hw_lookIn C dX7_signHere_14 c7 (off := 87) (tgt := 101) (by decide) ?_
                refine hw_bipush C dX7_signHere_101 (v := -3) (by decide) ?_
                exact hw_iret C dX7_signHere_103
              · refine hw_ifK (fun c8 => ?_) (fun c8 => ?_)
                · refine hw_lookIn C dX7_signHere_14 c8 (off := 90) (tgt := 104) (by decide) ?_
                  refine hw_bipush C dX7_signHere_104 (v := -4) (by decide) ?_
                  exact hw_iret C dX7_signHere_106
                · refine hw_ifK (fun c9 => ?_) (fun c9 => ?_)
                  · refine hw_lookIn C dX7_signHere_14 c9 (off := 93) (tgt := 107) (by decide) ?_
                    refine hw_bipush C dX7_signHere_107 (v := -5) (by decide) ?_
                    exact hw_iret C dX7_signHere_109
                  · refine hw_ifK (fun c10 => ?_) (fun c10 => ?_)
                    · refine hw_lookIn C dX7_signHere_14 c10 (off := 82) (tgt := 96) (by decide) ?_
                      refine hw_iconst C dX7_signHere_96 (v := -1) (by decide) ?_
                      exact hw_iret C dX7_signHere_97
                    · refine hw_lookD C dX7_signHere_14 (cs := [38, 42, 43, 45, 47, 60, 61, 62, 124]) (by decide) (List.forall_mem_cons.mpr ⟨hw_ni c2 (z := 38) (by decide), List.forall_mem_cons.mpr ⟨hw_ni c3 (z := 42) (by decide), List.forall_mem_cons.mpr ⟨hw_ni c4 (z := 43) (by decide), List.forall_mem_cons.mpr ⟨hw_ni c5 (z := 45) (by decide), List.forall_mem_cons.mpr ⟨hw_ni c6 (z := 47) (by decide), List.forall_mem_cons.mpr ⟨hw_ni c7 (z := 60) (by decide), List.forall_mem_cons.mpr ⟨hw_ni c8 (z := 61) (by decide), List.forall_mem_cons.mpr ⟨hw_ni c9 (z := 62) (by decide), List.forall_mem_cons.mpr ⟨hw_ni c10 (z := 124) (by decide), fun _ h => absurd h List.not_mem_nil⟩⟩⟩⟩⟩⟩⟩⟩⟩) (tgt := 122) (by decide) ?_
                      refine hw_iconst C dX7_signHere_122 (v := 0) (by decide) ?_
                      exact hw_iret C dX7_signHere_123
  · refine hw_iconst C dX7_signHere_8 (v := 0) (by decide) ?_
    exact hw_iret C dX7_signHere_9
/-! HumWireModel takesPart()Z, level 3 -/
def B_X7_takesPart_87  (k0 : Int32) (k1 : Int32) (s0 : hw_St) : Option (Int32 × hw_St) := hw_gd (hw_inb k1 96) (hw_nm (hw_up s0 209 k1.toNatClampNeg k0) (fun s11 => hw_nm (hw_up s11 200 20 ((s11 200 20) + (1 : Int32))) (fun s13 => hw_nm (hw_up s13 200 21 ((s13 200 21) + (1 : Int32))) (fun s14 => hw_bd (F_X7_settle (6 : Int32) s14) (fun _ s16 => hw_bd (F_X7_go  s16) (fun _ s18 => some ((1 : Int32), s18)))))))
def B_X7_takesPart_52  (s0 : hw_St) : Option (Int32 × hw_St) := if (s0 200 13) = (2 : Int32) then (B_X7_takesPart_87 (s0 200 14) (s0 200 20) s0) else (hw_bd (F_X7_nameOf (s0 200 14) s0) (fun r9 s10 => B_X7_takesPart_87 ((10000 : Int32) + r9) (s0 200 20) s10))
def B_X7_takesPart_37  (k0 : Int32) (s0 : hw_St) : Option (Int32 × hw_St) := if (s0 200 13) = (2 : Int32) then (B_X7_takesPart_52  s0) else (if k0 = 0 then (some ((0 : Int32), s0)) else (B_X7_takesPart_52  s0))
def B_X7_takesPart_36  (s0 : hw_St) : Option (Int32 × hw_St) := B_X7_takesPart_37 (0 : Int32) s0
def F_X7_takesPart  (s0 : hw_St) : Option (Int32 × hw_St) := if (s0 200 13) = (1 : Int32) then (if ((s0 200 11) - (s0 200 12)) = (1 : Int32) then (hw_bd (F_X7_nameOf (s0 200 14) s0) (fun r3 s4 => if r3 < 0 then (B_X7_takesPart_36  s4) else (B_X7_takesPart_37 (1 : Int32) s4))) else (B_X7_takesPart_36  s0)) else (B_X7_takesPart_36  s0)
set_option maxRecDepth 20000 in
theorem KB_X7_takesPart_87 {G : hw_G} (C : hw_Ok G cX7_takesPart RX7 2 3 (some .boolean) hw_TM) (hTL : hw_eT (hw_gE G) = hw_TM) (k0 : Int32) (k1 : Int32) (s0 : hw_St) : hw_K G 2 hw_ri (B_X7_takesPart_87 k0 k1 s0) 87 [(0, hw_rv (hw_ea (hw_gE G)) 200)] [.int k0, .int k1, hw_rv (hw_ea (hw_gE G)) 209] s0 := by
  unfold B_X7_takesPart_87
  refine hw_iast C hw_T209 (by decide) dX7_takesPart_87 (fun h12 s11 => ?_)
  refine hw_aload_n C dX7_takesPart_88 rfl 0 rfl ?_
  refine hw_dup C dX7_takesPart_89 ?_
  refine hw_getI C cf_X7 lf_X7_213 hw_T200 dX7_takesPart_90 ?_
  refine hw_iconst C dX7_takesPart_93 (v := 1) (by decide) ?_
  refine hw_iadd C dX7_takesPart_94 ?_
  refine hw_putI C cf_X7 lf_X7_213 hw_T200 rfl rfl dX7_takesPart_95 (fun s13 => ?_)
  refine hw_aload_n C dX7_takesPart_98 rfl 0 rfl ?_
  refine hw_dup C dX7_takesPart_99 ?_
  refine hw_getI C cf_X7 lf_X7_219 hw_T200 dX7_takesPart_100 ?_
  refine hw_iconst C dX7_takesPart_103 (v := 1) (by decide) ?_
  refine hw_iadd C dX7_takesPart_104 ?_
  refine hw_putI C cf_X7 lf_X7_219 hw_T200 rfl rfl dX7_takesPart_105 (fun s14 => ?_)
  refine hw_aload_n C dX7_takesPart_108 rfl 0 rfl ?_
  refine hw_bipush C dX7_takesPart_109 (v := 6) (by decide) ?_
  refine hw_callVv C (M_X7_settle (hw_gE G) hTL (6 : Int32) s14) W_X7_settle SV_X7_settle cf_X7 hw_T200 mw_844 (by decide) rfl ⟨rfl, hw_l8 rfl⟩ dX7_takesPart_111 (fun r15 s16 => ?_)
  refine hw_aload_n C dX7_takesPart_114 rfl 0 rfl ?_
  refine hw_callVv C (M_X7_go (hw_gE G) hTL  s16) W_X7_go SV_X7_go cf_X7 hw_T200 mw_813 (by decide) rfl ⟨rfl, hw_l8 rfl⟩ dX7_takesPart_115 (fun r17 s18 => ?_)
  refine hw_iconst C dX7_takesPart_118 (v := 1) (by decide) ?_
  exact hw_zret1 C (by decide) dX7_takesPart_119
set_option maxRecDepth 20000 in
theorem KB_X7_takesPart_52 {G : hw_G} (C : hw_Ok G cX7_takesPart RX7 2 3 (some .boolean) hw_TM) (hTL : hw_eT (hw_gE G) = hw_TM) (s0 : hw_St) : hw_K G 2 hw_ri (B_X7_takesPart_52  s0) 52 [(0, hw_rv (hw_ea (hw_gE G)) 200)] [] s0 := by
  unfold B_X7_takesPart_52
  refine hw_aload_n C dX7_takesPart_52 rfl 0 rfl ?_
  refine hw_getR C cf_X7 lf_X7_35 hw_T200 (t2 := 209) (by decide) dX7_takesPart_53 ?_
  refine hw_aload_n C dX7_takesPart_56 rfl 0 rfl ?_
  refine hw_getI C cf_X7 lf_X7_213 hw_T200 dX7_takesPart_57 ?_
  refine hw_aload_n C dX7_takesPart_60 rfl 0 rfl ?_
  refine hw_getI C cf_X7 lf_X7_189 hw_T200 dX7_takesPart_61 ?_
  refine hw_iconst C dX7_takesPart_64 (v := 2) (by decide) ?_
  refine hw_icmp_ne C dX7_takesPart_65 (tgt := 75) (by decide) (fun c8 => ?_) (fun c8 => ?_)
  · refine hw_sipush C dX7_takesPart_75 (v := 10000) (by decide) ?_
    refine hw_aload_n C dX7_takesPart_78 rfl 0 rfl ?_
    refine hw_aload_n C dX7_takesPart_79 rfl 0 rfl ?_
    refine hw_getI C cf_X7 lf_X7_195 hw_T200 dX7_takesPart_80 ?_
    refine hw_callVi C (M_X7_nameOf (hw_gE G) hTL (s0 200 14) s0) W_X7_nameOf SV_X7_nameOf cf_X7 hw_T200 mw_840 (by decide) rfl ⟨rfl, hw_l8 rfl⟩ dX7_takesPart_83 (fun r9 s10 => ?_)
    refine hw_iadd C dX7_takesPart_86 ?_
    exact hw_lv [0] rfl (KB_X7_takesPart_87 C hTL ((10000 : Int32) + r9) (s0 200 20) s10)
  · refine hw_aload_n C dX7_takesPart_68 rfl 0 rfl ?_
    refine hw_getI C cf_X7 lf_X7_195 hw_T200 dX7_takesPart_69 ?_
    refine hw_goto C dX7_takesPart_72 (tgt := 87) (by decide) ?_
    exact hw_lv [0] rfl (KB_X7_takesPart_87 C hTL (s0 200 14) (s0 200 20) s0)
set_option maxRecDepth 20000 in
theorem KB_X7_takesPart_37 {G : hw_G} (C : hw_Ok G cX7_takesPart RX7 2 3 (some .boolean) hw_TM) (hTL : hw_eT (hw_gE G) = hw_TM) (k0 : Int32) (s0 : hw_St) : hw_K G 2 hw_ri (B_X7_takesPart_37 k0 s0) 37 [(0, hw_rv (hw_ea (hw_gE G)) 200)] [.int k0] s0 := by
  unfold B_X7_takesPart_37
  refine hw_istore_n C dX7_takesPart_37 rfl (by decide) rfl ?_
  refine hw_aload_n C dX7_takesPart_38 rfl 1 rfl ?_
  refine hw_getI C cf_X7 lf_X7_189 hw_T200 dX7_takesPart_39 ?_
  refine hw_iconst C dX7_takesPart_42 (v := 2) (by decide) ?_
  refine hw_icmp_eq C dX7_takesPart_43 (tgt := 52) (by decide) (fun c6 => ?_) (fun c6 => ?_)
  · exact hw_lv [1] rfl (KB_X7_takesPart_52 C hTL  s0)
  · refine hw_iload_n C dX7_takesPart_46 rfl 0 rfl ?_
    refine hw_if_ne C dX7_takesPart_47 (tgt := 52) (by decide) (fun c7 => ?_) (fun c7 => ?_)
    · exact hw_lv [1] rfl (KB_X7_takesPart_52 C hTL  s0)
    · refine hw_iconst C dX7_takesPart_50 (v := 0) (by decide) ?_
      exact hw_zret1 C (by decide) dX7_takesPart_51
set_option maxRecDepth 20000 in
theorem KB_X7_takesPart_36 {G : hw_G} (C : hw_Ok G cX7_takesPart RX7 2 3 (some .boolean) hw_TM) (hTL : hw_eT (hw_gE G) = hw_TM) (s0 : hw_St) : hw_K G 2 hw_ri (B_X7_takesPart_36  s0) 36 [(0, hw_rv (hw_ea (hw_gE G)) 200)] [] s0 := by
  unfold B_X7_takesPart_36
  refine hw_iconst C dX7_takesPart_36 (v := 0) (by decide) ?_
  exact hw_lv [0] rfl (KB_X7_takesPart_37 C hTL (0 : Int32) s0)
set_option maxRecDepth 20000 in
theorem M_X7_takesPart (E : hw_E) (hE : hw_eT E = hw_TM) (s0 : hw_St) : hw_M E yX7_takesPart cX7_takesPart 2 (some .boolean) 3 [hw_rv (hw_ea E) 200] s0 hw_ri (F_X7_takesPart  s0) := by
  refine hw_entry (own := RX7) (TL := hw_TM) (by decide) rfl hE (hw_cR hw_cN) (hw_l8 rfl) (fun G hG C => ?_)
  subst hG
  have hTL := hE
  show hw_K G 2 hw_ri _ 0 [(0, hw_rv (hw_ea (hw_gE G)) 200)] [] s0
  unfold F_X7_takesPart
  refine hw_aload_n C dX7_takesPart_0 rfl 0 rfl ?_
  refine hw_getI C cf_X7 lf_X7_189 hw_T200 dX7_takesPart_1 ?_
  refine hw_iconst C dX7_takesPart_4 (v := 1) (by decide) ?_
  refine hw_icmp_ne C dX7_takesPart_5 (tgt := 36) (by decide) (fun c1 => ?_) (fun c1 => ?_)
  · exact hw_lv [0] rfl (KB_X7_takesPart_36 C hTL  s0)
  · refine hw_aload_n C dX7_takesPart_8 rfl 0 rfl ?_
    refine hw_getI C cf_X7 lf_X7_180 hw_T200 dX7_takesPart_9 ?_
    refine hw_aload_n C dX7_takesPart_12 rfl 0 rfl ?_
    refine hw_getI C cf_X7 lf_X7_183 hw_T200 dX7_takesPart_13 ?_
    refine hw_isub C dX7_takesPart_16 ?_
    refine hw_iconst C dX7_takesPart_17 (v := 1) (by decide) ?_
    refine hw_icmp_ne C dX7_takesPart_18 (tgt := 36) (by decide) (fun c2 => ?_) (fun c2 => ?_)
    · exact hw_lv [0] rfl (KB_X7_takesPart_36 C hTL  s0)
    · refine hw_aload_n C dX7_takesPart_21 rfl 0 rfl ?_
      refine hw_aload_n C dX7_takesPart_22 rfl 0 rfl ?_
      refine hw_getI C cf_X7 lf_X7_195 hw_T200 dX7_takesPart_23 ?_
      refine hw_callVi C (M_X7_nameOf (hw_gE G) hTL (s0 200 14) s0) W_X7_nameOf SV_X7_nameOf cf_X7 hw_T200 mw_840 (by decide) rfl ⟨rfl, hw_l8 rfl⟩ dX7_takesPart_26 (fun r3 s4 => ?_)
      refine hw_if_lt C dX7_takesPart_29 (tgt := 36) (by decide) (fun c5 => ?_) (fun c5 => ?_)
      · exact hw_lv [0] rfl (KB_X7_takesPart_36 C hTL  s4)
      · refine hw_iconst C dX7_takesPart_32 (v := 1) (by decide) ?_
        refine hw_goto C dX7_takesPart_33 (tgt := 37) (by decide) ?_
        exact hw_lv [0] rfl (KB_X7_takesPart_37 C hTL (1 : Int32) s4)
/-! HumWireModel notsOpen()I, level 1 -/
def B_X7_notsOpen_29  (w4 : Int32 → Int32 → hw_St → Option (Int32 × hw_St)) (l2 : Int32) (k0 : Int32) (k1 : Int32) (s0 : hw_St) : Option (Int32 × hw_St) := hw_nm (k1 + k0) (fun x4 => w4 x4 (l2 + 1) s0)
def S_X7_notsOpen_4  (w4 : Int32 → Int32 → hw_St → Option (Int32 × hw_St)) (l1 : Int32) (l2 : Int32) (s0 : hw_St) : Option (Int32 × hw_St) := if (s0 200 23) ≤ l2 then (some (l1, s0)) else (hw_gd (hw_inb l2 96) (if (s0 210 l2.toNatClampNeg) = (-10 : Int32) then (B_X7_notsOpen_29 w4 l2 (1 : Int32) l1 s0) else (B_X7_notsOpen_29 w4 l2 (0 : Int32) l1 s0)))
def L_X7_notsOpen_4  : Nat → Int32 → Int32 → hw_St → Option (Int32 × hw_St)
  | 0 => fun _ _ _ => none
  | n + 1 => S_X7_notsOpen_4  (L_X7_notsOpen_4  n)
def F_X7_notsOpen  (s0 : hw_St) : Option (Int32 × hw_St) := L_X7_notsOpen_4 130 (0 : Int32) (0 : Int32) s0
set_option maxRecDepth 20000 in
theorem KB_X7_notsOpen_29 {G : hw_G} (C : hw_Ok G cX7_notsOpen RX7 3 1 (some .int) hw_TM) (hTL : hw_eT (hw_gE G) = hw_TM) (w4 : Int32 → Int32 → hw_St → Option (Int32 × hw_St)) (H_w4 : ∀ (l1 : Int32) (l2 : Int32) (s0 : hw_St), hw_K G 3 hw_ri (w4 l1 l2 s0) 4 [(0, hw_rv (hw_ea (hw_gE G)) 200), (1, .int l1), (2, .int l2)] [] s0) (l2 : Int32) (k0 : Int32) (k1 : Int32) (s0 : hw_St) : hw_K G 3 hw_ri (B_X7_notsOpen_29 w4 l2 k0 k1 s0) 29 [(0, hw_rv (hw_ea (hw_gE G)) 200), (2, .int l2)] [.int k0, .int k1] s0 := by
  unfold B_X7_notsOpen_29
  refine hw_iadd C dX7_notsOpen_29 ?_
  refine hw_istore_nN C dX7_notsOpen_30 rfl (by decide) (fun _ => rfl) (fun x4 => ?_)
  refine hw_iinc C dX7_notsOpen_31 2 rfl (v := 1) (by decide) (by decide) rfl ?_
  refine hw_goto C dX7_notsOpen_34 (tgt := 4) (by decide) ?_
  exact hw_lv [2, 1, 0] rfl (H_w4 x4 (l2 + 1) s0)
set_option maxRecDepth 20000 in
theorem KS_X7_notsOpen_4 {G : hw_G} (C : hw_Ok G cX7_notsOpen RX7 3 1 (some .int) hw_TM) (hTL : hw_eT (hw_gE G) = hw_TM) (w4 : Int32 → Int32 → hw_St → Option (Int32 × hw_St)) (H_w4 : ∀ (l1 : Int32) (l2 : Int32) (s0 : hw_St), hw_K G 3 hw_ri (w4 l1 l2 s0) 4 [(0, hw_rv (hw_ea (hw_gE G)) 200), (1, .int l1), (2, .int l2)] [] s0) (l1 : Int32) (l2 : Int32) (s0 : hw_St) : hw_K G 3 hw_ri (S_X7_notsOpen_4 w4 l1 l2 s0) 4 [(0, hw_rv (hw_ea (hw_gE G)) 200), (1, .int l1), (2, .int l2)] [] s0 := by
  unfold S_X7_notsOpen_4
  refine hw_iload_n C dX7_notsOpen_4 rfl 2 rfl ?_
  refine hw_aload_n C dX7_notsOpen_5 rfl 0 rfl ?_
  refine hw_getI C cf_X7 lf_X7_207 hw_T200 dX7_notsOpen_6 ?_
  refine hw_icmp_ge C dX7_notsOpen_9 (tgt := 37) (by decide) (fun c1 => ?_) (fun c1 => ?_)
  · refine hw_iload_n C dX7_notsOpen_37 rfl 1 rfl ?_
    exact hw_iret C dX7_notsOpen_38
  · refine hw_iload_n C dX7_notsOpen_12 rfl 1 rfl ?_
    refine hw_aload_n C dX7_notsOpen_13 rfl 0 rfl ?_
    refine hw_getR C cf_X7 lf_X7_38 hw_T200 (t2 := 210) (by decide) dX7_notsOpen_14 ?_
    refine hw_iload_n C dX7_notsOpen_17 rfl 2 rfl ?_
    refine hw_iald C hw_T210 (by decide) dX7_notsOpen_18 (fun h2 => ?_)
    refine hw_bipush C dX7_notsOpen_19 (v := -10) (by decide) ?_
    refine hw_icmp_ne C dX7_notsOpen_21 (tgt := 28) (by decide) (fun c3 => ?_) (fun c3 => ?_)
    · refine hw_iconst C dX7_notsOpen_28 (v := 0) (by decide) ?_
      exact hw_lv [0, 2] rfl (KB_X7_notsOpen_29 C hTL w4 H_w4 l2 (0 : Int32) l1 s0)
    · refine hw_iconst C dX7_notsOpen_24 (v := 1) (by decide) ?_
      refine hw_goto C dX7_notsOpen_25 (tgt := 29) (by decide) ?_
      exact hw_lv [0, 2] rfl (KB_X7_notsOpen_29 C hTL w4 H_w4 l2 (1 : Int32) l1 s0)
theorem KL_X7_notsOpen_4 {G : hw_G} (C : hw_Ok G cX7_notsOpen RX7 3 1 (some .int) hw_TM) (hTL : hw_eT (hw_gE G) = hw_TM) : ∀ (n_ : Nat) (l1 : Int32) (l2 : Int32) (s0 : hw_St), hw_K G 3 hw_ri (L_X7_notsOpen_4 n_ l1 l2 s0) 4 [(0, hw_rv (hw_ea (hw_gE G)) 200), (1, .int l1), (2, .int l2)] [] s0 := by
  intro n_
  induction n_ with
  | zero => intros; exact hw_nil
  | succ n_ ih => intro l1 l2 s0; exact KS_X7_notsOpen_4 C hTL (L_X7_notsOpen_4 n_) ih l1 l2 s0
set_option maxRecDepth 20000 in
theorem M_X7_notsOpen (E : hw_E) (hE : hw_eT E = hw_TM) (s0 : hw_St) : hw_M E yX7_notsOpen cX7_notsOpen 3 (some .int) 1 [hw_rv (hw_ea E) 200] s0 hw_ri (F_X7_notsOpen  s0) := by
  refine hw_entry (own := RX7) (TL := hw_TM) (by decide) rfl hE (hw_cR hw_cN) (hw_l8 rfl) (fun G hG C => ?_)
  subst hG
  have hTL := hE
  show hw_K G 3 hw_ri _ 0 [(0, hw_rv (hw_ea (hw_gE G)) 200)] [] s0
  unfold F_X7_notsOpen
  refine hw_iconst C dX7_notsOpen_0 (v := 0) (by decide) ?_
  refine hw_istore_n C dX7_notsOpen_1 rfl (by decide) rfl ?_
  refine hw_iconst C dX7_notsOpen_2 (v := 0) (by decide) ?_
  refine hw_istore_n C dX7_notsOpen_3 rfl (by decide) rfl ?_
  exact hw_lv [2, 1, 0] rfl (KL_X7_notsOpen_4 C hTL 130 (0 : Int32) (0 : Int32) s0)
/-! HumWireModel takesE()Z, level 4 -/
def B_X7_takesE_172  (w28 : Int32 → Int32 → Int32 → hw_St → Option (Int32 × hw_St)) (l1 : Int32) (l3 : Int32) (s0 : hw_St) : Option (Int32 × hw_St) := hw_bd (F_X7_notsOpen  s0) (fun r50 s51 => w28 l1 r50 l3 s51)
def B_X7_takesE_158  (w28 : Int32 → Int32 → Int32 → hw_St → Option (Int32 × hw_St)) (l1 : Int32) (s0 : hw_St) : Option (Int32 × hw_St) := hw_bd (F_X7_takesPart  s0) (fun r60 s61 => if r60 = 0 then (some ((0 : Int32), s61)) else (B_X7_takesE_172 w28 l1 (0 : Int32) s61))
def B_X7_takesE_97  (w28 : Int32 → Int32 → Int32 → hw_St → Option (Int32 × hw_St)) (l1 : Int32) (l3 : Int32) (s0 : hw_St) : Option (Int32 × hw_St) := if (s0 200 13) = (3 : Int32) then (if (s0 200 14) = (40 : Int32) then (if (8 : Int32) ≤ l1 then (B_X7_takesE_158 w28 l1 s0) else (hw_gd (hw_inb (s0 200 23) 96) (hw_nm (hw_up s0 210 (s0 200 23).toNatClampNeg (-11 : Int32)) (fun s43 => hw_nm (hw_up s43 200 23 ((s43 200 23) + (1 : Int32))) (fun s45 => hw_gd (hw_inb (l1 + 1) 10) (hw_nm (hw_up s45 211 (l1 + 1).toNatClampNeg (vp_nar .boolean (0 : Int32))) (fun s46 => hw_bd (F_X7_go  s46) (fun _ s49 => B_X7_takesE_172 w28 (l1 + 1) l3 s49)))))))) else (B_X7_takesE_158 w28 l1 s0)) else (B_X7_takesE_158 w28 l1 s0)
def B_X7_takesE_305  (w28 : Int32 → Int32 → Int32 → hw_St → Option (Int32 × hw_St)) (l1 : Int32) (l2 : Int32) (l4 : Int32) (k0 : Int32) (k1 : Int32) (s0 : hw_St) : Option (Int32 × hw_St) := hw_gd (hw_inb k1 10) (hw_nm (hw_up s0 211 k1.toNatClampNeg (vp_nar .boolean k0)) (fun s63 => hw_bd (F_X7_rank l4 s63) (fun r65 s66 => hw_bd (F_X7_settle r65 s66) (fun _ s68 => hw_gd (hw_inb (s68 200 23) 96) (hw_nm (hw_up s68 210 (s68 200 23).toNatClampNeg l4) (fun s69 => hw_nm (hw_up s69 200 23 ((s69 200 23) + (1 : Int32))) (fun s71 => hw_bd (F_X7_go  s71) (fun _ s73 => w28 l1 l2 (1 : Int32) s73))))))))
def B_X7_takesE_300  (w28 : Int32 → Int32 → Int32 → hw_St → Option (Int32 × hw_St)) (l1 : Int32) (l2 : Int32) (l4 : Int32) (k0 : Int32) (s0 : hw_St) : Option (Int32 × hw_St) := B_X7_takesE_305 w28 l1 l2 l4 (1 : Int32) k0 s0
def B_X7_takesE_304  (w28 : Int32 → Int32 → Int32 → hw_St → Option (Int32 × hw_St)) (l1 : Int32) (l2 : Int32) (l4 : Int32) (k0 : Int32) (s0 : hw_St) : Option (Int32 × hw_St) := B_X7_takesE_305 w28 l1 l2 l4 (0 : Int32) k0 s0
def B_X7_takesE_268  (w28 : Int32 → Int32 → Int32 → hw_St → Option (Int32 × hw_St)) (l1 : Int32) (l2 : Int32) (l4 : Int32) (s0 : hw_St) : Option (Int32 × hw_St) := hw_bd (F_X7_rank l4 s0) (fun r52 s53 => if r52 = (3 : Int32) then (B_X7_takesE_300 w28 l1 l2 l4 l1 s53) else (hw_bd (F_X7_rank l4 s53) (fun r55 s56 => if r55 ≤ (3 : Int32) then (B_X7_takesE_304 w28 l1 l2 l4 l1 s56) else (hw_gd (hw_inb l1 10) (if (s56 211 l1.toNatClampNeg) = 0 then (B_X7_takesE_304 w28 l1 l2 l4 l1 s56) else (B_X7_takesE_300 w28 l1 l2 l4 l1 s56))))))
def B_X7_takesE_237  (w28 : Int32 → Int32 → Int32 → hw_St → Option (Int32 × hw_St)) (l1 : Int32) (l2 : Int32) (s0 : hw_St) : Option (Int32 × hw_St) := hw_bd (F_X7_signHere  s0) (fun r32 s33 => if r32 = 0 then (some ((0 : Int32), s33)) else (hw_bd (F_X7_rank r32 s33) (fun r35 s36 => if r35 = (3 : Int32) then (hw_gd (hw_inb l1 10) (if (s36 211 l1.toNatClampNeg) = 0 then (B_X7_takesE_268 w28 l1 l2 r32 s36) else (some ((0 : Int32), s36)))) else (B_X7_takesE_268 w28 l1 l2 r32 s36))))
def B_X7_takesE_39  (w28 : Int32 → Int32 → Int32 → hw_St → Option (Int32 × hw_St)) (l1 : Int32) (l2 : Int32) (l3 : Int32) (s0 : hw_St) : Option (Int32 × hw_St) := if l3 = 0 then (if (s0 200 13) = (3 : Int32) then (if (s0 200 14) = (41 : Int32) then (if l1 ≤ 0 then (B_X7_takesE_237 w28 l1 l2 s0) else (hw_bd (F_X7_settle (0 : Int32) s0) (fun _ s16 => hw_nm (hw_up s16 200 23 ((s16 200 23) - (1 : Int32))) (fun s17 => hw_bd (F_X7_settle (6 : Int32) s17) (fun _ s19 => hw_bd (F_X7_notsOpen  s19) (fun r20 s21 => hw_bd (F_X7_go  s21) (fun _ s23 => w28 (l1 + -1) r20 l3 s23))))))) else (B_X7_takesE_237 w28 l1 l2 s0)) else (B_X7_takesE_237 w28 l1 l2 s0)) else (if (s0 200 13) = (3 : Int32) then (if (s0 200 14) = (33 : Int32) then (if (8 : Int32) ≤ l2 then (B_X7_takesE_97 w28 l1 l3 s0) else (hw_gd (hw_inb (s0 200 23) 96) (hw_nm (hw_up s0 210 (s0 200 23).toNatClampNeg (-10 : Int32)) (fun s27 => hw_nm (hw_up s27 200 23 ((s27 200 23) + (1 : Int32))) (fun s29 => hw_bd (F_X7_go  s29) (fun _ s31 => B_X7_takesE_172 w28 l1 l3 s31)))))) else (B_X7_takesE_97 w28 l1 l3 s0)) else (B_X7_takesE_97 w28 l1 l3 s0))
def S_X7_takesE_28  (w28 : Int32 → Int32 → Int32 → hw_St → Option (Int32 × hw_St)) (l1 : Int32) (l2 : Int32) (l3 : Int32) (s0 : hw_St) : Option (Int32 × hw_St) := if l3 = 0 then (if (s0 200 13) = 0 then (hw_bd (F_X7_settle (0 : Int32) s0) (fun _ s9 => if l1 = 0 then (some ((1 : Int32), s9)) else (some ((0 : Int32), s9)))) else (B_X7_takesE_39 w28 l1 l2 l3 s0)) else (B_X7_takesE_39 w28 l1 l2 l3 s0)
def L_X7_takesE_28  : Nat → Int32 → Int32 → Int32 → hw_St → Option (Int32 × hw_St)
  | 0 => fun _ _ _ _ => none
  | n + 1 => S_X7_takesE_28  (L_X7_takesE_28  n)
def F_X7_takesE  (s0 : hw_St) : Option (Int32 × hw_St) := hw_nm (hw_up s0 200 20 (0 : Int32)) (fun s1 => hw_nm (hw_up s1 200 21 (0 : Int32)) (fun s2 => hw_nm (hw_up s2 200 23 (0 : Int32)) (fun s3 => hw_gd (hw_inb (0 : Int32) 10) (hw_nm (hw_up s3 211 (0 : Int32).toNatClampNeg (vp_nar .boolean (0 : Int32))) (fun s4 => L_X7_takesE_28 130 (0 : Int32) (0 : Int32) (1 : Int32) s4)))))
set_option maxRecDepth 20000 in
theorem KB_X7_takesE_172 {G : hw_G} (C : hw_Ok G cX7_takesE RX7 5 4 (some .boolean) hw_TM) (hTL : hw_eT (hw_gE G) = hw_TM) (w28 : Int32 → Int32 → Int32 → hw_St → Option (Int32 × hw_St)) (H_w28 : ∀ (l1 : Int32) (l2 : Int32) (l3 : Int32) (s0 : hw_St), hw_K G 5 hw_ri (w28 l1 l2 l3 s0) 28 [(0, hw_rv (hw_ea (hw_gE G)) 200), (1, .int l1), (2, .int l2), (3, .int l3)] [] s0) (l1 : Int32) (l3 : Int32) (s0 : hw_St) : hw_K G 5 hw_ri (B_X7_takesE_172 w28 l1 l3 s0) 172 [(0, hw_rv (hw_ea (hw_gE G)) 200), (1, .int l1), (3, .int l3)] [] s0 := by
  unfold B_X7_takesE_172
  refine hw_aload_n C dX7_takesE_172 rfl 0 rfl ?_
  refine hw_callVi C (M_X7_notsOpen (hw_gE G) hTL  s0) W_X7_notsOpen SV_X7_notsOpen cf_X7 hw_T200 mw_851 (by decide) rfl ⟨rfl, hw_l8 rfl⟩ dX7_takesE_173 (fun r50 s51 => ?_)
  refine hw_istore_n C dX7_takesE_176 rfl (by decide) rfl ?_
  refine hw_goto C dX7_takesE_177 (tgt := 28) (by decide) ?_
  exact hw_lv [1, 2, 0, 3] rfl (H_w28 l1 r50 l3 s51)
set_option maxRecDepth 20000 in
theorem KB_X7_takesE_158 {G : hw_G} (C : hw_Ok G cX7_takesE RX7 5 4 (some .boolean) hw_TM) (hTL : hw_eT (hw_gE G) = hw_TM) (w28 : Int32 → Int32 → Int32 → hw_St → Option (Int32 × hw_St)) (H_w28 : ∀ (l1 : Int32) (l2 : Int32) (l3 : Int32) (s0 : hw_St), hw_K G 5 hw_ri (w28 l1 l2 l3 s0) 28 [(0, hw_rv (hw_ea (hw_gE G)) 200), (1, .int l1), (2, .int l2), (3, .int l3)] [] s0) (l1 : Int32) (s0 : hw_St) : hw_K G 5 hw_ri (B_X7_takesE_158 w28 l1 s0) 158 [(0, hw_rv (hw_ea (hw_gE G)) 200), (1, .int l1)] [] s0 := by
  unfold B_X7_takesE_158
  refine hw_aload_n C dX7_takesE_158 rfl 0 rfl ?_
  refine hw_callVi C (M_X7_takesPart (hw_gE G) hTL  s0) W_X7_takesPart SV_X7_takesPart cf_X7 hw_T200 mw_836 (by decide) rfl ⟨rfl, hw_l8 rfl⟩ dX7_takesE_159 (fun r60 s61 => ?_)
  refine hw_if_eq C dX7_takesE_162 (tgt := 170) (by decide) (fun c62 => ?_) (fun c62 => ?_)
  · refine hw_iconst C dX7_takesE_170 (v := 0) (by decide) ?_
    exact hw_zret1 C (by decide) dX7_takesE_171
  · refine hw_iconst C dX7_takesE_165 (v := 0) (by decide) ?_
    refine hw_istore_n C dX7_takesE_166 rfl (by decide) rfl ?_
    refine hw_goto C dX7_takesE_167 (tgt := 172) (by decide) ?_
    exact hw_lv [1, 2, 0] rfl (KB_X7_takesE_172 C hTL w28 H_w28 l1 (0 : Int32) s61)
set_option maxRecDepth 20000 in
theorem KB_X7_takesE_97 {G : hw_G} (C : hw_Ok G cX7_takesE RX7 5 4 (some .boolean) hw_TM) (hTL : hw_eT (hw_gE G) = hw_TM) (w28 : Int32 → Int32 → Int32 → hw_St → Option (Int32 × hw_St)) (H_w28 : ∀ (l1 : Int32) (l2 : Int32) (l3 : Int32) (s0 : hw_St), hw_K G 5 hw_ri (w28 l1 l2 l3 s0) 28 [(0, hw_rv (hw_ea (hw_gE G)) 200), (1, .int l1), (2, .int l2), (3, .int l3)] [] s0) (l1 : Int32) (l3 : Int32) (s0 : hw_St) : hw_K G 5 hw_ri (B_X7_takesE_97 w28 l1 l3 s0) 97 [(0, hw_rv (hw_ea (hw_gE G)) 200), (1, .int l1), (3, .int l3)] [] s0 := by
  unfold B_X7_takesE_97
  refine hw_aload_n C dX7_takesE_97 rfl 0 rfl ?_
  refine hw_getI C cf_X7 lf_X7_189 hw_T200 dX7_takesE_98 ?_
  refine hw_iconst C dX7_takesE_101 (v := 3) (by decide) ?_
  refine hw_icmp_ne C dX7_takesE_102 (tgt := 158) (by decide) (fun c40 => ?_) (fun c40 => ?_)
  · exact hw_lv [0, 1] rfl (KB_X7_takesE_158 C hTL w28 H_w28 l1 s0)
  · refine hw_aload_n C dX7_takesE_105 rfl 0 rfl ?_
    refine hw_getI C cf_X7 lf_X7_195 hw_T200 dX7_takesE_106 ?_
    refine hw_bipush C dX7_takesE_109 (v := 40) (by decide) ?_
    refine hw_icmp_ne C dX7_takesE_111 (tgt := 158) (by decide) (fun c41 => ?_) (fun c41 => ?_)
    · exact hw_lv [0, 1] rfl (KB_X7_takesE_158 C hTL w28 H_w28 l1 s0)
    · refine hw_iload_n C dX7_takesE_114 rfl 1 rfl ?_
      refine hw_bipush C dX7_takesE_115 (v := 8) (by decide) ?_
      refine hw_icmp_ge C dX7_takesE_117 (tgt := 158) (by decide) (fun c42 => ?_) (fun c42 => ?_)
      · exact hw_lv [0, 1] rfl (KB_X7_takesE_158 C hTL w28 H_w28 l1 s0)
      · refine hw_aload_n C dX7_takesE_120 rfl 0 rfl ?_
        refine hw_getR C cf_X7 lf_X7_38 hw_T200 (t2 := 210) (by decide) dX7_takesE_121 ?_
        refine hw_aload_n C dX7_takesE_124 rfl 0 rfl ?_
        refine hw_getI C cf_X7 lf_X7_207 hw_T200 dX7_takesE_125 ?_
        refine hw_bipush C dX7_takesE_128 (v := -11) (by decide) ?_
        refine hw_iast C hw_T210 (by decide) dX7_takesE_130 (fun h44 s43 => ?_)
        refine hw_aload_n C dX7_takesE_131 rfl 0 rfl ?_
        refine hw_dup C dX7_takesE_132 ?_
        refine hw_getI C cf_X7 lf_X7_207 hw_T200 dX7_takesE_133 ?_
        refine hw_iconst C dX7_takesE_136 (v := 1) (by decide) ?_
        refine hw_iadd C dX7_takesE_137 ?_
        refine hw_putI C cf_X7 lf_X7_207 hw_T200 rfl rfl dX7_takesE_138 (fun s45 => ?_)
        refine hw_iinc C dX7_takesE_141 1 rfl (v := 1) (by decide) (by decide) rfl ?_
        refine hw_aload_n C dX7_takesE_144 rfl 1 rfl ?_
        refine hw_getR C cf_X7 lf_X7_41 hw_T200 (t2 := 211) (by decide) dX7_takesE_145 ?_
        refine hw_iload_n C dX7_takesE_148 rfl 0 rfl ?_
        refine hw_iconst C dX7_takesE_149 (v := 0) (by decide) ?_
        refine hw_zast C hw_T211 (by decide) dX7_takesE_150 (fun h47 s46 => ?_)
        refine hw_aload_n C dX7_takesE_151 rfl 1 rfl ?_
        refine hw_callVv C (M_X7_go (hw_gE G) hTL  s46) W_X7_go SV_X7_go cf_X7 hw_T200 mw_813 (by decide) rfl ⟨rfl, hw_l8 rfl⟩ dX7_takesE_152 (fun r48 s49 => ?_)
        refine hw_goto C dX7_takesE_155 (tgt := 172) (by decide) ?_
        exact hw_lv [1, 0, 2] rfl (KB_X7_takesE_172 C hTL w28 H_w28 (l1 + 1) l3 s49)
set_option maxRecDepth 20000 in
theorem KB_X7_takesE_305 {G : hw_G} (C : hw_Ok G cX7_takesE RX7 5 4 (some .boolean) hw_TM) (hTL : hw_eT (hw_gE G) = hw_TM) (w28 : Int32 → Int32 → Int32 → hw_St → Option (Int32 × hw_St)) (H_w28 : ∀ (l1 : Int32) (l2 : Int32) (l3 : Int32) (s0 : hw_St), hw_K G 5 hw_ri (w28 l1 l2 l3 s0) 28 [(0, hw_rv (hw_ea (hw_gE G)) 200), (1, .int l1), (2, .int l2), (3, .int l3)] [] s0) (l1 : Int32) (l2 : Int32) (l4 : Int32) (k0 : Int32) (k1 : Int32) (s0 : hw_St) : hw_K G 5 hw_ri (B_X7_takesE_305 w28 l1 l2 l4 k0 k1 s0) 305 [(0, hw_rv (hw_ea (hw_gE G)) 200), (1, .int l1), (2, .int l2), (4, .int l4)] [.int k0, .int k1, hw_rv (hw_ea (hw_gE G)) 211] s0 := by
  unfold B_X7_takesE_305
  refine hw_zast C hw_T211 (by decide) dX7_takesE_305 (fun h64 s63 => ?_)
  refine hw_aload_n C dX7_takesE_306 rfl 0 rfl ?_
  refine hw_iload C dX7_takesE_307 3 rfl ?_
  refine hw_callSi C (M_X7_rank (hw_gE G) hTL l4 s63) W_X7_rank SS_X7_rank mw_848 (by decide) rfl ⟨rfl, hw_l8 rfl⟩ dX7_takesE_309 (fun r65 s66 => ?_)
  refine hw_callVv C (M_X7_settle (hw_gE G) hTL r65 s66) W_X7_settle SV_X7_settle cf_X7 hw_T200 mw_844 (by decide) rfl ⟨rfl, hw_l8 rfl⟩ dX7_takesE_312 (fun r67 s68 => ?_)
  refine hw_aload_n C dX7_takesE_315 rfl 0 rfl ?_
  refine hw_getR C cf_X7 lf_X7_38 hw_T200 (t2 := 210) (by decide) dX7_takesE_316 ?_
  refine hw_aload_n C dX7_takesE_319 rfl 0 rfl ?_
  refine hw_getI C cf_X7 lf_X7_207 hw_T200 dX7_takesE_320 ?_
  refine hw_iload C dX7_takesE_323 3 rfl ?_
  refine hw_iast C hw_T210 (by decide) dX7_takesE_325 (fun h70 s69 => ?_)
  refine hw_aload_n C dX7_takesE_326 rfl 0 rfl ?_
  refine hw_dup C dX7_takesE_327 ?_
  refine hw_getI C cf_X7 lf_X7_207 hw_T200 dX7_takesE_328 ?_
  refine hw_iconst C dX7_takesE_331 (v := 1) (by decide) ?_
  refine hw_iadd C dX7_takesE_332 ?_
  refine hw_putI C cf_X7 lf_X7_207 hw_T200 rfl rfl dX7_takesE_333 (fun s71 => ?_)
  refine hw_iconst C dX7_takesE_336 (v := 1) (by decide) ?_
  refine hw_istore_n C dX7_takesE_337 rfl (by decide) rfl ?_
  refine hw_aload_n C dX7_takesE_338 rfl 1 rfl ?_
  refine hw_callVv C (M_X7_go (hw_gE G) hTL  s71) W_X7_go SV_X7_go cf_X7 hw_T200 mw_813 (by decide) rfl ⟨rfl, hw_l8 rfl⟩ dX7_takesE_339 (fun r72 s73 => ?_)
  refine hw_goto C dX7_takesE_342 (tgt := 28) (by decide) ?_
  exact hw_lv [1, 2, 3, 0] rfl (H_w28 l1 l2 (1 : Int32) s73)
set_option maxRecDepth 20000 in
theorem KB_X7_takesE_300 {G : hw_G} (C : hw_Ok G cX7_takesE RX7 5 4 (some .boolean) hw_TM) (hTL : hw_eT (hw_gE G) = hw_TM) (w28 : Int32 → Int32 → Int32 → hw_St → Option (Int32 × hw_St)) (H_w28 : ∀ (l1 : Int32) (l2 : Int32) (l3 : Int32) (s0 : hw_St), hw_K G 5 hw_ri (w28 l1 l2 l3 s0) 28 [(0, hw_rv (hw_ea (hw_gE G)) 200), (1, .int l1), (2, .int l2), (3, .int l3)] [] s0) (l1 : Int32) (l2 : Int32) (l4 : Int32) (k0 : Int32) (s0 : hw_St) : hw_K G 5 hw_ri (B_X7_takesE_300 w28 l1 l2 l4 k0 s0) 300 [(0, hw_rv (hw_ea (hw_gE G)) 200), (1, .int l1), (2, .int l2), (4, .int l4)] [.int k0, hw_rv (hw_ea (hw_gE G)) 211] s0 := by
  unfold B_X7_takesE_300
  refine hw_iconst C dX7_takesE_300 (v := 1) (by decide) ?_
  refine hw_goto C dX7_takesE_301 (tgt := 305) (by decide) ?_
  exact hw_lv [0, 1, 2, 3] rfl (KB_X7_takesE_305 C hTL w28 H_w28 l1 l2 l4 (1 : Int32) k0 s0)
set_option maxRecDepth 20000 in
theorem KB_X7_takesE_304 {G : hw_G} (C : hw_Ok G cX7_takesE RX7 5 4 (some .boolean) hw_TM) (hTL : hw_eT (hw_gE G) = hw_TM) (w28 : Int32 → Int32 → Int32 → hw_St → Option (Int32 × hw_St)) (H_w28 : ∀ (l1 : Int32) (l2 : Int32) (l3 : Int32) (s0 : hw_St), hw_K G 5 hw_ri (w28 l1 l2 l3 s0) 28 [(0, hw_rv (hw_ea (hw_gE G)) 200), (1, .int l1), (2, .int l2), (3, .int l3)] [] s0) (l1 : Int32) (l2 : Int32) (l4 : Int32) (k0 : Int32) (s0 : hw_St) : hw_K G 5 hw_ri (B_X7_takesE_304 w28 l1 l2 l4 k0 s0) 304 [(0, hw_rv (hw_ea (hw_gE G)) 200), (1, .int l1), (2, .int l2), (4, .int l4)] [.int k0, hw_rv (hw_ea (hw_gE G)) 211] s0 := by
  unfold B_X7_takesE_304
  refine hw_iconst C dX7_takesE_304 (v := 0) (by decide) ?_
  exact hw_lv [0, 1, 2, 3] rfl (KB_X7_takesE_305 C hTL w28 H_w28 l1 l2 l4 (0 : Int32) k0 s0)
set_option maxRecDepth 20000 in
theorem KB_X7_takesE_268 {G : hw_G} (C : hw_Ok G cX7_takesE RX7 5 4 (some .boolean) hw_TM) (hTL : hw_eT (hw_gE G) = hw_TM) (w28 : Int32 → Int32 → Int32 → hw_St → Option (Int32 × hw_St)) (H_w28 : ∀ (l1 : Int32) (l2 : Int32) (l3 : Int32) (s0 : hw_St), hw_K G 5 hw_ri (w28 l1 l2 l3 s0) 28 [(0, hw_rv (hw_ea (hw_gE G)) 200), (1, .int l1), (2, .int l2), (3, .int l3)] [] s0) (l1 : Int32) (l2 : Int32) (l4 : Int32) (s0 : hw_St) : hw_K G 5 hw_ri (B_X7_takesE_268 w28 l1 l2 l4 s0) 268 [(0, hw_rv (hw_ea (hw_gE G)) 200), (1, .int l1), (2, .int l2), (4, .int l4)] [] s0 := by
  unfold B_X7_takesE_268
  refine hw_aload_n C dX7_takesE_268 rfl 0 rfl ?_
  refine hw_getR C cf_X7 lf_X7_41 hw_T200 (t2 := 211) (by decide) dX7_takesE_269 ?_
  refine hw_iload_n C dX7_takesE_272 rfl 1 rfl ?_
  refine hw_iload C dX7_takesE_273 3 rfl ?_
  refine hw_callSi C (M_X7_rank (hw_gE G) hTL l4 s0) W_X7_rank SS_X7_rank mw_848 (by decide) rfl ⟨rfl, hw_l8 rfl⟩ dX7_takesE_275 (fun r52 s53 => ?_)
  refine hw_iconst C dX7_takesE_278 (v := 3) (by decide) ?_
  refine hw_icmp_eq C dX7_takesE_279 (tgt := 300) (by decide) (fun c54 => ?_) (fun c54 => ?_)
  · exact hw_lv [0, 1, 2, 3] rfl (KB_X7_takesE_300 C hTL w28 H_w28 l1 l2 l4 l1 s53)
  · refine hw_iload C dX7_takesE_282 3 rfl ?_
    refine hw_callSi C (M_X7_rank (hw_gE G) hTL l4 s53) W_X7_rank SS_X7_rank mw_848 (by decide) rfl ⟨rfl, hw_l8 rfl⟩ dX7_takesE_284 (fun r55 s56 => ?_)
    refine hw_iconst C dX7_takesE_287 (v := 3) (by decide) ?_
    refine hw_icmp_le C dX7_takesE_288 (tgt := 304) (by decide) (fun c57 => ?_) (fun c57 => ?_)
    · exact hw_lv [0, 1, 2, 3] rfl (KB_X7_takesE_304 C hTL w28 H_w28 l1 l2 l4 l1 s56)
    · refine hw_aload_n C dX7_takesE_291 rfl 0 rfl ?_
      refine hw_getR C cf_X7 lf_X7_41 hw_T200 (t2 := 211) (by decide) dX7_takesE_292 ?_
      refine hw_iload_n C dX7_takesE_295 rfl 1 rfl ?_
      refine hw_zald C hw_T211 (by decide) dX7_takesE_296 (fun h58 => ?_)
      refine hw_if_eq C dX7_takesE_297 (tgt := 304) (by decide) (fun c59 => ?_) (fun c59 => ?_)
      · exact hw_lv [0, 1, 2, 3] rfl (KB_X7_takesE_304 C hTL w28 H_w28 l1 l2 l4 l1 s56)
      · exact hw_lv [0, 1, 2, 3] rfl (KB_X7_takesE_300 C hTL w28 H_w28 l1 l2 l4 l1 s56)
set_option maxRecDepth 20000 in
theorem KB_X7_takesE_237 {G : hw_G} (C : hw_Ok G cX7_takesE RX7 5 4 (some .boolean) hw_TM) (hTL : hw_eT (hw_gE G) = hw_TM) (w28 : Int32 → Int32 → Int32 → hw_St → Option (Int32 × hw_St)) (H_w28 : ∀ (l1 : Int32) (l2 : Int32) (l3 : Int32) (s0 : hw_St), hw_K G 5 hw_ri (w28 l1 l2 l3 s0) 28 [(0, hw_rv (hw_ea (hw_gE G)) 200), (1, .int l1), (2, .int l2), (3, .int l3)] [] s0) (l1 : Int32) (l2 : Int32) (s0 : hw_St) : hw_K G 5 hw_ri (B_X7_takesE_237 w28 l1 l2 s0) 237 [(0, hw_rv (hw_ea (hw_gE G)) 200), (1, .int l1), (2, .int l2)] [] s0 := by
  unfold B_X7_takesE_237
  refine hw_aload_n C dX7_takesE_237 rfl 0 rfl ?_
  refine hw_callVi C (M_X7_signHere (hw_gE G) hTL  s0) W_X7_signHere SV_X7_signHere cf_X7 hw_T200 mw_855 (by decide) rfl ⟨rfl, hw_l8 rfl⟩ dX7_takesE_238 (fun r32 s33 => ?_)
  refine hw_istore C dX7_takesE_241 (by decide) rfl ?_
  refine hw_iload C dX7_takesE_243 0 rfl ?_
  refine hw_if_eq C dX7_takesE_245 (tgt := 266) (by decide) (fun c34 => ?_) (fun c34 => ?_)
  · refine hw_iconst C dX7_takesE_266 (v := 0) (by decide) ?_
    exact hw_zret1 C (by decide) dX7_takesE_267
  · refine hw_iload C dX7_takesE_248 0 rfl ?_
    refine hw_callSi C (M_X7_rank (hw_gE G) hTL r32 s33) W_X7_rank SS_X7_rank mw_848 (by decide) rfl ⟨rfl, hw_l8 rfl⟩ dX7_takesE_250 (fun r35 s36 => ?_)
    refine hw_iconst C dX7_takesE_253 (v := 3) (by decide) ?_
    refine hw_icmp_ne C dX7_takesE_254 (tgt := 268) (by decide) (fun c37 => ?_) (fun c37 => ?_)
    · exact hw_lv [1, 2, 3, 0] rfl (KB_X7_takesE_268 C hTL w28 H_w28 l1 l2 r32 s36)
    · refine hw_aload_n C dX7_takesE_257 rfl 1 rfl ?_
      refine hw_getR C cf_X7 lf_X7_41 hw_T200 (t2 := 211) (by decide) dX7_takesE_258 ?_
      refine hw_iload_n C dX7_takesE_261 rfl 2 rfl ?_
      refine hw_zald C hw_T211 (by decide) dX7_takesE_262 (fun h38 => ?_)
      refine hw_if_eq C dX7_takesE_263 (tgt := 268) (by decide) (fun c39 => ?_) (fun c39 => ?_)
      · exact hw_lv [1, 2, 3, 0] rfl (KB_X7_takesE_268 C hTL w28 H_w28 l1 l2 r32 s36)
      · refine hw_iconst C dX7_takesE_266 (v := 0) (by decide) ?_
        exact hw_zret1 C (by decide) dX7_takesE_267
set_option maxRecDepth 20000 in
theorem KB_X7_takesE_39 {G : hw_G} (C : hw_Ok G cX7_takesE RX7 5 4 (some .boolean) hw_TM) (hTL : hw_eT (hw_gE G) = hw_TM) (w28 : Int32 → Int32 → Int32 → hw_St → Option (Int32 × hw_St)) (H_w28 : ∀ (l1 : Int32) (l2 : Int32) (l3 : Int32) (s0 : hw_St), hw_K G 5 hw_ri (w28 l1 l2 l3 s0) 28 [(0, hw_rv (hw_ea (hw_gE G)) 200), (1, .int l1), (2, .int l2), (3, .int l3)] [] s0) (l1 : Int32) (l2 : Int32) (l3 : Int32) (s0 : hw_St) : hw_K G 5 hw_ri (B_X7_takesE_39 w28 l1 l2 l3 s0) 39 [(0, hw_rv (hw_ea (hw_gE G)) 200), (1, .int l1), (2, .int l2), (3, .int l3)] [] s0 := by
  unfold B_X7_takesE_39
  refine hw_iload_n C dX7_takesE_39 rfl 3 rfl ?_
  refine hw_if_eq C dX7_takesE_40 (tgt := 180) (by decide) (fun c11 => ?_) (fun c11 => ?_)
  · refine hw_aload_n C dX7_takesE_180 rfl 0 rfl ?_
    refine hw_getI C cf_X7 lf_X7_189 hw_T200 dX7_takesE_181 ?_
    refine hw_iconst C dX7_takesE_184 (v := 3) (by decide) ?_
    refine hw_icmp_ne C dX7_takesE_185 (tgt := 237) (by decide) (fun c12 => ?_) (fun c12 => ?_)
    · exact hw_lv [0, 1, 2] rfl (KB_X7_takesE_237 C hTL w28 H_w28 l1 l2 s0)
    · refine hw_aload_n C dX7_takesE_188 rfl 0 rfl ?_
      refine hw_getI C cf_X7 lf_X7_195 hw_T200 dX7_takesE_189 ?_
      refine hw_bipush C dX7_takesE_192 (v := 41) (by decide) ?_
      refine hw_icmp_ne C dX7_takesE_194 (tgt := 237) (by decide) (fun c13 => ?_) (fun c13 => ?_)
      · exact hw_lv [0, 1, 2] rfl (KB_X7_takesE_237 C hTL w28 H_w28 l1 l2 s0)
      · refine hw_iload_n C dX7_takesE_197 rfl 1 rfl ?_
        refine hw_if_le C dX7_takesE_198 (tgt := 237) (by decide) (fun c14 => ?_) (fun c14 => ?_)
        · exact hw_lv [0, 1, 2] rfl (KB_X7_takesE_237 C hTL w28 H_w28 l1 l2 s0)
        · refine hw_aload_n C dX7_takesE_201 rfl 0 rfl ?_
          refine hw_iconst C dX7_takesE_202 (v := 0) (by decide) ?_
          refine hw_callVv C (M_X7_settle (hw_gE G) hTL (0 : Int32) s0) W_X7_settle SV_X7_settle cf_X7 hw_T200 mw_844 (by decide) rfl ⟨rfl, hw_l8 rfl⟩ dX7_takesE_203 (fun r15 s16 => ?_)
          refine hw_aload_n C dX7_takesE_206 rfl 0 rfl ?_
          refine hw_dup C dX7_takesE_207 ?_
          refine hw_getI C cf_X7 lf_X7_207 hw_T200 dX7_takesE_208 ?_
          refine hw_iconst C dX7_takesE_211 (v := 1) (by decide) ?_
          refine hw_isub C dX7_takesE_212 ?_
          refine hw_putI C cf_X7 lf_X7_207 hw_T200 rfl rfl dX7_takesE_213 (fun s17 => ?_)
          refine hw_iinc C dX7_takesE_216 1 rfl (v := -1) (by decide) (by decide) rfl ?_
          refine hw_aload_n C dX7_takesE_219 rfl 1 rfl ?_
          refine hw_bipush C dX7_takesE_220 (v := 6) (by decide) ?_
          refine hw_callVv C (M_X7_settle (hw_gE G) hTL (6 : Int32) s17) W_X7_settle SV_X7_settle cf_X7 hw_T200 mw_844 (by decide) rfl ⟨rfl, hw_l8 rfl⟩ dX7_takesE_222 (fun r18 s19 => ?_)
          refine hw_aload_n C dX7_takesE_225 rfl 1 rfl ?_
          refine hw_callVi C (M_X7_notsOpen (hw_gE G) hTL  s19) W_X7_notsOpen SV_X7_notsOpen cf_X7 hw_T200 mw_851 (by decide) rfl ⟨rfl, hw_l8 rfl⟩ dX7_takesE_226 (fun r20 s21 => ?_)
          refine hw_istore_n C dX7_takesE_229 rfl (by decide) rfl ?_
          refine hw_aload_n C dX7_takesE_230 rfl 2 rfl ?_
          refine hw_callVv C (M_X7_go (hw_gE G) hTL  s21) W_X7_go SV_X7_go cf_X7 hw_T200 mw_813 (by decide) rfl ⟨rfl, hw_l8 rfl⟩ dX7_takesE_231 (fun r22 s23 => ?_)
          refine hw_goto C dX7_takesE_234 (tgt := 28) (by decide) ?_
          exact hw_lv [2, 1, 0, 3] rfl (H_w28 (l1 + -1) r20 l3 s23)
  · refine hw_aload_n C dX7_takesE_43 rfl 0 rfl ?_
    refine hw_getI C cf_X7 lf_X7_189 hw_T200 dX7_takesE_44 ?_
    refine hw_iconst C dX7_takesE_47 (v := 3) (by decide) ?_
    refine hw_icmp_ne C dX7_takesE_48 (tgt := 97) (by decide) (fun c24 => ?_) (fun c24 => ?_)
    · exact hw_lv [0, 1, 3] rfl (KB_X7_takesE_97 C hTL w28 H_w28 l1 l3 s0)
    · refine hw_aload_n C dX7_takesE_51 rfl 0 rfl ?_
      refine hw_getI C cf_X7 lf_X7_195 hw_T200 dX7_takesE_52 ?_
      refine hw_bipush C dX7_takesE_55 (v := 33) (by decide) ?_
      refine hw_icmp_ne C dX7_takesE_57 (tgt := 97) (by decide) (fun c25 => ?_) (fun c25 => ?_)
      · exact hw_lv [0, 1, 3] rfl (KB_X7_takesE_97 C hTL w28 H_w28 l1 l3 s0)
      · refine hw_iload_n C dX7_takesE_60 rfl 2 rfl ?_
        refine hw_bipush C dX7_takesE_61 (v := 8) (by decide) ?_
        refine hw_icmp_ge C dX7_takesE_63 (tgt := 97) (by decide) (fun c26 => ?_) (fun c26 => ?_)
        · exact hw_lv [0, 1, 3] rfl (KB_X7_takesE_97 C hTL w28 H_w28 l1 l3 s0)
        · refine hw_aload_n C dX7_takesE_66 rfl 0 rfl ?_
          refine hw_getR C cf_X7 lf_X7_38 hw_T200 (t2 := 210) (by decide) dX7_takesE_67 ?_
          refine hw_aload_n C dX7_takesE_70 rfl 0 rfl ?_
          refine hw_getI C cf_X7 lf_X7_207 hw_T200 dX7_takesE_71 ?_
          refine hw_bipush C dX7_takesE_74 (v := -10) (by decide) ?_
          refine hw_iast C hw_T210 (by decide) dX7_takesE_76 (fun h28 s27 => ?_)
          refine hw_aload_n C dX7_takesE_77 rfl 0 rfl ?_
          refine hw_dup C dX7_takesE_78 ?_
          refine hw_getI C cf_X7 lf_X7_207 hw_T200 dX7_takesE_79 ?_
          refine hw_iconst C dX7_takesE_82 (v := 1) (by decide) ?_
          refine hw_iadd C dX7_takesE_83 ?_
          refine hw_putI C cf_X7 lf_X7_207 hw_T200 rfl rfl dX7_takesE_84 (fun s29 => ?_)
          refine hw_iinc C dX7_takesE_87 2 rfl (v := 1) (by decide) (by decide) rfl ?_
          refine hw_aload_n C dX7_takesE_90 rfl 1 rfl ?_
          refine hw_callVv C (M_X7_go (hw_gE G) hTL  s29) W_X7_go SV_X7_go cf_X7 hw_T200 mw_813 (by decide) rfl ⟨rfl, hw_l8 rfl⟩ dX7_takesE_91 (fun r30 s31 => ?_)
          refine hw_goto C dX7_takesE_94 (tgt := 172) (by decide) ?_
          exact hw_lv [1, 2, 3] rfl (KB_X7_takesE_172 C hTL w28 H_w28 l1 l3 s31)
set_option maxRecDepth 20000 in
theorem KS_X7_takesE_28 {G : hw_G} (C : hw_Ok G cX7_takesE RX7 5 4 (some .boolean) hw_TM) (hTL : hw_eT (hw_gE G) = hw_TM) (w28 : Int32 → Int32 → Int32 → hw_St → Option (Int32 × hw_St)) (H_w28 : ∀ (l1 : Int32) (l2 : Int32) (l3 : Int32) (s0 : hw_St), hw_K G 5 hw_ri (w28 l1 l2 l3 s0) 28 [(0, hw_rv (hw_ea (hw_gE G)) 200), (1, .int l1), (2, .int l2), (3, .int l3)] [] s0) (l1 : Int32) (l2 : Int32) (l3 : Int32) (s0 : hw_St) : hw_K G 5 hw_ri (S_X7_takesE_28 w28 l1 l2 l3 s0) 28 [(0, hw_rv (hw_ea (hw_gE G)) 200), (1, .int l1), (2, .int l2), (3, .int l3)] [] s0 := by
  unfold S_X7_takesE_28
  refine hw_iload_n C dX7_takesE_28 rfl 3 rfl ?_
  refine hw_if_ne C dX7_takesE_29 (tgt := 39) (by decide) (fun c6 => ?_) (fun c6 => ?_)
  · exact hw_lv [0, 1, 2, 3] rfl (KB_X7_takesE_39 C hTL w28 H_w28 l1 l2 l3 s0)
  · refine hw_aload_n C dX7_takesE_32 rfl 0 rfl ?_
    refine hw_getI C cf_X7 lf_X7_189 hw_T200 dX7_takesE_33 ?_
    refine hw_if_eq C dX7_takesE_36 (tgt := 345) (by decide) (fun c7 => ?_) (fun c7 => ?_)
    · refine hw_aload_n C dX7_takesE_345 rfl 0 rfl ?_
      refine hw_iconst C dX7_takesE_346 (v := 0) (by decide) ?_
      refine hw_callVv C (M_X7_settle (hw_gE G) hTL (0 : Int32) s0) W_X7_settle SV_X7_settle cf_X7 hw_T200 mw_844 (by decide) rfl ⟨rfl, hw_l8 rfl⟩ dX7_takesE_347 (fun r8 s9 => ?_)
      refine hw_iload_n C dX7_takesE_350 rfl 1 rfl ?_
      refine hw_if_ne C dX7_takesE_351 (tgt := 358) (by decide) (fun c10 => ?_) (fun c10 => ?_)
      · refine hw_iconst C dX7_takesE_358 (v := 0) (by decide) ?_
        exact hw_zret1 C (by decide) dX7_takesE_359
      · refine hw_iconst C dX7_takesE_354 (v := 1) (by decide) ?_
        refine hw_goto C dX7_takesE_355 (tgt := 359) (by decide) ?_
        exact hw_zret1 C (by decide) dX7_takesE_359
    · exact hw_lv [0, 1, 2, 3] rfl (KB_X7_takesE_39 C hTL w28 H_w28 l1 l2 l3 s0)
theorem KL_X7_takesE_28 {G : hw_G} (C : hw_Ok G cX7_takesE RX7 5 4 (some .boolean) hw_TM) (hTL : hw_eT (hw_gE G) = hw_TM) : ∀ (n_ : Nat) (l1 : Int32) (l2 : Int32) (l3 : Int32) (s0 : hw_St), hw_K G 5 hw_ri (L_X7_takesE_28 n_ l1 l2 l3 s0) 28 [(0, hw_rv (hw_ea (hw_gE G)) 200), (1, .int l1), (2, .int l2), (3, .int l3)] [] s0 := by
  intro n_
  induction n_ with
  | zero => intros; exact hw_nil
  | succ n_ ih => intro l1 l2 l3 s0; exact KS_X7_takesE_28 C hTL (L_X7_takesE_28 n_) ih l1 l2 l3 s0
set_option maxRecDepth 20000 in
theorem M_X7_takesE (E : hw_E) (hE : hw_eT E = hw_TM) (s0 : hw_St) : hw_M E yX7_takesE cX7_takesE 5 (some .boolean) 4 [hw_rv (hw_ea E) 200] s0 hw_ri (F_X7_takesE  s0) := by
  refine hw_entry (own := RX7) (TL := hw_TM) (by decide) rfl hE (hw_cR hw_cN) (hw_l8 rfl) (fun G hG C => ?_)
  subst hG
  have hTL := hE
  show hw_K G 5 hw_ri _ 0 [(0, hw_rv (hw_ea (hw_gE G)) 200)] [] s0
  unfold F_X7_takesE
  refine hw_iconst C dX7_takesE_0 (v := 0) (by decide) ?_
  refine hw_istore_n C dX7_takesE_1 rfl (by decide) rfl ?_
  refine hw_iconst C dX7_takesE_2 (v := 0) (by decide) ?_
  refine hw_istore_n C dX7_takesE_3 rfl (by decide) rfl ?_
  refine hw_iconst C dX7_takesE_4 (v := 1) (by decide) ?_
  refine hw_istore_n C dX7_takesE_5 rfl (by decide) rfl ?_
  refine hw_aload_n C dX7_takesE_6 rfl 3 rfl ?_
  refine hw_iconst C dX7_takesE_7 (v := 0) (by decide) ?_
  refine hw_putI C cf_X7 lf_X7_213 hw_T200 rfl rfl dX7_takesE_8 (fun s1 => ?_)
  refine hw_aload_n C dX7_takesE_11 rfl 3 rfl ?_
  refine hw_iconst C dX7_takesE_12 (v := 0) (by decide) ?_
  refine hw_putI C cf_X7 lf_X7_219 hw_T200 rfl rfl dX7_takesE_13 (fun s2 => ?_)
  refine hw_aload_n C dX7_takesE_16 rfl 3 rfl ?_
  refine hw_iconst C dX7_takesE_17 (v := 0) (by decide) ?_
  refine hw_putI C cf_X7 lf_X7_207 hw_T200 rfl rfl dX7_takesE_18 (fun s3 => ?_)
  refine hw_aload_n C dX7_takesE_21 rfl 3 rfl ?_
  refine hw_getR C cf_X7 lf_X7_41 hw_T200 (t2 := 211) (by decide) dX7_takesE_22 ?_
  refine hw_iconst C dX7_takesE_25 (v := 0) (by decide) ?_
  refine hw_iconst C dX7_takesE_26 (v := 0) (by decide) ?_
  refine hw_zast C hw_T211 (by decide) dX7_takesE_27 (fun h5 s4 => ?_)
  exact hw_lv [3, 2, 1, 0] rfl (KL_X7_takesE_28 C hTL 130 (0 : Int32) (0 : Int32) (1 : Int32) s4)
/-! HumWireModel text()I, level 5 -/
def S_X7_text_115  (w115 : Int32 → Int32 → hw_St → Option (Int32 × hw_St)) (l2 : Int32) (l3 : Int32) (s0 : hw_St) : Option (Int32 × hw_St) := if (s0 200 20) ≤ l3 then (hw_gd (hw_inb (4 : Int32) 1443) (hw_gd (hw_inb (4 : Int32) 1443) (hw_nm (hw_up s0 201 (4 : Int32).toNatClampNeg ((s0 201 (4 : Int32).toNatClampNeg) + (1 : Int32))) (fun s23 => some (l2, s23))))) else (hw_gd (hw_inb l3 96) (hw_gd (hw_inb (((99 : Int32) + ((96 : Int32) * l2)) + l3) 1443) (hw_nm (hw_up s0 201 (((99 : Int32) + ((96 : Int32) * l2)) + l3).toNatClampNeg (s0 209 l3.toNatClampNeg)) (fun s26 => w115 l2 (l3 + 1) s26))))
def L_X7_text_115  : Nat → Int32 → Int32 → hw_St → Option (Int32 × hw_St)
  | 0 => fun _ _ _ => none
  | n + 1 => S_X7_text_115  (L_X7_text_115  n)
def B_X7_text_33  (k0 : Int32) (s0 : hw_St) : Option (Int32 × hw_St) := hw_nm (hw_up s0 200 10 (0 : Int32)) (fun s11 => if k0 = 0 then (some (((-100 : Int32) - (s11 200 12)), s11)) else (hw_gd (hw_inb (4 : Int32) 1443) (if (s11 201 (4 : Int32).toNatClampNeg) = (14 : Int32) then (some ((-1000000003 : Int32), s11)) else (hw_gd (hw_inb (4 : Int32) 1443) (hw_nm (s11 201 (4 : Int32).toNatClampNeg) (fun x16 => hw_gd (hw_inb ((71 : Int32) + ((2 : Int32) * x16)) 1443) (hw_nm (hw_up s11 201 ((71 : Int32) + ((2 : Int32) * x16)).toNatClampNeg (((1000 : Int32) * (s11 200 16)) + (s11 200 20))) (fun s17 => hw_gd (hw_inb (((71 : Int32) + ((2 : Int32) * x16)) + (1 : Int32)) 1443) (hw_nm (hw_up s17 201 (((71 : Int32) + ((2 : Int32) * x16)) + (1 : Int32)).toNatClampNeg (s17 200 21)) (fun s19 => L_X7_text_115 130 x16 (0 : Int32) s19))))))))))
def B_X7_text_32  (s0 : hw_St) : Option (Int32 × hw_St) := B_X7_text_33 (0 : Int32) s0
def F_X7_text  (s0 : hw_St) : Option (Int32 × hw_St) := hw_nm (hw_up s0 200 11 (0 : Int32)) (fun s1 => hw_nm (hw_up s1 200 15 (-1 : Int32)) (fun s2 => hw_bd (F_X7_go  s2) (fun _ s4 => hw_bd (F_X7_takesKey  s4) (fun r5 s6 => if r5 = 0 then (B_X7_text_32  s6) else (hw_bd (F_X7_takesE  s6) (fun r8 s9 => if r8 = 0 then (B_X7_text_32  s9) else (B_X7_text_33 (1 : Int32) s9)))))))
set_option maxRecDepth 20000 in
theorem KS_X7_text_115 {G : hw_G} (C : hw_Ok G cX7_text RX7 4 5 (some .int) hw_TM) (hTL : hw_eT (hw_gE G) = hw_TM) (w115 : Int32 → Int32 → hw_St → Option (Int32 × hw_St)) (H_w115 : ∀ (l2 : Int32) (l3 : Int32) (s0 : hw_St), hw_K G 4 hw_ri (w115 l2 l3 s0) 115 [(0, hw_rv (hw_ea (hw_gE G)) 200), (2, .int l2), (3, .int l3)] [] s0) (l2 : Int32) (l3 : Int32) (s0 : hw_St) : hw_K G 4 hw_ri (S_X7_text_115 w115 l2 l3 s0) 115 [(0, hw_rv (hw_ea (hw_gE G)) 200), (2, .int l2), (3, .int l3)] [] s0 := by
  unfold S_X7_text_115
  refine hw_iload_n C dX7_text_115 rfl 2 rfl ?_
  refine hw_aload_n C dX7_text_116 rfl 0 rfl ?_
  refine hw_getI C cf_X7 lf_X7_213 hw_T200 dX7_text_117 ?_
  refine hw_icmp_ge C dX7_text_120 (tgt := 149) (by decide) (fun c21 => ?_) (fun c21 => ?_)
  · refine hw_aload_n C dX7_text_149 rfl 0 rfl ?_
    refine hw_getR C cf_X7 lf_X7_9 hw_T200 (t2 := 201) (by decide) dX7_text_150 ?_
    refine hw_iconst C dX7_text_153 (v := 4) (by decide) ?_
    refine hw_dup2 C dX7_text_154 ?_
    refine hw_iald C hw_T201 (by decide) dX7_text_155 (fun h22 => ?_)
    refine hw_iconst C dX7_text_156 (v := 1) (by decide) ?_
    refine hw_iadd C dX7_text_157 ?_
    refine hw_iast C hw_T201 (by decide) dX7_text_158 (fun h24 s23 => ?_)
    refine hw_iload_n C dX7_text_159 rfl 1 rfl ?_
    exact hw_iret C dX7_text_160
  · refine hw_aload_n C dX7_text_123 rfl 0 rfl ?_
    refine hw_getR C cf_X7 lf_X7_9 hw_T200 (t2 := 201) (by decide) dX7_text_124 ?_
    refine hw_bipush C dX7_text_127 (v := 99) (by decide) ?_
    refine hw_bipush C dX7_text_129 (v := 96) (by decide) ?_
    refine hw_iload_n C dX7_text_131 rfl 1 rfl ?_
    refine hw_imul C dX7_text_132 ?_
    refine hw_iadd C dX7_text_133 ?_
    refine hw_iload_n C dX7_text_134 rfl 2 rfl ?_
    refine hw_iadd C dX7_text_135 ?_
    refine hw_aload_n C dX7_text_136 rfl 0 rfl ?_
    refine hw_getR C cf_X7 lf_X7_35 hw_T200 (t2 := 209) (by decide) dX7_text_137 ?_
    refine hw_iload_n C dX7_text_140 rfl 2 rfl ?_
    refine hw_iald C hw_T209 (by decide) dX7_text_141 (fun h25 => ?_)
    refine hw_iast C hw_T201 (by decide) dX7_text_142 (fun h27 s26 => ?_)
    refine hw_iinc C dX7_text_143 2 rfl (v := 1) (by decide) (by decide) rfl ?_
    refine hw_goto C dX7_text_146 (tgt := 115) (by decide) ?_
    exact hw_lv [1, 2, 0] rfl (H_w115 l2 (l3 + 1) s26)
theorem KL_X7_text_115 {G : hw_G} (C : hw_Ok G cX7_text RX7 4 5 (some .int) hw_TM) (hTL : hw_eT (hw_gE G) = hw_TM) : ∀ (n_ : Nat) (l2 : Int32) (l3 : Int32) (s0 : hw_St), hw_K G 4 hw_ri (L_X7_text_115 n_ l2 l3 s0) 115 [(0, hw_rv (hw_ea (hw_gE G)) 200), (2, .int l2), (3, .int l3)] [] s0 := by
  intro n_
  induction n_ with
  | zero => intros; exact hw_nil
  | succ n_ ih => intro l2 l3 s0; exact KS_X7_text_115 C hTL (L_X7_text_115 n_) ih l2 l3 s0
set_option maxRecDepth 20000 in
theorem KB_X7_text_33 {G : hw_G} (C : hw_Ok G cX7_text RX7 4 5 (some .int) hw_TM) (hTL : hw_eT (hw_gE G) = hw_TM) (k0 : Int32) (s0 : hw_St) : hw_K G 4 hw_ri (B_X7_text_33 k0 s0) 33 [(0, hw_rv (hw_ea (hw_gE G)) 200)] [.int k0] s0 := by
  unfold B_X7_text_33
  refine hw_istore_n C dX7_text_33 rfl (by decide) rfl ?_
  refine hw_aload_n C dX7_text_34 rfl 1 rfl ?_
  refine hw_iconst C dX7_text_35 (v := 0) (by decide) ?_
  refine hw_putI C cf_X7 lf_X7_177 hw_T200 rfl rfl dX7_text_36 (fun s11 => ?_)
  refine hw_iload_n C dX7_text_39 rfl 0 rfl ?_
  refine hw_if_ne C dX7_text_40 (tgt := 51) (by decide) (fun c12 => ?_) (fun c12 => ?_)
  · refine hw_aload_n C dX7_text_51 rfl 1 rfl ?_
    refine hw_getR C cf_X7 lf_X7_9 hw_T200 (t2 := 201) (by decide) dX7_text_52 ?_
    refine hw_iconst C dX7_text_55 (v := 4) (by decide) ?_
    refine hw_iald C hw_T201 (by decide) dX7_text_56 (fun h13 => ?_)
    refine hw_bipush C dX7_text_57 (v := 14) (by decide) ?_
    refine hw_icmp_ne C dX7_text_59 (tgt := 65) (by decide) (fun c14 => ?_) (fun c14 => ?_)
    · refine hw_aload_n C dX7_text_65 rfl 1 rfl ?_
      refine hw_getR C cf_X7 lf_X7_9 hw_T200 (t2 := 201) (by decide) dX7_text_66 ?_
      refine hw_iconst C dX7_text_69 (v := 4) (by decide) ?_
      refine hw_iald C hw_T201 (by decide) dX7_text_70 (fun h15 => ?_)
      refine hw_istore_nN C dX7_text_71 rfl (by decide) (fun _ => rfl) (fun x16 => ?_)
      refine hw_aload_n C dX7_text_72 rfl 2 rfl ?_
      refine hw_getR C cf_X7 lf_X7_9 hw_T200 (t2 := 201) (by decide) dX7_text_73 ?_
      refine hw_bipush C dX7_text_76 (v := 71) (by decide) ?_
      refine hw_iconst C dX7_text_78 (v := 2) (by decide) ?_
      refine hw_iload_n C dX7_text_79 rfl 0 rfl ?_
      refine hw_imul C dX7_text_80 ?_
      refine hw_iadd C dX7_text_81 ?_
      refine hw_sipush C dX7_text_82 (v := 1000) (by decide) ?_
      refine hw_aload_n C dX7_text_85 rfl 2 rfl ?_
      refine hw_getI C cf_X7 lf_X7_201 hw_T200 dX7_text_86 ?_
      refine hw_imul C dX7_text_89 ?_
      refine hw_aload_n C dX7_text_90 rfl 2 rfl ?_
      refine hw_getI C cf_X7 lf_X7_213 hw_T200 dX7_text_91 ?_
      refine hw_iadd C dX7_text_94 ?_
      refine hw_iast C hw_T201 (by decide) dX7_text_95 (fun h18 s17 => ?_)
      refine hw_aload_n C dX7_text_96 rfl 2 rfl ?_
      refine hw_getR C cf_X7 lf_X7_9 hw_T200 (t2 := 201) (by decide) dX7_text_97 ?_
      refine hw_bipush C dX7_text_100 (v := 71) (by decide) ?_
      refine hw_iconst C dX7_text_102 (v := 2) (by decide) ?_
      refine hw_iload_n C dX7_text_103 rfl 0 rfl ?_
      refine hw_imul C dX7_text_104 ?_
      refine hw_iadd C dX7_text_105 ?_
      refine hw_iconst C dX7_text_106 (v := 1) (by decide) ?_
      refine hw_iadd C dX7_text_107 ?_
      refine hw_aload_n C dX7_text_108 rfl 2 rfl ?_
      refine hw_getI C cf_X7 lf_X7_219 hw_T200 dX7_text_109 ?_
      refine hw_iast C hw_T201 (by decide) dX7_text_112 (fun h20 s19 => ?_)
      refine hw_iconst C dX7_text_113 (v := 0) (by decide) ?_
      refine hw_istore_n C dX7_text_114 rfl (by decide) rfl ?_
      exact hw_lv [3, 1, 0] rfl (KL_X7_text_115 C hTL 130 x16 (0 : Int32) s19)
    · refine hw_ldc C mw_156 dX7_text_62 ?_
      exact hw_iret C dX7_text_64
  · refine hw_bipush C dX7_text_43 (v := -100) (by decide) ?_
    refine hw_aload_n C dX7_text_45 rfl 1 rfl ?_
    refine hw_getI C cf_X7 lf_X7_183 hw_T200 dX7_text_46 ?_
    refine hw_isub C dX7_text_49 ?_
    exact hw_iret C dX7_text_50
set_option maxRecDepth 20000 in
theorem KB_X7_text_32 {G : hw_G} (C : hw_Ok G cX7_text RX7 4 5 (some .int) hw_TM) (hTL : hw_eT (hw_gE G) = hw_TM) (s0 : hw_St) : hw_K G 4 hw_ri (B_X7_text_32  s0) 32 [(0, hw_rv (hw_ea (hw_gE G)) 200)] [] s0 := by
  unfold B_X7_text_32
  refine hw_iconst C dX7_text_32 (v := 0) (by decide) ?_
  exact hw_lv [0] rfl (KB_X7_text_33 C hTL (0 : Int32) s0)
set_option maxRecDepth 20000 in
theorem M_X7_text (E : hw_E) (hE : hw_eT E = hw_TM) (s0 : hw_St) : hw_M E yX7_text cX7_text 4 (some .int) 5 [hw_rv (hw_ea E) 200] s0 hw_ri (F_X7_text  s0) := by
  refine hw_entry (own := RX7) (TL := hw_TM) (by decide) rfl hE (hw_cR hw_cN) (hw_l8 rfl) (fun G hG C => ?_)
  subst hG
  have hTL := hE
  show hw_K G 4 hw_ri _ 0 [(0, hw_rv (hw_ea (hw_gE G)) 200)] [] s0
  unfold F_X7_text
  refine hw_aload_n C dX7_text_0 rfl 0 rfl ?_
  refine hw_iconst C dX7_text_1 (v := 0) (by decide) ?_
  refine hw_putI C cf_X7 lf_X7_180 hw_T200 rfl rfl dX7_text_2 (fun s1 => ?_)
  refine hw_aload_n C dX7_text_5 rfl 0 rfl ?_
  refine hw_iconst C dX7_text_6 (v := -1) (by decide) ?_
  refine hw_putI C cf_X7 lf_X7_186 hw_T200 rfl rfl dX7_text_7 (fun s2 => ?_)
  refine hw_aload_n C dX7_text_10 rfl 0 rfl ?_
  refine hw_callVv C (M_X7_go (hw_gE G) hTL  s2) W_X7_go SV_X7_go cf_X7 hw_T200 mw_813 (by decide) rfl ⟨rfl, hw_l8 rfl⟩ dX7_text_11 (fun r3 s4 => ?_)
  refine hw_aload_n C dX7_text_14 rfl 0 rfl ?_
  refine hw_callVi C (M_X7_takesKey (hw_gE G) hTL  s4) W_X7_takesKey SV_X7_takesKey cf_X7 hw_T200 mw_827 (by decide) rfl ⟨rfl, hw_l8 rfl⟩ dX7_text_15 (fun r5 s6 => ?_)
  refine hw_if_eq C dX7_text_18 (tgt := 32) (by decide) (fun c7 => ?_) (fun c7 => ?_)
  · exact hw_lv [0] rfl (KB_X7_text_32 C hTL  s6)
  · refine hw_aload_n C dX7_text_21 rfl 0 rfl ?_
    refine hw_callVi C (M_X7_takesE (hw_gE G) hTL  s6) W_X7_takesE SV_X7_takesE cf_X7 hw_T200 mw_831 (by decide) rfl ⟨rfl, hw_l8 rfl⟩ dX7_text_22 (fun r8 s9 => ?_)
    refine hw_if_eq C dX7_text_25 (tgt := 32) (by decide) (fun c10 => ?_) (fun c10 => ?_)
    · exact hw_lv [0] rfl (KB_X7_text_32 C hTL  s9)
    · refine hw_iconst C dX7_text_28 (v := 1) (by decide) ?_
      refine hw_goto C dX7_text_29 (tgt := 33) (by decide) ?_
      exact hw_lv [0] rfl (KB_X7_text_33 C hTL (1 : Int32) s9)
/-! HumWireModel textTold(II)I, level 2 -/
def F_X7_textTold  (a1 : Int32) (a2 : Int32) (s0 : hw_St) : Option (Int32 × hw_St) := hw_gd (hw_inb (4 : Int32) 1443) (hw_bd (F_X7_in a1 (0 : Int32) ((s0 201 (4 : Int32).toNatClampNeg) - (1 : Int32)) s0) (fun r2 s3 => if r2 = 0 then (some ((-1000000001 : Int32), s3)) else (hw_bd (F_X7_in a2 (0 : Int32) (1 : Int32) s3) (fun r5 s6 => if r5 = 0 then (some ((-1000000001 : Int32), s6)) else (if a2 = 0 then (hw_gd (hw_inb ((71 : Int32) + ((2 : Int32) * a1)) 1443) (some (((s6 201 ((71 : Int32) + ((2 : Int32) * a1)).toNatClampNeg) / (1000 : Int32)), s6))) else (hw_gd (hw_inb (((71 : Int32) + ((2 : Int32) * a1)) + (1 : Int32)) 1443) (some ((s6 201 (((71 : Int32) + ((2 : Int32) * a1)) + (1 : Int32)).toNatClampNeg), s6))))))))
set_option maxRecDepth 20000 in
theorem M_X7_textTold (E : hw_E) (hE : hw_eT E = hw_TM) (a1 : Int32) (a2 : Int32) (s0 : hw_St) : hw_M E yX7_textTold cX7_textTold 3 (some .int) 2 [hw_rv (hw_ea E) 200, .int a1, .int a2] s0 hw_ri (F_X7_textTold a1 a2 s0) := by
  refine hw_entry (own := RX7) (TL := hw_TM) (by decide) rfl hE (hw_cR (hw_cI (hw_cI hw_cN))) (hw_l8 rfl) (fun G hG C => ?_)
  subst hG
  have hTL := hE
  show hw_K G 3 hw_ri _ 0 [(0, hw_rv (hw_ea (hw_gE G)) 200), (1, .int a1), (2, .int a2)] [] s0
  unfold F_X7_textTold
  refine hw_iload_n C dX7_textTold_0 rfl 1 rfl ?_
  refine hw_iconst C dX7_textTold_1 (v := 0) (by decide) ?_
  refine hw_aload_n C dX7_textTold_2 rfl 0 rfl ?_
  refine hw_getR C cf_X7 lf_X7_9 hw_T200 (t2 := 201) (by decide) dX7_textTold_3 ?_
  refine hw_iconst C dX7_textTold_6 (v := 4) (by decide) ?_
  refine hw_iald C hw_T201 (by decide) dX7_textTold_7 (fun h1 => ?_)
  refine hw_iconst C dX7_textTold_8 (v := 1) (by decide) ?_
  refine hw_isub C dX7_textTold_9 ?_
  refine hw_callSi C (M_X7_in (hw_gE G) hTL a1 (0 : Int32) ((s0 201 (4 : Int32).toNatClampNeg) - (1 : Int32)) s0) W_X7_in SS_X7_in mw_157 (by decide) rfl ⟨rfl, hw_l8 rfl⟩ dX7_textTold_10 (fun r2 s3 => ?_)
  refine hw_if_eq C dX7_textTold_13 (tgt := 25) (by decide) (fun c4 => ?_) (fun c4 => ?_)
  · refine hw_ldc C mw_155 dX7_textTold_25 ?_
    exact hw_iret C dX7_textTold_27
  · refine hw_iload_n C dX7_textTold_16 rfl 2 rfl ?_
    refine hw_iconst C dX7_textTold_17 (v := 0) (by decide) ?_
    refine hw_iconst C dX7_textTold_18 (v := 1) (by decide) ?_
    refine hw_callSi C (M_X7_in (hw_gE G) hTL a2 (0 : Int32) (1 : Int32) s3) W_X7_in SS_X7_in mw_157 (by decide) rfl ⟨rfl, hw_l8 rfl⟩ dX7_textTold_19 (fun r5 s6 => ?_)
    refine hw_if_ne C dX7_textTold_22 (tgt := 28) (by decide) (fun c7 => ?_) (fun c7 => ?_)
    · refine hw_iload_n C dX7_textTold_28 rfl 2 rfl ?_
      refine hw_if_ne C dX7_textTold_29 (tgt := 50) (by decide) (fun c8 => ?_) (fun c8 => ?_)
      · refine hw_aload_n C dX7_textTold_50 rfl 0 rfl ?_
        refine hw_getR C cf_X7 lf_X7_9 hw_T200 (t2 := 201) (by decide) dX7_textTold_51 ?_
        refine hw_bipush C dX7_textTold_54 (v := 71) (by decide) ?_
        refine hw_iconst C dX7_textTold_56 (v := 2) (by decide) ?_
        refine hw_iload_n C dX7_textTold_57 rfl 1 rfl ?_
        refine hw_imul C dX7_textTold_58 ?_
        refine hw_iadd C dX7_textTold_59 ?_
        refine hw_iconst C dX7_textTold_60 (v := 1) (by decide) ?_
        refine hw_iadd C dX7_textTold_61 ?_
        refine hw_iald C hw_T201 (by decide) dX7_textTold_62 (fun h9 => ?_)
        exact hw_iret C dX7_textTold_63
      · refine hw_aload_n C dX7_textTold_32 rfl 0 rfl ?_
        refine hw_getR C cf_X7 lf_X7_9 hw_T200 (t2 := 201) (by decide) dX7_textTold_33 ?_
        refine hw_bipush C dX7_textTold_36 (v := 71) (by decide) ?_
        refine hw_iconst C dX7_textTold_38 (v := 2) (by decide) ?_
        refine hw_iload_n C dX7_textTold_39 rfl 1 rfl ?_
        refine hw_imul C dX7_textTold_40 ?_
        refine hw_iadd C dX7_textTold_41 ?_
        refine hw_iald C hw_T201 (by decide) dX7_textTold_42 (fun h10 => ?_)
        refine hw_sipush C dX7_textTold_43 (v := 1000) (by decide) ?_
        refine hw_idivC C dX7_textTold_46 (by decide) ?_
        refine hw_goto C dX7_textTold_47 (tgt := 63) (by decide) ?_
        exact hw_iret C dX7_textTold_63
    · refine hw_ldc C mw_155 dX7_textTold_25 ?_
      exact hw_iret C dX7_textTold_27
/-! HumWireModel why(I)I, level 2 -/
def F_X7_why  (a1 : Int32) (s0 : hw_St) : Option (Int32 × hw_St) := hw_bd (F_X7_in a1 (0 : Int32) (2 : Int32) s0) (fun r1 s2 => if r1 = 0 then (some ((-1000000001 : Int32), s2)) else (hw_bd (F_X7_counts a1 s2) (fun r4 s5 => if 0 ≤ r4 then (some (r4, s5)) else (some ((-1000000005 : Int32), s5)))))
set_option maxRecDepth 20000 in
theorem M_X7_why (E : hw_E) (hE : hw_eT E = hw_TM) (a1 : Int32) (s0 : hw_St) : hw_M E yX7_why cX7_why 3 (some .int) 2 [hw_rv (hw_ea E) 200, .int a1] s0 hw_ri (F_X7_why a1 s0) := by
  refine hw_entry (own := RX7) (TL := hw_TM) (by decide) rfl hE (hw_cR (hw_cI hw_cN)) (hw_l8 rfl) (fun G hG C => ?_)
  subst hG
  have hTL := hE
  show hw_K G 3 hw_ri _ 0 [(0, hw_rv (hw_ea (hw_gE G)) 200), (1, .int a1)] [] s0
  unfold F_X7_why
  refine hw_iload_n C dX7_why_0 rfl 1 rfl ?_
  refine hw_iconst C dX7_why_1 (v := 0) (by decide) ?_
  refine hw_iconst C dX7_why_2 (v := 2) (by decide) ?_
  refine hw_callSi C (M_X7_in (hw_gE G) hTL a1 (0 : Int32) (2 : Int32) s0) W_X7_in SS_X7_in mw_157 (by decide) rfl ⟨rfl, hw_l8 rfl⟩ dX7_why_3 (fun r1 s2 => ?_)
  refine hw_if_ne C dX7_why_6 (tgt := 12) (by decide) (fun c3 => ?_) (fun c3 => ?_)
  · refine hw_aload_n C dX7_why_12 rfl 0 rfl ?_
    refine hw_iload_n C dX7_why_13 rfl 1 rfl ?_
    refine hw_callVi C (M_X7_counts (hw_gE G) hTL a1 s2) W_X7_counts SV_X7_counts cf_X7 hw_T200 mw_404 (by decide) rfl ⟨rfl, hw_l8 rfl⟩ dX7_why_14 (fun r4 s5 => ?_)
    refine hw_istore_n C dX7_why_17 rfl (by decide) rfl ?_
    refine hw_iload_n C dX7_why_18 rfl 0 rfl ?_
    refine hw_if_ge C dX7_why_19 (tgt := 27) (by decide) (fun c6 => ?_) (fun c6 => ?_)
    · refine hw_iload_n C dX7_why_27 rfl 0 rfl ?_
      exact hw_iret C dX7_why_28
    · refine hw_ldc C mw_483 dX7_why_22 ?_
      refine hw_goto C dX7_why_24 (tgt := 28) (by decide) ?_
      exact hw_iret C dX7_why_28
  · refine hw_ldc C mw_155 dX7_why_9 ?_
    exact hw_iret C dX7_why_11
/-! HumWireModel isSheet(I)Z, level 2 -/
def F_X7_isSheet  (a0 : Int32) (s0 : hw_St) : Option (Int32 × hw_St) := hw_bd (F_X7_in a0 (0 : Int32) (3 : Int32) s0) (fun r1 s2 => hw_gd (hw_isb r1) (some (r1, s2)))
set_option maxRecDepth 20000 in
theorem M_X7_isSheet (E : hw_E) (hE : hw_eT E = hw_TM) (a0 : Int32) (s0 : hw_St) : hw_M E yX7_isSheet cX7_isSheet 1 (some .boolean) 2 [.int a0] s0 hw_ri (F_X7_isSheet a0 s0) := by
  refine hw_entry (own := RX7) (TL := hw_TM) (by decide) rfl hE (hw_cI hw_cN) (hw_l8 rfl) (fun G hG C => ?_)
  subst hG
  have hTL := hE
  show hw_K G 1 hw_ri _ 0 [(0, .int a0)] [] s0
  unfold F_X7_isSheet
  refine hw_iload_n C dX7_isSheet_0 rfl 0 rfl ?_
  refine hw_iconst C dX7_isSheet_1 (v := 0) (by decide) ?_
  refine hw_iconst C dX7_isSheet_2 (v := 3) (by decide) ?_
  refine hw_callSi C (M_X7_in (hw_gE G) hTL a0 (0 : Int32) (3 : Int32) s0) W_X7_in SS_X7_in mw_157 (by decide) rfl ⟨rfl, hw_l8 rfl⟩ dX7_isSheet_3 (fun r1 s2 => ?_)
  exact hw_zret C dX7_isSheet_6
/-! HumWireModel isSlot(I)Z, level 2 -/
def F_X7_isSlot  (a0 : Int32) (s0 : hw_St) : Option (Int32 × hw_St) := hw_bd (F_X7_in a0 (0 : Int32) (4 : Int32) s0) (fun r1 s2 => hw_gd (hw_isb r1) (some (r1, s2)))
set_option maxRecDepth 20000 in
theorem M_X7_isSlot (E : hw_E) (hE : hw_eT E = hw_TM) (a0 : Int32) (s0 : hw_St) : hw_M E yX7_isSlot cX7_isSlot 1 (some .boolean) 2 [.int a0] s0 hw_ri (F_X7_isSlot a0 s0) := by
  refine hw_entry (own := RX7) (TL := hw_TM) (by decide) rfl hE (hw_cI hw_cN) (hw_l8 rfl) (fun G hG C => ?_)
  subst hG
  have hTL := hE
  show hw_K G 1 hw_ri _ 0 [(0, .int a0)] [] s0
  unfold F_X7_isSlot
  refine hw_iload_n C dX7_isSlot_0 rfl 0 rfl ?_
  refine hw_iconst C dX7_isSlot_1 (v := 0) (by decide) ?_
  refine hw_iconst C dX7_isSlot_2 (v := 4) (by decide) ?_
  refine hw_callSi C (M_X7_in (hw_gE G) hTL a0 (0 : Int32) (4 : Int32) s0) W_X7_in SS_X7_in mw_157 (by decide) rfl ⟨rfl, hw_l8 rfl⟩ dX7_isSlot_3 (fun r1 s2 => ?_)
  exact hw_zret C dX7_isSlot_6
/-! HumWireModel sheet(III)I, level 3 -/
def S_X7_sheet_65  (w65 : Int32 → Int32 → hw_St → Option (Int32 × hw_St)) (l1 : Int32) (l4 : Int32) (s0 : hw_St) : Option (Int32 × hw_St) := if (24 : Int32) ≤ l4 then (hw_gd (hw_inb l1 4) (some ((s0 215 l1.toNatClampNeg), s0))) else (hw_gd (hw_inb (((24 : Int32) * l1) + l4) 96) (hw_nm (hw_up s0 216 (((24 : Int32) * l1) + l4).toNatClampNeg (0 : Int32)) (fun s18 => w65 l1 (l4 + 1) s18)))
def L_X7_sheet_65  : Nat → Int32 → Int32 → hw_St → Option (Int32 × hw_St)
  | 0 => fun _ _ _ => none
  | n + 1 => S_X7_sheet_65  (L_X7_sheet_65  n)
def B_X7_sheet_61  (l1 : Int32) (k0 : Int32) (k1 : Int32) (s0 : hw_St) : Option (Int32 × hw_St) := hw_gd (hw_inb k1 4) (hw_nm (hw_up s0 215 k1.toNatClampNeg k0) (fun s14 => L_X7_sheet_65 130 l1 (0 : Int32) s14))
def B_X7_sheet_40  (l1 : Int32) (l2 : Int32) (l3 : Int32) (s0 : hw_St) : Option (Int32 × hw_St) := hw_gd (hw_inb l1 4) (hw_nm (hw_up s0 214 l1.toNatClampNeg l2) (fun s11 => if 0 ≤ l2 then (B_X7_sheet_61 l1 l3 l1 s11) else (B_X7_sheet_61 l1 (0 : Int32) l1 s11)))
def B_X7_sheet_29  (l1 : Int32) (l2 : Int32) (l3 : Int32) (s0 : hw_St) : Option (Int32 × hw_St) := if l2 < 0 then (B_X7_sheet_40 l1 l2 l3 s0) else (if 0 ≤ l3 then (B_X7_sheet_40 l1 l2 l3 s0) else (some ((-1000000014 : Int32), s0)))
def F_X7_sheet  (a1 : Int32) (a2 : Int32) (a3 : Int32) (s0 : hw_St) : Option (Int32 × hw_St) := hw_bd (F_X7_isSheet a1 s0) (fun r1 s2 => if r1 = 0 then (some ((-1000000001 : Int32), s2)) else (hw_bd (F_X7_in a2 (-1 : Int32) (1 : Int32) s2) (fun r4 s5 => if r4 = 0 then (some ((-1000000001 : Int32), s5)) else (if a2 < 0 then (B_X7_sheet_29 a1 a2 a3 s5) else (if a3 ≤ (24 : Int32) then (B_X7_sheet_29 a1 a2 a3 s5) else (some ((-1000000001 : Int32), s5)))))))
set_option maxRecDepth 20000 in
theorem KS_X7_sheet_65 {G : hw_G} (C : hw_Ok G cX7_sheet RX7 5 3 (some .int) hw_TM) (hTL : hw_eT (hw_gE G) = hw_TM) (w65 : Int32 → Int32 → hw_St → Option (Int32 × hw_St)) (H_w65 : ∀ (l1 : Int32) (l4 : Int32) (s0 : hw_St), hw_K G 5 hw_ri (w65 l1 l4 s0) 65 [(0, hw_rv (hw_ea (hw_gE G)) 200), (1, .int l1), (4, .int l4)] [] s0) (l1 : Int32) (l4 : Int32) (s0 : hw_St) : hw_K G 5 hw_ri (S_X7_sheet_65 w65 l1 l4 s0) 65 [(0, hw_rv (hw_ea (hw_gE G)) 200), (1, .int l1), (4, .int l4)] [] s0 := by
  unfold S_X7_sheet_65
  refine hw_iload C dX7_sheet_65 2 rfl ?_
  refine hw_bipush C dX7_sheet_67 (v := 24) (by decide) ?_
  refine hw_icmp_ge C dX7_sheet_69 (tgt := 91) (by decide) (fun c16 => ?_) (fun c16 => ?_)
  · refine hw_aload_n C dX7_sheet_91 rfl 0 rfl ?_
    refine hw_getR C cf_X7 lf_X7_54 hw_T200 (t2 := 215) (by decide) dX7_sheet_92 ?_
    refine hw_iload_n C dX7_sheet_95 rfl 1 rfl ?_
    refine hw_iald C hw_T215 (by decide) dX7_sheet_96 (fun h17 => ?_)
    exact hw_iret C dX7_sheet_97
  · refine hw_aload_n C dX7_sheet_72 rfl 0 rfl ?_
    refine hw_getR C cf_X7 lf_X7_57 hw_T200 (t2 := 216) (by decide) dX7_sheet_73 ?_
    refine hw_bipush C dX7_sheet_76 (v := 24) (by decide) ?_
    refine hw_iload_n C dX7_sheet_78 rfl 1 rfl ?_
    refine hw_imul C dX7_sheet_79 ?_
    refine hw_iload C dX7_sheet_80 2 rfl ?_
    refine hw_iadd C dX7_sheet_82 ?_
    refine hw_iconst C dX7_sheet_83 (v := 0) (by decide) ?_
    refine hw_iast C hw_T216 (by decide) dX7_sheet_84 (fun h19 s18 => ?_)
    refine hw_iinc C dX7_sheet_85 2 rfl (v := 1) (by decide) (by decide) rfl ?_
    refine hw_goto C dX7_sheet_88 (tgt := 65) (by decide) ?_
    exact hw_lv [1, 2, 0] rfl (H_w65 l1 (l4 + 1) s18)
theorem KL_X7_sheet_65 {G : hw_G} (C : hw_Ok G cX7_sheet RX7 5 3 (some .int) hw_TM) (hTL : hw_eT (hw_gE G) = hw_TM) : ∀ (n_ : Nat) (l1 : Int32) (l4 : Int32) (s0 : hw_St), hw_K G 5 hw_ri (L_X7_sheet_65 n_ l1 l4 s0) 65 [(0, hw_rv (hw_ea (hw_gE G)) 200), (1, .int l1), (4, .int l4)] [] s0 := by
  intro n_
  induction n_ with
  | zero => intros; exact hw_nil
  | succ n_ ih => intro l1 l4 s0; exact KS_X7_sheet_65 C hTL (L_X7_sheet_65 n_) ih l1 l4 s0
set_option maxRecDepth 20000 in
theorem KB_X7_sheet_61 {G : hw_G} (C : hw_Ok G cX7_sheet RX7 5 3 (some .int) hw_TM) (hTL : hw_eT (hw_gE G) = hw_TM) (l1 : Int32) (k0 : Int32) (k1 : Int32) (s0 : hw_St) : hw_K G 5 hw_ri (B_X7_sheet_61 l1 k0 k1 s0) 61 [(0, hw_rv (hw_ea (hw_gE G)) 200), (1, .int l1)] [.int k0, .int k1, hw_rv (hw_ea (hw_gE G)) 215] s0 := by
  unfold B_X7_sheet_61
  refine hw_iast C hw_T215 (by decide) dX7_sheet_61 (fun h15 s14 => ?_)
  refine hw_iconst C dX7_sheet_62 (v := 0) (by decide) ?_
  refine hw_istore C dX7_sheet_63 (by decide) rfl ?_
  exact hw_lv [1, 2, 0] rfl (KL_X7_sheet_65 C hTL 130 l1 (0 : Int32) s14)
set_option maxRecDepth 20000 in
theorem KB_X7_sheet_40 {G : hw_G} (C : hw_Ok G cX7_sheet RX7 5 3 (some .int) hw_TM) (hTL : hw_eT (hw_gE G) = hw_TM) (l1 : Int32) (l2 : Int32) (l3 : Int32) (s0 : hw_St) : hw_K G 5 hw_ri (B_X7_sheet_40 l1 l2 l3 s0) 40 [(0, hw_rv (hw_ea (hw_gE G)) 200), (1, .int l1), (2, .int l2), (3, .int l3)] [] s0 := by
  unfold B_X7_sheet_40
  refine hw_aload_n C dX7_sheet_40 rfl 0 rfl ?_
  refine hw_getR C cf_X7 lf_X7_51 hw_T200 (t2 := 214) (by decide) dX7_sheet_41 ?_
  refine hw_iload_n C dX7_sheet_44 rfl 1 rfl ?_
  refine hw_iload_n C dX7_sheet_45 rfl 2 rfl ?_
  refine hw_iast C hw_T214 (by decide) dX7_sheet_46 (fun h12 s11 => ?_)
  refine hw_aload_n C dX7_sheet_47 rfl 0 rfl ?_
  refine hw_getR C cf_X7 lf_X7_54 hw_T200 (t2 := 215) (by decide) dX7_sheet_48 ?_
  refine hw_iload_n C dX7_sheet_51 rfl 1 rfl ?_
  refine hw_iload_n C dX7_sheet_52 rfl 2 rfl ?_
  refine hw_if_ge C dX7_sheet_53 (tgt := 60) (by decide) (fun c13 => ?_) (fun c13 => ?_)
  · refine hw_iload_n C dX7_sheet_60 rfl 3 rfl ?_
    exact hw_lv [0, 1] rfl (KB_X7_sheet_61 C hTL l1 l3 l1 s11)
  · refine hw_iconst C dX7_sheet_56 (v := 0) (by decide) ?_
    refine hw_goto C dX7_sheet_57 (tgt := 61) (by decide) ?_
    exact hw_lv [0, 1] rfl (KB_X7_sheet_61 C hTL l1 (0 : Int32) l1 s11)
set_option maxRecDepth 20000 in
theorem KB_X7_sheet_29 {G : hw_G} (C : hw_Ok G cX7_sheet RX7 5 3 (some .int) hw_TM) (hTL : hw_eT (hw_gE G) = hw_TM) (l1 : Int32) (l2 : Int32) (l3 : Int32) (s0 : hw_St) : hw_K G 5 hw_ri (B_X7_sheet_29 l1 l2 l3 s0) 29 [(0, hw_rv (hw_ea (hw_gE G)) 200), (1, .int l1), (2, .int l2), (3, .int l3)] [] s0 := by
  unfold B_X7_sheet_29
  refine hw_iload_n C dX7_sheet_29 rfl 2 rfl ?_
  refine hw_if_lt C dX7_sheet_30 (tgt := 40) (by decide) (fun c9 => ?_) (fun c9 => ?_)
  · exact hw_lv [0, 1, 2, 3] rfl (KB_X7_sheet_40 C hTL l1 l2 l3 s0)
  · refine hw_iload_n C dX7_sheet_33 rfl 3 rfl ?_
    refine hw_if_ge C dX7_sheet_34 (tgt := 40) (by decide) (fun c10 => ?_) (fun c10 => ?_)
    · exact hw_lv [0, 1, 2, 3] rfl (KB_X7_sheet_40 C hTL l1 l2 l3 s0)
    · refine hw_ldc C mw_890 dX7_sheet_37 ?_
      exact hw_iret C dX7_sheet_39
set_option maxRecDepth 20000 in
theorem M_X7_sheet (E : hw_E) (hE : hw_eT E = hw_TM) (a1 : Int32) (a2 : Int32) (a3 : Int32) (s0 : hw_St) : hw_M E yX7_sheet cX7_sheet 5 (some .int) 3 [hw_rv (hw_ea E) 200, .int a1, .int a2, .int a3] s0 hw_ri (F_X7_sheet a1 a2 a3 s0) := by
  refine hw_entry (own := RX7) (TL := hw_TM) (by decide) rfl hE (hw_cR (hw_cI (hw_cI (hw_cI hw_cN)))) (hw_l8 rfl) (fun G hG C => ?_)
  subst hG
  have hTL := hE
  show hw_K G 5 hw_ri _ 0 [(0, hw_rv (hw_ea (hw_gE G)) 200), (1, .int a1), (2, .int a2), (3, .int a3)] [] s0
  unfold F_X7_sheet
  refine hw_iload_n C dX7_sheet_0 rfl 1 rfl ?_
  refine hw_callSi C (M_X7_isSheet (hw_gE G) hTL a1 s0) W_X7_isSheet SS_X7_isSheet mw_580 (by decide) rfl ⟨rfl, hw_l8 rfl⟩ dX7_sheet_1 (fun r1 s2 => ?_)
  refine hw_if_eq C dX7_sheet_4 (tgt := 26) (by decide) (fun c3 => ?_) (fun c3 => ?_)
  · refine hw_ldc C mw_155 dX7_sheet_26 ?_
    exact hw_iret C dX7_sheet_28
  · refine hw_iload_n C dX7_sheet_7 rfl 2 rfl ?_
    refine hw_iconst C dX7_sheet_8 (v := -1) (by decide) ?_
    refine hw_iconst C dX7_sheet_9 (v := 1) (by decide) ?_
    refine hw_callSi C (M_X7_in (hw_gE G) hTL a2 (-1 : Int32) (1 : Int32) s2) W_X7_in SS_X7_in mw_157 (by decide) rfl ⟨rfl, hw_l8 rfl⟩ dX7_sheet_10 (fun r4 s5 => ?_)
    refine hw_if_eq C dX7_sheet_13 (tgt := 26) (by decide) (fun c6 => ?_) (fun c6 => ?_)
    · refine hw_ldc C mw_155 dX7_sheet_26 ?_
      exact hw_iret C dX7_sheet_28
    · refine hw_iload_n C dX7_sheet_16 rfl 2 rfl ?_
      refine hw_if_lt C dX7_sheet_17 (tgt := 29) (by decide) (fun c7 => ?_) (fun c7 => ?_)
      · exact hw_lv [0, 1, 2, 3] rfl (KB_X7_sheet_29 C hTL a1 a2 a3 s5)
      · refine hw_iload_n C dX7_sheet_20 rfl 3 rfl ?_
        refine hw_bipush C dX7_sheet_21 (v := 24) (by decide) ?_
        refine hw_icmp_le C dX7_sheet_23 (tgt := 29) (by decide) (fun c8 => ?_) (fun c8 => ?_)
        · exact hw_lv [0, 1, 2, 3] rfl (KB_X7_sheet_29 C hTL a1 a2 a3 s5)
        · refine hw_ldc C mw_155 dX7_sheet_26 ?_
          exact hw_iret C dX7_sheet_28
/-! HumWireModel mark(III)I, level 3 -/
def B_X7_mark_114  (k0 : Int32) (k1 : Int32) (s0 : hw_St) : Option (Int32 × hw_St) := hw_gd (hw_inb k1 96) (hw_nm (hw_up s0 216 k1.toNatClampNeg k0) (fun s21 => some ((1 : Int32), s21)))
def B_X7_mark_89  (l1 : Int32) (l2 : Int32) (l3 : Int32) (s0 : hw_St) : Option (Int32 × hw_St) := hw_gd (hw_inb l1 4) (if (s0 214 l1.toNatClampNeg) = 0 then (B_X7_mark_114 l3.toInt16.toInt32 (((24 : Int32) * l1) + l2) s0) else (B_X7_mark_114 l3 (((24 : Int32) * l1) + l2) s0))
def B_X7_mark_59  (l1 : Int32) (l2 : Int32) (l3 : Int32) (s0 : hw_St) : Option (Int32 × hw_St) := hw_gd (hw_inb l1 4) (if (s0 214 l1.toNatClampNeg) = (1 : Int32) then (if l3 = (-1000000005 : Int32) then (B_X7_mark_89 l1 l2 l3 s0) else (hw_bd (F_X7_in l3 (-99999 : Int32) (99999 : Int32) s0) (fun r16 s17 => if r16 = 0 then (some ((-1000000001 : Int32), s17)) else (B_X7_mark_89 l1 l2 l3 s17)))) else (B_X7_mark_89 l1 l2 l3 s0))
def F_X7_mark  (a1 : Int32) (a2 : Int32) (a3 : Int32) (s0 : hw_St) : Option (Int32 × hw_St) := hw_bd (F_X7_isSheet a1 s0) (fun r1 s2 => if r1 = 0 then (some ((-1000000001 : Int32), s2)) else (hw_gd (hw_inb a1 4) (if 0 ≤ (s2 214 a1.toNatClampNeg) then (hw_gd (hw_inb a1 4) (hw_bd (F_X7_in a2 (0 : Int32) ((s2 215 a1.toNatClampNeg) - (1 : Int32)) s2) (fun r7 s8 => if r7 = 0 then (some ((-1000000013 : Int32), s8)) else (hw_gd (hw_inb a1 4) (if (s8 214 a1.toNatClampNeg) = 0 then (if a3 = (-1000000005 : Int32) then (some ((-1000000012 : Int32), s8)) else (B_X7_mark_59 a1 a2 a3 s8)) else (B_X7_mark_59 a1 a2 a3 s8)))))) else (some ((-1000000011 : Int32), s2)))))
set_option maxRecDepth 20000 in
theorem KB_X7_mark_114 {G : hw_G} (C : hw_Ok G cX7_mark RX7 4 3 (some .int) hw_TM) (hTL : hw_eT (hw_gE G) = hw_TM) (k0 : Int32) (k1 : Int32) (s0 : hw_St) : hw_K G 4 hw_ri (B_X7_mark_114 k0 k1 s0) 114 [] [.int k0, .int k1, hw_rv (hw_ea (hw_gE G)) 216] s0 := by
  unfold B_X7_mark_114
  refine hw_iast C hw_T216 (by decide) dX7_mark_114 (fun h22 s21 => ?_)
  refine hw_iconst C dX7_mark_115 (v := 1) (by decide) ?_
  exact hw_iret C dX7_mark_116
set_option maxRecDepth 20000 in
theorem KB_X7_mark_89 {G : hw_G} (C : hw_Ok G cX7_mark RX7 4 3 (some .int) hw_TM) (hTL : hw_eT (hw_gE G) = hw_TM) (l1 : Int32) (l2 : Int32) (l3 : Int32) (s0 : hw_St) : hw_K G 4 hw_ri (B_X7_mark_89 l1 l2 l3 s0) 89 [(0, hw_rv (hw_ea (hw_gE G)) 200), (1, .int l1), (2, .int l2), (3, .int l3)] [] s0 := by
  unfold B_X7_mark_89
  refine hw_aload_n C dX7_mark_89 rfl 0 rfl ?_
  refine hw_getR C cf_X7 lf_X7_57 hw_T200 (t2 := 216) (by decide) dX7_mark_90 ?_
  refine hw_bipush C dX7_mark_93 (v := 24) (by decide) ?_
  refine hw_iload_n C dX7_mark_95 rfl 1 rfl ?_
  refine hw_imul C dX7_mark_96 ?_
  refine hw_iload_n C dX7_mark_97 rfl 2 rfl ?_
  refine hw_iadd C dX7_mark_98 ?_
  refine hw_aload_n C dX7_mark_99 rfl 0 rfl ?_
  refine hw_getR C cf_X7 lf_X7_51 hw_T200 (t2 := 214) (by decide) dX7_mark_100 ?_
  refine hw_iload_n C dX7_mark_103 rfl 1 rfl ?_
  refine hw_iald C hw_T214 (by decide) dX7_mark_104 (fun h19 => ?_)
  refine hw_if_ne C dX7_mark_105 (tgt := 113) (by decide) (fun c20 => ?_) (fun c20 => ?_)
  · refine hw_iload_n C dX7_mark_113 rfl 3 rfl ?_
    exact hw_lv [] rfl (KB_X7_mark_114 C hTL l3 (((24 : Int32) * l1) + l2) s0)
  · refine hw_iload_n C dX7_mark_108 rfl 3 rfl ?_
    refine hw_c_i2s C dX7_mark_109 ?_
    refine hw_goto C dX7_mark_110 (tgt := 114) (by decide) ?_
    exact hw_lv [] rfl (KB_X7_mark_114 C hTL l3.toInt16.toInt32 (((24 : Int32) * l1) + l2) s0)
set_option maxRecDepth 20000 in
theorem KB_X7_mark_59 {G : hw_G} (C : hw_Ok G cX7_mark RX7 4 3 (some .int) hw_TM) (hTL : hw_eT (hw_gE G) = hw_TM) (l1 : Int32) (l2 : Int32) (l3 : Int32) (s0 : hw_St) : hw_K G 4 hw_ri (B_X7_mark_59 l1 l2 l3 s0) 59 [(0, hw_rv (hw_ea (hw_gE G)) 200), (1, .int l1), (2, .int l2), (3, .int l3)] [] s0 := by
  unfold B_X7_mark_59
  refine hw_aload_n C dX7_mark_59 rfl 0 rfl ?_
  refine hw_getR C cf_X7 lf_X7_51 hw_T200 (t2 := 214) (by decide) dX7_mark_60 ?_
  refine hw_iload_n C dX7_mark_63 rfl 1 rfl ?_
  refine hw_iald C hw_T214 (by decide) dX7_mark_64 (fun h13 => ?_)
  refine hw_iconst C dX7_mark_65 (v := 1) (by decide) ?_
  refine hw_icmp_ne C dX7_mark_66 (tgt := 89) (by decide) (fun c14 => ?_) (fun c14 => ?_)
  · exact hw_lv [0, 1, 2, 3] rfl (KB_X7_mark_89 C hTL l1 l2 l3 s0)
  · refine hw_iload_n C dX7_mark_69 rfl 3 rfl ?_
    refine hw_ldc C mw_483 dX7_mark_70 ?_
    refine hw_icmp_eq C dX7_mark_72 (tgt := 89) (by decide) (fun c15 => ?_) (fun c15 => ?_)
    · exact hw_lv [0, 1, 2, 3] rfl (KB_X7_mark_89 C hTL l1 l2 l3 s0)
    · refine hw_iload_n C dX7_mark_75 rfl 3 rfl ?_
      refine hw_ldc C mw_904 dX7_mark_76 ?_
      refine hw_ldc C mw_524 dX7_mark_78 ?_
      refine hw_callSi C (M_X7_in (hw_gE G) hTL l3 (-99999 : Int32) (99999 : Int32) s0) W_X7_in SS_X7_in mw_157 (by decide) rfl ⟨rfl, hw_l8 rfl⟩ dX7_mark_80 (fun r16 s17 => ?_)
      refine hw_if_ne C dX7_mark_83 (tgt := 89) (by decide) (fun c18 => ?_) (fun c18 => ?_)
      · exact hw_lv [0, 1, 2, 3] rfl (KB_X7_mark_89 C hTL l1 l2 l3 s17)
      · refine hw_ldc C mw_155 dX7_mark_86 ?_
        exact hw_iret C dX7_mark_88
set_option maxRecDepth 20000 in
theorem M_X7_mark (E : hw_E) (hE : hw_eT E = hw_TM) (a1 : Int32) (a2 : Int32) (a3 : Int32) (s0 : hw_St) : hw_M E yX7_mark cX7_mark 4 (some .int) 3 [hw_rv (hw_ea E) 200, .int a1, .int a2, .int a3] s0 hw_ri (F_X7_mark a1 a2 a3 s0) := by
  refine hw_entry (own := RX7) (TL := hw_TM) (by decide) rfl hE (hw_cR (hw_cI (hw_cI (hw_cI hw_cN)))) (hw_l8 rfl) (fun G hG C => ?_)
  subst hG
  have hTL := hE
  show hw_K G 4 hw_ri _ 0 [(0, hw_rv (hw_ea (hw_gE G)) 200), (1, .int a1), (2, .int a2), (3, .int a3)] [] s0
  unfold F_X7_mark
  refine hw_iload_n C dX7_mark_0 rfl 1 rfl ?_
  refine hw_callSi C (M_X7_isSheet (hw_gE G) hTL a1 s0) W_X7_isSheet SS_X7_isSheet mw_580 (by decide) rfl ⟨rfl, hw_l8 rfl⟩ dX7_mark_1 (fun r1 s2 => ?_)
  refine hw_if_ne C dX7_mark_4 (tgt := 10) (by decide) (fun c3 => ?_) (fun c3 => ?_)
  · refine hw_aload_n C dX7_mark_10 rfl 0 rfl ?_
    refine hw_getR C cf_X7 lf_X7_51 hw_T200 (t2 := 214) (by decide) dX7_mark_11 ?_
    refine hw_iload_n C dX7_mark_14 rfl 1 rfl ?_
    refine hw_iald C hw_T214 (by decide) dX7_mark_15 (fun h4 => ?_)
    refine hw_if_ge C dX7_mark_16 (tgt := 22) (by decide) (fun c5 => ?_) (fun c5 => ?_)
    · refine hw_iload_n C dX7_mark_22 rfl 2 rfl ?_
      refine hw_iconst C dX7_mark_23 (v := 0) (by decide) ?_
      refine hw_aload_n C dX7_mark_24 rfl 0 rfl ?_
      refine hw_getR C cf_X7 lf_X7_54 hw_T200 (t2 := 215) (by decide) dX7_mark_25 ?_
      refine hw_iload_n C dX7_mark_28 rfl 1 rfl ?_
      refine hw_iald C hw_T215 (by decide) dX7_mark_29 (fun h6 => ?_)
      refine hw_iconst C dX7_mark_30 (v := 1) (by decide) ?_
      refine hw_isub C dX7_mark_31 ?_
      refine hw_callSi C (M_X7_in (hw_gE G) hTL a2 (0 : Int32) ((s2 215 a1.toNatClampNeg) - (1 : Int32)) s2) W_X7_in SS_X7_in mw_157 (by decide) rfl ⟨rfl, hw_l8 rfl⟩ dX7_mark_32 (fun r7 s8 => ?_)
      refine hw_if_ne C dX7_mark_35 (tgt := 41) (by decide) (fun c9 => ?_) (fun c9 => ?_)
      · refine hw_aload_n C dX7_mark_41 rfl 0 rfl ?_
        refine hw_getR C cf_X7 lf_X7_51 hw_T200 (t2 := 214) (by decide) dX7_mark_42 ?_
        refine hw_iload_n C dX7_mark_45 rfl 1 rfl ?_
        refine hw_iald C hw_T214 (by decide) dX7_mark_46 (fun h10 => ?_)
        refine hw_if_ne C dX7_mark_47 (tgt := 59) (by decide) (fun c11 => ?_) (fun c11 => ?_)
        · exact hw_lv [0, 1, 2, 3] rfl (KB_X7_mark_59 C hTL a1 a2 a3 s8)
        · refine hw_iload_n C dX7_mark_50 rfl 3 rfl ?_
          refine hw_ldc C mw_483 dX7_mark_51 ?_
          refine hw_icmp_ne C dX7_mark_53 (tgt := 59) (by decide) (fun c12 => ?_) (fun c12 => ?_)
          · exact hw_lv [0, 1, 2, 3] rfl (KB_X7_mark_59 C hTL a1 a2 a3 s8)
          · refine hw_ldc C mw_219 dX7_mark_56 ?_
            exact hw_iret C dX7_mark_58
      · refine hw_ldc C mw_903 dX7_mark_38 ?_
        exact hw_iret C dX7_mark_40
    · refine hw_ldc C mw_579 dX7_mark_19 ?_
      exact hw_iret C dX7_mark_21
  · refine hw_ldc C mw_155 dX7_mark_7 ?_
    exact hw_iret C dX7_mark_9
/-! HumWireModel heard(I)I, level 8 -/
def B_X7_heard_104  (w30 : Int32 → Int32 → Int32 → Int32 → hw_St → Option (Int32 × hw_St)) (w53 : Int32 → Int32 → Int32 → Int32 → Int32 → Int32 → hw_St → Option (Int32 × hw_St)) (l1 : Int32) (l2 : Int32) (l3 : Int32) (l4 : Int32) (l6 : Int32) (k0 : Int32) (k1 : Int32) (s0 : hw_St) : Option (Int32 × hw_St) := hw_nm (k1 + k0) (fun x19 => w53 l1 l2 l3 l4 x19 (l6 + 1) s0)
def B_X7_heard_103  (w30 : Int32 → Int32 → Int32 → Int32 → hw_St → Option (Int32 × hw_St)) (w53 : Int32 → Int32 → Int32 → Int32 → Int32 → Int32 → hw_St → Option (Int32 × hw_St)) (l1 : Int32) (l2 : Int32) (l3 : Int32) (l4 : Int32) (l6 : Int32) (k0 : Int32) (s0 : hw_St) : Option (Int32 × hw_St) := B_X7_heard_104 w30 w53 l1 l2 l3 l4 l6 (0 : Int32) k0 s0
def B_X7_heard_138  (w30 : Int32 → Int32 → Int32 → Int32 → hw_St → Option (Int32 × hw_St)) (l1 : Int32) (l2 : Int32) (l4 : Int32) (k0 : Int32) (s0 : hw_St) : Option (Int32 × hw_St) := w30 l1 l2 k0 (l4 + 1) s0
def B_X7_heard_125  (w30 : Int32 → Int32 → Int32 → Int32 → hw_St → Option (Int32 × hw_St)) (l1 : Int32) (l3 : Int32) (l4 : Int32) (l5 : Int32) (k0 : Int32) (s0 : hw_St) : Option (Int32 × hw_St) := if l5 ≤ l3 then (B_X7_heard_138 w30 l1 k0 l4 l3 s0) else (B_X7_heard_138 w30 l1 k0 l4 l5 s0)
def S_X7_heard_53  (w30 : Int32 → Int32 → Int32 → Int32 → hw_St → Option (Int32 × hw_St)) (w53 : Int32 → Int32 → Int32 → Int32 → Int32 → Int32 → hw_St → Option (Int32 × hw_St)) (l1 : Int32) (l2 : Int32) (l3 : Int32) (l4 : Int32) (l5 : Int32) (l6 : Int32) (s0 : hw_St) : Option (Int32 × hw_St) := hw_gd (hw_inb l1 4) (if (s0 215 l1.toNatClampNeg) ≤ l6 then (if l5 ≤ l3 then (B_X7_heard_125 w30 l1 l3 l4 l5 l2 s0) else (B_X7_heard_125 w30 l1 l3 l4 l5 l4 s0)) else (hw_gd (hw_inb (((24 : Int32) * l1) + l6) 96) (hw_nm (s0 216 (((24 : Int32) * l1) + l6).toNatClampNeg) (fun x14 => if x14 = (-1000000005 : Int32) then (B_X7_heard_103 w30 w53 l1 l2 l3 l4 l6 l5 s0) else (hw_gd (hw_inb l6 24) (if x14 = (s0 205 l6.toNatClampNeg) then (B_X7_heard_104 w30 w53 l1 l2 l3 l4 l6 (1 : Int32) l5 s0) else (B_X7_heard_103 w30 w53 l1 l2 l3 l4 l6 l5 s0)))))))
def L_X7_heard_53  (w30 : Int32 → Int32 → Int32 → Int32 → hw_St → Option (Int32 × hw_St)) : Nat → Int32 → Int32 → Int32 → Int32 → Int32 → Int32 → hw_St → Option (Int32 × hw_St)
  | 0 => fun _ _ _ _ _ _ _ => none
  | n + 1 => S_X7_heard_53 w30  (L_X7_heard_53 w30  n)
def S_X7_heard_30  (w30 : Int32 → Int32 → Int32 → Int32 → hw_St → Option (Int32 × hw_St)) (l1 : Int32) (l2 : Int32) (l3 : Int32) (l4 : Int32) (s0 : hw_St) : Option (Int32 × hw_St) := hw_gd (hw_inb (1 : Int32) 1443) (if (s0 201 (1 : Int32).toNatClampNeg) ≤ l4 then (some (l2, s0)) else (hw_bd (F_X7_findDay l4 s0) (fun _ s9 => L_X7_heard_53 w30 130 l1 l2 l3 l4 (0 : Int32) (0 : Int32) s9)))
def L_X7_heard_30  : Nat → Int32 → Int32 → Int32 → Int32 → hw_St → Option (Int32 × hw_St)
  | 0 => fun _ _ _ _ _ => none
  | n + 1 => S_X7_heard_30  (L_X7_heard_30  n)
def F_X7_heard  (a1 : Int32) (s0 : hw_St) : Option (Int32 × hw_St) := hw_bd (F_X7_isSheet a1 s0) (fun r1 s2 => if r1 = 0 then (some ((-1000000001 : Int32), s2)) else (hw_gd (hw_inb a1 4) (if 0 ≤ (s2 214 a1.toNatClampNeg) then (L_X7_heard_30 130 a1 (-1000000005 : Int32) (-1 : Int32) (0 : Int32) s2) else (some ((-1000000011 : Int32), s2)))))
set_option maxRecDepth 20000 in
theorem KB_X7_heard_104 {G : hw_G} (C : hw_Ok G cX7_heard RX7 8 8 (some .int) hw_TM) (hTL : hw_eT (hw_gE G) = hw_TM) (w30 : Int32 → Int32 → Int32 → Int32 → hw_St → Option (Int32 × hw_St)) (H_w30 : ∀ (l1 : Int32) (l2 : Int32) (l3 : Int32) (l4 : Int32) (s0 : hw_St), hw_K G 8 hw_ri (w30 l1 l2 l3 l4 s0) 30 [(0, hw_rv (hw_ea (hw_gE G)) 200), (1, .int l1), (2, .int l2), (3, .int l3), (4, .int l4)] [] s0) (w53 : Int32 → Int32 → Int32 → Int32 → Int32 → Int32 → hw_St → Option (Int32 × hw_St)) (H_w53 : ∀ (l1 : Int32) (l2 : Int32) (l3 : Int32) (l4 : Int32) (l5 : Int32) (l6 : Int32) (s0 : hw_St), hw_K G 8 hw_ri (w53 l1 l2 l3 l4 l5 l6 s0) 53 [(0, hw_rv (hw_ea (hw_gE G)) 200), (1, .int l1), (2, .int l2), (3, .int l3), (4, .int l4), (5, .int l5), (6, .int l6)] [] s0) (l1 : Int32) (l2 : Int32) (l3 : Int32) (l4 : Int32) (l6 : Int32) (k0 : Int32) (k1 : Int32) (s0 : hw_St) : hw_K G 8 hw_ri (B_X7_heard_104 w30 w53 l1 l2 l3 l4 l6 k0 k1 s0) 104 [(0, hw_rv (hw_ea (hw_gE G)) 200), (1, .int l1), (2, .int l2), (3, .int l3), (4, .int l4), (6, .int l6)] [.int k0, .int k1] s0 := by
  unfold B_X7_heard_104
  refine hw_iadd C dX7_heard_104 ?_
  refine hw_istoreN C dX7_heard_105 (by decide) (fun _ => rfl) (fun x19 => ?_)
  refine hw_iinc C dX7_heard_107 6 rfl (v := 1) (by decide) (by decide) rfl ?_
  refine hw_goto C dX7_heard_110 (tgt := 53) (by decide) ?_
  exact hw_lv [2, 3, 4, 5, 6, 1, 0] rfl (H_w53 l1 l2 l3 l4 x19 (l6 + 1) s0)
set_option maxRecDepth 20000 in
theorem KB_X7_heard_103 {G : hw_G} (C : hw_Ok G cX7_heard RX7 8 8 (some .int) hw_TM) (hTL : hw_eT (hw_gE G) = hw_TM) (w30 : Int32 → Int32 → Int32 → Int32 → hw_St → Option (Int32 × hw_St)) (H_w30 : ∀ (l1 : Int32) (l2 : Int32) (l3 : Int32) (l4 : Int32) (s0 : hw_St), hw_K G 8 hw_ri (w30 l1 l2 l3 l4 s0) 30 [(0, hw_rv (hw_ea (hw_gE G)) 200), (1, .int l1), (2, .int l2), (3, .int l3), (4, .int l4)] [] s0) (w53 : Int32 → Int32 → Int32 → Int32 → Int32 → Int32 → hw_St → Option (Int32 × hw_St)) (H_w53 : ∀ (l1 : Int32) (l2 : Int32) (l3 : Int32) (l4 : Int32) (l5 : Int32) (l6 : Int32) (s0 : hw_St), hw_K G 8 hw_ri (w53 l1 l2 l3 l4 l5 l6 s0) 53 [(0, hw_rv (hw_ea (hw_gE G)) 200), (1, .int l1), (2, .int l2), (3, .int l3), (4, .int l4), (5, .int l5), (6, .int l6)] [] s0) (l1 : Int32) (l2 : Int32) (l3 : Int32) (l4 : Int32) (l6 : Int32) (k0 : Int32) (s0 : hw_St) : hw_K G 8 hw_ri (B_X7_heard_103 w30 w53 l1 l2 l3 l4 l6 k0 s0) 103 [(0, hw_rv (hw_ea (hw_gE G)) 200), (1, .int l1), (2, .int l2), (3, .int l3), (4, .int l4), (6, .int l6)] [.int k0] s0 := by
  unfold B_X7_heard_103
  refine hw_iconst C dX7_heard_103 (v := 0) (by decide) ?_
  exact hw_lv [0, 1, 2, 3, 4, 5] rfl (KB_X7_heard_104 C hTL w30 H_w30 w53 H_w53 l1 l2 l3 l4 l6 (0 : Int32) k0 s0)
set_option maxRecDepth 20000 in
theorem KB_X7_heard_138 {G : hw_G} (C : hw_Ok G cX7_heard RX7 8 8 (some .int) hw_TM) (hTL : hw_eT (hw_gE G) = hw_TM) (w30 : Int32 → Int32 → Int32 → Int32 → hw_St → Option (Int32 × hw_St)) (H_w30 : ∀ (l1 : Int32) (l2 : Int32) (l3 : Int32) (l4 : Int32) (s0 : hw_St), hw_K G 8 hw_ri (w30 l1 l2 l3 l4 s0) 30 [(0, hw_rv (hw_ea (hw_gE G)) 200), (1, .int l1), (2, .int l2), (3, .int l3), (4, .int l4)] [] s0) (l1 : Int32) (l2 : Int32) (l4 : Int32) (k0 : Int32) (s0 : hw_St) : hw_K G 8 hw_ri (B_X7_heard_138 w30 l1 l2 l4 k0 s0) 138 [(0, hw_rv (hw_ea (hw_gE G)) 200), (1, .int l1), (2, .int l2), (4, .int l4)] [.int k0] s0 := by
  unfold B_X7_heard_138
  refine hw_istore_n C dX7_heard_138 rfl (by decide) rfl ?_
  refine hw_iinc C dX7_heard_139 4 rfl (v := 1) (by decide) (by decide) rfl ?_
  refine hw_goto C dX7_heard_142 (tgt := 30) (by decide) ?_
  exact hw_lv [2, 3, 4, 1, 0] rfl (H_w30 l1 l2 k0 (l4 + 1) s0)
set_option maxRecDepth 20000 in
theorem KB_X7_heard_125 {G : hw_G} (C : hw_Ok G cX7_heard RX7 8 8 (some .int) hw_TM) (hTL : hw_eT (hw_gE G) = hw_TM) (w30 : Int32 → Int32 → Int32 → Int32 → hw_St → Option (Int32 × hw_St)) (H_w30 : ∀ (l1 : Int32) (l2 : Int32) (l3 : Int32) (l4 : Int32) (s0 : hw_St), hw_K G 8 hw_ri (w30 l1 l2 l3 l4 s0) 30 [(0, hw_rv (hw_ea (hw_gE G)) 200), (1, .int l1), (2, .int l2), (3, .int l3), (4, .int l4)] [] s0) (l1 : Int32) (l3 : Int32) (l4 : Int32) (l5 : Int32) (k0 : Int32) (s0 : hw_St) : hw_K G 8 hw_ri (B_X7_heard_125 w30 l1 l3 l4 l5 k0 s0) 125 [(0, hw_rv (hw_ea (hw_gE G)) 200), (1, .int l1), (3, .int l3), (4, .int l4), (5, .int l5)] [.int k0] s0 := by
  unfold B_X7_heard_125
  refine hw_istore_n C dX7_heard_125 rfl (by decide) rfl ?_
  refine hw_iload C dX7_heard_126 5 rfl ?_
  refine hw_iload_n C dX7_heard_128 rfl 3 rfl ?_
  refine hw_icmp_le C dX7_heard_129 (tgt := 137) (by decide) (fun c18 => ?_) (fun c18 => ?_)
  · refine hw_iload_n C dX7_heard_137 rfl 3 rfl ?_
    exact hw_lv [1, 2, 0, 4] rfl (KB_X7_heard_138 C hTL w30 H_w30 l1 k0 l4 l3 s0)
  · refine hw_iload C dX7_heard_132 5 rfl ?_
    refine hw_goto C dX7_heard_134 (tgt := 138) (by decide) ?_
    exact hw_lv [1, 2, 0, 4] rfl (KB_X7_heard_138 C hTL w30 H_w30 l1 k0 l4 l5 s0)
set_option maxRecDepth 20000 in
theorem KS_X7_heard_53 {G : hw_G} (C : hw_Ok G cX7_heard RX7 8 8 (some .int) hw_TM) (hTL : hw_eT (hw_gE G) = hw_TM) (w30 : Int32 → Int32 → Int32 → Int32 → hw_St → Option (Int32 × hw_St)) (H_w30 : ∀ (l1 : Int32) (l2 : Int32) (l3 : Int32) (l4 : Int32) (s0 : hw_St), hw_K G 8 hw_ri (w30 l1 l2 l3 l4 s0) 30 [(0, hw_rv (hw_ea (hw_gE G)) 200), (1, .int l1), (2, .int l2), (3, .int l3), (4, .int l4)] [] s0) (w53 : Int32 → Int32 → Int32 → Int32 → Int32 → Int32 → hw_St → Option (Int32 × hw_St)) (H_w53 : ∀ (l1 : Int32) (l2 : Int32) (l3 : Int32) (l4 : Int32) (l5 : Int32) (l6 : Int32) (s0 : hw_St), hw_K G 8 hw_ri (w53 l1 l2 l3 l4 l5 l6 s0) 53 [(0, hw_rv (hw_ea (hw_gE G)) 200), (1, .int l1), (2, .int l2), (3, .int l3), (4, .int l4), (5, .int l5), (6, .int l6)] [] s0) (l1 : Int32) (l2 : Int32) (l3 : Int32) (l4 : Int32) (l5 : Int32) (l6 : Int32) (s0 : hw_St) : hw_K G 8 hw_ri (S_X7_heard_53 w30 w53 l1 l2 l3 l4 l5 l6 s0) 53 [(0, hw_rv (hw_ea (hw_gE G)) 200), (1, .int l1), (2, .int l2), (3, .int l3), (4, .int l4), (5, .int l5), (6, .int l6)] [] s0 := by
  unfold S_X7_heard_53
  refine hw_iload C dX7_heard_53 6 rfl ?_
  refine hw_aload_n C dX7_heard_55 rfl 0 rfl ?_
  refine hw_getR C cf_X7 lf_X7_54 hw_T200 (t2 := 215) (by decide) dX7_heard_56 ?_
  refine hw_iload_n C dX7_heard_59 rfl 1 rfl ?_
  refine hw_iald C hw_T215 (by decide) dX7_heard_60 (fun h10 => ?_)
  refine hw_icmp_ge C dX7_heard_61 (tgt := 113) (by decide) (fun c11 => ?_) (fun c11 => ?_)
  · refine hw_iload C dX7_heard_113 5 rfl ?_
    refine hw_iload_n C dX7_heard_115 rfl 3 rfl ?_
    refine hw_icmp_le C dX7_heard_116 (tgt := 124) (by decide) (fun c12 => ?_) (fun c12 => ?_)
    · refine hw_iload_n C dX7_heard_124 rfl 2 rfl ?_
      exact hw_lv [0, 1, 3, 4, 5] rfl (KB_X7_heard_125 C hTL w30 H_w30 l1 l3 l4 l5 l2 s0)
    · refine hw_iload C dX7_heard_119 4 rfl ?_
      refine hw_goto C dX7_heard_121 (tgt := 125) (by decide) ?_
      exact hw_lv [0, 1, 3, 4, 5] rfl (KB_X7_heard_125 C hTL w30 H_w30 l1 l3 l4 l5 l4 s0)
  · refine hw_aload_n C dX7_heard_64 rfl 0 rfl ?_
    refine hw_getR C cf_X7 lf_X7_57 hw_T200 (t2 := 216) (by decide) dX7_heard_65 ?_
    refine hw_bipush C dX7_heard_68 (v := 24) (by decide) ?_
    refine hw_iload_n C dX7_heard_70 rfl 1 rfl ?_
    refine hw_imul C dX7_heard_71 ?_
    refine hw_iload C dX7_heard_72 6 rfl ?_
    refine hw_iadd C dX7_heard_74 ?_
    refine hw_iald C hw_T216 (by decide) dX7_heard_75 (fun h13 => ?_)
    refine hw_istoreN C dX7_heard_76 (by decide) (fun _ => rfl) (fun x14 => ?_)
    refine hw_iload C dX7_heard_78 6 rfl ?_
    refine hw_iload C dX7_heard_80 0 rfl ?_
    refine hw_ldc C mw_483 dX7_heard_82 ?_
    refine hw_icmp_eq C dX7_heard_84 (tgt := 103) (by decide) (fun c15 => ?_) (fun c15 => ?_)
    · exact hw_lv [1, 2, 3, 4, 5, 7] rfl (KB_X7_heard_103 C hTL w30 H_w30 w53 H_w53 l1 l2 l3 l4 l6 l5 s0)
    · refine hw_iload C dX7_heard_87 0 rfl ?_
      refine hw_aload_n C dX7_heard_89 rfl 1 rfl ?_
      refine hw_getR C cf_X7 lf_X7_22 hw_T200 (t2 := 205) (by decide) dX7_heard_90 ?_
      refine hw_iload C dX7_heard_93 7 rfl ?_
      refine hw_iald C hw_T205 (by decide) dX7_heard_95 (fun h16 => ?_)
      refine hw_icmp_ne C dX7_heard_96 (tgt := 103) (by decide) (fun c17 => ?_) (fun c17 => ?_)
      · exact hw_lv [1, 2, 3, 4, 5, 7] rfl (KB_X7_heard_103 C hTL w30 H_w30 w53 H_w53 l1 l2 l3 l4 l6 l5 s0)
      · refine hw_iconst C dX7_heard_99 (v := 1) (by decide) ?_
        refine hw_goto C dX7_heard_100 (tgt := 104) (by decide) ?_
        exact hw_lv [1, 2, 3, 4, 5, 7] rfl (KB_X7_heard_104 C hTL w30 H_w30 w53 H_w53 l1 l2 l3 l4 l6 (1 : Int32) l5 s0)
theorem KL_X7_heard_53 {G : hw_G} (C : hw_Ok G cX7_heard RX7 8 8 (some .int) hw_TM) (hTL : hw_eT (hw_gE G) = hw_TM) (w30 : Int32 → Int32 → Int32 → Int32 → hw_St → Option (Int32 × hw_St)) (H_w30 : ∀ (l1 : Int32) (l2 : Int32) (l3 : Int32) (l4 : Int32) (s0 : hw_St), hw_K G 8 hw_ri (w30 l1 l2 l3 l4 s0) 30 [(0, hw_rv (hw_ea (hw_gE G)) 200), (1, .int l1), (2, .int l2), (3, .int l3), (4, .int l4)] [] s0) : ∀ (n_ : Nat) (l1 : Int32) (l2 : Int32) (l3 : Int32) (l4 : Int32) (l5 : Int32) (l6 : Int32) (s0 : hw_St), hw_K G 8 hw_ri (L_X7_heard_53 w30 n_ l1 l2 l3 l4 l5 l6 s0) 53 [(0, hw_rv (hw_ea (hw_gE G)) 200), (1, .int l1), (2, .int l2), (3, .int l3), (4, .int l4), (5, .int l5), (6, .int l6)] [] s0 := by
  intro n_
  induction n_ with
  | zero => intros; exact hw_nil
  | succ n_ ih => intro l1 l2 l3 l4 l5 l6 s0; exact KS_X7_heard_53 C hTL w30 H_w30 (L_X7_heard_53 w30 n_) ih l1 l2 l3 l4 l5 l6 s0
set_option maxRecDepth 20000 in
theorem KS_X7_heard_30 {G : hw_G} (C : hw_Ok G cX7_heard RX7 8 8 (some .int) hw_TM) (hTL : hw_eT (hw_gE G) = hw_TM) (w30 : Int32 → Int32 → Int32 → Int32 → hw_St → Option (Int32 × hw_St)) (H_w30 : ∀ (l1 : Int32) (l2 : Int32) (l3 : Int32) (l4 : Int32) (s0 : hw_St), hw_K G 8 hw_ri (w30 l1 l2 l3 l4 s0) 30 [(0, hw_rv (hw_ea (hw_gE G)) 200), (1, .int l1), (2, .int l2), (3, .int l3), (4, .int l4)] [] s0) (l1 : Int32) (l2 : Int32) (l3 : Int32) (l4 : Int32) (s0 : hw_St) : hw_K G 8 hw_ri (S_X7_heard_30 w30 l1 l2 l3 l4 s0) 30 [(0, hw_rv (hw_ea (hw_gE G)) 200), (1, .int l1), (2, .int l2), (3, .int l3), (4, .int l4)] [] s0 := by
  unfold S_X7_heard_30
  refine hw_iload C dX7_heard_30 4 rfl ?_
  refine hw_aload_n C dX7_heard_32 rfl 0 rfl ?_
  refine hw_getR C cf_X7 lf_X7_9 hw_T200 (t2 := 201) (by decide) dX7_heard_33 ?_
  refine hw_iconst C dX7_heard_36 (v := 1) (by decide) ?_
  refine hw_iald C hw_T201 (by decide) dX7_heard_37 (fun h6 => ?_)
  refine hw_icmp_ge C dX7_heard_38 (tgt := 145) (by decide) (fun c7 => ?_) (fun c7 => ?_)
  · refine hw_iload_n C dX7_heard_145 rfl 2 rfl ?_
    exact hw_iret C dX7_heard_146
  · refine hw_aload_n C dX7_heard_41 rfl 0 rfl ?_
    refine hw_iload C dX7_heard_42 4 rfl ?_
    refine hw_callVv C (M_X7_findDay (hw_gE G) hTL l4 s0) W_X7_findDay SV_X7_findDay cf_X7 hw_T200 mw_511 (by decide) rfl ⟨rfl, hw_l8 rfl⟩ dX7_heard_44 (fun r8 s9 => ?_)
    refine hw_iconst C dX7_heard_47 (v := 0) (by decide) ?_
    refine hw_istore C dX7_heard_48 (by decide) rfl ?_
    refine hw_iconst C dX7_heard_50 (v := 0) (by decide) ?_
    refine hw_istore C dX7_heard_51 (by decide) rfl ?_
    exact hw_lv [2, 3, 4, 5, 6, 1, 0] rfl (KL_X7_heard_53 C hTL w30 H_w30 130 l1 l2 l3 l4 (0 : Int32) (0 : Int32) s9)
theorem KL_X7_heard_30 {G : hw_G} (C : hw_Ok G cX7_heard RX7 8 8 (some .int) hw_TM) (hTL : hw_eT (hw_gE G) = hw_TM) : ∀ (n_ : Nat) (l1 : Int32) (l2 : Int32) (l3 : Int32) (l4 : Int32) (s0 : hw_St), hw_K G 8 hw_ri (L_X7_heard_30 n_ l1 l2 l3 l4 s0) 30 [(0, hw_rv (hw_ea (hw_gE G)) 200), (1, .int l1), (2, .int l2), (3, .int l3), (4, .int l4)] [] s0 := by
  intro n_
  induction n_ with
  | zero => intros; exact hw_nil
  | succ n_ ih => intro l1 l2 l3 l4 s0; exact KS_X7_heard_30 C hTL (L_X7_heard_30 n_) ih l1 l2 l3 l4 s0
set_option maxRecDepth 20000 in
theorem M_X7_heard (E : hw_E) (hE : hw_eT E = hw_TM) (a1 : Int32) (s0 : hw_St) : hw_M E yX7_heard cX7_heard 8 (some .int) 8 [hw_rv (hw_ea E) 200, .int a1] s0 hw_ri (F_X7_heard a1 s0) := by
  refine hw_entry (own := RX7) (TL := hw_TM) (by decide) rfl hE (hw_cR (hw_cI hw_cN)) (hw_l8 rfl) (fun G hG C => ?_)
  subst hG
  have hTL := hE
  show hw_K G 8 hw_ri _ 0 [(0, hw_rv (hw_ea (hw_gE G)) 200), (1, .int a1)] [] s0
  unfold F_X7_heard
  refine hw_iload_n C dX7_heard_0 rfl 1 rfl ?_
  refine hw_callSi C (M_X7_isSheet (hw_gE G) hTL a1 s0) W_X7_isSheet SS_X7_isSheet mw_580 (by decide) rfl ⟨rfl, hw_l8 rfl⟩ dX7_heard_1 (fun r1 s2 => ?_)
  refine hw_if_ne C dX7_heard_4 (tgt := 10) (by decide) (fun c3 => ?_) (fun c3 => ?_)
  · refine hw_aload_n C dX7_heard_10 rfl 0 rfl ?_
    refine hw_getR C cf_X7 lf_X7_51 hw_T200 (t2 := 214) (by decide) dX7_heard_11 ?_
    refine hw_iload_n C dX7_heard_14 rfl 1 rfl ?_
    refine hw_iald C hw_T214 (by decide) dX7_heard_15 (fun h4 => ?_)
    refine hw_if_ge C dX7_heard_16 (tgt := 22) (by decide) (fun c5 => ?_) (fun c5 => ?_)
    · refine hw_ldc C mw_483 dX7_heard_22 ?_
      refine hw_istore_n C dX7_heard_24 rfl (by decide) rfl ?_
      refine hw_iconst C dX7_heard_25 (v := -1) (by decide) ?_
      refine hw_istore_n C dX7_heard_26 rfl (by decide) rfl ?_
      refine hw_iconst C dX7_heard_27 (v := 0) (by decide) ?_
      refine hw_istore C dX7_heard_28 (by decide) rfl ?_
      exact hw_lv [3, 4, 2, 1, 0] rfl (KL_X7_heard_30 C hTL 130 a1 (-1000000005 : Int32) (-1 : Int32) (0 : Int32) s2)
    · refine hw_ldc C mw_579 dX7_heard_19 ?_
      exact hw_iret C dX7_heard_21
  · refine hw_ldc C mw_155 dX7_heard_7 ?_
    exact hw_iret C dX7_heard_9
/-! HumWireModel pour(I)I, level 3 -/
def B_X7_pour_96  (w26 : Int32 → Int32 → Int32 → hw_St → Option (Int32 × hw_St)) (l1 : Int32) (l3 : Int32) (l5 : Int32) (k0 : Int32) (k1 : Int32) (s0 : hw_St) : Option (Int32 × hw_St) := hw_nm (k1 + k0) (fun x16 => hw_gd (hw_inb ((5 : Int32) + l3) 1443) (hw_nm (hw_up s0 201 ((5 : Int32) + l3).toNatClampNeg l5) (fun s17 => w26 l1 x16 (l3 + 1) s17)))
def B_X7_pour_75  (w26 : Int32 → Int32 → Int32 → hw_St → Option (Int32 × hw_St)) (l1 : Int32) (l2 : Int32) (l3 : Int32) (k0 : Int32) (s0 : hw_St) : Option (Int32 × hw_St) := hw_gd (hw_inb ((5 : Int32) + l3) 1443) (if k0 = (s0 201 ((5 : Int32) + l3).toNatClampNeg) then (B_X7_pour_96 w26 l1 l3 k0 (0 : Int32) l2 s0) else (B_X7_pour_96 w26 l1 l3 k0 (1 : Int32) l2 s0))
def S_X7_pour_26  (w26 : Int32 → Int32 → Int32 → hw_St → Option (Int32 × hw_St)) (l1 : Int32) (l2 : Int32) (l3 : Int32) (s0 : hw_St) : Option (Int32 × hw_St) := hw_gd (hw_inb l1 4) (if (s0 215 l1.toNatClampNeg) ≤ l3 then (some (l2, s0)) else (hw_gd (hw_inb (((24 : Int32) * l1) + l3) 96) (hw_nm (s0 216 (((24 : Int32) * l1) + l3).toNatClampNeg) (fun x9 => if x9 = (-1000000005 : Int32) then (hw_gd (hw_inb ((5 : Int32) + l3) 1443) (B_X7_pour_75 w26 l1 l2 l3 (s0 201 ((5 : Int32) + l3).toNatClampNeg) s0)) else (hw_bd (F_X7_within x9 (0 : Int32) (99 : Int32) s0) (fun r11 s12 => B_X7_pour_75 w26 l1 l2 l3 r11 s12))))))
def L_X7_pour_26  : Nat → Int32 → Int32 → Int32 → hw_St → Option (Int32 × hw_St)
  | 0 => fun _ _ _ _ => none
  | n + 1 => S_X7_pour_26  (L_X7_pour_26  n)
def F_X7_pour  (a1 : Int32) (s0 : hw_St) : Option (Int32 × hw_St) := hw_bd (F_X7_isSheet a1 s0) (fun r1 s2 => if r1 = 0 then (some ((-1000000001 : Int32), s2)) else (hw_gd (hw_inb a1 4) (if 0 ≤ (s2 214 a1.toNatClampNeg) then (L_X7_pour_26 130 a1 (0 : Int32) (0 : Int32) s2) else (some ((-1000000011 : Int32), s2)))))
set_option maxRecDepth 20000 in
theorem KB_X7_pour_96 {G : hw_G} (C : hw_Ok G cX7_pour RX7 6 3 (some .int) hw_TM) (hTL : hw_eT (hw_gE G) = hw_TM) (w26 : Int32 → Int32 → Int32 → hw_St → Option (Int32 × hw_St)) (H_w26 : ∀ (l1 : Int32) (l2 : Int32) (l3 : Int32) (s0 : hw_St), hw_K G 6 hw_ri (w26 l1 l2 l3 s0) 26 [(0, hw_rv (hw_ea (hw_gE G)) 200), (1, .int l1), (2, .int l2), (3, .int l3)] [] s0) (l1 : Int32) (l3 : Int32) (l5 : Int32) (k0 : Int32) (k1 : Int32) (s0 : hw_St) : hw_K G 6 hw_ri (B_X7_pour_96 w26 l1 l3 l5 k0 k1 s0) 96 [(0, hw_rv (hw_ea (hw_gE G)) 200), (1, .int l1), (3, .int l3), (5, .int l5)] [.int k0, .int k1] s0 := by
  unfold B_X7_pour_96
  refine hw_iadd C dX7_pour_96 ?_
  refine hw_istore_nN C dX7_pour_97 rfl (by decide) (fun _ => rfl) (fun x16 => ?_)
  refine hw_aload_n C dX7_pour_98 rfl 1 rfl ?_
  refine hw_getR C cf_X7 lf_X7_9 hw_T200 (t2 := 201) (by decide) dX7_pour_99 ?_
  refine hw_iconst C dX7_pour_102 (v := 5) (by decide) ?_
  refine hw_iload_n C dX7_pour_103 rfl 3 rfl ?_
  refine hw_iadd C dX7_pour_104 ?_
  refine hw_iload C dX7_pour_105 4 rfl ?_
  refine hw_iast C hw_T201 (by decide) dX7_pour_107 (fun h18 s17 => ?_)
  refine hw_iinc C dX7_pour_108 3 rfl (v := 1) (by decide) (by decide) rfl ?_
  refine hw_goto C dX7_pour_111 (tgt := 26) (by decide) ?_
  exact hw_lv [2, 3, 1, 0] rfl (H_w26 l1 x16 (l3 + 1) s17)
set_option maxRecDepth 20000 in
theorem KB_X7_pour_75 {G : hw_G} (C : hw_Ok G cX7_pour RX7 6 3 (some .int) hw_TM) (hTL : hw_eT (hw_gE G) = hw_TM) (w26 : Int32 → Int32 → Int32 → hw_St → Option (Int32 × hw_St)) (H_w26 : ∀ (l1 : Int32) (l2 : Int32) (l3 : Int32) (s0 : hw_St), hw_K G 6 hw_ri (w26 l1 l2 l3 s0) 26 [(0, hw_rv (hw_ea (hw_gE G)) 200), (1, .int l1), (2, .int l2), (3, .int l3)] [] s0) (l1 : Int32) (l2 : Int32) (l3 : Int32) (k0 : Int32) (s0 : hw_St) : hw_K G 6 hw_ri (B_X7_pour_75 w26 l1 l2 l3 k0 s0) 75 [(0, hw_rv (hw_ea (hw_gE G)) 200), (1, .int l1), (2, .int l2), (3, .int l3)] [.int k0] s0 := by
  unfold B_X7_pour_75
  refine hw_istore C dX7_pour_75 (by decide) rfl ?_
  refine hw_iload_n C dX7_pour_77 rfl 3 rfl ?_
  refine hw_iload C dX7_pour_78 0 rfl ?_
  refine hw_aload_n C dX7_pour_80 rfl 1 rfl ?_
  refine hw_getR C cf_X7 lf_X7_9 hw_T200 (t2 := 201) (by decide) dX7_pour_81 ?_
  refine hw_iconst C dX7_pour_84 (v := 5) (by decide) ?_
  refine hw_iload_n C dX7_pour_85 rfl 4 rfl ?_
  refine hw_iadd C dX7_pour_86 ?_
  refine hw_iald C hw_T201 (by decide) dX7_pour_87 (fun h14 => ?_)
  refine hw_icmp_ne C dX7_pour_88 (tgt := 95) (by decide) (fun c15 => ?_) (fun c15 => ?_)
  · refine hw_iconst C dX7_pour_95 (v := 1) (by decide) ?_
    exact hw_lv [1, 2, 4, 0] rfl (KB_X7_pour_96 C hTL w26 H_w26 l1 l3 k0 (1 : Int32) l2 s0)
  · refine hw_iconst C dX7_pour_91 (v := 0) (by decide) ?_
    refine hw_goto C dX7_pour_92 (tgt := 96) (by decide) ?_
    exact hw_lv [1, 2, 4, 0] rfl (KB_X7_pour_96 C hTL w26 H_w26 l1 l3 k0 (0 : Int32) l2 s0)
set_option maxRecDepth 20000 in
theorem KS_X7_pour_26 {G : hw_G} (C : hw_Ok G cX7_pour RX7 6 3 (some .int) hw_TM) (hTL : hw_eT (hw_gE G) = hw_TM) (w26 : Int32 → Int32 → Int32 → hw_St → Option (Int32 × hw_St)) (H_w26 : ∀ (l1 : Int32) (l2 : Int32) (l3 : Int32) (s0 : hw_St), hw_K G 6 hw_ri (w26 l1 l2 l3 s0) 26 [(0, hw_rv (hw_ea (hw_gE G)) 200), (1, .int l1), (2, .int l2), (3, .int l3)] [] s0) (l1 : Int32) (l2 : Int32) (l3 : Int32) (s0 : hw_St) : hw_K G 6 hw_ri (S_X7_pour_26 w26 l1 l2 l3 s0) 26 [(0, hw_rv (hw_ea (hw_gE G)) 200), (1, .int l1), (2, .int l2), (3, .int l3)] [] s0 := by
  unfold S_X7_pour_26
  refine hw_iload_n C dX7_pour_26 rfl 3 rfl ?_
  refine hw_aload_n C dX7_pour_27 rfl 0 rfl ?_
  refine hw_getR C cf_X7 lf_X7_54 hw_T200 (t2 := 215) (by decide) dX7_pour_28 ?_
  refine hw_iload_n C dX7_pour_31 rfl 1 rfl ?_
  refine hw_iald C hw_T215 (by decide) dX7_pour_32 (fun h6 => ?_)
  refine hw_icmp_ge C dX7_pour_33 (tgt := 114) (by decide) (fun c7 => ?_) (fun c7 => ?_)
  · refine hw_iload_n C dX7_pour_114 rfl 2 rfl ?_
    exact hw_iret C dX7_pour_115
  · refine hw_aload_n C dX7_pour_36 rfl 0 rfl ?_
    refine hw_getR C cf_X7 lf_X7_57 hw_T200 (t2 := 216) (by decide) dX7_pour_37 ?_
    refine hw_bipush C dX7_pour_40 (v := 24) (by decide) ?_
    refine hw_iload_n C dX7_pour_42 rfl 1 rfl ?_
    refine hw_imul C dX7_pour_43 ?_
    refine hw_iload_n C dX7_pour_44 rfl 3 rfl ?_
    refine hw_iadd C dX7_pour_45 ?_
    refine hw_iald C hw_T216 (by decide) dX7_pour_46 (fun h8 => ?_)
    refine hw_istoreN C dX7_pour_47 (by decide) (fun _ => rfl) (fun x9 => ?_)
    refine hw_iload C dX7_pour_49 0 rfl ?_
    refine hw_ldc C mw_483 dX7_pour_51 ?_
    refine hw_icmp_ne C dX7_pour_53 (tgt := 67) (by decide) (fun c10 => ?_) (fun c10 => ?_)
    · refine hw_iload C dX7_pour_67 0 rfl ?_
      refine hw_iconst C dX7_pour_69 (v := 0) (by decide) ?_
      refine hw_bipush C dX7_pour_70 (v := 99) (by decide) ?_
      refine hw_callSi C (M_X7_within (hw_gE G) hTL x9 (0 : Int32) (99 : Int32) s0) W_X7_within SS_X7_within mw_315 (by decide) rfl ⟨rfl, hw_l8 rfl⟩ dX7_pour_72 (fun r11 s12 => ?_)
      exact hw_lv [1, 2, 3, 4] rfl (KB_X7_pour_75 C hTL w26 H_w26 l1 l2 l3 r11 s12)
    · refine hw_aload_n C dX7_pour_56 rfl 1 rfl ?_
      refine hw_getR C cf_X7 lf_X7_9 hw_T200 (t2 := 201) (by decide) dX7_pour_57 ?_
      refine hw_iconst C dX7_pour_60 (v := 5) (by decide) ?_
      refine hw_iload_n C dX7_pour_61 rfl 4 rfl ?_
      refine hw_iadd C dX7_pour_62 ?_
      refine hw_iald C hw_T201 (by decide) dX7_pour_63 (fun h13 => ?_)
      refine hw_goto C dX7_pour_64 (tgt := 75) (by decide) ?_
      exact hw_lv [1, 2, 3, 4] rfl (KB_X7_pour_75 C hTL w26 H_w26 l1 l2 l3 (s0 201 ((5 : Int32) + l3).toNatClampNeg) s0)
theorem KL_X7_pour_26 {G : hw_G} (C : hw_Ok G cX7_pour RX7 6 3 (some .int) hw_TM) (hTL : hw_eT (hw_gE G) = hw_TM) : ∀ (n_ : Nat) (l1 : Int32) (l2 : Int32) (l3 : Int32) (s0 : hw_St), hw_K G 6 hw_ri (L_X7_pour_26 n_ l1 l2 l3 s0) 26 [(0, hw_rv (hw_ea (hw_gE G)) 200), (1, .int l1), (2, .int l2), (3, .int l3)] [] s0 := by
  intro n_
  induction n_ with
  | zero => intros; exact hw_nil
  | succ n_ ih => intro l1 l2 l3 s0; exact KS_X7_pour_26 C hTL (L_X7_pour_26 n_) ih l1 l2 l3 s0
set_option maxRecDepth 20000 in
theorem M_X7_pour (E : hw_E) (hE : hw_eT E = hw_TM) (a1 : Int32) (s0 : hw_St) : hw_M E yX7_pour cX7_pour 6 (some .int) 3 [hw_rv (hw_ea E) 200, .int a1] s0 hw_ri (F_X7_pour a1 s0) := by
  refine hw_entry (own := RX7) (TL := hw_TM) (by decide) rfl hE (hw_cR (hw_cI hw_cN)) (hw_l8 rfl) (fun G hG C => ?_)
  subst hG
  have hTL := hE
  show hw_K G 6 hw_ri _ 0 [(0, hw_rv (hw_ea (hw_gE G)) 200), (1, .int a1)] [] s0
  unfold F_X7_pour
  refine hw_iload_n C dX7_pour_0 rfl 1 rfl ?_
  refine hw_callSi C (M_X7_isSheet (hw_gE G) hTL a1 s0) W_X7_isSheet SS_X7_isSheet mw_580 (by decide) rfl ⟨rfl, hw_l8 rfl⟩ dX7_pour_1 (fun r1 s2 => ?_)
  refine hw_if_ne C dX7_pour_4 (tgt := 10) (by decide) (fun c3 => ?_) (fun c3 => ?_)
  · refine hw_aload_n C dX7_pour_10 rfl 0 rfl ?_
    refine hw_getR C cf_X7 lf_X7_51 hw_T200 (t2 := 214) (by decide) dX7_pour_11 ?_
    refine hw_iload_n C dX7_pour_14 rfl 1 rfl ?_
    refine hw_iald C hw_T214 (by decide) dX7_pour_15 (fun h4 => ?_)
    refine hw_if_ge C dX7_pour_16 (tgt := 22) (by decide) (fun c5 => ?_) (fun c5 => ?_)
    · refine hw_iconst C dX7_pour_22 (v := 0) (by decide) ?_
      refine hw_istore_n C dX7_pour_23 rfl (by decide) rfl ?_
      refine hw_iconst C dX7_pour_24 (v := 0) (by decide) ?_
      refine hw_istore_n C dX7_pour_25 rfl (by decide) rfl ?_
      exact hw_lv [2, 3, 1, 0] rfl (KL_X7_pour_26 C hTL 130 a1 (0 : Int32) (0 : Int32) s2)
    · refine hw_ldc C mw_579 dX7_pour_19 ?_
      exact hw_iret C dX7_pour_21
  · refine hw_ldc C mw_155 dX7_pour_7 ?_
    exact hw_iret C dX7_pour_9
/-! HumWireModel reads(II)I, level 4 -/
def B_X7_reads_82  (w32 : Int32 → Int32 → Int32 → hw_St → Option (Int32 × hw_St)) (l1 : Int32) (l2 : Int32) (l3 : Int32) (s0 : hw_St) : Option (Int32 × hw_St) := w32 l1 l2 (l3 + 1) s0
def S_X7_reads_32  (w32 : Int32 → Int32 → Int32 → hw_St → Option (Int32 × hw_St)) (l1 : Int32) (l2 : Int32) (l3 : Int32) (s0 : hw_St) : Option (Int32 × hw_St) := hw_gd (hw_inb l1 4) (if (s0 215 l1.toNatClampNeg) ≤ l3 then (some ((-1000000005 : Int32), s0)) else (hw_gd (hw_inb (((24 : Int32) * l1) + l3) 96) (hw_nm (s0 216 (((24 : Int32) * l1) + l3).toNatClampNeg) (fun x12 => if x12 = (-1000000005 : Int32) then (B_X7_reads_82 w32 l1 l2 l3 s0) else (hw_gd (hw_inb ((5 : Int32) + l3) 1443) (hw_bd (F_X7_eddyOf l2 (s0 201 ((5 : Int32) + l3).toNatClampNeg) s0) (fun r15 s16 => if x12 = r15 then (B_X7_reads_82 w32 l1 l2 l3 s16) else (some (l3, s16)))))))))
def L_X7_reads_32  : Nat → Int32 → Int32 → Int32 → hw_St → Option (Int32 × hw_St)
  | 0 => fun _ _ _ _ => none
  | n + 1 => S_X7_reads_32  (L_X7_reads_32  n)
def F_X7_reads  (a1 : Int32) (a2 : Int32) (s0 : hw_St) : Option (Int32 × hw_St) := hw_bd (F_X7_isSheet a1 s0) (fun r1 s2 => if r1 = 0 then (some ((-1000000001 : Int32), s2)) else (hw_bd (F_X7_isWire a2 s2) (fun r4 s5 => if r4 = 0 then (some ((-1000000001 : Int32), s5)) else (hw_gd (hw_inb a1 4) (if 0 ≤ (s5 214 a1.toNatClampNeg) then (L_X7_reads_32 130 a1 a2 (0 : Int32) s5) else (some ((-1000000011 : Int32), s5)))))))
set_option maxRecDepth 20000 in
theorem KB_X7_reads_82 {G : hw_G} (C : hw_Ok G cX7_reads RX7 5 4 (some .int) hw_TM) (hTL : hw_eT (hw_gE G) = hw_TM) (w32 : Int32 → Int32 → Int32 → hw_St → Option (Int32 × hw_St)) (H_w32 : ∀ (l1 : Int32) (l2 : Int32) (l3 : Int32) (s0 : hw_St), hw_K G 5 hw_ri (w32 l1 l2 l3 s0) 32 [(0, hw_rv (hw_ea (hw_gE G)) 200), (1, .int l1), (2, .int l2), (3, .int l3)] [] s0) (l1 : Int32) (l2 : Int32) (l3 : Int32) (s0 : hw_St) : hw_K G 5 hw_ri (B_X7_reads_82 w32 l1 l2 l3 s0) 82 [(0, hw_rv (hw_ea (hw_gE G)) 200), (1, .int l1), (2, .int l2), (3, .int l3)] [] s0 := by
  unfold B_X7_reads_82
  refine hw_iinc C dX7_reads_82 3 rfl (v := 1) (by decide) (by decide) rfl ?_
  refine hw_goto C dX7_reads_85 (tgt := 32) (by decide) ?_
  exact hw_lv [1, 2, 3, 0] rfl (H_w32 l1 l2 (l3 + 1) s0)
set_option maxRecDepth 20000 in
theorem KS_X7_reads_32 {G : hw_G} (C : hw_Ok G cX7_reads RX7 5 4 (some .int) hw_TM) (hTL : hw_eT (hw_gE G) = hw_TM) (w32 : Int32 → Int32 → Int32 → hw_St → Option (Int32 × hw_St)) (H_w32 : ∀ (l1 : Int32) (l2 : Int32) (l3 : Int32) (s0 : hw_St), hw_K G 5 hw_ri (w32 l1 l2 l3 s0) 32 [(0, hw_rv (hw_ea (hw_gE G)) 200), (1, .int l1), (2, .int l2), (3, .int l3)] [] s0) (l1 : Int32) (l2 : Int32) (l3 : Int32) (s0 : hw_St) : hw_K G 5 hw_ri (S_X7_reads_32 w32 l1 l2 l3 s0) 32 [(0, hw_rv (hw_ea (hw_gE G)) 200), (1, .int l1), (2, .int l2), (3, .int l3)] [] s0 := by
  unfold S_X7_reads_32
  refine hw_iload_n C dX7_reads_32 rfl 3 rfl ?_
  refine hw_aload_n C dX7_reads_33 rfl 0 rfl ?_
  refine hw_getR C cf_X7 lf_X7_54 hw_T200 (t2 := 215) (by decide) dX7_reads_34 ?_
  refine hw_iload_n C dX7_reads_37 rfl 1 rfl ?_
  refine hw_iald C hw_T215 (by decide) dX7_reads_38 (fun h9 => ?_)
  refine hw_icmp_ge C dX7_reads_39 (tgt := 88) (by decide) (fun c10 => ?_) (fun c10 => ?_)
  · refine hw_ldc C mw_483 dX7_reads_88 ?_
    exact hw_iret C dX7_reads_90
  · refine hw_aload_n C dX7_reads_42 rfl 0 rfl ?_
    refine hw_getR C cf_X7 lf_X7_57 hw_T200 (t2 := 216) (by decide) dX7_reads_43 ?_
    refine hw_bipush C dX7_reads_46 (v := 24) (by decide) ?_
    refine hw_iload_n C dX7_reads_48 rfl 1 rfl ?_
    refine hw_imul C dX7_reads_49 ?_
    refine hw_iload_n C dX7_reads_50 rfl 3 rfl ?_
    refine hw_iadd C dX7_reads_51 ?_
    refine hw_iald C hw_T216 (by decide) dX7_reads_52 (fun h11 => ?_)
    refine hw_istoreN C dX7_reads_53 (by decide) (fun _ => rfl) (fun x12 => ?_)
    refine hw_iload C dX7_reads_55 0 rfl ?_
    refine hw_ldc C mw_483 dX7_reads_57 ?_
    refine hw_icmp_eq C dX7_reads_59 (tgt := 82) (by decide) (fun c13 => ?_) (fun c13 => ?_)
    · exact hw_lv [1, 2, 3, 4] rfl (KB_X7_reads_82 C hTL w32 H_w32 l1 l2 l3 s0)
    · refine hw_iload C dX7_reads_62 0 rfl ?_
      refine hw_aload_n C dX7_reads_64 rfl 1 rfl ?_
      refine hw_iload_n C dX7_reads_65 rfl 3 rfl ?_
      refine hw_aload_n C dX7_reads_66 rfl 1 rfl ?_
      refine hw_getR C cf_X7 lf_X7_9 hw_T200 (t2 := 201) (by decide) dX7_reads_67 ?_
      refine hw_iconst C dX7_reads_70 (v := 5) (by decide) ?_
      refine hw_iload_n C dX7_reads_71 rfl 4 rfl ?_
      refine hw_iadd C dX7_reads_72 ?_
      refine hw_iald C hw_T201 (by decide) dX7_reads_73 (fun h14 => ?_)
      refine hw_callVi C (M_X7_eddyOf (hw_gE G) hTL l2 (s0 201 ((5 : Int32) + l3).toNatClampNeg) s0) W_X7_eddyOf SV_X7_eddyOf cf_X7 hw_T200 mw_392 (by decide) rfl ⟨rfl, hw_l8 rfl⟩ dX7_reads_74 (fun r15 s16 => ?_)
      refine hw_icmp_eq C dX7_reads_77 (tgt := 82) (by decide) (fun c17 => ?_) (fun c17 => ?_)
      · exact hw_lv [1, 2, 3, 4] rfl (KB_X7_reads_82 C hTL w32 H_w32 l1 l2 l3 s16)
      · refine hw_iload_n C dX7_reads_80 rfl 4 rfl ?_
        exact hw_iret C dX7_reads_81
theorem KL_X7_reads_32 {G : hw_G} (C : hw_Ok G cX7_reads RX7 5 4 (some .int) hw_TM) (hTL : hw_eT (hw_gE G) = hw_TM) : ∀ (n_ : Nat) (l1 : Int32) (l2 : Int32) (l3 : Int32) (s0 : hw_St), hw_K G 5 hw_ri (L_X7_reads_32 n_ l1 l2 l3 s0) 32 [(0, hw_rv (hw_ea (hw_gE G)) 200), (1, .int l1), (2, .int l2), (3, .int l3)] [] s0 := by
  intro n_
  induction n_ with
  | zero => intros; exact hw_nil
  | succ n_ ih => intro l1 l2 l3 s0; exact KS_X7_reads_32 C hTL (L_X7_reads_32 n_) ih l1 l2 l3 s0
set_option maxRecDepth 20000 in
theorem M_X7_reads (E : hw_E) (hE : hw_eT E = hw_TM) (a1 : Int32) (a2 : Int32) (s0 : hw_St) : hw_M E yX7_reads cX7_reads 5 (some .int) 4 [hw_rv (hw_ea E) 200, .int a1, .int a2] s0 hw_ri (F_X7_reads a1 a2 s0) := by
  refine hw_entry (own := RX7) (TL := hw_TM) (by decide) rfl hE (hw_cR (hw_cI (hw_cI hw_cN))) (hw_l8 rfl) (fun G hG C => ?_)
  subst hG
  have hTL := hE
  show hw_K G 5 hw_ri _ 0 [(0, hw_rv (hw_ea (hw_gE G)) 200), (1, .int a1), (2, .int a2)] [] s0
  unfold F_X7_reads
  refine hw_iload_n C dX7_reads_0 rfl 1 rfl ?_
  refine hw_callSi C (M_X7_isSheet (hw_gE G) hTL a1 s0) W_X7_isSheet SS_X7_isSheet mw_580 (by decide) rfl ⟨rfl, hw_l8 rfl⟩ dX7_reads_1 (fun r1 s2 => ?_)
  refine hw_if_eq C dX7_reads_4 (tgt := 15) (by decide) (fun c3 => ?_) (fun c3 => ?_)
  · refine hw_ldc C mw_155 dX7_reads_15 ?_
    exact hw_iret C dX7_reads_17
  · refine hw_aload_n C dX7_reads_7 rfl 0 rfl ?_
    refine hw_iload_n C dX7_reads_8 rfl 2 rfl ?_
    refine hw_callVi C (M_X7_isWire (hw_gE G) hTL a2 s2) W_X7_isWire SV_X7_isWire cf_X7 hw_T200 mw_190 (by decide) rfl ⟨rfl, hw_l8 rfl⟩ dX7_reads_9 (fun r4 s5 => ?_)
    refine hw_if_ne C dX7_reads_12 (tgt := 18) (by decide) (fun c6 => ?_) (fun c6 => ?_)
    · refine hw_aload_n C dX7_reads_18 rfl 0 rfl ?_
      refine hw_getR C cf_X7 lf_X7_51 hw_T200 (t2 := 214) (by decide) dX7_reads_19 ?_
      refine hw_iload_n C dX7_reads_22 rfl 1 rfl ?_
      refine hw_iald C hw_T214 (by decide) dX7_reads_23 (fun h7 => ?_)
      refine hw_if_ge C dX7_reads_24 (tgt := 30) (by decide) (fun c8 => ?_) (fun c8 => ?_)
      · refine hw_iconst C dX7_reads_30 (v := 0) (by decide) ?_
        refine hw_istore_n C dX7_reads_31 rfl (by decide) rfl ?_
        exact hw_lv [1, 2, 3, 0] rfl (KL_X7_reads_32 C hTL 130 a1 a2 (0 : Int32) s5)
      · refine hw_ldc C mw_579 dX7_reads_27 ?_
        exact hw_iret C dX7_reads_29
    · refine hw_ldc C mw_155 dX7_reads_15 ?_
      exact hw_iret C dX7_reads_17
/-! HumWireModel copy(IIIII)I, level 3 -/
def S_X7_copy_140  (w140 : Int32 → Int32 → Int32 → Int32 → hw_St → Option (Int32 × hw_St)) (l3 : Int32) (l4 : Int32) (l5 : Int32) (l6 : Int32) (s0 : hw_St) : Option (Int32 × hw_St) := if l5 ≤ l6 then (some (l5, s0)) else (hw_gd (hw_inb l6 24) (hw_gd (hw_inb ((((24 : Int32) * l3) + l4) + l6) 96) (hw_nm (hw_up s0 216 ((((24 : Int32) * l3) + l4) + l6).toNatClampNeg (s0 221 l6.toNatClampNeg)) (fun s27 => w140 l3 l4 l5 (l6 + 1) s27))))
def L_X7_copy_140  : Nat → Int32 → Int32 → Int32 → Int32 → hw_St → Option (Int32 × hw_St)
  | 0 => fun _ _ _ _ _ => none
  | n + 1 => S_X7_copy_140  (L_X7_copy_140  n)
def S_X7_copy_103  (w103 : Int32 → Int32 → Int32 → Int32 → Int32 → Int32 → hw_St → Option (Int32 × hw_St)) (l1 : Int32) (l2 : Int32) (l3 : Int32) (l4 : Int32) (l5 : Int32) (l6 : Int32) (s0 : hw_St) : Option (Int32 × hw_St) := if l5 ≤ l6 then (L_X7_copy_140 130 l3 l4 l5 (0 : Int32) s0) else (hw_gd (hw_inb ((((24 : Int32) * l1) + l2) + l6) 96) (hw_gd (hw_inb l6 24) (hw_nm (hw_up s0 221 l6.toNatClampNeg (s0 216 ((((24 : Int32) * l1) + l2) + l6).toNatClampNeg)) (fun s23 => w103 l1 l2 l3 l4 l5 (l6 + 1) s23))))
def L_X7_copy_103  : Nat → Int32 → Int32 → Int32 → Int32 → Int32 → Int32 → hw_St → Option (Int32 × hw_St)
  | 0 => fun _ _ _ _ _ _ _ => none
  | n + 1 => S_X7_copy_103  (L_X7_copy_103  n)
def F_X7_copy  (a1 : Int32) (a2 : Int32) (a3 : Int32) (a4 : Int32) (a5 : Int32) (s0 : hw_St) : Option (Int32 × hw_St) := hw_bd (F_X7_isSheet a1 s0) (fun r1 s2 => if r1 = 0 then (some ((-1000000001 : Int32), s2)) else (hw_bd (F_X7_isSheet a3 s2) (fun r4 s5 => if r4 = 0 then (some ((-1000000001 : Int32), s5)) else (hw_gd (hw_inb a1 4) (if (s5 214 a1.toNatClampNeg) < 0 then (some ((-1000000011 : Int32), s5)) else (hw_gd (hw_inb a3 4) (if 0 ≤ (s5 214 a3.toNatClampNeg) then (hw_gd (hw_inb a1 4) (hw_gd (hw_inb a3 4) (if (s5 214 a1.toNatClampNeg) = (s5 214 a3.toNatClampNeg) then (if a2 < 0 then (some ((-1000000013 : Int32), s5)) else (if a4 < 0 then (some ((-1000000013 : Int32), s5)) else (if a5 < 0 then (some ((-1000000013 : Int32), s5)) else (hw_gd (hw_inb a1 4) (if ((s5 215 a1.toNatClampNeg) - a5) < a2 then (some ((-1000000013 : Int32), s5)) else (hw_gd (hw_inb a3 4) (if a4 ≤ ((s5 215 a3.toNatClampNeg) - a5) then (L_X7_copy_103 130 a1 a2 a3 a4 a5 (0 : Int32) s5) else (some ((-1000000013 : Int32), s5))))))))) else (some ((-1000000012 : Int32), s5))))) else (some ((-1000000011 : Int32), s5)))))))))
set_option maxRecDepth 20000 in
theorem KS_X7_copy_140 {G : hw_G} (C : hw_Ok G cX7_copy RX7 7 3 (some .int) hw_TM) (hTL : hw_eT (hw_gE G) = hw_TM) (w140 : Int32 → Int32 → Int32 → Int32 → hw_St → Option (Int32 × hw_St)) (H_w140 : ∀ (l3 : Int32) (l4 : Int32) (l5 : Int32) (l6 : Int32) (s0 : hw_St), hw_K G 7 hw_ri (w140 l3 l4 l5 l6 s0) 140 [(0, hw_rv (hw_ea (hw_gE G)) 200), (3, .int l3), (4, .int l4), (5, .int l5), (6, .int l6)] [] s0) (l3 : Int32) (l4 : Int32) (l5 : Int32) (l6 : Int32) (s0 : hw_St) : hw_K G 7 hw_ri (S_X7_copy_140 w140 l3 l4 l5 l6 s0) 140 [(0, hw_rv (hw_ea (hw_gE G)) 200), (3, .int l3), (4, .int l4), (5, .int l5), (6, .int l6)] [] s0 := by
  unfold S_X7_copy_140
  refine hw_iload C dX7_copy_140 4 rfl ?_
  refine hw_iload C dX7_copy_142 3 rfl ?_
  refine hw_icmp_ge C dX7_copy_144 (tgt := 175) (by decide) (fun c25 => ?_) (fun c25 => ?_)
  · refine hw_iload C dX7_copy_175 3 rfl ?_
    exact hw_iret C dX7_copy_177
  · refine hw_aload_n C dX7_copy_147 rfl 0 rfl ?_
    refine hw_getR C cf_X7 lf_X7_57 hw_T200 (t2 := 216) (by decide) dX7_copy_148 ?_
    refine hw_bipush C dX7_copy_151 (v := 24) (by decide) ?_
    refine hw_iload_n C dX7_copy_153 rfl 1 rfl ?_
    refine hw_imul C dX7_copy_154 ?_
    refine hw_iload C dX7_copy_155 2 rfl ?_
    refine hw_iadd C dX7_copy_157 ?_
    refine hw_iload C dX7_copy_158 4 rfl ?_
    refine hw_iadd C dX7_copy_160 ?_
    refine hw_aload_n C dX7_copy_161 rfl 0 rfl ?_
    refine hw_getR C cf_X7 lf_X7_72 hw_T200 (t2 := 221) (by decide) dX7_copy_162 ?_
    refine hw_iload C dX7_copy_165 4 rfl ?_
    refine hw_iald C hw_T221 (by decide) dX7_copy_167 (fun h26 => ?_)
    refine hw_iast C hw_T216 (by decide) dX7_copy_168 (fun h28 s27 => ?_)
    refine hw_iinc C dX7_copy_169 4 rfl (v := 1) (by decide) (by decide) rfl ?_
    refine hw_goto C dX7_copy_172 (tgt := 140) (by decide) ?_
    exact hw_lv [1, 2, 3, 4, 0] rfl (H_w140 l3 l4 l5 (l6 + 1) s27)
theorem KL_X7_copy_140 {G : hw_G} (C : hw_Ok G cX7_copy RX7 7 3 (some .int) hw_TM) (hTL : hw_eT (hw_gE G) = hw_TM) : ∀ (n_ : Nat) (l3 : Int32) (l4 : Int32) (l5 : Int32) (l6 : Int32) (s0 : hw_St), hw_K G 7 hw_ri (L_X7_copy_140 n_ l3 l4 l5 l6 s0) 140 [(0, hw_rv (hw_ea (hw_gE G)) 200), (3, .int l3), (4, .int l4), (5, .int l5), (6, .int l6)] [] s0 := by
  intro n_
  induction n_ with
  | zero => intros; exact hw_nil
  | succ n_ ih => intro l3 l4 l5 l6 s0; exact KS_X7_copy_140 C hTL (L_X7_copy_140 n_) ih l3 l4 l5 l6 s0
set_option maxRecDepth 20000 in
theorem KS_X7_copy_103 {G : hw_G} (C : hw_Ok G cX7_copy RX7 7 3 (some .int) hw_TM) (hTL : hw_eT (hw_gE G) = hw_TM) (w103 : Int32 → Int32 → Int32 → Int32 → Int32 → Int32 → hw_St → Option (Int32 × hw_St)) (H_w103 : ∀ (l1 : Int32) (l2 : Int32) (l3 : Int32) (l4 : Int32) (l5 : Int32) (l6 : Int32) (s0 : hw_St), hw_K G 7 hw_ri (w103 l1 l2 l3 l4 l5 l6 s0) 103 [(0, hw_rv (hw_ea (hw_gE G)) 200), (1, .int l1), (2, .int l2), (3, .int l3), (4, .int l4), (5, .int l5), (6, .int l6)] [] s0) (l1 : Int32) (l2 : Int32) (l3 : Int32) (l4 : Int32) (l5 : Int32) (l6 : Int32) (s0 : hw_St) : hw_K G 7 hw_ri (S_X7_copy_103 w103 l1 l2 l3 l4 l5 l6 s0) 103 [(0, hw_rv (hw_ea (hw_gE G)) 200), (1, .int l1), (2, .int l2), (3, .int l3), (4, .int l4), (5, .int l5), (6, .int l6)] [] s0 := by
  unfold S_X7_copy_103
  refine hw_iload C dX7_copy_103 6 rfl ?_
  refine hw_iload C dX7_copy_105 5 rfl ?_
  refine hw_icmp_ge C dX7_copy_107 (tgt := 137) (by decide) (fun c21 => ?_) (fun c21 => ?_)
  · refine hw_iconst C dX7_copy_137 (v := 0) (by decide) ?_
    refine hw_istore C dX7_copy_138 (by decide) rfl ?_
    exact hw_lv [1, 4, 5, 6, 0] rfl (KL_X7_copy_140 C hTL 130 l3 l4 l5 (0 : Int32) s0)
  · refine hw_aload_n C dX7_copy_110 rfl 0 rfl ?_
    refine hw_getR C cf_X7 lf_X7_72 hw_T200 (t2 := 221) (by decide) dX7_copy_111 ?_
    refine hw_iload C dX7_copy_114 6 rfl ?_
    refine hw_aload_n C dX7_copy_116 rfl 0 rfl ?_
    refine hw_getR C cf_X7 lf_X7_57 hw_T200 (t2 := 216) (by decide) dX7_copy_117 ?_
    refine hw_bipush C dX7_copy_120 (v := 24) (by decide) ?_
    refine hw_iload_n C dX7_copy_122 rfl 1 rfl ?_
    refine hw_imul C dX7_copy_123 ?_
    refine hw_iload_n C dX7_copy_124 rfl 2 rfl ?_
    refine hw_iadd C dX7_copy_125 ?_
    refine hw_iload C dX7_copy_126 6 rfl ?_
    refine hw_iadd C dX7_copy_128 ?_
    refine hw_iald C hw_T216 (by decide) dX7_copy_129 (fun h22 => ?_)
    refine hw_iast C hw_T221 (by decide) dX7_copy_130 (fun h24 s23 => ?_)
    refine hw_iinc C dX7_copy_131 6 rfl (v := 1) (by decide) (by decide) rfl ?_
    refine hw_goto C dX7_copy_134 (tgt := 103) (by decide) ?_
    exact hw_lv [1, 2, 3, 4, 5, 6, 0] rfl (H_w103 l1 l2 l3 l4 l5 (l6 + 1) s23)
theorem KL_X7_copy_103 {G : hw_G} (C : hw_Ok G cX7_copy RX7 7 3 (some .int) hw_TM) (hTL : hw_eT (hw_gE G) = hw_TM) : ∀ (n_ : Nat) (l1 : Int32) (l2 : Int32) (l3 : Int32) (l4 : Int32) (l5 : Int32) (l6 : Int32) (s0 : hw_St), hw_K G 7 hw_ri (L_X7_copy_103 n_ l1 l2 l3 l4 l5 l6 s0) 103 [(0, hw_rv (hw_ea (hw_gE G)) 200), (1, .int l1), (2, .int l2), (3, .int l3), (4, .int l4), (5, .int l5), (6, .int l6)] [] s0 := by
  intro n_
  induction n_ with
  | zero => intros; exact hw_nil
  | succ n_ ih => intro l1 l2 l3 l4 l5 l6 s0; exact KS_X7_copy_103 C hTL (L_X7_copy_103 n_) ih l1 l2 l3 l4 l5 l6 s0
set_option maxRecDepth 20000 in
theorem M_X7_copy (E : hw_E) (hE : hw_eT E = hw_TM) (a1 : Int32) (a2 : Int32) (a3 : Int32) (a4 : Int32) (a5 : Int32) (s0 : hw_St) : hw_M E yX7_copy cX7_copy 7 (some .int) 3 [hw_rv (hw_ea E) 200, .int a1, .int a2, .int a3, .int a4, .int a5] s0 hw_ri (F_X7_copy a1 a2 a3 a4 a5 s0) := by
  refine hw_entry (own := RX7) (TL := hw_TM) (by decide) rfl hE (hw_cR (hw_cI (hw_cI (hw_cI (hw_cI (hw_cI hw_cN)))))) (hw_l8 rfl) (fun G hG C => ?_)
  subst hG
  have hTL := hE
  show hw_K G 7 hw_ri _ 0 [(0, hw_rv (hw_ea (hw_gE G)) 200), (1, .int a1), (2, .int a2), (3, .int a3), (4, .int a4), (5, .int a5)] [] s0
  unfold F_X7_copy
  refine hw_iload_n C dX7_copy_0 rfl 1 rfl ?_
  refine hw_callSi C (M_X7_isSheet (hw_gE G) hTL a1 s0) W_X7_isSheet SS_X7_isSheet mw_580 (by decide) rfl ⟨rfl, hw_l8 rfl⟩ dX7_copy_1 (fun r1 s2 => ?_)
  refine hw_if_eq C dX7_copy_4 (tgt := 14) (by decide) (fun c3 => ?_) (fun c3 => ?_)
  · refine hw_ldc C mw_155 dX7_copy_14 ?_
    exact hw_iret C dX7_copy_16
  · refine hw_iload_n C dX7_copy_7 rfl 3 rfl ?_
    refine hw_callSi C (M_X7_isSheet (hw_gE G) hTL a3 s2) W_X7_isSheet SS_X7_isSheet mw_580 (by decide) rfl ⟨rfl, hw_l8 rfl⟩ dX7_copy_8 (fun r4 s5 => ?_)
    refine hw_if_ne C dX7_copy_11 (tgt := 17) (by decide) (fun c6 => ?_) (fun c6 => ?_)
    · refine hw_aload_n C dX7_copy_17 rfl 0 rfl ?_
      refine hw_getR C cf_X7 lf_X7_51 hw_T200 (t2 := 214) (by decide) dX7_copy_18 ?_
      refine hw_iload_n C dX7_copy_21 rfl 1 rfl ?_
      refine hw_iald C hw_T214 (by decide) dX7_copy_22 (fun h7 => ?_)
      refine hw_if_lt C dX7_copy_23 (tgt := 35) (by decide) (fun c8 => ?_) (fun c8 => ?_)
      · refine hw_ldc C mw_579 dX7_copy_35 ?_
        exact hw_iret C dX7_copy_37
      · refine hw_aload_n C dX7_copy_26 rfl 0 rfl ?_
        refine hw_getR C cf_X7 lf_X7_51 hw_T200 (t2 := 214) (by decide) dX7_copy_27 ?_
        refine hw_iload_n C dX7_copy_30 rfl 3 rfl ?_
        refine hw_iald C hw_T214 (by decide) dX7_copy_31 (fun h9 => ?_)
        refine hw_if_ge C dX7_copy_32 (tgt := 38) (by decide) (fun c10 => ?_) (fun c10 => ?_)
        · refine hw_aload_n C dX7_copy_38 rfl 0 rfl ?_
          refine hw_getR C cf_X7 lf_X7_51 hw_T200 (t2 := 214) (by decide) dX7_copy_39 ?_
          refine hw_iload_n C dX7_copy_42 rfl 1 rfl ?_
          refine hw_iald C hw_T214 (by decide) dX7_copy_43 (fun h11 => ?_)
          refine hw_aload_n C dX7_copy_44 rfl 0 rfl ?_
          refine hw_getR C cf_X7 lf_X7_51 hw_T200 (t2 := 214) (by decide) dX7_copy_45 ?_
          refine hw_iload_n C dX7_copy_48 rfl 3 rfl ?_
          refine hw_iald C hw_T214 (by decide) dX7_copy_49 (fun h12 => ?_)
          refine hw_icmp_eq C dX7_copy_50 (tgt := 56) (by decide) (fun c13 => ?_) (fun c13 => ?_)
          · refine hw_iload_n C dX7_copy_56 rfl 2 rfl ?_
            refine hw_if_lt C dX7_copy_57 (tgt := 97) (by decide) (fun c14 => ?_) (fun c14 => ?_)
            · refine hw_ldc C mw_903 dX7_copy_97 ?_
              exact hw_iret C dX7_copy_99
            · refine hw_iload C dX7_copy_60 4 rfl ?_
              refine hw_if_lt C dX7_copy_62 (tgt := 97) (by decide) (fun c15 => ?_) (fun c15 => ?_)
              · refine hw_ldc C mw_903 dX7_copy_97 ?_
                exact hw_iret C dX7_copy_99
              · refine hw_iload C dX7_copy_65 5 rfl ?_
                refine hw_if_lt C dX7_copy_67 (tgt := 97) (by decide) (fun c16 => ?_) (fun c16 => ?_)
                · refine hw_ldc C mw_903 dX7_copy_97 ?_
                  exact hw_iret C dX7_copy_99
                · refine hw_iload_n C dX7_copy_70 rfl 2 rfl ?_
                  refine hw_aload_n C dX7_copy_71 rfl 0 rfl ?_
                  refine hw_getR C cf_X7 lf_X7_54 hw_T200 (t2 := 215) (by decide) dX7_copy_72 ?_
                  refine hw_iload_n C dX7_copy_75 rfl 1 rfl ?_
                  refine hw_iald C hw_T215 (by decide) dX7_copy_76 (fun h17 => ?_)
                  refine hw_iload C dX7_copy_77 5 rfl ?_
                  refine hw_isub C dX7_copy_79 ?_
                  refine hw_icmp_gt C dX7_copy_80 (tgt := 97) (by decide) (fun c18 => ?_) (fun c18 => ?_)
                  · refine hw_ldc C mw_903 dX7_copy_97 ?_
                    exact hw_iret C dX7_copy_99
                  · refine hw_iload C dX7_copy_83 4 rfl ?_
                    refine hw_aload_n C dX7_copy_85 rfl 0 rfl ?_
                    refine hw_getR C cf_X7 lf_X7_54 hw_T200 (t2 := 215) (by decide) dX7_copy_86 ?_
                    refine hw_iload_n C dX7_copy_89 rfl 3 rfl ?_
                    refine hw_iald C hw_T215 (by decide) dX7_copy_90 (fun h19 => ?_)
                    refine hw_iload C dX7_copy_91 5 rfl ?_
                    refine hw_isub C dX7_copy_93 ?_
                    refine hw_icmp_le C dX7_copy_94 (tgt := 100) (by decide) (fun c20 => ?_) (fun c20 => ?_)
                    · refine hw_iconst C dX7_copy_100 (v := 0) (by decide) ?_
                      refine hw_istore C dX7_copy_101 (by decide) rfl ?_
                      exact hw_lv [1, 2, 3, 4, 5, 6, 0] rfl (KL_X7_copy_103 C hTL 130 a1 a2 a3 a4 a5 (0 : Int32) s5)
                    · refine hw_ldc C mw_903 dX7_copy_97 ?_
                      exact hw_iret C dX7_copy_99
          · refine hw_ldc C mw_219 dX7_copy_53 ?_
            exact hw_iret C dX7_copy_55
        · refine hw_ldc C mw_579 dX7_copy_35 ?_
          exact hw_iret C dX7_copy_37
    · refine hw_ldc C mw_155 dX7_copy_14 ?_
      exact hw_iret C dX7_copy_16
/-! HumWireModel lay(III)I, level 3 -/
def S_X7_lay_134  (w134 : Int32 → Int32 → Int32 → Int32 → Int32 → hw_St → Option (Int32 × hw_St)) (l1 : Int32) (l2 : Int32) (l3 : Int32) (l4 : Int32) (l5 : Int32) (s0 : hw_St) : Option (Int32 × hw_St) := if (24 : Int32) ≤ l5 then (some (l4, s0)) else (if l2 = (2 : Int32) then (hw_gd (hw_inb (((24 : Int32) * l3) + l5) 96) (hw_gd (hw_inb (((24 : Int32) * l1) + l5) 120) (hw_nm (hw_up s0 220 (((24 : Int32) * l1) + l5).toNatClampNeg (s0 216 (((24 : Int32) * l3) + l5).toNatClampNeg)) (fun s37 => w134 l1 l2 l3 l4 (l5 + 1) s37)))) else (some (l4, s0)))
def L_X7_lay_134  : Nat → Int32 → Int32 → Int32 → Int32 → Int32 → hw_St → Option (Int32 × hw_St)
  | 0 => fun _ _ _ _ _ _ => none
  | n + 1 => S_X7_lay_134  (L_X7_lay_134  n)
def B_X7_lay_130  (l1 : Int32) (l2 : Int32) (l3 : Int32) (l4 : Int32) (k0 : Int32) (k1 : Int32) (s0 : hw_St) : Option (Int32 × hw_St) := hw_gd (hw_inb k1 5) (hw_nm (hw_up s0 219 k1.toNatClampNeg k0) (fun s32 => L_X7_lay_134 130 l1 l2 l3 l4 (0 : Int32) s32))
def B_X7_lay_110  (l1 : Int32) (l2 : Int32) (l3 : Int32) (l4 : Int32) (k0 : Int32) (k1 : Int32) (s0 : hw_St) : Option (Int32 × hw_St) := hw_gd (hw_inb k1 5) (hw_nm (hw_up s0 218 k1.toNatClampNeg k0) (fun s27 => if l2 = (1 : Int32) then (hw_bd (F_X7_worthOf l3 s27) (fun r30 s31 => B_X7_lay_130 l1 l2 l3 l4 r30 l1 s31)) else (B_X7_lay_130 l1 l2 l3 l4 (0 : Int32) l1 s27)))
def B_X7_lay_61  (l1 : Int32) (l2 : Int32) (l3 : Int32) (s0 : hw_St) : Option (Int32 × hw_St) := hw_gd (hw_inb l1 5) (hw_nm (s0 217 l1.toNatClampNeg) (fun x19 => hw_gd (hw_inb l1 5) (hw_nm (hw_up s0 217 l1.toNatClampNeg l2) (fun s20 => if l2 = (1 : Int32) then (hw_bd (F_X7_of l3 (0 : Int32) s20) (fun r25 s26 => B_X7_lay_110 l1 l2 l3 x19 r25 l1 s26)) else (if l2 = (2 : Int32) then (hw_gd (hw_inb l3 4) (B_X7_lay_110 l1 l2 l3 x19 (s20 215 l3.toNatClampNeg) l1 s20)) else (B_X7_lay_110 l1 l2 l3 x19 l3 l1 s20))))))
def B_X7_lay_44  (l1 : Int32) (l2 : Int32) (l3 : Int32) (s0 : hw_St) : Option (Int32 × hw_St) := if l2 = (2 : Int32) then (hw_gd (hw_inb l3 4) (if 0 ≤ (s0 214 l3.toNatClampNeg) then (B_X7_lay_61 l1 l2 l3 s0) else (some ((-1000000011 : Int32), s0)))) else (B_X7_lay_61 l1 l2 l3 s0)
def B_X7_lay_29  (l1 : Int32) (l2 : Int32) (l3 : Int32) (s0 : hw_St) : Option (Int32 × hw_St) := if l2 = (2 : Int32) then (hw_bd (F_X7_isSheet l3 s0) (fun r12 s13 => if r12 = 0 then (some ((-1000000001 : Int32), s13)) else (B_X7_lay_44 l1 l2 l3 s13))) else (B_X7_lay_44 l1 l2 l3 s0)
def F_X7_lay  (a1 : Int32) (a2 : Int32) (a3 : Int32) (s0 : hw_St) : Option (Int32 × hw_St) := hw_bd (F_X7_isSlot a1 s0) (fun r1 s2 => if r1 = 0 then (some ((-1000000001 : Int32), s2)) else (hw_bd (F_X7_in a2 (0 : Int32) (3 : Int32) s2) (fun r4 s5 => if r4 = 0 then (some ((-1000000001 : Int32), s5)) else (if a2 = (1 : Int32) then (hw_bd (F_X7_isWire a3 s5) (fun r8 s9 => if r8 = 0 then (some ((-1000000001 : Int32), s9)) else (B_X7_lay_29 a1 a2 a3 s9))) else (B_X7_lay_29 a1 a2 a3 s5)))))
set_option maxRecDepth 20000 in
theorem KS_X7_lay_134 {G : hw_G} (C : hw_Ok G cX7_lay RX7 6 3 (some .int) hw_TM) (hTL : hw_eT (hw_gE G) = hw_TM) (w134 : Int32 → Int32 → Int32 → Int32 → Int32 → hw_St → Option (Int32 × hw_St)) (H_w134 : ∀ (l1 : Int32) (l2 : Int32) (l3 : Int32) (l4 : Int32) (l5 : Int32) (s0 : hw_St), hw_K G 6 hw_ri (w134 l1 l2 l3 l4 l5 s0) 134 [(0, hw_rv (hw_ea (hw_gE G)) 200), (1, .int l1), (2, .int l2), (3, .int l3), (4, .int l4), (5, .int l5)] [] s0) (l1 : Int32) (l2 : Int32) (l3 : Int32) (l4 : Int32) (l5 : Int32) (s0 : hw_St) : hw_K G 6 hw_ri (S_X7_lay_134 w134 l1 l2 l3 l4 l5 s0) 134 [(0, hw_rv (hw_ea (hw_gE G)) 200), (1, .int l1), (2, .int l2), (3, .int l3), (4, .int l4), (5, .int l5)] [] s0 := by
  unfold S_X7_lay_134
  refine hw_iload C dX7_lay_134 5 rfl ?_
  refine hw_bipush C dX7_lay_136 (v := 24) (by decide) ?_
  refine hw_icmp_ge C dX7_lay_138 (tgt := 176) (by decide) (fun c34 => ?_) (fun c34 => ?_)
  · refine hw_iload C dX7_lay_176 4 rfl ?_
    exact hw_iret C dX7_lay_178
  · refine hw_iload_n C dX7_lay_141 rfl 2 rfl ?_
    refine hw_iconst C dX7_lay_142 (v := 2) (by decide) ?_
    refine hw_icmp_ne C dX7_lay_143 (tgt := 176) (by decide) (fun c35 => ?_) (fun c35 => ?_)
    · refine hw_iload C dX7_lay_176 4 rfl ?_
      exact hw_iret C dX7_lay_178
    · refine hw_aload_n C dX7_lay_146 rfl 0 rfl ?_
      refine hw_getR C cf_X7 lf_X7_69 hw_T200 (t2 := 220) (by decide) dX7_lay_147 ?_
      refine hw_bipush C dX7_lay_150 (v := 24) (by decide) ?_
      refine hw_iload_n C dX7_lay_152 rfl 1 rfl ?_
      refine hw_imul C dX7_lay_153 ?_
      refine hw_iload C dX7_lay_154 5 rfl ?_
      refine hw_iadd C dX7_lay_156 ?_
      refine hw_aload_n C dX7_lay_157 rfl 0 rfl ?_
      refine hw_getR C cf_X7 lf_X7_57 hw_T200 (t2 := 216) (by decide) dX7_lay_158 ?_
      refine hw_bipush C dX7_lay_161 (v := 24) (by decide) ?_
      refine hw_iload_n C dX7_lay_163 rfl 3 rfl ?_
      refine hw_imul C dX7_lay_164 ?_
      refine hw_iload C dX7_lay_165 5 rfl ?_
      refine hw_iadd C dX7_lay_167 ?_
      refine hw_iald C hw_T216 (by decide) dX7_lay_168 (fun h36 => ?_)
      refine hw_iast C hw_T220 (by decide) dX7_lay_169 (fun h38 s37 => ?_)
      refine hw_iinc C dX7_lay_170 5 rfl (v := 1) (by decide) (by decide) rfl ?_
      refine hw_goto C dX7_lay_173 (tgt := 134) (by decide) ?_
      exact hw_lv [1, 2, 3, 4, 5, 0] rfl (H_w134 l1 l2 l3 l4 (l5 + 1) s37)
theorem KL_X7_lay_134 {G : hw_G} (C : hw_Ok G cX7_lay RX7 6 3 (some .int) hw_TM) (hTL : hw_eT (hw_gE G) = hw_TM) : ∀ (n_ : Nat) (l1 : Int32) (l2 : Int32) (l3 : Int32) (l4 : Int32) (l5 : Int32) (s0 : hw_St), hw_K G 6 hw_ri (L_X7_lay_134 n_ l1 l2 l3 l4 l5 s0) 134 [(0, hw_rv (hw_ea (hw_gE G)) 200), (1, .int l1), (2, .int l2), (3, .int l3), (4, .int l4), (5, .int l5)] [] s0 := by
  intro n_
  induction n_ with
  | zero => intros; exact hw_nil
  | succ n_ ih => intro l1 l2 l3 l4 l5 s0; exact KS_X7_lay_134 C hTL (L_X7_lay_134 n_) ih l1 l2 l3 l4 l5 s0
set_option maxRecDepth 20000 in
theorem KB_X7_lay_130 {G : hw_G} (C : hw_Ok G cX7_lay RX7 6 3 (some .int) hw_TM) (hTL : hw_eT (hw_gE G) = hw_TM) (l1 : Int32) (l2 : Int32) (l3 : Int32) (l4 : Int32) (k0 : Int32) (k1 : Int32) (s0 : hw_St) : hw_K G 6 hw_ri (B_X7_lay_130 l1 l2 l3 l4 k0 k1 s0) 130 [(0, hw_rv (hw_ea (hw_gE G)) 200), (1, .int l1), (2, .int l2), (3, .int l3), (4, .int l4)] [.int k0, .int k1, hw_rv (hw_ea (hw_gE G)) 219] s0 := by
  unfold B_X7_lay_130
  refine hw_iast C hw_T219 (by decide) dX7_lay_130 (fun h33 s32 => ?_)
  refine hw_iconst C dX7_lay_131 (v := 0) (by decide) ?_
  refine hw_istore C dX7_lay_132 (by decide) rfl ?_
  exact hw_lv [1, 2, 3, 4, 5, 0] rfl (KL_X7_lay_134 C hTL 130 l1 l2 l3 l4 (0 : Int32) s32)
set_option maxRecDepth 20000 in
theorem KB_X7_lay_110 {G : hw_G} (C : hw_Ok G cX7_lay RX7 6 3 (some .int) hw_TM) (hTL : hw_eT (hw_gE G) = hw_TM) (l1 : Int32) (l2 : Int32) (l3 : Int32) (l4 : Int32) (k0 : Int32) (k1 : Int32) (s0 : hw_St) : hw_K G 6 hw_ri (B_X7_lay_110 l1 l2 l3 l4 k0 k1 s0) 110 [(0, hw_rv (hw_ea (hw_gE G)) 200), (1, .int l1), (2, .int l2), (3, .int l3), (4, .int l4)] [.int k0, .int k1, hw_rv (hw_ea (hw_gE G)) 218] s0 := by
  unfold B_X7_lay_110
  refine hw_iast C hw_T218 (by decide) dX7_lay_110 (fun h28 s27 => ?_)
  refine hw_aload_n C dX7_lay_111 rfl 0 rfl ?_
  refine hw_getR C cf_X7 lf_X7_66 hw_T200 (t2 := 219) (by decide) dX7_lay_112 ?_
  refine hw_iload_n C dX7_lay_115 rfl 1 rfl ?_
  refine hw_iload_n C dX7_lay_116 rfl 2 rfl ?_
  refine hw_iconst C dX7_lay_117 (v := 1) (by decide) ?_
  refine hw_icmp_ne C dX7_lay_118 (tgt := 129) (by decide) (fun c29 => ?_) (fun c29 => ?_)
  · refine hw_iconst C dX7_lay_129 (v := 0) (by decide) ?_
    exact hw_lv [0, 1, 2, 3, 4] rfl (KB_X7_lay_130 C hTL l1 l2 l3 l4 (0 : Int32) l1 s27)
  · refine hw_aload_n C dX7_lay_121 rfl 0 rfl ?_
    refine hw_iload_n C dX7_lay_122 rfl 3 rfl ?_
    refine hw_callVi C (M_X7_worthOf (hw_gE G) hTL l3 s27) W_X7_worthOf SV_X7_worthOf cf_X7 hw_T200 mw_202 (by decide) rfl ⟨rfl, hw_l8 rfl⟩ dX7_lay_123 (fun r30 s31 => ?_)
    refine hw_goto C dX7_lay_126 (tgt := 130) (by decide) ?_
    exact hw_lv [0, 1, 2, 3, 4] rfl (KB_X7_lay_130 C hTL l1 l2 l3 l4 r30 l1 s31)
set_option maxRecDepth 20000 in
theorem KB_X7_lay_61 {G : hw_G} (C : hw_Ok G cX7_lay RX7 6 3 (some .int) hw_TM) (hTL : hw_eT (hw_gE G) = hw_TM) (l1 : Int32) (l2 : Int32) (l3 : Int32) (s0 : hw_St) : hw_K G 6 hw_ri (B_X7_lay_61 l1 l2 l3 s0) 61 [(0, hw_rv (hw_ea (hw_gE G)) 200), (1, .int l1), (2, .int l2), (3, .int l3)] [] s0 := by
  unfold B_X7_lay_61
  refine hw_aload_n C dX7_lay_61 rfl 0 rfl ?_
  refine hw_getR C cf_X7 lf_X7_60 hw_T200 (t2 := 217) (by decide) dX7_lay_62 ?_
  refine hw_iload_n C dX7_lay_65 rfl 1 rfl ?_
  refine hw_iald C hw_T217 (by decide) dX7_lay_66 (fun h18 => ?_)
  refine hw_istoreN C dX7_lay_67 (by decide) (fun _ => rfl) (fun x19 => ?_)
  refine hw_aload_n C dX7_lay_69 rfl 1 rfl ?_
  refine hw_getR C cf_X7 lf_X7_60 hw_T200 (t2 := 217) (by decide) dX7_lay_70 ?_
  refine hw_iload_n C dX7_lay_73 rfl 2 rfl ?_
  refine hw_iload_n C dX7_lay_74 rfl 3 rfl ?_
  refine hw_iast C hw_T217 (by decide) dX7_lay_75 (fun h21 s20 => ?_)
  refine hw_aload_n C dX7_lay_76 rfl 1 rfl ?_
  refine hw_getR C cf_X7 lf_X7_63 hw_T200 (t2 := 218) (by decide) dX7_lay_77 ?_
  refine hw_iload_n C dX7_lay_80 rfl 2 rfl ?_
  refine hw_iload_n C dX7_lay_81 rfl 3 rfl ?_
  refine hw_iconst C dX7_lay_82 (v := 1) (by decide) ?_
  refine hw_icmp_ne C dX7_lay_83 (tgt := 95) (by decide) (fun c22 => ?_) (fun c22 => ?_)
  · refine hw_iload_n C dX7_lay_95 rfl 3 rfl ?_
    refine hw_iconst C dX7_lay_96 (v := 2) (by decide) ?_
    refine hw_icmp_ne C dX7_lay_97 (tgt := 109) (by decide) (fun c23 => ?_) (fun c23 => ?_)
    · refine hw_iload_n C dX7_lay_109 rfl 4 rfl ?_
      exact hw_lv [1, 2, 3, 4, 0] rfl (KB_X7_lay_110 C hTL l1 l2 l3 x19 l3 l1 s20)
    · refine hw_aload_n C dX7_lay_100 rfl 1 rfl ?_
      refine hw_getR C cf_X7 lf_X7_54 hw_T200 (t2 := 215) (by decide) dX7_lay_101 ?_
      refine hw_iload_n C dX7_lay_104 rfl 4 rfl ?_
      refine hw_iald C hw_T215 (by decide) dX7_lay_105 (fun h24 => ?_)
      refine hw_goto C dX7_lay_106 (tgt := 110) (by decide) ?_
      exact hw_lv [1, 2, 3, 4, 0] rfl (KB_X7_lay_110 C hTL l1 l2 l3 x19 (s20 215 l3.toNatClampNeg) l1 s20)
  · refine hw_aload_n C dX7_lay_86 rfl 1 rfl ?_
    refine hw_iload_n C dX7_lay_87 rfl 4 rfl ?_
    refine hw_iconst C dX7_lay_88 (v := 0) (by decide) ?_
    refine hw_callVi C (M_X7_of (hw_gE G) hTL l3 (0 : Int32) s20) W_X7_of SV_X7_of cf_X7 hw_T200 mw_194 (by decide) rfl ⟨rfl, hw_l8 rfl⟩ dX7_lay_89 (fun r25 s26 => ?_)
    refine hw_goto C dX7_lay_92 (tgt := 110) (by decide) ?_
    exact hw_lv [1, 2, 3, 4, 0] rfl (KB_X7_lay_110 C hTL l1 l2 l3 x19 r25 l1 s26)
set_option maxRecDepth 20000 in
theorem KB_X7_lay_44 {G : hw_G} (C : hw_Ok G cX7_lay RX7 6 3 (some .int) hw_TM) (hTL : hw_eT (hw_gE G) = hw_TM) (l1 : Int32) (l2 : Int32) (l3 : Int32) (s0 : hw_St) : hw_K G 6 hw_ri (B_X7_lay_44 l1 l2 l3 s0) 44 [(0, hw_rv (hw_ea (hw_gE G)) 200), (1, .int l1), (2, .int l2), (3, .int l3)] [] s0 := by
  unfold B_X7_lay_44
  refine hw_iload_n C dX7_lay_44 rfl 2 rfl ?_
  refine hw_iconst C dX7_lay_45 (v := 2) (by decide) ?_
  refine hw_icmp_ne C dX7_lay_46 (tgt := 61) (by decide) (fun c15 => ?_) (fun c15 => ?_)
  · exact hw_lv [0, 1, 2, 3] rfl (KB_X7_lay_61 C hTL l1 l2 l3 s0)
  · refine hw_aload_n C dX7_lay_49 rfl 0 rfl ?_
    refine hw_getR C cf_X7 lf_X7_51 hw_T200 (t2 := 214) (by decide) dX7_lay_50 ?_
    refine hw_iload_n C dX7_lay_53 rfl 3 rfl ?_
    refine hw_iald C hw_T214 (by decide) dX7_lay_54 (fun h16 => ?_)
    refine hw_if_ge C dX7_lay_55 (tgt := 61) (by decide) (fun c17 => ?_) (fun c17 => ?_)
    · exact hw_lv [0, 1, 2, 3] rfl (KB_X7_lay_61 C hTL l1 l2 l3 s0)
    · refine hw_ldc C mw_579 dX7_lay_58 ?_
      exact hw_iret C dX7_lay_60
set_option maxRecDepth 20000 in
theorem KB_X7_lay_29 {G : hw_G} (C : hw_Ok G cX7_lay RX7 6 3 (some .int) hw_TM) (hTL : hw_eT (hw_gE G) = hw_TM) (l1 : Int32) (l2 : Int32) (l3 : Int32) (s0 : hw_St) : hw_K G 6 hw_ri (B_X7_lay_29 l1 l2 l3 s0) 29 [(0, hw_rv (hw_ea (hw_gE G)) 200), (1, .int l1), (2, .int l2), (3, .int l3)] [] s0 := by
  unfold B_X7_lay_29
  refine hw_iload_n C dX7_lay_29 rfl 2 rfl ?_
  refine hw_iconst C dX7_lay_30 (v := 2) (by decide) ?_
  refine hw_icmp_ne C dX7_lay_31 (tgt := 44) (by decide) (fun c11 => ?_) (fun c11 => ?_)
  · exact hw_lv [0, 1, 2, 3] rfl (KB_X7_lay_44 C hTL l1 l2 l3 s0)
  · refine hw_iload_n C dX7_lay_34 rfl 3 rfl ?_
    refine hw_callSi C (M_X7_isSheet (hw_gE G) hTL l3 s0) W_X7_isSheet SS_X7_isSheet mw_580 (by decide) rfl ⟨rfl, hw_l8 rfl⟩ dX7_lay_35 (fun r12 s13 => ?_)
    refine hw_if_ne C dX7_lay_38 (tgt := 44) (by decide) (fun c14 => ?_) (fun c14 => ?_)
    · exact hw_lv [0, 1, 2, 3] rfl (KB_X7_lay_44 C hTL l1 l2 l3 s13)
    · refine hw_ldc C mw_155 dX7_lay_41 ?_
      exact hw_iret C dX7_lay_43
set_option maxRecDepth 20000 in
theorem M_X7_lay (E : hw_E) (hE : hw_eT E = hw_TM) (a1 : Int32) (a2 : Int32) (a3 : Int32) (s0 : hw_St) : hw_M E yX7_lay cX7_lay 6 (some .int) 3 [hw_rv (hw_ea E) 200, .int a1, .int a2, .int a3] s0 hw_ri (F_X7_lay a1 a2 a3 s0) := by
  refine hw_entry (own := RX7) (TL := hw_TM) (by decide) rfl hE (hw_cR (hw_cI (hw_cI (hw_cI hw_cN)))) (hw_l8 rfl) (fun G hG C => ?_)
  subst hG
  have hTL := hE
  show hw_K G 6 hw_ri _ 0 [(0, hw_rv (hw_ea (hw_gE G)) 200), (1, .int a1), (2, .int a2), (3, .int a3)] [] s0
  unfold F_X7_lay
  refine hw_iload_n C dX7_lay_0 rfl 1 rfl ?_
  refine hw_callSi C (M_X7_isSlot (hw_gE G) hTL a1 s0) W_X7_isSlot SS_X7_isSlot mw_958 (by decide) rfl ⟨rfl, hw_l8 rfl⟩ dX7_lay_1 (fun r1 s2 => ?_)
  refine hw_if_eq C dX7_lay_4 (tgt := 41) (by decide) (fun c3 => ?_) (fun c3 => ?_)
  · refine hw_ldc C mw_155 dX7_lay_41 ?_
    exact hw_iret C dX7_lay_43
  · refine hw_iload_n C dX7_lay_7 rfl 2 rfl ?_
    refine hw_iconst C dX7_lay_8 (v := 0) (by decide) ?_
    refine hw_iconst C dX7_lay_9 (v := 3) (by decide) ?_
    refine hw_callSi C (M_X7_in (hw_gE G) hTL a2 (0 : Int32) (3 : Int32) s2) W_X7_in SS_X7_in mw_157 (by decide) rfl ⟨rfl, hw_l8 rfl⟩ dX7_lay_10 (fun r4 s5 => ?_)
    refine hw_if_eq C dX7_lay_13 (tgt := 41) (by decide) (fun c6 => ?_) (fun c6 => ?_)
    · refine hw_ldc C mw_155 dX7_lay_41 ?_
      exact hw_iret C dX7_lay_43
    · refine hw_iload_n C dX7_lay_16 rfl 2 rfl ?_
      refine hw_iconst C dX7_lay_17 (v := 1) (by decide) ?_
      refine hw_icmp_ne C dX7_lay_18 (tgt := 29) (by decide) (fun c7 => ?_) (fun c7 => ?_)
      · exact hw_lv [0, 1, 2, 3] rfl (KB_X7_lay_29 C hTL a1 a2 a3 s5)
      · refine hw_aload_n C dX7_lay_21 rfl 0 rfl ?_
        refine hw_iload_n C dX7_lay_22 rfl 3 rfl ?_
        refine hw_callVi C (M_X7_isWire (hw_gE G) hTL a3 s5) W_X7_isWire SV_X7_isWire cf_X7 hw_T200 mw_190 (by decide) rfl ⟨rfl, hw_l8 rfl⟩ dX7_lay_23 (fun r8 s9 => ?_)
        refine hw_if_eq C dX7_lay_26 (tgt := 41) (by decide) (fun c10 => ?_) (fun c10 => ?_)
        · refine hw_ldc C mw_155 dX7_lay_41 ?_
          exact hw_iret C dX7_lay_43
        · exact hw_lv [0, 1, 2, 3] rfl (KB_X7_lay_29 C hTL a1 a2 a3 s9)
/-! HumWireModel ask(II)I, level 3 -/
def F_X7_ask  (a1 : Int32) (a2 : Int32) (s0 : hw_St) : Option (Int32 × hw_St) := hw_bd (F_X7_isSlot a1 s0) (fun r1 s2 => if r1 = 0 then (some ((-1000000001 : Int32), s2)) else (hw_bd (F_X7_in a2 (0 : Int32) (5 : Int32) s2) (fun r4 s5 => if r4 = 0 then (some ((-1000000001 : Int32), s5)) else (hw_gd (hw_inb a1 5) (if (s5 217 a1.toNatClampNeg) = 0 then (some ((-1000000011 : Int32), s5)) else (hw_gd (hw_inb a1 5) (if (s5 217 a1.toNatClampNeg) = (1 : Int32) then (hw_gd (hw_inb a1 5) (hw_bd (F_X7_isUnder (s5 218 a1.toNatClampNeg) a2 s5) (fun r12 s13 => if r12 = 0 then (some ((-1000000012 : Int32), s13)) else (hw_gd (hw_inb a1 5) (some ((s13 219 a1.toNatClampNeg), s13)))))) else (some ((-1000000012 : Int32), s5)))))))))
set_option maxRecDepth 20000 in
theorem M_X7_ask (E : hw_E) (hE : hw_eT E = hw_TM) (a1 : Int32) (a2 : Int32) (s0 : hw_St) : hw_M E yX7_ask cX7_ask 3 (some .int) 3 [hw_rv (hw_ea E) 200, .int a1, .int a2] s0 hw_ri (F_X7_ask a1 a2 s0) := by
  refine hw_entry (own := RX7) (TL := hw_TM) (by decide) rfl hE (hw_cR (hw_cI (hw_cI hw_cN))) (hw_l8 rfl) (fun G hG C => ?_)
  subst hG
  have hTL := hE
  show hw_K G 3 hw_ri _ 0 [(0, hw_rv (hw_ea (hw_gE G)) 200), (1, .int a1), (2, .int a2)] [] s0
  unfold F_X7_ask
  refine hw_iload_n C dX7_ask_0 rfl 1 rfl ?_
  refine hw_callSi C (M_X7_isSlot (hw_gE G) hTL a1 s0) W_X7_isSlot SS_X7_isSlot mw_958 (by decide) rfl ⟨rfl, hw_l8 rfl⟩ dX7_ask_1 (fun r1 s2 => ?_)
  refine hw_if_eq C dX7_ask_4 (tgt := 16) (by decide) (fun c3 => ?_) (fun c3 => ?_)
  · refine hw_ldc C mw_155 dX7_ask_16 ?_
    exact hw_iret C dX7_ask_18
  · refine hw_iload_n C dX7_ask_7 rfl 2 rfl ?_
    refine hw_iconst C dX7_ask_8 (v := 0) (by decide) ?_
    refine hw_iconst C dX7_ask_9 (v := 5) (by decide) ?_
    refine hw_callSi C (M_X7_in (hw_gE G) hTL a2 (0 : Int32) (5 : Int32) s2) W_X7_in SS_X7_in mw_157 (by decide) rfl ⟨rfl, hw_l8 rfl⟩ dX7_ask_10 (fun r4 s5 => ?_)
    refine hw_if_ne C dX7_ask_13 (tgt := 19) (by decide) (fun c6 => ?_) (fun c6 => ?_)
    · refine hw_aload_n C dX7_ask_19 rfl 0 rfl ?_
      refine hw_getR C cf_X7 lf_X7_60 hw_T200 (t2 := 217) (by decide) dX7_ask_20 ?_
      refine hw_iload_n C dX7_ask_23 rfl 1 rfl ?_
      refine hw_iald C hw_T217 (by decide) dX7_ask_24 (fun h7 => ?_)
      refine hw_if_ne C dX7_ask_25 (tgt := 31) (by decide) (fun c8 => ?_) (fun c8 => ?_)
      · refine hw_aload_n C dX7_ask_31 rfl 0 rfl ?_
        refine hw_getR C cf_X7 lf_X7_60 hw_T200 (t2 := 217) (by decide) dX7_ask_32 ?_
        refine hw_iload_n C dX7_ask_35 rfl 1 rfl ?_
        refine hw_iald C hw_T217 (by decide) dX7_ask_36 (fun h9 => ?_)
        refine hw_iconst C dX7_ask_37 (v := 1) (by decide) ?_
        refine hw_icmp_ne C dX7_ask_38 (tgt := 63) (by decide) (fun c10 => ?_) (fun c10 => ?_)
        · refine hw_ldc C mw_219 dX7_ask_63 ?_
          exact hw_iret C dX7_ask_65
        · refine hw_aload_n C dX7_ask_41 rfl 0 rfl ?_
          refine hw_getR C cf_X7 lf_X7_63 hw_T200 (t2 := 218) (by decide) dX7_ask_42 ?_
          refine hw_iload_n C dX7_ask_45 rfl 1 rfl ?_
          refine hw_iald C hw_T218 (by decide) dX7_ask_46 (fun h11 => ?_)
          refine hw_iload_n C dX7_ask_47 rfl 2 rfl ?_
          refine hw_callSi C (M_X7_isUnder (hw_gE G) hTL (s5 218 a1.toNatClampNeg) a2 s5) W_X7_isUnder SS_X7_isUnder mw_220 (by decide) rfl ⟨rfl, hw_l8 rfl⟩ dX7_ask_48 (fun r12 s13 => ?_)
          refine hw_if_eq C dX7_ask_51 (tgt := 63) (by decide) (fun c14 => ?_) (fun c14 => ?_)
          · refine hw_ldc C mw_219 dX7_ask_63 ?_
            exact hw_iret C dX7_ask_65
          · refine hw_aload_n C dX7_ask_54 rfl 0 rfl ?_
            refine hw_getR C cf_X7 lf_X7_66 hw_T200 (t2 := 219) (by decide) dX7_ask_55 ?_
            refine hw_iload_n C dX7_ask_58 rfl 1 rfl ?_
            refine hw_iald C hw_T219 (by decide) dX7_ask_59 (fun h15 => ?_)
            refine hw_goto C dX7_ask_60 (tgt := 65) (by decide) ?_
            exact hw_iret C dX7_ask_65
      · refine hw_ldc C mw_579 dX7_ask_28 ?_
        exact hw_iret C dX7_ask_30
    · refine hw_ldc C mw_155 dX7_ask_16 ?_
      exact hw_iret C dX7_ask_18
/-! HumWireModel item(II)I, level 3 -/
def F_X7_item  (a1 : Int32) (a2 : Int32) (s0 : hw_St) : Option (Int32 × hw_St) := hw_bd (F_X7_isSlot a1 s0) (fun r1 s2 => if r1 = 0 then (some ((-1000000001 : Int32), s2)) else (hw_gd (hw_inb a1 5) (if (s2 217 a1.toNatClampNeg) = 0 then (some ((-1000000011 : Int32), s2)) else (hw_gd (hw_inb a1 5) (if (s2 217 a1.toNatClampNeg) = (2 : Int32) then (hw_gd (hw_inb a1 5) (hw_bd (F_X7_in a2 (0 : Int32) ((s2 218 a1.toNatClampNeg) - (1 : Int32)) s2) (fun r9 s10 => if r9 = 0 then (some ((-1000000013 : Int32), s10)) else (hw_gd (hw_inb (((24 : Int32) * a1) + a2) 120) (hw_nm (s10 220 (((24 : Int32) * a1) + a2).toNatClampNeg) (fun x13 => if x13 = (-1000000005 : Int32) then (some ((-1000000012 : Int32), s10)) else (some (x13, s10)))))))) else (some ((-1000000012 : Int32), s2)))))))
set_option maxRecDepth 20000 in
theorem M_X7_item (E : hw_E) (hE : hw_eT E = hw_TM) (a1 : Int32) (a2 : Int32) (s0 : hw_St) : hw_M E yX7_item cX7_item 4 (some .int) 3 [hw_rv (hw_ea E) 200, .int a1, .int a2] s0 hw_ri (F_X7_item a1 a2 s0) := by
  refine hw_entry (own := RX7) (TL := hw_TM) (by decide) rfl hE (hw_cR (hw_cI (hw_cI hw_cN))) (hw_l8 rfl) (fun G hG C => ?_)
  subst hG
  have hTL := hE
  show hw_K G 4 hw_ri _ 0 [(0, hw_rv (hw_ea (hw_gE G)) 200), (1, .int a1), (2, .int a2)] [] s0
  unfold F_X7_item
  refine hw_iload_n C dX7_item_0 rfl 1 rfl ?_
  refine hw_callSi C (M_X7_isSlot (hw_gE G) hTL a1 s0) W_X7_isSlot SS_X7_isSlot mw_958 (by decide) rfl ⟨rfl, hw_l8 rfl⟩ dX7_item_1 (fun r1 s2 => ?_)
  refine hw_if_ne C dX7_item_4 (tgt := 10) (by decide) (fun c3 => ?_) (fun c3 => ?_)
  · refine hw_aload_n C dX7_item_10 rfl 0 rfl ?_
    refine hw_getR C cf_X7 lf_X7_60 hw_T200 (t2 := 217) (by decide) dX7_item_11 ?_
    refine hw_iload_n C dX7_item_14 rfl 1 rfl ?_
    refine hw_iald C hw_T217 (by decide) dX7_item_15 (fun h4 => ?_)
    refine hw_if_ne C dX7_item_16 (tgt := 22) (by decide) (fun c5 => ?_) (fun c5 => ?_)
    · refine hw_aload_n C dX7_item_22 rfl 0 rfl ?_
      refine hw_getR C cf_X7 lf_X7_60 hw_T200 (t2 := 217) (by decide) dX7_item_23 ?_
      refine hw_iload_n C dX7_item_26 rfl 1 rfl ?_
      refine hw_iald C hw_T217 (by decide) dX7_item_27 (fun h6 => ?_)
      refine hw_iconst C dX7_item_28 (v := 2) (by decide) ?_
      refine hw_icmp_eq C dX7_item_29 (tgt := 35) (by decide) (fun c7 => ?_) (fun c7 => ?_)
      · refine hw_iload_n C dX7_item_35 rfl 2 rfl ?_
        refine hw_iconst C dX7_item_36 (v := 0) (by decide) ?_
        refine hw_aload_n C dX7_item_37 rfl 0 rfl ?_
        refine hw_getR C cf_X7 lf_X7_63 hw_T200 (t2 := 218) (by decide) dX7_item_38 ?_
        refine hw_iload_n C dX7_item_41 rfl 1 rfl ?_
        refine hw_iald C hw_T218 (by decide) dX7_item_42 (fun h8 => ?_)
        refine hw_iconst C dX7_item_43 (v := 1) (by decide) ?_
        refine hw_isub C dX7_item_44 ?_
        refine hw_callSi C (M_X7_in (hw_gE G) hTL a2 (0 : Int32) ((s2 218 a1.toNatClampNeg) - (1 : Int32)) s2) W_X7_in SS_X7_in mw_157 (by decide) rfl ⟨rfl, hw_l8 rfl⟩ dX7_item_45 (fun r9 s10 => ?_)
        refine hw_if_ne C dX7_item_48 (tgt := 54) (by decide) (fun c11 => ?_) (fun c11 => ?_)
        · refine hw_aload_n C dX7_item_54 rfl 0 rfl ?_
          refine hw_getR C cf_X7 lf_X7_69 hw_T200 (t2 := 220) (by decide) dX7_item_55 ?_
          refine hw_bipush C dX7_item_58 (v := 24) (by decide) ?_
          refine hw_iload_n C dX7_item_60 rfl 1 rfl ?_
          refine hw_imul C dX7_item_61 ?_
          refine hw_iload_n C dX7_item_62 rfl 2 rfl ?_
          refine hw_iadd C dX7_item_63 ?_
          refine hw_iald C hw_T220 (by decide) dX7_item_64 (fun h12 => ?_)
          refine hw_istore_nN C dX7_item_65 rfl (by decide) (fun _ => rfl) (fun x13 => ?_)
          refine hw_iload_n C dX7_item_66 rfl 0 rfl ?_
          refine hw_ldc C mw_483 dX7_item_67 ?_
          refine hw_icmp_ne C dX7_item_69 (tgt := 77) (by decide) (fun c14 => ?_) (fun c14 => ?_)
          · refine hw_iload_n C dX7_item_77 rfl 0 rfl ?_
            exact hw_iret C dX7_item_78
          · refine hw_ldc C mw_219 dX7_item_72 ?_
            refine hw_goto C dX7_item_74 (tgt := 78) (by decide) ?_
            exact hw_iret C dX7_item_78
        · refine hw_ldc C mw_903 dX7_item_51 ?_
          exact hw_iret C dX7_item_53
      · refine hw_ldc C mw_219 dX7_item_32 ?_
        exact hw_iret C dX7_item_34
    · refine hw_ldc C mw_579 dX7_item_19 ?_
      exact hw_iret C dX7_item_21
  · refine hw_ldc C mw_155 dX7_item_7 ?_
    exact hw_iret C dX7_item_9
/-! HumWireModel rest(II)I, level 3 -/
def F_X7_rest  (a1 : Int32) (a2 : Int32) (s0 : hw_St) : Option (Int32 × hw_St) := hw_bd (F_X7_isSlot a1 s0) (fun r1 s2 => if r1 = 0 then (some ((-1000000001 : Int32), s2)) else (hw_gd (hw_inb a1 5) (if (s2 217 a1.toNatClampNeg) = 0 then (some ((-1000000011 : Int32), s2)) else (hw_gd (hw_inb a1 5) (if (s2 217 a1.toNatClampNeg) = (3 : Int32) then (if a2 = 0 then (some ((-1000000002 : Int32), s2)) else (if a2 = (-1 : Int32) then (some ((0 : Int32), s2)) else (hw_gd (hw_inb a1 5) (hw_gd (hw_nz a2) (some ((hw_rem (s2 218 a1.toNatClampNeg) a2), s2)))))) else (some ((-1000000012 : Int32), s2)))))))
set_option maxRecDepth 20000 in
theorem M_X7_rest (E : hw_E) (hE : hw_eT E = hw_TM) (a1 : Int32) (a2 : Int32) (s0 : hw_St) : hw_M E yX7_rest cX7_rest 3 (some .int) 3 [hw_rv (hw_ea E) 200, .int a1, .int a2] s0 hw_ri (F_X7_rest a1 a2 s0) := by
  refine hw_entry (own := RX7) (TL := hw_TM) (by decide) rfl hE (hw_cR (hw_cI (hw_cI hw_cN))) (hw_l8 rfl) (fun G hG C => ?_)
  subst hG
  have hTL := hE
  show hw_K G 3 hw_ri _ 0 [(0, hw_rv (hw_ea (hw_gE G)) 200), (1, .int a1), (2, .int a2)] [] s0
  unfold F_X7_rest
  refine hw_iload_n C dX7_rest_0 rfl 1 rfl ?_
  refine hw_callSi C (M_X7_isSlot (hw_gE G) hTL a1 s0) W_X7_isSlot SS_X7_isSlot mw_958 (by decide) rfl ⟨rfl, hw_l8 rfl⟩ dX7_rest_1 (fun r1 s2 => ?_)
  refine hw_if_ne C dX7_rest_4 (tgt := 10) (by decide) (fun c3 => ?_) (fun c3 => ?_)
  · refine hw_aload_n C dX7_rest_10 rfl 0 rfl ?_
    refine hw_getR C cf_X7 lf_X7_60 hw_T200 (t2 := 217) (by decide) dX7_rest_11 ?_
    refine hw_iload_n C dX7_rest_14 rfl 1 rfl ?_
    refine hw_iald C hw_T217 (by decide) dX7_rest_15 (fun h4 => ?_)
    refine hw_if_ne C dX7_rest_16 (tgt := 22) (by decide) (fun c5 => ?_) (fun c5 => ?_)
    · refine hw_aload_n C dX7_rest_22 rfl 0 rfl ?_
      refine hw_getR C cf_X7 lf_X7_60 hw_T200 (t2 := 217) (by decide) dX7_rest_23 ?_
      refine hw_iload_n C dX7_rest_26 rfl 1 rfl ?_
      refine hw_iald C hw_T217 (by decide) dX7_rest_27 (fun h6 => ?_)
      refine hw_iconst C dX7_rest_28 (v := 3) (by decide) ?_
      refine hw_icmp_eq C dX7_rest_29 (tgt := 35) (by decide) (fun c7 => ?_) (fun c7 => ?_)
      · refine hw_iload_n C dX7_rest_35 rfl 2 rfl ?_
        refine hw_if_ne C dX7_rest_36 (tgt := 44) (by decide) (fun c8 => ?_) (fun c8 => ?_)
        · refine hw_iload_n C dX7_rest_44 rfl 2 rfl ?_
          refine hw_iconst C dX7_rest_45 (v := -1) (by decide) ?_
          refine hw_icmp_ne C dX7_rest_46 (tgt := 53) (by decide) (fun c9 => ?_) (fun c9 => ?_)
          · refine hw_aload_n C dX7_rest_53 rfl 0 rfl ?_
            refine hw_getR C cf_X7 lf_X7_63 hw_T200 (t2 := 218) (by decide) dX7_rest_54 ?_
            refine hw_iload_n C dX7_rest_57 rfl 1 rfl ?_
            refine hw_iald C hw_T218 (by decide) dX7_rest_58 (fun h10 => ?_)
            refine hw_iload_n C dX7_rest_59 rfl 2 rfl ?_
            refine hw_irem C dX7_rest_60 ?_
            exact hw_iret C dX7_rest_61
          · refine hw_iconst C dX7_rest_49 (v := 0) (by decide) ?_
            refine hw_goto C dX7_rest_50 (tgt := 61) (by decide) ?_
            exact hw_iret C dX7_rest_61
        · refine hw_ldc C mw_992 dX7_rest_39 ?_
          refine hw_goto C dX7_rest_41 (tgt := 61) (by decide) ?_
          exact hw_iret C dX7_rest_61
      · refine hw_ldc C mw_219 dX7_rest_32 ?_
        exact hw_iret C dX7_rest_34
    · refine hw_ldc C mw_579 dX7_rest_19 ?_
      exact hw_iret C dX7_rest_21
  · refine hw_ldc C mw_155 dX7_rest_7 ?_
    exact hw_iret C dX7_rest_9
/-! HumWireModel tell(I)I, level 1 -/
def F_X7_tell  (a1 : Int32) (s0 : hw_St) : Option (Int32 × hw_St) := if (s0 200 36) = (60 : Int32) then (some ((-1000000003 : Int32), s0)) else (hw_gd (hw_inb (s0 200 36) 60) (hw_nm (hw_up s0 222 (s0 200 36).toNatClampNeg a1) (fun s2 => hw_nm (hw_up s2 200 36 ((s2 200 36) + (1 : Int32))) (fun s4 => some ((s4 200 36), s4)))))
set_option maxRecDepth 20000 in
theorem M_X7_tell (E : hw_E) (hE : hw_eT E = hw_TM) (a1 : Int32) (s0 : hw_St) : hw_M E yX7_tell cX7_tell 2 (some .int) 1 [hw_rv (hw_ea E) 200, .int a1] s0 hw_ri (F_X7_tell a1 s0) := by
  refine hw_entry (own := RX7) (TL := hw_TM) (by decide) rfl hE (hw_cR (hw_cI hw_cN)) (hw_l8 rfl) (fun G hG C => ?_)
  subst hG
  have hTL := hE
  show hw_K G 2 hw_ri _ 0 [(0, hw_rv (hw_ea (hw_gE G)) 200), (1, .int a1)] [] s0
  unfold F_X7_tell
  refine hw_aload_n C dX7_tell_0 rfl 0 rfl ?_
  refine hw_getI C cf_X7 lf_X7_255 hw_T200 dX7_tell_1 ?_
  refine hw_bipush C dX7_tell_4 (v := 60) (by decide) ?_
  refine hw_icmp_ne C dX7_tell_6 (tgt := 12) (by decide) (fun c1 => ?_) (fun c1 => ?_)
  · refine hw_aload_n C dX7_tell_12 rfl 0 rfl ?_
    refine hw_getR C cf_X7 lf_X7_75 hw_T200 (t2 := 222) (by decide) dX7_tell_13 ?_
    refine hw_aload_n C dX7_tell_16 rfl 0 rfl ?_
    refine hw_getI C cf_X7 lf_X7_255 hw_T200 dX7_tell_17 ?_
    refine hw_iload_n C dX7_tell_20 rfl 1 rfl ?_
    refine hw_iast C hw_T222 (by decide) dX7_tell_21 (fun h3 s2 => ?_)
    refine hw_aload_n C dX7_tell_22 rfl 0 rfl ?_
    refine hw_dup C dX7_tell_23 ?_
    refine hw_getI C cf_X7 lf_X7_255 hw_T200 dX7_tell_24 ?_
    refine hw_iconst C dX7_tell_27 (v := 1) (by decide) ?_
    refine hw_iadd C dX7_tell_28 ?_
    refine hw_putI C cf_X7 lf_X7_255 hw_T200 rfl rfl dX7_tell_29 (fun s4 => ?_)
    refine hw_aload_n C dX7_tell_32 rfl 0 rfl ?_
    refine hw_getI C cf_X7 lf_X7_255 hw_T200 dX7_tell_33 ?_
    exact hw_iret C dX7_tell_36
  · refine hw_ldc C mw_156 dX7_tell_9 ?_
    exact hw_iret C dX7_tell_11
/-! HumWireModel rightHours(III)I, level 8 -/
def B_X7_rightHours_136  (w6 : Int32 → Int32 → Int32 → Int32 → Int32 → hw_St → Option (Int32 × hw_St)) (l1 : Int32) (l2 : Int32) (l3 : Int32) (l5 : Int32) (k0 : Int32) (k1 : Int32) (s0 : hw_St) : Option (Int32 × hw_St) := hw_nm (k1 + k0) (fun x25 => w6 l1 l2 l3 x25 (l5 + 1) s0)
def B_X7_rightHours_135  (w6 : Int32 → Int32 → Int32 → Int32 → Int32 → hw_St → Option (Int32 × hw_St)) (l1 : Int32) (l2 : Int32) (l3 : Int32) (l5 : Int32) (k0 : Int32) (s0 : hw_St) : Option (Int32 × hw_St) := B_X7_rightHours_136 w6 l1 l2 l3 l5 (0 : Int32) k0 s0
def B_X7_rightHours_93  (w6 : Int32 → Int32 → Int32 → Int32 → Int32 → hw_St → Option (Int32 × hw_St)) (l1 : Int32) (l2 : Int32) (l3 : Int32) (l5 : Int32) (k0 : Int32) (k1 : Int32) (s0 : hw_St) : Option (Int32 × hw_St) := hw_nm (k1 + k0) (fun x18 => if x18 = (((2 : Int32) * l5) + (1 : Int32)) then (if l3 ≤ x18 then (B_X7_rightHours_135 w6 l1 l2 l3 l5 x18 s0) else (hw_gd (hw_inb x18 60) (hw_bd (F_X7_of l1 (4 : Int32) s0) (fun r22 s23 => if (s0 222 x18.toNatClampNeg) = r22 then (B_X7_rightHours_136 w6 l1 l2 l3 l5 (1 : Int32) x18 s23) else (B_X7_rightHours_135 w6 l1 l2 l3 l5 x18 s23))))) else (B_X7_rightHours_135 w6 l1 l2 l3 l5 x18 s0))
def B_X7_rightHours_92  (w6 : Int32 → Int32 → Int32 → Int32 → Int32 → hw_St → Option (Int32 × hw_St)) (l1 : Int32) (l2 : Int32) (l3 : Int32) (l5 : Int32) (k0 : Int32) (s0 : hw_St) : Option (Int32 × hw_St) := B_X7_rightHours_93 w6 l1 l2 l3 l5 (0 : Int32) k0 s0
def B_X7_rightHours_62  (w6 : Int32 → Int32 → Int32 → Int32 → Int32 → hw_St → Option (Int32 × hw_St)) (l1 : Int32) (l2 : Int32) (l3 : Int32) (l4 : Int32) (l5 : Int32) (k0 : Int32) (s0 : hw_St) : Option (Int32 × hw_St) := hw_bd (F_X7_anHour  s0) (fun _ s14 => if l3 ≤ l4 then (B_X7_rightHours_92 w6 l1 l2 l3 l5 l4 s14) else (hw_gd (hw_inb l4 60) (if (s14 222 l4.toNatClampNeg) = k0 then (B_X7_rightHours_93 w6 l1 l2 l3 l5 (1 : Int32) l4 s14) else (B_X7_rightHours_92 w6 l1 l2 l3 l5 l4 s14))))
def S_X7_rightHours_6  (w6 : Int32 → Int32 → Int32 → Int32 → Int32 → hw_St → Option (Int32 × hw_St)) (l1 : Int32) (l2 : Int32) (l3 : Int32) (l4 : Int32) (l5 : Int32) (s0 : hw_St) : Option (Int32 × hw_St) := if l2 ≤ l5 then (some (l4, s0)) else (if l4 = ((2 : Int32) * l5) then (hw_gd (hw_inb (2 : Int32) 1443) (hw_gd (hw_inb ((5 : Int32) + (s0 201 (2 : Int32).toNatClampNeg)) 1443) (hw_nm (s0 201 ((5 : Int32) + (s0 201 (2 : Int32).toNatClampNeg)).toNatClampNeg) (fun x5 => hw_bd (F_X7_isHeldBy l1 x5 s0) (fun r6 s7 => if r6 = 0 then (hw_bd (F_X7_eddyOf l1 x5 s7) (fun r9 s10 => B_X7_rightHours_62 w6 l1 l2 l3 l4 l5 r9 s10)) else (hw_bd (F_X7_of l1 (2 : Int32) s7) (fun r11 s12 => B_X7_rightHours_62 w6 l1 l2 l3 l4 l5 r11 s12))))))) else (some (l4, s0)))
def L_X7_rightHours_6  : Nat → Int32 → Int32 → Int32 → Int32 → Int32 → hw_St → Option (Int32 × hw_St)
  | 0 => fun _ _ _ _ _ _ => none
  | n + 1 => S_X7_rightHours_6  (L_X7_rightHours_6  n)
def F_X7_rightHours  (a1 : Int32) (a2 : Int32) (a3 : Int32) (s0 : hw_St) : Option (Int32 × hw_St) := L_X7_rightHours_6 130 a1 a2 a3 (0 : Int32) (0 : Int32) s0
set_option maxRecDepth 20000 in
theorem KB_X7_rightHours_136 {G : hw_G} (C : hw_Ok G cX7_rightHours RX7 8 8 (some .int) hw_TM) (hTL : hw_eT (hw_gE G) = hw_TM) (w6 : Int32 → Int32 → Int32 → Int32 → Int32 → hw_St → Option (Int32 × hw_St)) (H_w6 : ∀ (l1 : Int32) (l2 : Int32) (l3 : Int32) (l4 : Int32) (l5 : Int32) (s0 : hw_St), hw_K G 8 hw_ri (w6 l1 l2 l3 l4 l5 s0) 6 [(0, hw_rv (hw_ea (hw_gE G)) 200), (1, .int l1), (2, .int l2), (3, .int l3), (4, .int l4), (5, .int l5)] [] s0) (l1 : Int32) (l2 : Int32) (l3 : Int32) (l5 : Int32) (k0 : Int32) (k1 : Int32) (s0 : hw_St) : hw_K G 8 hw_ri (B_X7_rightHours_136 w6 l1 l2 l3 l5 k0 k1 s0) 136 [(0, hw_rv (hw_ea (hw_gE G)) 200), (1, .int l1), (2, .int l2), (3, .int l3), (5, .int l5)] [.int k0, .int k1] s0 := by
  unfold B_X7_rightHours_136
  refine hw_iadd C dX7_rightHours_136 ?_
  refine hw_istoreN C dX7_rightHours_137 (by decide) (fun _ => rfl) (fun x25 => ?_)
  refine hw_iinc C dX7_rightHours_139 5 rfl (v := 1) (by decide) (by decide) rfl ?_
  refine hw_goto C dX7_rightHours_142 (tgt := 6) (by decide) ?_
  exact hw_lv [2, 3, 4, 5, 1, 0] rfl (H_w6 l1 l2 l3 x25 (l5 + 1) s0)
set_option maxRecDepth 20000 in
theorem KB_X7_rightHours_135 {G : hw_G} (C : hw_Ok G cX7_rightHours RX7 8 8 (some .int) hw_TM) (hTL : hw_eT (hw_gE G) = hw_TM) (w6 : Int32 → Int32 → Int32 → Int32 → Int32 → hw_St → Option (Int32 × hw_St)) (H_w6 : ∀ (l1 : Int32) (l2 : Int32) (l3 : Int32) (l4 : Int32) (l5 : Int32) (s0 : hw_St), hw_K G 8 hw_ri (w6 l1 l2 l3 l4 l5 s0) 6 [(0, hw_rv (hw_ea (hw_gE G)) 200), (1, .int l1), (2, .int l2), (3, .int l3), (4, .int l4), (5, .int l5)] [] s0) (l1 : Int32) (l2 : Int32) (l3 : Int32) (l5 : Int32) (k0 : Int32) (s0 : hw_St) : hw_K G 8 hw_ri (B_X7_rightHours_135 w6 l1 l2 l3 l5 k0 s0) 135 [(0, hw_rv (hw_ea (hw_gE G)) 200), (1, .int l1), (2, .int l2), (3, .int l3), (5, .int l5)] [.int k0] s0 := by
  unfold B_X7_rightHours_135
  refine hw_iconst C dX7_rightHours_135 (v := 0) (by decide) ?_
  exact hw_lv [0, 1, 2, 3, 4] rfl (KB_X7_rightHours_136 C hTL w6 H_w6 l1 l2 l3 l5 (0 : Int32) k0 s0)
set_option maxRecDepth 20000 in
theorem KB_X7_rightHours_93 {G : hw_G} (C : hw_Ok G cX7_rightHours RX7 8 8 (some .int) hw_TM) (hTL : hw_eT (hw_gE G) = hw_TM) (w6 : Int32 → Int32 → Int32 → Int32 → Int32 → hw_St → Option (Int32 × hw_St)) (H_w6 : ∀ (l1 : Int32) (l2 : Int32) (l3 : Int32) (l4 : Int32) (l5 : Int32) (s0 : hw_St), hw_K G 8 hw_ri (w6 l1 l2 l3 l4 l5 s0) 6 [(0, hw_rv (hw_ea (hw_gE G)) 200), (1, .int l1), (2, .int l2), (3, .int l3), (4, .int l4), (5, .int l5)] [] s0) (l1 : Int32) (l2 : Int32) (l3 : Int32) (l5 : Int32) (k0 : Int32) (k1 : Int32) (s0 : hw_St) : hw_K G 8 hw_ri (B_X7_rightHours_93 w6 l1 l2 l3 l5 k0 k1 s0) 93 [(0, hw_rv (hw_ea (hw_gE G)) 200), (1, .int l1), (2, .int l2), (3, .int l3), (5, .int l5)] [.int k0, .int k1] s0 := by
  unfold B_X7_rightHours_93
  refine hw_iadd C dX7_rightHours_93 ?_
  refine hw_istoreN C dX7_rightHours_94 (by decide) (fun _ => rfl) (fun x18 => ?_)
  refine hw_iload C dX7_rightHours_96 0 rfl ?_
  refine hw_iload C dX7_rightHours_98 0 rfl ?_
  refine hw_iconst C dX7_rightHours_100 (v := 2) (by decide) ?_
  refine hw_iload C dX7_rightHours_101 5 rfl ?_
  refine hw_imul C dX7_rightHours_103 ?_
  refine hw_iconst C dX7_rightHours_104 (v := 1) (by decide) ?_
  refine hw_iadd C dX7_rightHours_105 ?_
  refine hw_icmp_ne C dX7_rightHours_106 (tgt := 135) (by decide) (fun c19 => ?_) (fun c19 => ?_)
  · exact hw_lv [1, 2, 3, 4, 5] rfl (KB_X7_rightHours_135 C hTL w6 H_w6 l1 l2 l3 l5 x18 s0)
  · refine hw_iload C dX7_rightHours_109 0 rfl ?_
    refine hw_iload_n C dX7_rightHours_111 rfl 4 rfl ?_
    refine hw_icmp_ge C dX7_rightHours_112 (tgt := 135) (by decide) (fun c20 => ?_) (fun c20 => ?_)
    · exact hw_lv [1, 2, 3, 4, 5] rfl (KB_X7_rightHours_135 C hTL w6 H_w6 l1 l2 l3 l5 x18 s0)
    · refine hw_aload_n C dX7_rightHours_115 rfl 1 rfl ?_
      refine hw_getR C cf_X7 lf_X7_75 hw_T200 (t2 := 222) (by decide) dX7_rightHours_116 ?_
      refine hw_iload C dX7_rightHours_119 0 rfl ?_
      refine hw_iald C hw_T222 (by decide) dX7_rightHours_121 (fun h21 => ?_)
      refine hw_aload_n C dX7_rightHours_122 rfl 1 rfl ?_
      refine hw_iload_n C dX7_rightHours_123 rfl 2 rfl ?_
      refine hw_iconst C dX7_rightHours_124 (v := 4) (by decide) ?_
      refine hw_callVi C (M_X7_of (hw_gE G) hTL l1 (4 : Int32) s0) W_X7_of SV_X7_of cf_X7 hw_T200 mw_194 (by decide) rfl ⟨rfl, hw_l8 rfl⟩ dX7_rightHours_125 (fun r22 s23 => ?_)
      refine hw_icmp_ne C dX7_rightHours_128 (tgt := 135) (by decide) (fun c24 => ?_) (fun c24 => ?_)
      · exact hw_lv [1, 2, 3, 4, 5] rfl (KB_X7_rightHours_135 C hTL w6 H_w6 l1 l2 l3 l5 x18 s23)
      · refine hw_iconst C dX7_rightHours_131 (v := 1) (by decide) ?_
        refine hw_goto C dX7_rightHours_132 (tgt := 136) (by decide) ?_
        exact hw_lv [1, 2, 3, 4, 5] rfl (KB_X7_rightHours_136 C hTL w6 H_w6 l1 l2 l3 l5 (1 : Int32) x18 s23)
set_option maxRecDepth 20000 in
theorem KB_X7_rightHours_92 {G : hw_G} (C : hw_Ok G cX7_rightHours RX7 8 8 (some .int) hw_TM) (hTL : hw_eT (hw_gE G) = hw_TM) (w6 : Int32 → Int32 → Int32 → Int32 → Int32 → hw_St → Option (Int32 × hw_St)) (H_w6 : ∀ (l1 : Int32) (l2 : Int32) (l3 : Int32) (l4 : Int32) (l5 : Int32) (s0 : hw_St), hw_K G 8 hw_ri (w6 l1 l2 l3 l4 l5 s0) 6 [(0, hw_rv (hw_ea (hw_gE G)) 200), (1, .int l1), (2, .int l2), (3, .int l3), (4, .int l4), (5, .int l5)] [] s0) (l1 : Int32) (l2 : Int32) (l3 : Int32) (l5 : Int32) (k0 : Int32) (s0 : hw_St) : hw_K G 8 hw_ri (B_X7_rightHours_92 w6 l1 l2 l3 l5 k0 s0) 92 [(0, hw_rv (hw_ea (hw_gE G)) 200), (1, .int l1), (2, .int l2), (3, .int l3), (5, .int l5)] [.int k0] s0 := by
  unfold B_X7_rightHours_92
  refine hw_iconst C dX7_rightHours_92 (v := 0) (by decide) ?_
  exact hw_lv [0, 1, 2, 3, 4] rfl (KB_X7_rightHours_93 C hTL w6 H_w6 l1 l2 l3 l5 (0 : Int32) k0 s0)
set_option maxRecDepth 20000 in
theorem KB_X7_rightHours_62 {G : hw_G} (C : hw_Ok G cX7_rightHours RX7 8 8 (some .int) hw_TM) (hTL : hw_eT (hw_gE G) = hw_TM) (w6 : Int32 → Int32 → Int32 → Int32 → Int32 → hw_St → Option (Int32 × hw_St)) (H_w6 : ∀ (l1 : Int32) (l2 : Int32) (l3 : Int32) (l4 : Int32) (l5 : Int32) (s0 : hw_St), hw_K G 8 hw_ri (w6 l1 l2 l3 l4 l5 s0) 6 [(0, hw_rv (hw_ea (hw_gE G)) 200), (1, .int l1), (2, .int l2), (3, .int l3), (4, .int l4), (5, .int l5)] [] s0) (l1 : Int32) (l2 : Int32) (l3 : Int32) (l4 : Int32) (l5 : Int32) (k0 : Int32) (s0 : hw_St) : hw_K G 8 hw_ri (B_X7_rightHours_62 w6 l1 l2 l3 l4 l5 k0 s0) 62 [(0, hw_rv (hw_ea (hw_gE G)) 200), (1, .int l1), (2, .int l2), (3, .int l3), (4, .int l4), (5, .int l5)] [.int k0] s0 := by
  unfold B_X7_rightHours_62
  refine hw_istore C dX7_rightHours_62 (by decide) rfl ?_
  refine hw_aload_n C dX7_rightHours_64 rfl 1 rfl ?_
  refine hw_callVv C (M_X7_anHour (hw_gE G) hTL  s0) W_X7_anHour SV_X7_anHour cf_X7 hw_T200 mw_462 (by decide) rfl ⟨rfl, hw_l8 rfl⟩ dX7_rightHours_65 (fun r13 s14 => ?_)
  refine hw_iload C dX7_rightHours_68 5 rfl ?_
  refine hw_iload C dX7_rightHours_70 5 rfl ?_
  refine hw_iload_n C dX7_rightHours_72 rfl 4 rfl ?_
  refine hw_icmp_ge C dX7_rightHours_73 (tgt := 92) (by decide) (fun c15 => ?_) (fun c15 => ?_)
  · exact hw_lv [1, 2, 3, 4, 6] rfl (KB_X7_rightHours_92 C hTL w6 H_w6 l1 l2 l3 l5 l4 s14)
  · refine hw_aload_n C dX7_rightHours_76 rfl 1 rfl ?_
    refine hw_getR C cf_X7 lf_X7_75 hw_T200 (t2 := 222) (by decide) dX7_rightHours_77 ?_
    refine hw_iload C dX7_rightHours_80 5 rfl ?_
    refine hw_iald C hw_T222 (by decide) dX7_rightHours_82 (fun h16 => ?_)
    refine hw_iload C dX7_rightHours_83 0 rfl ?_
    refine hw_icmp_ne C dX7_rightHours_85 (tgt := 92) (by decide) (fun c17 => ?_) (fun c17 => ?_)
    · exact hw_lv [1, 2, 3, 4, 6] rfl (KB_X7_rightHours_92 C hTL w6 H_w6 l1 l2 l3 l5 l4 s14)
    · refine hw_iconst C dX7_rightHours_88 (v := 1) (by decide) ?_
      refine hw_goto C dX7_rightHours_89 (tgt := 93) (by decide) ?_
      exact hw_lv [1, 2, 3, 4, 6] rfl (KB_X7_rightHours_93 C hTL w6 H_w6 l1 l2 l3 l5 (1 : Int32) l4 s14)
set_option maxRecDepth 20000 in
theorem KS_X7_rightHours_6 {G : hw_G} (C : hw_Ok G cX7_rightHours RX7 8 8 (some .int) hw_TM) (hTL : hw_eT (hw_gE G) = hw_TM) (w6 : Int32 → Int32 → Int32 → Int32 → Int32 → hw_St → Option (Int32 × hw_St)) (H_w6 : ∀ (l1 : Int32) (l2 : Int32) (l3 : Int32) (l4 : Int32) (l5 : Int32) (s0 : hw_St), hw_K G 8 hw_ri (w6 l1 l2 l3 l4 l5 s0) 6 [(0, hw_rv (hw_ea (hw_gE G)) 200), (1, .int l1), (2, .int l2), (3, .int l3), (4, .int l4), (5, .int l5)] [] s0) (l1 : Int32) (l2 : Int32) (l3 : Int32) (l4 : Int32) (l5 : Int32) (s0 : hw_St) : hw_K G 8 hw_ri (S_X7_rightHours_6 w6 l1 l2 l3 l4 l5 s0) 6 [(0, hw_rv (hw_ea (hw_gE G)) 200), (1, .int l1), (2, .int l2), (3, .int l3), (4, .int l4), (5, .int l5)] [] s0 := by
  unfold S_X7_rightHours_6
  refine hw_iload C dX7_rightHours_6 5 rfl ?_
  refine hw_iload_n C dX7_rightHours_8 rfl 2 rfl ?_
  refine hw_icmp_ge C dX7_rightHours_9 (tgt := 145) (by decide) (fun c1 => ?_) (fun c1 => ?_)
  · refine hw_iload C dX7_rightHours_145 4 rfl ?_
    exact hw_iret C dX7_rightHours_147
  · refine hw_iload C dX7_rightHours_12 4 rfl ?_
    refine hw_iconst C dX7_rightHours_14 (v := 2) (by decide) ?_
    refine hw_iload C dX7_rightHours_15 5 rfl ?_
    refine hw_imul C dX7_rightHours_17 ?_
    refine hw_icmp_ne C dX7_rightHours_18 (tgt := 145) (by decide) (fun c2 => ?_) (fun c2 => ?_)
    · refine hw_iload C dX7_rightHours_145 4 rfl ?_
      exact hw_iret C dX7_rightHours_147
    · refine hw_aload_n C dX7_rightHours_21 rfl 0 rfl ?_
      refine hw_getR C cf_X7 lf_X7_9 hw_T200 (t2 := 201) (by decide) dX7_rightHours_22 ?_
      refine hw_iconst C dX7_rightHours_25 (v := 5) (by decide) ?_
      refine hw_aload_n C dX7_rightHours_26 rfl 0 rfl ?_
      refine hw_getR C cf_X7 lf_X7_9 hw_T200 (t2 := 201) (by decide) dX7_rightHours_27 ?_
      refine hw_iconst C dX7_rightHours_30 (v := 2) (by decide) ?_
      refine hw_iald C hw_T201 (by decide) dX7_rightHours_31 (fun h3 => ?_)
      refine hw_iadd C dX7_rightHours_32 ?_
      refine hw_iald C hw_T201 (by decide) dX7_rightHours_33 (fun h4 => ?_)
      refine hw_istoreN C dX7_rightHours_34 (by decide) (fun _ => rfl) (fun x5 => ?_)
      refine hw_aload_n C dX7_rightHours_36 rfl 1 rfl ?_
      refine hw_iload_n C dX7_rightHours_37 rfl 2 rfl ?_
      refine hw_iload C dX7_rightHours_38 0 rfl ?_
      refine hw_callVi C (M_X7_isHeldBy (hw_gE G) hTL l1 x5 s0) W_X7_isHeldBy SV_X7_isHeldBy cf_X7 hw_T200 mw_419 (by decide) rfl ⟨rfl, hw_l8 rfl⟩ dX7_rightHours_40 (fun r6 s7 => ?_)
      refine hw_if_eq C dX7_rightHours_43 (tgt := 55) (by decide) (fun c8 => ?_) (fun c8 => ?_)
      · refine hw_aload_n C dX7_rightHours_55 rfl 1 rfl ?_
        refine hw_iload_n C dX7_rightHours_56 rfl 2 rfl ?_
        refine hw_iload C dX7_rightHours_57 0 rfl ?_
        refine hw_callVi C (M_X7_eddyOf (hw_gE G) hTL l1 x5 s7) W_X7_eddyOf SV_X7_eddyOf cf_X7 hw_T200 mw_392 (by decide) rfl ⟨rfl, hw_l8 rfl⟩ dX7_rightHours_59 (fun r9 s10 => ?_)
        exact hw_lv [1, 2, 3, 4, 5, 6] rfl (KB_X7_rightHours_62 C hTL w6 H_w6 l1 l2 l3 l4 l5 r9 s10)
      · refine hw_aload_n C dX7_rightHours_46 rfl 1 rfl ?_
        refine hw_iload_n C dX7_rightHours_47 rfl 2 rfl ?_
        refine hw_iconst C dX7_rightHours_48 (v := 2) (by decide) ?_
        refine hw_callVi C (M_X7_of (hw_gE G) hTL l1 (2 : Int32) s7) W_X7_of SV_X7_of cf_X7 hw_T200 mw_194 (by decide) rfl ⟨rfl, hw_l8 rfl⟩ dX7_rightHours_49 (fun r11 s12 => ?_)
        refine hw_goto C dX7_rightHours_52 (tgt := 62) (by decide) ?_
        exact hw_lv [1, 2, 3, 4, 5, 6] rfl (KB_X7_rightHours_62 C hTL w6 H_w6 l1 l2 l3 l4 l5 r11 s12)
theorem KL_X7_rightHours_6 {G : hw_G} (C : hw_Ok G cX7_rightHours RX7 8 8 (some .int) hw_TM) (hTL : hw_eT (hw_gE G) = hw_TM) : ∀ (n_ : Nat) (l1 : Int32) (l2 : Int32) (l3 : Int32) (l4 : Int32) (l5 : Int32) (s0 : hw_St), hw_K G 8 hw_ri (L_X7_rightHours_6 n_ l1 l2 l3 l4 l5 s0) 6 [(0, hw_rv (hw_ea (hw_gE G)) 200), (1, .int l1), (2, .int l2), (3, .int l3), (4, .int l4), (5, .int l5)] [] s0 := by
  intro n_
  induction n_ with
  | zero => intros; exact hw_nil
  | succ n_ ih => intro l1 l2 l3 l4 l5 s0; exact KS_X7_rightHours_6 C hTL (L_X7_rightHours_6 n_) ih l1 l2 l3 l4 l5 s0
set_option maxRecDepth 20000 in
theorem M_X7_rightHours (E : hw_E) (hE : hw_eT E = hw_TM) (a1 : Int32) (a2 : Int32) (a3 : Int32) (s0 : hw_St) : hw_M E yX7_rightHours cX7_rightHours 8 (some .int) 8 [hw_rv (hw_ea E) 200, .int a1, .int a2, .int a3] s0 hw_ri (F_X7_rightHours a1 a2 a3 s0) := by
  refine hw_entry (own := RX7) (TL := hw_TM) (by decide) rfl hE (hw_cR (hw_cI (hw_cI (hw_cI hw_cN)))) (hw_l8 rfl) (fun G hG C => ?_)
  subst hG
  have hTL := hE
  show hw_K G 8 hw_ri _ 0 [(0, hw_rv (hw_ea (hw_gE G)) 200), (1, .int a1), (2, .int a2), (3, .int a3)] [] s0
  unfold F_X7_rightHours
  refine hw_iconst C dX7_rightHours_0 (v := 0) (by decide) ?_
  refine hw_istore C dX7_rightHours_1 (by decide) rfl ?_
  refine hw_iconst C dX7_rightHours_3 (v := 0) (by decide) ?_
  refine hw_istore C dX7_rightHours_4 (by decide) rfl ?_
  exact hw_lv [2, 3, 4, 5, 1, 0] rfl (KL_X7_rightHours_6 C hTL 130 a1 a2 a3 (0 : Int32) (0 : Int32) s0)
/-! HumWireModel check(II)I, level 9 -/
def B_X7_check_112  (l4 : Int32) (s0 : hw_St) : Option (Int32 × hw_St) := some (((1 : Int32) + l4), s0)
def F_X7_check  (a1 : Int32) (a2 : Int32) (s0 : hw_St) : Option (Int32 × hw_St) := hw_nm (s0 200 36) (fun x1 => hw_nm (hw_up s0 200 36 (0 : Int32)) (fun s2 => hw_bd (F_X7_in a2 (1 : Int32) (30 : Int32) s2) (fun r3 s4 => if r3 = 0 then (some ((-1000000001 : Int32), s4)) else (if (s4 200 3) = 0 then (some ((-1000000002 : Int32), s4)) else (hw_gd (hw_inb (1 : Int32) 1443) (hw_bd (F_X7_in a1 (0 : Int32) ((s4 202 (1 : Int32).toNatClampNeg) - (1 : Int32)) s4) (fun r8 s9 => if r8 = 0 then (some ((-1000000001 : Int32), s9)) else (hw_bd (F_X7_copyAll 201 203 s9) (fun _ s12 => hw_bd (F_X7_copyAll 202 201 s12) (fun _ s14 => hw_bd (F_X7_rightHours a1 a2 x1 s14) (fun r15 s16 => hw_bd (F_X7_copyAll 203 201 s16) (fun _ s18 => if r15 = x1 then (if r15 = ((2 : Int32) * a2) then (some ((0 : Int32), s18)) else (B_X7_check_112 r15 s18)) else (B_X7_check_112 r15 s18)))))))))))))
set_option maxRecDepth 20000 in
theorem KB_X7_check_112 {G : hw_G} (C : hw_Ok G cX7_check RX7 5 9 (some .int) hw_TM) (hTL : hw_eT (hw_gE G) = hw_TM) (l4 : Int32) (s0 : hw_St) : hw_K G 5 hw_ri (B_X7_check_112 l4 s0) 112 [(4, .int l4)] [] s0 := by
  unfold B_X7_check_112
  refine hw_iconst C dX7_check_112 (v := 1) (by decide) ?_
  refine hw_iload C dX7_check_113 0 rfl ?_
  refine hw_iadd C dX7_check_115 ?_
  exact hw_iret C dX7_check_116
set_option maxRecDepth 20000 in
theorem M_X7_check (E : hw_E) (hE : hw_eT E = hw_TM) (a1 : Int32) (a2 : Int32) (s0 : hw_St) : hw_M E yX7_check cX7_check 5 (some .int) 9 [hw_rv (hw_ea E) 200, .int a1, .int a2] s0 hw_ri (F_X7_check a1 a2 s0) := by
  refine hw_entry (own := RX7) (TL := hw_TM) (by decide) rfl hE (hw_cR (hw_cI (hw_cI hw_cN))) (hw_l8 rfl) (fun G hG C => ?_)
  subst hG
  have hTL := hE
  show hw_K G 5 hw_ri _ 0 [(0, hw_rv (hw_ea (hw_gE G)) 200), (1, .int a1), (2, .int a2)] [] s0
  unfold F_X7_check
  refine hw_aload_n C dX7_check_0 rfl 0 rfl ?_
  refine hw_getI C cf_X7 lf_X7_255 hw_T200 dX7_check_1 ?_
  refine hw_istore_nN C dX7_check_4 rfl (by decide) (fun _ => rfl) (fun x1 => ?_)
  refine hw_aload_n C dX7_check_5 rfl 1 rfl ?_
  refine hw_iconst C dX7_check_6 (v := 0) (by decide) ?_
  refine hw_putI C cf_X7 lf_X7_255 hw_T200 rfl rfl dX7_check_7 (fun s2 => ?_)
  refine hw_iload_n C dX7_check_10 rfl 3 rfl ?_
  refine hw_iconst C dX7_check_11 (v := 1) (by decide) ?_
  refine hw_bipush C dX7_check_12 (v := 30) (by decide) ?_
  refine hw_callSi C (M_X7_in (hw_gE G) hTL a2 (1 : Int32) (30 : Int32) s2) W_X7_in SS_X7_in mw_157 (by decide) rfl ⟨rfl, hw_l8 rfl⟩ dX7_check_14 (fun r3 s4 => ?_)
  refine hw_if_ne C dX7_check_17 (tgt := 23) (by decide) (fun c5 => ?_) (fun c5 => ?_)
  · refine hw_aload_n C dX7_check_23 rfl 1 rfl ?_
    refine hw_getI C cf_X7 lf_X7_258 hw_T200 dX7_check_24 ?_
    refine hw_if_ne C dX7_check_27 (tgt := 33) (by decide) (fun c6 => ?_) (fun c6 => ?_)
    · refine hw_iload_n C dX7_check_33 rfl 2 rfl ?_
      refine hw_iconst C dX7_check_34 (v := 0) (by decide) ?_
      refine hw_aload_n C dX7_check_35 rfl 1 rfl ?_
      refine hw_getR C cf_X7 lf_X7_13 hw_T200 (t2 := 202) (by decide) dX7_check_36 ?_
      refine hw_iconst C dX7_check_39 (v := 1) (by decide) ?_
      refine hw_iald C hw_T202 (by decide) dX7_check_40 (fun h7 => ?_)
      refine hw_iconst C dX7_check_41 (v := 1) (by decide) ?_
      refine hw_isub C dX7_check_42 ?_
      refine hw_callSi C (M_X7_in (hw_gE G) hTL a1 (0 : Int32) ((s4 202 (1 : Int32).toNatClampNeg) - (1 : Int32)) s4) W_X7_in SS_X7_in mw_157 (by decide) rfl ⟨rfl, hw_l8 rfl⟩ dX7_check_43 (fun r8 s9 => ?_)
      refine hw_if_ne C dX7_check_46 (tgt := 52) (by decide) (fun c10 => ?_) (fun c10 => ?_)
      · refine hw_aload_n C dX7_check_52 rfl 1 rfl ?_
        refine hw_getR C cf_X7 lf_X7_9 hw_T200 (t2 := 201) (by decide) dX7_check_53 ?_
        refine hw_aload_n C dX7_check_56 rfl 1 rfl ?_
        refine hw_getR C cf_X7 lf_X7_16 hw_T200 (t2 := 203) (by decide) dX7_check_57 ?_
        refine hw_callSv C (M_X7_copyAll (hw_gE G) hTL 201 203 s9) W_X7_copyAll SS_X7_copyAll mw_1015 (by decide) rfl ⟨rfl, hw_l8 rfl⟩ dX7_check_60 (fun r11 s12 => ?_)
        refine hw_aload_n C dX7_check_63 rfl 1 rfl ?_
        refine hw_getR C cf_X7 lf_X7_13 hw_T200 (t2 := 202) (by decide) dX7_check_64 ?_
        refine hw_aload_n C dX7_check_67 rfl 1 rfl ?_
        refine hw_getR C cf_X7 lf_X7_9 hw_T200 (t2 := 201) (by decide) dX7_check_68 ?_
        refine hw_callSv C (M_X7_copyAll (hw_gE G) hTL 202 201 s12) W_X7_copyAll SS_X7_copyAll mw_1015 (by decide) rfl ⟨rfl, hw_l8 rfl⟩ dX7_check_71 (fun r13 s14 => ?_)
        refine hw_aload_n C dX7_check_74 rfl 1 rfl ?_
        refine hw_iload_n C dX7_check_75 rfl 2 rfl ?_
        refine hw_iload_n C dX7_check_76 rfl 3 rfl ?_
        refine hw_iload_n C dX7_check_77 rfl 0 rfl ?_
        refine hw_callVi C (M_X7_rightHours (hw_gE G) hTL a1 a2 x1 s14) W_X7_rightHours SV_X7_rightHours cf_X7 hw_T200 mw_1018 (by decide) rfl ⟨rfl, hw_l8 rfl⟩ dX7_check_78 (fun r15 s16 => ?_)
        refine hw_istore C dX7_check_81 (by decide) rfl ?_
        refine hw_aload_n C dX7_check_83 rfl 2 rfl ?_
        refine hw_getR C cf_X7 lf_X7_16 hw_T200 (t2 := 203) (by decide) dX7_check_84 ?_
        refine hw_aload_n C dX7_check_87 rfl 2 rfl ?_
        refine hw_getR C cf_X7 lf_X7_9 hw_T200 (t2 := 201) (by decide) dX7_check_88 ?_
        refine hw_callSv C (M_X7_copyAll (hw_gE G) hTL 203 201 s16) W_X7_copyAll SS_X7_copyAll mw_1015 (by decide) rfl ⟨rfl, hw_l8 rfl⟩ dX7_check_91 (fun r17 s18 => ?_)
        refine hw_iload C dX7_check_94 0 rfl ?_
        refine hw_iload_n C dX7_check_96 rfl 1 rfl ?_
        refine hw_icmp_ne C dX7_check_97 (tgt := 112) (by decide) (fun c19 => ?_) (fun c19 => ?_)
        · exact hw_lv [0] rfl (KB_X7_check_112 C hTL r15 s18)
        · refine hw_iload C dX7_check_100 0 rfl ?_
          refine hw_iconst C dX7_check_102 (v := 2) (by decide) ?_
          refine hw_iload_n C dX7_check_103 rfl 4 rfl ?_
          refine hw_imul C dX7_check_104 ?_
          refine hw_icmp_ne C dX7_check_105 (tgt := 112) (by decide) (fun c20 => ?_) (fun c20 => ?_)
          · exact hw_lv [0] rfl (KB_X7_check_112 C hTL r15 s18)
          · refine hw_iconst C dX7_check_108 (v := 0) (by decide) ?_
            refine hw_goto C dX7_check_109 (tgt := 116) (by decide) ?_
            exact hw_iret C dX7_check_116
      · refine hw_ldc C mw_155 dX7_check_49 ?_
        exact hw_iret C dX7_check_51
    · refine hw_ldc C mw_992 dX7_check_30 ?_
      exact hw_iret C dX7_check_32
  · refine hw_ldc C mw_155 dX7_check_20 ?_
    exact hw_iret C dX7_check_22
/-! HumWireModel keep()I, level 2 -/
def F_X7_keep  (s0 : hw_St) : Option (Int32 × hw_St) := hw_bd (F_X7_copyAll 201 202 s0) (fun _ s2 => hw_gd (hw_isb (1 : Int32)) (hw_nm (hw_up s2 200 3 (1 : Int32)) (fun s3 => hw_gd (hw_inb (1 : Int32) 1443) (some ((s3 201 (1 : Int32).toNatClampNeg), s3)))))
set_option maxRecDepth 20000 in
theorem M_X7_keep (E : hw_E) (hE : hw_eT E = hw_TM) (s0 : hw_St) : hw_M E yX7_keep cX7_keep 1 (some .int) 2 [hw_rv (hw_ea E) 200] s0 hw_ri (F_X7_keep  s0) := by
  refine hw_entry (own := RX7) (TL := hw_TM) (by decide) rfl hE (hw_cR hw_cN) (hw_l8 rfl) (fun G hG C => ?_)
  subst hG
  have hTL := hE
  show hw_K G 1 hw_ri _ 0 [(0, hw_rv (hw_ea (hw_gE G)) 200)] [] s0
  unfold F_X7_keep
  refine hw_aload_n C dX7_keep_0 rfl 0 rfl ?_
  refine hw_getR C cf_X7 lf_X7_9 hw_T200 (t2 := 201) (by decide) dX7_keep_1 ?_
  refine hw_aload_n C dX7_keep_4 rfl 0 rfl ?_
  refine hw_getR C cf_X7 lf_X7_13 hw_T200 (t2 := 202) (by decide) dX7_keep_5 ?_
  refine hw_callSv C (M_X7_copyAll (hw_gE G) hTL 201 202 s0) W_X7_copyAll SS_X7_copyAll mw_1015 (by decide) rfl ⟨rfl, hw_l8 rfl⟩ dX7_keep_8 (fun r1 s2 => ?_)
  refine hw_aload_n C dX7_keep_11 rfl 0 rfl ?_
  refine hw_iconst C dX7_keep_12 (v := 1) (by decide) ?_
  refine hw_putZ C cf_X7 lf_X7_258 hw_T200 rfl rfl dX7_keep_13 (fun s3 => ?_)
  refine hw_aload_n C dX7_keep_16 rfl 0 rfl ?_
  refine hw_getR C cf_X7 lf_X7_9 hw_T200 (t2 := 201) (by decide) dX7_keep_17 ?_
  refine hw_iconst C dX7_keep_20 (v := 1) (by decide) ?_
  refine hw_iald C hw_T201 (by decide) dX7_keep_21 (fun h4 => ?_)
  exact hw_iret C dX7_keep_22
/-! HumWireModel back()I, level 2 -/
def F_X7_back  (s0 : hw_St) : Option (Int32 × hw_St) := if (s0 200 3) = 0 then (some ((-1000000002 : Int32), s0)) else (hw_bd (F_X7_copyAll 202 201 s0) (fun _ s3 => hw_gd (hw_inb (1 : Int32) 1443) (some ((s3 201 (1 : Int32).toNatClampNeg), s3))))
set_option maxRecDepth 20000 in
theorem M_X7_back (E : hw_E) (hE : hw_eT E = hw_TM) (s0 : hw_St) : hw_M E yX7_back cX7_back 1 (some .int) 2 [hw_rv (hw_ea E) 200] s0 hw_ri (F_X7_back  s0) := by
  refine hw_entry (own := RX7) (TL := hw_TM) (by decide) rfl hE (hw_cR hw_cN) (hw_l8 rfl) (fun G hG C => ?_)
  subst hG
  have hTL := hE
  show hw_K G 1 hw_ri _ 0 [(0, hw_rv (hw_ea (hw_gE G)) 200)] [] s0
  unfold F_X7_back
  refine hw_aload_n C dX7_back_0 rfl 0 rfl ?_
  refine hw_getI C cf_X7 lf_X7_258 hw_T200 dX7_back_1 ?_
  refine hw_if_ne C dX7_back_4 (tgt := 10) (by decide) (fun c1 => ?_) (fun c1 => ?_)
  · refine hw_aload_n C dX7_back_10 rfl 0 rfl ?_
    refine hw_getR C cf_X7 lf_X7_13 hw_T200 (t2 := 202) (by decide) dX7_back_11 ?_
    refine hw_aload_n C dX7_back_14 rfl 0 rfl ?_
    refine hw_getR C cf_X7 lf_X7_9 hw_T200 (t2 := 201) (by decide) dX7_back_15 ?_
    refine hw_callSv C (M_X7_copyAll (hw_gE G) hTL 202 201 s0) W_X7_copyAll SS_X7_copyAll mw_1015 (by decide) rfl ⟨rfl, hw_l8 rfl⟩ dX7_back_18 (fun r2 s3 => ?_)
    refine hw_aload_n C dX7_back_21 rfl 0 rfl ?_
    refine hw_getR C cf_X7 lf_X7_9 hw_T200 (t2 := 201) (by decide) dX7_back_22 ?_
    refine hw_iconst C dX7_back_25 (v := 1) (by decide) ?_
    refine hw_iald C hw_T201 (by decide) dX7_back_26 (fun h4 => ?_)
    exact hw_iret C dX7_back_27
  · refine hw_ldc C mw_992 dX7_back_7 ?_
    exact hw_iret C dX7_back_9
/-! HumWireModel count(I)I, level 2 -/
def S_X7_count_57  (w57 : Int32 → Int32 → hw_St → Option (Int32 × hw_St)) (l2 : Int32) (l3 : Int32) (s0 : hw_St) : Option (Int32 × hw_St) := hw_gd (hw_inb (1 : Int32) 1443) (if (s0 201 (1 : Int32).toNatClampNeg) ≤ l3 then (some (l2, s0)) else (hw_bd (F_X7_of l3 (5 : Int32) s0) (fun r16 s17 => hw_nm (l2 + r16) (fun x18 => w57 x18 (l3 + 1) s17))))
def L_X7_count_57  : Nat → Int32 → Int32 → hw_St → Option (Int32 × hw_St)
  | 0 => fun _ _ _ => none
  | n + 1 => S_X7_count_57  (L_X7_count_57  n)
def F_X7_count  (a1 : Int32) (s0 : hw_St) : Option (Int32 × hw_St) := if a1 = (0 : Int32) then (hw_gd (hw_inb (1 : Int32) 1443) (some ((s0 201 (1 : Int32).toNatClampNeg), s0))) else (if a1 = (1 : Int32) then (L_X7_count_57 130 (0 : Int32) (0 : Int32) s0) else (if a1 = (2 : Int32) then (hw_gd (hw_inb (2 : Int32) 1443) (some ((s0 201 (2 : Int32).toNatClampNeg), s0))) else (if a1 = (3 : Int32) then (hw_gd (hw_inb (3 : Int32) 1443) (some ((s0 201 (3 : Int32).toNatClampNeg), s0))) else (if a1 = (4 : Int32) then (hw_gd (hw_inb (4 : Int32) 1443) (some ((s0 201 (4 : Int32).toNatClampNeg), s0))) else (if a1 = (5 : Int32) then (some ((s0 200 36), s0)) else (if a1 = (6 : Int32) then (some ((s0 200 10), s0)) else (if a1 = (7 : Int32) then (hw_gd (hw_inb (0 : Int32) 1443) (some ((s0 201 (0 : Int32).toNatClampNeg), s0))) else (some ((-1000000001 : Int32), s0)))))))))
set_option maxRecDepth 20000 in
theorem KS_X7_count_57 {G : hw_G} (C : hw_Ok G cX7_count RX7 4 2 (some .int) hw_TM) (hTL : hw_eT (hw_gE G) = hw_TM) (w57 : Int32 → Int32 → hw_St → Option (Int32 × hw_St)) (H_w57 : ∀ (l2 : Int32) (l3 : Int32) (s0 : hw_St), hw_K G 4 hw_ri (w57 l2 l3 s0) 57 [(0, hw_rv (hw_ea (hw_gE G)) 200), (2, .int l2), (3, .int l3)] [] s0) (l2 : Int32) (l3 : Int32) (s0 : hw_St) : hw_K G 4 hw_ri (S_X7_count_57 w57 l2 l3 s0) 57 [(0, hw_rv (hw_ea (hw_gE G)) 200), (2, .int l2), (3, .int l3)] [] s0 := by
  unfold S_X7_count_57
  refine hw_iload_n C dX7_count_57 rfl 2 rfl ?_
  refine hw_aload_n C dX7_count_58 rfl 0 rfl ?_
  refine hw_getR C cf_X7 lf_X7_9 hw_T200 (t2 := 201) (by decide) dX7_count_59 ?_
  refine hw_iconst C dX7_count_62 (v := 1) (by decide) ?_
  refine hw_iald C hw_T201 (by decide) dX7_count_63 (fun h14 => ?_)
  refine hw_icmp_ge C dX7_count_64 (tgt := 82) (by decide) (fun c15 => ?_) (fun c15 => ?_)
  · refine hw_iload_n C dX7_count_82 rfl 1 rfl ?_
    exact hw_iret C dX7_count_83
  · refine hw_iload_n C dX7_count_67 rfl 1 rfl ?_
    refine hw_aload_n C dX7_count_68 rfl 0 rfl ?_
    refine hw_iload_n C dX7_count_69 rfl 2 rfl ?_
    refine hw_iconst C dX7_count_70 (v := 5) (by decide) ?_
    refine hw_callVi C (M_X7_of (hw_gE G) hTL l3 (5 : Int32) s0) W_X7_of SV_X7_of cf_X7 hw_T200 mw_194 (by decide) rfl ⟨rfl, hw_l8 rfl⟩ dX7_count_71 (fun r16 s17 => ?_)
    refine hw_iadd C dX7_count_74 ?_
    refine hw_istore_nN C dX7_count_75 rfl (by decide) (fun _ => rfl) (fun x18 => ?_)
    refine hw_iinc C dX7_count_76 2 rfl (v := 1) (by decide) (by decide) rfl ?_
    refine hw_goto C dX7_count_79 (tgt := 57) (by decide) ?_
    exact hw_lv [2, 1, 0] rfl (H_w57 x18 (l3 + 1) s17)
theorem KL_X7_count_57 {G : hw_G} (C : hw_Ok G cX7_count RX7 4 2 (some .int) hw_TM) (hTL : hw_eT (hw_gE G) = hw_TM) : ∀ (n_ : Nat) (l2 : Int32) (l3 : Int32) (s0 : hw_St), hw_K G 4 hw_ri (L_X7_count_57 n_ l2 l3 s0) 57 [(0, hw_rv (hw_ea (hw_gE G)) 200), (2, .int l2), (3, .int l3)] [] s0 := by
  intro n_
  induction n_ with
  | zero => intros; exact hw_nil
  | succ n_ ih => intro l2 l3 s0; exact KS_X7_count_57 C hTL (L_X7_count_57 n_) ih l2 l3 s0
set_option maxRecDepth 20000 in
theorem M_X7_count (E : hw_E) (hE : hw_eT E = hw_TM) (a1 : Int32) (s0 : hw_St) : hw_M E yX7_count cX7_count 4 (some .int) 2 [hw_rv (hw_ea E) 200, .int a1] s0 hw_ri (F_X7_count a1 s0) := by
  refine hw_entry (own := RX7) (TL := hw_TM) (by decide) rfl hE (hw_cR (hw_cI hw_cN)) (hw_l8 rfl) (fun G hG C => ?_)
  subst hG
  have hTL := hE
  show hw_K G 4 hw_ri _ 0 [(0, hw_rv (hw_ea (hw_gE G)) 200), (1, .int a1)] [] s0
  unfold F_X7_count
  refine hw_iconst C dX7_count_0 (v := 0) (by decide) ?_
  refine hw_istore_n C dX7_count_1 rfl (by decide) rfl ?_
  refine hw_iload_n C dX7_count_2 rfl 2 rfl ?_
  refine hw_ifK (fun c2 => ?_) (fun c2 => ?_)
  · refine hw_tabIn C dX7_count_3 c2 (off := 45) (tgt := 48) (by decide) ?_
    refine hw_aload_n C dX7_count_48 rfl 1 rfl ?_
    refine hw_getR C cf_X7 lf_X7_9 hw_T200 (t2 := 201) (by decide) dX7_count_49 ?_
    refine hw_iconst C dX7_count_52 (v := 1) (by decide) ?_
    refine hw_iald C hw_T201 (by decide) dX7_count_53 (fun h1 => ?_)
    exact hw_iret C dX7_count_54
  · refine hw_ifK (fun c3 => ?_) (fun c3 => ?_)
    · refine hw_tabIn C dX7_count_3 c3 (off := 52) (tgt := 55) (by decide) ?_
      refine hw_iconst C dX7_count_55 (v := 0) (by decide) ?_
      refine hw_istore_n C dX7_count_56 rfl (by decide) rfl ?_
      exact hw_lv [2, 1, 0] rfl (KL_X7_count_57 C hTL 130 (0 : Int32) (0 : Int32) s0)
    · refine hw_ifK (fun c5 => ?_) (fun c5 => ?_)
      · refine hw_tabIn C dX7_count_3 c5 (off := 81) (tgt := 84) (by decide) ?_
        refine hw_aload_n C dX7_count_84 rfl 1 rfl ?_
        refine hw_getR C cf_X7 lf_X7_9 hw_T200 (t2 := 201) (by decide) dX7_count_85 ?_
        refine hw_iconst C dX7_count_88 (v := 2) (by decide) ?_
        refine hw_iald C hw_T201 (by decide) dX7_count_89 (fun h4 => ?_)
        exact hw_iret C dX7_count_90
      · refine hw_ifK (fun c7 => ?_) (fun c7 => ?_)
        · refine hw_tabIn C dX7_count_3 c7 (off := 88) (tgt := 91) (by decide) ?_
          refine hw_aload_n C dX7_count_91 rfl 1 rfl ?_
          refine hw_getR C cf_X7 lf_X7_9 hw_T200 (t2 := 201) (by decide) dX7_count_92 ?_
          refine hw_iconst C dX7_count_95 (v := 3) (by decide) ?_
          refine hw_iald C hw_T201 (by decide) dX7_count_96 (fun h6 => ?_)
          exact hw_iret C dX7_count_97
        · refine hw_ifK (fun c9 => ?_) (fun c9 => ?_)
          · refine hw_tabIn C dX7_count_3 c9 (off := 95) (tgt := 98) (by decide) ?_
            refine hw_aload_n C dX7_count_98 rfl 1 rfl ?_
            refine hw_getR C cf_X7 lf_X7_9 hw_T200 (t2 := 201) (by decide) dX7_count_99 ?_
            refine hw_iconst C dX7_count_102 (v := 4) (by decide) ?_
            refine hw_iald C hw_T201 (by decide) dX7_count_103 (fun h8 => ?_)
            exact hw_iret C dX7_count_104
          · refine hw_ifK (fun c10 => ?_) (fun c10 => ?_)
            · refine hw_tabIn C dX7_count_3 c10 (off := 102) (tgt := 105) (by decide) ?_
              refine hw_aload_n C dX7_count_105 rfl 1 rfl ?_
              refine hw_getI C cf_X7 lf_X7_255 hw_T200 dX7_count_106 ?_
              exact hw_iret C dX7_count_109
            · refine hw_ifK (fun c11 => ?_) (fun c11 => ?_)
              · refine hw_tabIn C dX7_count_3 c11 (off := 107) (tgt := 110) (by decide) ?_
                refine hw_aload_n C dX7_count_110 rfl 1 rfl ?_
                refine hw_getI C cf_X7 lf_X7_177 hw_T200 dX7_count_111 ?_
                exact hw_iret C dX7_count_114
              · refine hw_ifK (fun c13 => ?_) (fun c13 => ?_)
                · refine hw_tabIn C dX7_count_3 c13 (off := 112) (tgt := 115) (by decide) ?_
                  refine hw_aload_n C dX7_count_115 rfl 1 rfl ?_
                  refine hw_getR C cf_X7 lf_X7_9 hw_T200 (t2 := 201) (by decide) dX7_count_116 ?_
                  refine hw_iconst C dX7_count_119 (v := 0) (by decide) ?_
                  refine hw_iald C hw_T201 (by decide) dX7_count_120 (fun h12 => ?_)
                  exact hw_iret C dX7_count_121
                · refine hw_tabD C dX7_count_3 (cs := [0, 1, 2, 3, 4, 5, 6, 7]) (by decide) (List.forall_mem_cons.mpr ⟨hw_ni c2 (z := 0) (by decide), List.forall_mem_cons.mpr ⟨hw_ni c3 (z := 1) (by decide), List.forall_mem_cons.mpr ⟨hw_ni c5 (z := 2) (by decide), List.forall_mem_cons.mpr ⟨hw_ni c7 (z := 3) (by decide), List.forall_mem_cons.mpr ⟨hw_ni c9 (z := 4) (by decide), List.forall_mem_cons.mpr ⟨hw_ni c10 (z := 5) (by decide), List.forall_mem_cons.mpr ⟨hw_ni c11 (z := 6) (by decide), List.forall_mem_cons.mpr ⟨hw_ni c13 (z := 7) (by decide), fun _ h => absurd h List.not_mem_nil⟩⟩⟩⟩⟩⟩⟩⟩) (tgt := 122) (by decide) ?_
                  refine hw_ldc C mw_155 dX7_count_122 ?_
                  exact hw_iret C dX7_count_124
