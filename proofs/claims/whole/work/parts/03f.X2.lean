/-! HumWire$Scene become(LHumWire$Scene;)V, level 2 -/
def S_X2_become_17  (w17 : Nat → Nat → Int32 → hw_St → Option (Unit × hw_St)) (t0 : Nat) (t1 : Nat) (l2 : Int32) (s0 : hw_St) : Option (Unit × hw_St) := if (6 : Int32) ≤ l2 then (hw_gd (hw_gH (hw_fl t1 4) 10) (hw_gd (hw_gH (hw_fl t0 4) 10) (hw_gd (hw_cpo (0 : Int32) (0 : Int32) (3 : Int32) (hw_ln (hw_fl t1 4)) (hw_ln (hw_fl t0 4))) (hw_nm (hw_upA s0 (hw_fl t0 4) (va_cpy (s0 (hw_fl t1 4)) (s0 (hw_fl t0 4)) (0 : Int32).toNatClampNeg (0 : Int32).toNatClampNeg (3 : Int32).toNatClampNeg)) (fun s11 => hw_nm (hw_up s11 t0 5 (s11 t1 5)) (fun s12 => hw_nm (hw_up s12 t0 6 (s12 t1 6)) (fun s13 => hw_nm (hw_up s13 t0 7 (s13 t1 7)) (fun s14 => hw_nm (hw_up s14 t0 8 (s14 t1 8)) (fun s15 => hw_nm (hw_up s15 t0 9 (s15 t1 9)) (fun s16 => some ((), s16))))))))))) else (hw_gd (hw_gH (hw_fl t0 3) 21) (hw_gd (hw_inb l2 (hw_ln (hw_fl t0 3))) (hw_gd (hw_gH (hw_el (hw_fl t0 3) l2.toNatClampNeg) 5) (hw_gd (hw_gH (hw_fl t1 3) 21) (hw_gd (hw_inb l2 (hw_ln (hw_fl t1 3))) (hw_gd (hw_gH (hw_el (hw_fl t1 3) l2.toNatClampNeg) 5) (hw_bd (F_X5_become (hw_el (hw_fl t0 3) l2.toNatClampNeg) (hw_el (hw_fl t1 3) l2.toNatClampNeg) s0) (fun _ s24 => w17 t0 t1 (l2 + 1) s24))))))))
def L_X2_become_17  : Nat → Nat → Nat → Int32 → hw_St → Option (Unit × hw_St)
  | 0 => fun _ _ _ _ => none
  | n + 1 => S_X2_become_17  (L_X2_become_17  n)
def F_X2_become  (t0 : Nat) (t1 : Nat) (s0 : hw_St) : Option (Unit × hw_St) := hw_gd (hw_gH t0 2) (hw_gd (hw_gH t1 2) (hw_gd (hw_gH (hw_fl t1 2) 10) (hw_gd (hw_gH (hw_fl t0 2) 10) (hw_gd (hw_cpo (0 : Int32) (0 : Int32) (24 : Int32) (hw_ln (hw_fl t1 2)) (hw_ln (hw_fl t0 2))) (hw_nm (hw_upA s0 (hw_fl t0 2) (va_cpy (s0 (hw_fl t1 2)) (s0 (hw_fl t0 2)) (0 : Int32).toNatClampNeg (0 : Int32).toNatClampNeg (24 : Int32).toNatClampNeg)) (fun s5 => L_X2_become_17 130 t0 t1 (0 : Int32) s5))))))
set_option maxRecDepth 20000 in
theorem KS_X2_become_17 {G : hw_G} (C : hw_Ok G cX2_become RX2 3 2 none hw_TH) (hTL : hw_eT (hw_gE G) = hw_TH) (w17 : Nat → Nat → Int32 → hw_St → Option (Unit × hw_St)) (H_w17 : ∀ (t0 : Nat) (t1 : Nat) (l2 : Int32) (s0 : hw_St) (T0 : hw_T hw_TH t0 2) (T1 : hw_T hw_TH t1 2), hw_K G 3 hw_r0 (w17 t0 t1 l2 s0) 17 [(0, hw_rv (hw_ea (hw_gE G)) t0), (1, hw_rv (hw_ea (hw_gE G)) t1), (2, .int l2)] [] s0) (t0 : Nat) (t1 : Nat) (l2 : Int32) (s0 : hw_St) (T0 : hw_T hw_TH t0 2) (T1 : hw_T hw_TH t1 2) : hw_K G 3 hw_r0 (S_X2_become_17 w17 t0 t1 l2 s0) 17 [(0, hw_rv (hw_ea (hw_gE G)) t0), (1, hw_rv (hw_ea (hw_gE G)) t1), (2, .int l2)] [] s0 := by
  unfold S_X2_become_17
  refine hw_iload_n C dX2_become_17 rfl 2 rfl ?_
  refine hw_bipush C dX2_become_18 (v := 6) (by decide) ?_
  refine hw_icmp_ge C dX2_become_20 (tgt := 44) (by decide) (fun c6 => ?_) (fun c6 => ?_)
  · refine hw_aload_n C dX2_become_44 rfl 1 rfl ?_
    refine hw_getR C cf_X2 lf_X2_22 T1 rfl dX2_become_45 ?_
    refine hw_iconst C dX2_become_48 (v := 0) (by decide) ?_
    refine hw_aload_n C dX2_become_49 rfl 0 rfl ?_
    refine hw_getR C cf_X2 lf_X2_22 T0 rfl dX2_become_50 ?_
    refine hw_iconst C dX2_become_53 (v := 0) (by decide) ?_
    refine hw_iconst C dX2_become_54 (v := 3) (by decide) ?_
    refine hw_gdK (fun h8 => ?_)
    have T_7 := hw_gH_T h8
    refine hw_gdK (fun h10 => ?_)
    have T_9 := hw_gH_T h10
    refine hw_copy C T_7 T_9 rfl rfl mw_1030 copyw (hw_l8 rfl) dX2_become_55 (fun s11 => ?_)
    refine hw_aload_n C dX2_become_58 rfl 0 rfl ?_
    refine hw_aload_n C dX2_become_59 rfl 1 rfl ?_
    refine hw_getI C cf_X2 lf_X2_25 T1 dX2_become_60 ?_
    refine hw_putI C cf_X2 lf_X2_25 T0 rfl rfl dX2_become_63 (fun s12 => ?_)
    refine hw_aload_n C dX2_become_66 rfl 0 rfl ?_
    refine hw_aload_n C dX2_become_67 rfl 1 rfl ?_
    refine hw_getI C cf_X2 lf_X2_29 T1 dX2_become_68 ?_
    refine hw_putI C cf_X2 lf_X2_29 T0 rfl rfl dX2_become_71 (fun s13 => ?_)
    refine hw_aload_n C dX2_become_74 rfl 0 rfl ?_
    refine hw_aload_n C dX2_become_75 rfl 1 rfl ?_
    refine hw_getI C cf_X2 lf_X2_32 T1 dX2_become_76 ?_
    refine hw_putI C cf_X2 lf_X2_32 T0 rfl rfl dX2_become_79 (fun s14 => ?_)
    refine hw_aload_n C dX2_become_82 rfl 0 rfl ?_
    refine hw_aload_n C dX2_become_83 rfl 1 rfl ?_
    refine hw_getI C cf_X2 lf_X2_35 T1 dX2_become_84 ?_
    refine hw_putI C cf_X2 lf_X2_35 T0 rfl rfl dX2_become_87 (fun s15 => ?_)
    refine hw_aload_n C dX2_become_90 rfl 0 rfl ?_
    refine hw_aload_n C dX2_become_91 rfl 1 rfl ?_
    refine hw_getI C cf_X2 lf_X2_38 T1 dX2_become_92 ?_
    refine hw_putI C cf_X2 lf_X2_38 T0 rfl rfl dX2_become_95 (fun s16 => ?_)
    exact hw_vret C dX2_become_98
  · refine hw_aload_n C dX2_become_23 rfl 0 rfl ?_
    refine hw_getR C cf_X2 lf_X2_17 T0 rfl dX2_become_24 ?_
    refine hw_iload_n C dX2_become_27 rfl 2 rfl ?_
    refine hw_gdK (fun h18 => ?_)
    have T_17 := hw_gH_T h18
    refine hw_aaldH (t0 := 5) C T_17 (by decide) (fun _ => rfl) (by decide) rfl dX2_become_28 (fun T_19 => ?_)
    refine hw_aload_n C dX2_become_29 rfl 1 rfl ?_
    refine hw_getR C cf_X2 lf_X2_17 T1 rfl dX2_become_30 ?_
    refine hw_iload_n C dX2_become_33 rfl 2 rfl ?_
    refine hw_gdK (fun h21 => ?_)
    have T_20 := hw_gH_T h21
    refine hw_aaldH (t0 := 5) C T_20 (by decide) (fun _ => rfl) (by decide) rfl dX2_become_34 (fun T_22 => ?_)
    refine hw_callVv C (M_X5_become (hw_gE G) hTL (hw_el (hw_fl t0 3) l2.toNatClampNeg) (hw_el (hw_fl t1 3) l2.toNatClampNeg) s0) W_X5_become SV_X5_become cf_X5 T_19 mw_1031 (by decide) rfl ⟨rfl, hw_l8 rfl⟩ dX2_become_35 (fun r23 s24 => ?_)
    refine hw_iinc C dX2_become_38 2 rfl (v := 1) (by decide) (by decide) rfl ?_
    refine hw_goto C dX2_become_41 (tgt := 17) (by decide) ?_
    exact hw_lv [1, 2, 0] rfl (H_w17 t0 t1 (l2 + 1) s24 T0 T1)
theorem KL_X2_become_17 {G : hw_G} (C : hw_Ok G cX2_become RX2 3 2 none hw_TH) (hTL : hw_eT (hw_gE G) = hw_TH) : ∀ (n_ : Nat) (t0 : Nat) (t1 : Nat) (l2 : Int32) (s0 : hw_St) (T0 : hw_T hw_TH t0 2) (T1 : hw_T hw_TH t1 2), hw_K G 3 hw_r0 (L_X2_become_17 n_ t0 t1 l2 s0) 17 [(0, hw_rv (hw_ea (hw_gE G)) t0), (1, hw_rv (hw_ea (hw_gE G)) t1), (2, .int l2)] [] s0 := by
  intro n_
  induction n_ with
  | zero => intros; exact hw_nil
  | succ n_ ih => intro t0 t1 l2 s0 T0 T1; exact KS_X2_become_17 C hTL (L_X2_become_17 n_) ih t0 t1 l2 s0 T0 T1
set_option maxRecDepth 20000 in
theorem M_X2_become (E : hw_E) (hE : hw_eT E = hw_TH) (t0 : Nat) (t1 : Nat) (s0 : hw_St) : hw_M E yX2_become cX2_become 3 none 2 [hw_rv (hw_ea E) t0, hw_rv (hw_ea E) t1] s0 hw_r0 (F_X2_become t0 t1 s0) := by
  refine hw_entry (own := RX2) (TL := hw_TH) (by decide) rfl hE (hw_cR (hw_cR hw_cN)) (hw_l8 rfl) (fun G hG C => ?_)
  subst hG
  have hTL := hE
  show hw_K G 3 hw_r0 _ 0 [(0, hw_rv (hw_ea (hw_gE G)) t0), (1, hw_rv (hw_ea (hw_gE G)) t1)] [] s0
  unfold F_X2_become
  refine hw_gdK (fun h_T0 => ?_)
  have T0 := hw_gH_T h_T0
  refine hw_gdK (fun h_T1 => ?_)
  have T1 := hw_gH_T h_T1
  refine hw_aload_n C dX2_become_0 rfl 1 rfl ?_
  refine hw_getR C cf_X2 lf_X2_9 T1 rfl dX2_become_1 ?_
  refine hw_iconst C dX2_become_4 (v := 0) (by decide) ?_
  refine hw_aload_n C dX2_become_5 rfl 0 rfl ?_
  refine hw_getR C cf_X2 lf_X2_9 T0 rfl dX2_become_6 ?_
  refine hw_iconst C dX2_become_9 (v := 0) (by decide) ?_
  refine hw_bipush C dX2_become_10 (v := 24) (by decide) ?_
  refine hw_gdK (fun h2 => ?_)
  have T_1 := hw_gH_T h2
  refine hw_gdK (fun h4 => ?_)
  have T_3 := hw_gH_T h4
  refine hw_copy C T_1 T_3 rfl rfl mw_1030 copyw (hw_l8 rfl) dX2_become_12 (fun s5 => ?_)
  refine hw_iconst C dX2_become_15 (v := 0) (by decide) ?_
  refine hw_istore_n C dX2_become_16 rfl (by decide) rfl ?_
  exact hw_lv [1, 2, 0] rfl (KL_X2_become_17 C hTL 130 t0 t1 (0 : Int32) s5 T0 T1)
/-! HumWire$Scene wireAt(I)LHumWire$Wire;, level 2 -/
def F_X2_wireAt  (t0 : Nat) (a1 : Int32) (s0 : hw_St) : Option (Nat × hw_St) := hw_gd (hw_gH t0 2) (hw_bd (F_X6_isWithin a1 (0 : Int32) ((s0 t0 6) - (1 : Int32)) s0) (fun r1 s2 => if r1 = 0 then (some (999, s2)) else (hw_gd (hw_gH (hw_fl t0 3) 21) (hw_gd (hw_inb a1 (hw_ln (hw_fl t0 3))) (hw_gd (hw_gH (hw_el (hw_fl t0 3) a1.toNatClampNeg) 5) (some ((hw_el (hw_fl t0 3) a1.toNatClampNeg), s2)))))))
set_option maxRecDepth 20000 in
theorem M_X2_wireAt (E : hw_E) (hE : hw_eT E = hw_TH) (t0 : Nat) (a1 : Int32) (s0 : hw_St) : hw_M E yX2_wireAt cX2_wireAt 2 (some (.object "HumWire$Wire")) 2 [hw_rv (hw_ea E) t0, .int a1] s0 (hw_rq (hw_ea E)) (F_X2_wireAt t0 a1 s0) := by
  refine hw_entry (own := RX2) (TL := hw_TH) (by decide) rfl hE (hw_cR (hw_cI hw_cN)) (hw_l8 rfl) (fun G hG C => ?_)
  subst hG
  have hTL := hE
  show hw_K G 2 (hw_rq (hw_ea (hw_gE G))) _ 0 [(0, hw_rv (hw_ea (hw_gE G)) t0), (1, .int a1)] [] s0
  unfold F_X2_wireAt
  refine hw_gdK (fun h_T0 => ?_)
  have T0 := hw_gH_T h_T0
  refine hw_iload_n C dX2_wireAt_0 rfl 1 rfl ?_
  refine hw_iconst C dX2_wireAt_1 (v := 0) (by decide) ?_
  refine hw_aload_n C dX2_wireAt_2 rfl 0 rfl ?_
  refine hw_getI C cf_X2 lf_X2_29 T0 dX2_wireAt_3 ?_
  refine hw_iconst C dX2_wireAt_6 (v := 1) (by decide) ?_
  refine hw_isub C dX2_wireAt_7 ?_
  refine hw_callSNi C (M_X6_isWithin (hw_gE G) hTL a1 (0 : Int32) ((s0 t0 6) - (1 : Int32)) s0) W_X6_isWithin SS_X6_isWithin C.2.2.2.2.2.2.2.1.1 (by decide) rfl ⟨rfl, hw_l8 rfl⟩ dX2_wireAt_8 (fun r1 s2 => ?_)
  refine hw_if_eq C dX2_wireAt_11 (tgt := 23) (by decide) (fun c3 => ?_) (fun c3 => ?_)
  · refine hw_null C dX2_wireAt_23 ?_
    exact hw_aret C dX2_wireAt_24
  · refine hw_aload_n C dX2_wireAt_14 rfl 0 rfl ?_
    refine hw_getR C cf_X2 lf_X2_17 T0 rfl dX2_wireAt_15 ?_
    refine hw_iload_n C dX2_wireAt_18 rfl 1 rfl ?_
    refine hw_gdK (fun h5 => ?_)
    have T_4 := hw_gH_T h5
    refine hw_aaldH (t0 := 5) C T_4 (by decide) (fun _ => rfl) (by decide) rfl dX2_wireAt_19 (fun T_6 => ?_)
    refine hw_goto C dX2_wireAt_20 (tgt := 24) (by decide) ?_
    exact hw_aret C dX2_wireAt_24
/-! HumWire$Scene heldCount()I, level 1 -/
def B_X2_heldCount_30  (w4 : Nat → Int32 → Int32 → hw_St → Option (Int32 × hw_St)) (t0 : Nat) (l2 : Int32) (k0 : Int32) (k1 : Int32) (s0 : hw_St) : Option (Int32 × hw_St) := hw_nm (k1 + k0) (fun x6 => w4 t0 x6 (l2 + 1) s0)
def S_X2_heldCount_4  (w4 : Nat → Int32 → Int32 → hw_St → Option (Int32 × hw_St)) (t0 : Nat) (l1 : Int32) (l2 : Int32) (s0 : hw_St) : Option (Int32 × hw_St) := if (s0 t0 6) ≤ l2 then (some (l1, s0)) else (hw_gd (hw_gH (hw_fl t0 3) 21) (hw_gd (hw_inb l2 (hw_ln (hw_fl t0 3))) (hw_gd (hw_gH (hw_el (hw_fl t0 3) l2.toNatClampNeg) 5) (if (s0 (hw_el (hw_fl t0 3) l2.toNatClampNeg) 5) = 0 then (B_X2_heldCount_30 w4 t0 l2 (0 : Int32) l1 s0) else (B_X2_heldCount_30 w4 t0 l2 (1 : Int32) l1 s0)))))
def L_X2_heldCount_4  : Nat → Nat → Int32 → Int32 → hw_St → Option (Int32 × hw_St)
  | 0 => fun _ _ _ _ => none
  | n + 1 => S_X2_heldCount_4  (L_X2_heldCount_4  n)
def F_X2_heldCount  (t0 : Nat) (s0 : hw_St) : Option (Int32 × hw_St) := hw_gd (hw_gH t0 2) (L_X2_heldCount_4 130 t0 (0 : Int32) (0 : Int32) s0)
set_option maxRecDepth 20000 in
theorem KB_X2_heldCount_30 {G : hw_G} (C : hw_Ok G cX2_heldCount RX2 3 1 (some .int) hw_TH) (hTL : hw_eT (hw_gE G) = hw_TH) (w4 : Nat → Int32 → Int32 → hw_St → Option (Int32 × hw_St)) (H_w4 : ∀ (t0 : Nat) (l1 : Int32) (l2 : Int32) (s0 : hw_St) (T0 : hw_T hw_TH t0 2), hw_K G 3 hw_ri (w4 t0 l1 l2 s0) 4 [(0, hw_rv (hw_ea (hw_gE G)) t0), (1, .int l1), (2, .int l2)] [] s0) (t0 : Nat) (l2 : Int32) (k0 : Int32) (k1 : Int32) (s0 : hw_St) (T0 : hw_T hw_TH t0 2) : hw_K G 3 hw_ri (B_X2_heldCount_30 w4 t0 l2 k0 k1 s0) 30 [(0, hw_rv (hw_ea (hw_gE G)) t0), (2, .int l2)] [.int k0, .int k1] s0 := by
  unfold B_X2_heldCount_30
  refine hw_iadd C dX2_heldCount_30 ?_
  refine hw_istore_nN C dX2_heldCount_31 rfl (by decide) (fun _ => rfl) (fun x6 => ?_)
  refine hw_iinc C dX2_heldCount_32 2 rfl (v := 1) (by decide) (by decide) rfl ?_
  refine hw_goto C dX2_heldCount_35 (tgt := 4) (by decide) ?_
  exact hw_lv [2, 1, 0] rfl (H_w4 t0 x6 (l2 + 1) s0 T0)
set_option maxRecDepth 20000 in
theorem KS_X2_heldCount_4 {G : hw_G} (C : hw_Ok G cX2_heldCount RX2 3 1 (some .int) hw_TH) (hTL : hw_eT (hw_gE G) = hw_TH) (w4 : Nat → Int32 → Int32 → hw_St → Option (Int32 × hw_St)) (H_w4 : ∀ (t0 : Nat) (l1 : Int32) (l2 : Int32) (s0 : hw_St) (T0 : hw_T hw_TH t0 2), hw_K G 3 hw_ri (w4 t0 l1 l2 s0) 4 [(0, hw_rv (hw_ea (hw_gE G)) t0), (1, .int l1), (2, .int l2)] [] s0) (t0 : Nat) (l1 : Int32) (l2 : Int32) (s0 : hw_St) (T0 : hw_T hw_TH t0 2) : hw_K G 3 hw_ri (S_X2_heldCount_4 w4 t0 l1 l2 s0) 4 [(0, hw_rv (hw_ea (hw_gE G)) t0), (1, .int l1), (2, .int l2)] [] s0 := by
  unfold S_X2_heldCount_4
  refine hw_iload_n C dX2_heldCount_4 rfl 2 rfl ?_
  refine hw_aload_n C dX2_heldCount_5 rfl 0 rfl ?_
  refine hw_getI C cf_X2 lf_X2_29 T0 dX2_heldCount_6 ?_
  refine hw_icmp_ge C dX2_heldCount_9 (tgt := 38) (by decide) (fun c1 => ?_) (fun c1 => ?_)
  · refine hw_iload_n C dX2_heldCount_38 rfl 1 rfl ?_
    exact hw_iret C dX2_heldCount_39
  · refine hw_iload_n C dX2_heldCount_12 rfl 1 rfl ?_
    refine hw_aload_n C dX2_heldCount_13 rfl 0 rfl ?_
    refine hw_getR C cf_X2 lf_X2_17 T0 rfl dX2_heldCount_14 ?_
    refine hw_iload_n C dX2_heldCount_17 rfl 2 rfl ?_
    refine hw_gdK (fun h3 => ?_)
    have T_2 := hw_gH_T h3
    refine hw_aaldH (t0 := 5) C T_2 (by decide) (fun _ => rfl) (by decide) rfl dX2_heldCount_18 (fun T_4 => ?_)
    refine hw_getI C cf_X5 lf_X2_69 T_4 dX2_heldCount_19 ?_
    refine hw_if_eq C dX2_heldCount_22 (tgt := 29) (by decide) (fun c5 => ?_) (fun c5 => ?_)
    · refine hw_iconst C dX2_heldCount_29 (v := 0) (by decide) ?_
      exact hw_lv [0, 2] rfl (KB_X2_heldCount_30 C hTL w4 H_w4 t0 l2 (0 : Int32) l1 s0 T0)
    · refine hw_iconst C dX2_heldCount_25 (v := 1) (by decide) ?_
      refine hw_goto C dX2_heldCount_26 (tgt := 30) (by decide) ?_
      exact hw_lv [0, 2] rfl (KB_X2_heldCount_30 C hTL w4 H_w4 t0 l2 (1 : Int32) l1 s0 T0)
theorem KL_X2_heldCount_4 {G : hw_G} (C : hw_Ok G cX2_heldCount RX2 3 1 (some .int) hw_TH) (hTL : hw_eT (hw_gE G) = hw_TH) : ∀ (n_ : Nat) (t0 : Nat) (l1 : Int32) (l2 : Int32) (s0 : hw_St) (T0 : hw_T hw_TH t0 2), hw_K G 3 hw_ri (L_X2_heldCount_4 n_ t0 l1 l2 s0) 4 [(0, hw_rv (hw_ea (hw_gE G)) t0), (1, .int l1), (2, .int l2)] [] s0 := by
  intro n_
  induction n_ with
  | zero => intros; exact hw_nil
  | succ n_ ih => intro t0 l1 l2 s0 T0; exact KS_X2_heldCount_4 C hTL (L_X2_heldCount_4 n_) ih t0 l1 l2 s0 T0
set_option maxRecDepth 20000 in
theorem M_X2_heldCount (E : hw_E) (hE : hw_eT E = hw_TH) (t0 : Nat) (s0 : hw_St) : hw_M E yX2_heldCount cX2_heldCount 3 (some .int) 1 [hw_rv (hw_ea E) t0] s0 hw_ri (F_X2_heldCount t0 s0) := by
  refine hw_entry (own := RX2) (TL := hw_TH) (by decide) rfl hE (hw_cR hw_cN) (hw_l8 rfl) (fun G hG C => ?_)
  subst hG
  have hTL := hE
  show hw_K G 3 hw_ri _ 0 [(0, hw_rv (hw_ea (hw_gE G)) t0)] [] s0
  unfold F_X2_heldCount
  refine hw_gdK (fun h_T0 => ?_)
  have T0 := hw_gH_T h_T0
  refine hw_iconst C dX2_heldCount_0 (v := 0) (by decide) ?_
  refine hw_istore_n C dX2_heldCount_1 rfl (by decide) rfl ?_
  refine hw_iconst C dX2_heldCount_2 (v := 0) (by decide) ?_
  refine hw_istore_n C dX2_heldCount_3 rfl (by decide) rfl ?_
  exact hw_lv [2, 1, 0] rfl (KL_X2_heldCount_4 C hTL 130 t0 (0 : Int32) (0 : Int32) s0 T0)
/-! HumWire$Scene windIn(I)I, level 1 -/
def F_X2_windIn  (t0 : Nat) (a1 : Int32) (s0 : hw_St) : Option (Int32 × hw_St) := hw_gd (hw_gH t0 2) (hw_gd (hw_gH (hw_fl t0 2) 10) (hw_gd (hw_inb (hw_rem ((s0 t0 7) + a1) (24 : Int32)) (hw_ln (hw_fl t0 2))) (some ((s0 (hw_fl t0 2) (hw_rem ((s0 t0 7) + a1) (24 : Int32)).toNatClampNeg), s0))))
set_option maxRecDepth 20000 in
theorem M_X2_windIn (E : hw_E) (hE : hw_eT E = hw_TH) (t0 : Nat) (a1 : Int32) (s0 : hw_St) : hw_M E yX2_windIn cX2_windIn 2 (some .int) 1 [hw_rv (hw_ea E) t0, .int a1] s0 hw_ri (F_X2_windIn t0 a1 s0) := by
  refine hw_entry (own := RX2) (TL := hw_TH) (by decide) rfl hE (hw_cR (hw_cI hw_cN)) (hw_l8 rfl) (fun G hG C => ?_)
  subst hG
  have hTL := hE
  show hw_K G 2 hw_ri _ 0 [(0, hw_rv (hw_ea (hw_gE G)) t0), (1, .int a1)] [] s0
  unfold F_X2_windIn
  refine hw_gdK (fun h_T0 => ?_)
  have T0 := hw_gH_T h_T0
  refine hw_aload_n C dX2_windIn_0 rfl 0 rfl ?_
  refine hw_getR C cf_X2 lf_X2_9 T0 rfl dX2_windIn_1 ?_
  refine hw_aload_n C dX2_windIn_4 rfl 0 rfl ?_
  refine hw_getI C cf_X2 lf_X2_32 T0 dX2_windIn_5 ?_
  refine hw_iload_n C dX2_windIn_8 rfl 1 rfl ?_
  refine hw_iadd C dX2_windIn_9 ?_
  refine hw_bipush C dX2_windIn_10 (v := 24) (by decide) ?_
  refine hw_iremC C dX2_windIn_12 (by decide) ?_
  refine hw_gdK (fun h2 => ?_)
  have T_1 := hw_gH_T h2
  refine hw_iald C T_1 rfl dX2_windIn_13 (fun h3 => ?_)
  exact hw_iret C dX2_windIn_14
/-! HumWire$Scene drawWind(I)I, level 2 -/
def F_X2_drawWind  (t0 : Nat) (a1 : Int32) (s0 : hw_St) : Option (Int32 × hw_St) := hw_gd (hw_gH t0 2) (hw_nm (hw_up s0 t0 9 (((s0 t0 9) * (1103515245 : Int32)) + (12345 : Int32))) (fun s1 => hw_gd (hw_gH (hw_fl t0 2) 10) (hw_gd (hw_inb (hw_rem ((a1 + (24 : Int32)) - (1 : Int32)) (24 : Int32)) (hw_ln (hw_fl t0 2))) (hw_nm (s1 (hw_fl t0 2) (hw_rem ((a1 + (24 : Int32)) - (1 : Int32)) (24 : Int32)).toNatClampNeg) (fun x5 => hw_bd (F_X6_within ((x5 + (hw_rem (hw_ushr (s1 t0 9) (8 : Int32)) (11 : Int32))) - (5 : Int32)) (0 : Int32) (99 : Int32) s1) (fun r6 s7 => hw_gd (hw_inb a1 (hw_ln (hw_fl t0 2))) (hw_nm (hw_up s7 (hw_fl t0 2) a1.toNatClampNeg r6) (fun s8 => hw_gd (hw_inb a1 (hw_ln (hw_fl t0 2))) (some ((s8 (hw_fl t0 2) a1.toNatClampNeg), s8))))))))))
set_option maxRecDepth 20000 in
theorem M_X2_drawWind (E : hw_E) (hE : hw_eT E = hw_TH) (t0 : Nat) (a1 : Int32) (s0 : hw_St) : hw_M E yX2_drawWind cX2_drawWind 3 (some .int) 2 [hw_rv (hw_ea E) t0, .int a1] s0 hw_ri (F_X2_drawWind t0 a1 s0) := by
  refine hw_entry (own := RX2) (TL := hw_TH) (by decide) rfl hE (hw_cR (hw_cI hw_cN)) (hw_l8 rfl) (fun G hG C => ?_)
  subst hG
  have hTL := hE
  show hw_K G 3 hw_ri _ 0 [(0, hw_rv (hw_ea (hw_gE G)) t0), (1, .int a1)] [] s0
  unfold F_X2_drawWind
  refine hw_gdK (fun h_T0 => ?_)
  have T0 := hw_gH_T h_T0
  refine hw_aload_n C dX2_drawWind_0 rfl 0 rfl ?_
  refine hw_aload_n C dX2_drawWind_1 rfl 0 rfl ?_
  refine hw_getI C cf_X2 lf_X2_38 T0 dX2_drawWind_2 ?_
  refine hw_ldc C mw_296 dX2_drawWind_5 ?_
  refine hw_imul C dX2_drawWind_7 ?_
  refine hw_sipush C dX2_drawWind_8 (v := 12345) (by decide) ?_
  refine hw_iadd C dX2_drawWind_11 ?_
  refine hw_putI C cf_X2 lf_X2_38 T0 rfl rfl dX2_drawWind_12 (fun s1 => ?_)
  refine hw_aload_n C dX2_drawWind_15 rfl 0 rfl ?_
  refine hw_getR C cf_X2 lf_X2_9 T0 rfl dX2_drawWind_16 ?_
  refine hw_iload_n C dX2_drawWind_19 rfl 1 rfl ?_
  refine hw_bipush C dX2_drawWind_20 (v := 24) (by decide) ?_
  refine hw_iadd C dX2_drawWind_22 ?_
  refine hw_iconst C dX2_drawWind_23 (v := 1) (by decide) ?_
  refine hw_isub C dX2_drawWind_24 ?_
  refine hw_bipush C dX2_drawWind_25 (v := 24) (by decide) ?_
  refine hw_iremC C dX2_drawWind_27 (by decide) ?_
  refine hw_gdK (fun h3 => ?_)
  have T_2 := hw_gH_T h3
  refine hw_iald C T_2 rfl dX2_drawWind_28 (fun h4 => ?_)
  refine hw_istore_nN C dX2_drawWind_29 rfl (by decide) (fun _ => rfl) (fun x5 => ?_)
  refine hw_aload_n C dX2_drawWind_30 rfl 1 rfl ?_
  refine hw_getR C cf_X2 lf_X2_9 T0 rfl dX2_drawWind_31 ?_
  refine hw_iload_n C dX2_drawWind_34 rfl 2 rfl ?_
  refine hw_iload_n C dX2_drawWind_35 rfl 0 rfl ?_
  refine hw_aload_n C dX2_drawWind_36 rfl 1 rfl ?_
  refine hw_getI C cf_X2 lf_X2_38 T0 dX2_drawWind_37 ?_
  refine hw_bipush C dX2_drawWind_40 (v := 8) (by decide) ?_
  refine hw_iushr C dX2_drawWind_42 ?_
  refine hw_bipush C dX2_drawWind_43 (v := 11) (by decide) ?_
  refine hw_iremC C dX2_drawWind_45 (by decide) ?_
  refine hw_iadd C dX2_drawWind_46 ?_
  refine hw_iconst C dX2_drawWind_47 (v := 5) (by decide) ?_
  refine hw_isub C dX2_drawWind_48 ?_
  refine hw_iconst C dX2_drawWind_49 (v := 0) (by decide) ?_
  refine hw_bipush C dX2_drawWind_50 (v := 99) (by decide) ?_
  refine hw_callSNi C (M_X6_within (hw_gE G) hTL ((x5 + (hw_rem (hw_ushr (s1 t0 9) (8 : Int32)) (11 : Int32))) - (5 : Int32)) (0 : Int32) (99 : Int32) s1) W_X6_within SS_X6_within C.2.2.2.2.2.2.2.1.2.1 (by decide) rfl ⟨rfl, hw_l8 rfl⟩ dX2_drawWind_52 (fun r6 s7 => ?_)
  refine hw_iast C T_2 rfl dX2_drawWind_55 (fun h9 s8 => ?_)
  refine hw_aload_n C dX2_drawWind_56 rfl 1 rfl ?_
  refine hw_getR C cf_X2 lf_X2_9 T0 rfl dX2_drawWind_57 ?_
  refine hw_iload_n C dX2_drawWind_60 rfl 2 rfl ?_
  refine hw_iald C T_2 rfl dX2_drawWind_61 (fun h10 => ?_)
  exact hw_iret C dX2_drawWind_62
/-! HumWire$Scene lawOf(I)LHumWire$Law;, level 2 -/
def F_X2_lawOf  (t0 : Nat) (a1 : Int32) (s0 : hw_St) : Option (Nat × hw_St) := hw_gd (hw_gH t0 2) (hw_gd (hw_gH (hw_fl t0 4) 10) (hw_gd (hw_inb a1 (hw_ln (hw_fl t0 4))) (hw_nm (s0 (hw_fl t0 4) a1.toNatClampNeg) (fun x4 => hw_bd (F_X6_isWithin x4 (0 : Int32) ((s0 t0 5) - (1 : Int32)) s0) (fun r5 s6 => if r5 = 0 then (some (999, s6)) else (hw_gd (hw_gH (hw_fl t0 0) 20) (hw_gd (hw_inb x4 (hw_ln (hw_fl t0 0))) (hw_gd (hw_gH (hw_el (hw_fl t0 0) x4.toNatClampNeg) 0) (some ((hw_el (hw_fl t0 0) x4.toNatClampNeg), s6))))))))))
set_option maxRecDepth 20000 in
theorem M_X2_lawOf (E : hw_E) (hE : hw_eT E = hw_TH) (t0 : Nat) (a1 : Int32) (s0 : hw_St) : hw_M E yX2_lawOf cX2_lawOf 3 (some (.object "HumWire$Law")) 2 [hw_rv (hw_ea E) t0, .int a1] s0 (hw_rq (hw_ea E)) (F_X2_lawOf t0 a1 s0) := by
  refine hw_entry (own := RX2) (TL := hw_TH) (by decide) rfl hE (hw_cR (hw_cI hw_cN)) (hw_l8 rfl) (fun G hG C => ?_)
  subst hG
  have hTL := hE
  show hw_K G 3 (hw_rq (hw_ea (hw_gE G))) _ 0 [(0, hw_rv (hw_ea (hw_gE G)) t0), (1, .int a1)] [] s0
  unfold F_X2_lawOf
  refine hw_gdK (fun h_T0 => ?_)
  have T0 := hw_gH_T h_T0
  refine hw_aload_n C dX2_lawOf_0 rfl 0 rfl ?_
  refine hw_getR C cf_X2 lf_X2_22 T0 rfl dX2_lawOf_1 ?_
  refine hw_iload_n C dX2_lawOf_4 rfl 1 rfl ?_
  refine hw_gdK (fun h2 => ?_)
  have T_1 := hw_gH_T h2
  refine hw_iald C T_1 rfl dX2_lawOf_5 (fun h3 => ?_)
  refine hw_istore_nN C dX2_lawOf_6 rfl (by decide) (fun _ => rfl) (fun x4 => ?_)
  refine hw_iload_n C dX2_lawOf_7 rfl 0 rfl ?_
  refine hw_iconst C dX2_lawOf_8 (v := 0) (by decide) ?_
  refine hw_aload_n C dX2_lawOf_9 rfl 1 rfl ?_
  refine hw_getI C cf_X2 lf_X2_25 T0 dX2_lawOf_10 ?_
  refine hw_iconst C dX2_lawOf_13 (v := 1) (by decide) ?_
  refine hw_isub C dX2_lawOf_14 ?_
  refine hw_callSNi C (M_X6_isWithin (hw_gE G) hTL x4 (0 : Int32) ((s0 t0 5) - (1 : Int32)) s0) W_X6_isWithin SS_X6_isWithin C.2.2.2.2.2.2.2.1.1 (by decide) rfl ⟨rfl, hw_l8 rfl⟩ dX2_lawOf_15 (fun r5 s6 => ?_)
  refine hw_if_eq C dX2_lawOf_18 (tgt := 30) (by decide) (fun c7 => ?_) (fun c7 => ?_)
  · refine hw_null C dX2_lawOf_30 ?_
    exact hw_aret C dX2_lawOf_31
  · refine hw_aload_n C dX2_lawOf_21 rfl 1 rfl ?_
    refine hw_getR C cf_X2 lf_X2_41 T0 rfl dX2_lawOf_22 ?_
    refine hw_iload_n C dX2_lawOf_25 rfl 0 rfl ?_
    refine hw_gdK (fun h9 => ?_)
    have T_8 := hw_gH_T h9
    refine hw_aaldH (t0 := 4) C T_8 (by decide) (fun _ => rfl) (by decide) rfl dX2_lawOf_26 (fun T_10 => ?_)
    refine hw_goto C dX2_lawOf_27 (tgt := 31) (by decide) ?_
    exact hw_aret C dX2_lawOf_31
/-! HumWire$Scene growth(LHumWire$Wire;I)I, level 3 -/
def F_X2_growth  (t0 : Nat) (t1 : Nat) (a2 : Int32) (s0 : hw_St) : Option (Int32 × hw_St) := hw_gd (hw_gH t0 2) (hw_gd (hw_gH t1 5) (hw_bd (F_X2_lawOf t0 (1 : Int32) s0) (fun r1 s2 => if r1 = 999 then (hw_bd (F_X5_air t1 a2 s2) (fun r12 s13 => some (r12, s13))) else (hw_bd (F_X5_air t1 a2 s2) (fun r4 s5 => hw_gd (hw_gH r1 0) (hw_bd (F_X0_gives r1 r4 (s5 t1 4) (0 : Int32) (hw_fl t0 1) s5) (fun r8 s9 => hw_bd (F_X6_within r8 (0 : Int32) (999 : Int32) s9) (fun r10 s11 => some (r10, s11)))))))))
set_option maxRecDepth 20000 in
theorem M_X2_growth (E : hw_E) (hE : hw_eT E = hw_TH) (t0 : Nat) (t1 : Nat) (a2 : Int32) (s0 : hw_St) : hw_M E yX2_growth cX2_growth 4 (some .int) 3 [hw_rv (hw_ea E) t0, hw_rv (hw_ea E) t1, .int a2] s0 hw_ri (F_X2_growth t0 t1 a2 s0) := by
  refine hw_entry (own := RX2) (TL := hw_TH) (by decide) rfl hE (hw_cR (hw_cR (hw_cI hw_cN))) (hw_l8 rfl) (fun G hG C => ?_)
  subst hG
  have hTL := hE
  show hw_K G 4 hw_ri _ 0 [(0, hw_rv (hw_ea (hw_gE G)) t0), (1, hw_rv (hw_ea (hw_gE G)) t1), (2, .int a2)] [] s0
  unfold F_X2_growth
  refine hw_gdK (fun h_T0 => ?_)
  have T0 := hw_gH_T h_T0
  refine hw_gdK (fun h_T1 => ?_)
  have T1 := hw_gH_T h_T1
  refine hw_aload_n C dX2_growth_0 rfl 0 rfl ?_
  refine hw_iconst C dX2_growth_1 (v := 1) (by decide) ?_
  refine hw_callVq C (M_X2_lawOf (hw_gE G) hTL t0 (1 : Int32) s0) W_X2_lawOf SV_X2_lawOf cf_X2 T0 mw_354 (by decide) rfl ⟨rfl, hw_l8 rfl⟩ dX2_growth_2 (fun r1 s2 => ?_)
  refine hw_astore_n C dX2_growth_5 rfl (by decide) rfl ?_
  refine hw_aload_n C dX2_growth_6 rfl 0 rfl ?_
  refine hw_ifnonnull C dX2_growth_7 (tgt := 16) (by decide) (fun c3 => ?_) (fun c3 => ?_)
  · refine hw_aload_n C dX2_growth_16 rfl 0 rfl ?_
    refine hw_aload_n C dX2_growth_17 rfl 2 rfl ?_
    refine hw_iload_n C dX2_growth_18 rfl 3 rfl ?_
    refine hw_callVi C (M_X5_air (hw_gE G) hTL t1 a2 s2) W_X5_air SV_X5_air cf_X5 T1 mw_376 (by decide) rfl ⟨rfl, hw_l8 rfl⟩ dX2_growth_19 (fun r4 s5 => ?_)
    refine hw_aload_n C dX2_growth_22 rfl 2 rfl ?_
    refine hw_getI C cf_X5 lf_X2_86 T1 dX2_growth_23 ?_
    refine hw_iconst C dX2_growth_26 (v := 0) (by decide) ?_
    refine hw_aload_n C dX2_growth_27 rfl 1 rfl ?_
    refine hw_getR C cf_X2 lf_X2_45 T0 rfl dX2_growth_28 ?_
    refine hw_gdK (fun h7 => ?_)
    have T_6 := hw_gH_T h7
    refine hw_callVi C (M_X0_gives (hw_gE G) hTL r1 r4 (s5 t1 4) (0 : Int32) (hw_fl t0 1) s5) W_X0_gives SV_X0_gives cf_X0 T_6 mw_364 (by decide) rfl ⟨rfl, hw_l8 rfl⟩ dX2_growth_31 (fun r8 s9 => ?_)
    refine hw_iconst C dX2_growth_34 (v := 0) (by decide) ?_
    refine hw_sipush C dX2_growth_35 (v := 999) (by decide) ?_
    refine hw_callSNi C (M_X6_within (hw_gE G) hTL r8 (0 : Int32) (999 : Int32) s9) W_X6_within SS_X6_within C.2.2.2.2.2.2.2.1.2.1 (by decide) rfl ⟨rfl, hw_l8 rfl⟩ dX2_growth_38 (fun r10 s11 => ?_)
    exact hw_iret C dX2_growth_41
  · refine hw_aload_n C dX2_growth_10 rfl 2 rfl ?_
    refine hw_iload_n C dX2_growth_11 rfl 3 rfl ?_
    refine hw_callVi C (M_X5_air (hw_gE G) hTL t1 a2 s2) W_X5_air SV_X5_air cf_X5 T1 mw_376 (by decide) rfl ⟨rfl, hw_l8 rfl⟩ dX2_growth_12 (fun r12 s13 => ?_)
    exact hw_iret C dX2_growth_15
/-! HumWire$Scene bandOf(LHumWire$Wire;I)I, level 3 -/
def F_X2_bandOf  (t0 : Nat) (t1 : Nat) (a2 : Int32) (s0 : hw_St) : Option (Int32 × hw_St) := hw_gd (hw_gH t0 2) (hw_gd (hw_gH t1 5) (hw_bd (F_X2_lawOf t0 (0 : Int32) s0) (fun r1 s2 => if r1 = 999 then (hw_bd (F_X5_bandOutOf t1 (((s2 t1 4) / (20 : Int32)) + (4 : Int32)) s2) (fun r14 s15 => some (r14, s15))) else (hw_bd (F_X5_eddy t1 a2 s2) (fun r4 s5 => hw_gd (hw_gH r1 0) (hw_bd (F_X0_gives r1 r4 (s5 t1 2) (s5 t1 4) (hw_fl t0 1) s5) (fun r8 s9 => hw_bd (F_X6_within r8 (0 : Int32) (99 : Int32) s9) (fun r10 s11 => hw_bd (F_X5_bandOutOf t1 r10 s11) (fun r12 s13 => some (r12, s13))))))))))
set_option maxRecDepth 20000 in
theorem M_X2_bandOf (E : hw_E) (hE : hw_eT E = hw_TH) (t0 : Nat) (t1 : Nat) (a2 : Int32) (s0 : hw_St) : hw_M E yX2_bandOf cX2_bandOf 4 (some .int) 3 [hw_rv (hw_ea E) t0, hw_rv (hw_ea E) t1, .int a2] s0 hw_ri (F_X2_bandOf t0 t1 a2 s0) := by
  refine hw_entry (own := RX2) (TL := hw_TH) (by decide) rfl hE (hw_cR (hw_cR (hw_cI hw_cN))) (hw_l8 rfl) (fun G hG C => ?_)
  subst hG
  have hTL := hE
  show hw_K G 4 hw_ri _ 0 [(0, hw_rv (hw_ea (hw_gE G)) t0), (1, hw_rv (hw_ea (hw_gE G)) t1), (2, .int a2)] [] s0
  unfold F_X2_bandOf
  refine hw_gdK (fun h_T0 => ?_)
  have T0 := hw_gH_T h_T0
  refine hw_gdK (fun h_T1 => ?_)
  have T1 := hw_gH_T h_T1
  refine hw_aload_n C dX2_bandOf_0 rfl 0 rfl ?_
  refine hw_iconst C dX2_bandOf_1 (v := 0) (by decide) ?_
  refine hw_callVq C (M_X2_lawOf (hw_gE G) hTL t0 (0 : Int32) s0) W_X2_lawOf SV_X2_lawOf cf_X2 T0 mw_354 (by decide) rfl ⟨rfl, hw_l8 rfl⟩ dX2_bandOf_2 (fun r1 s2 => ?_)
  refine hw_astore_n C dX2_bandOf_5 rfl (by decide) rfl ?_
  refine hw_aload_n C dX2_bandOf_6 rfl 0 rfl ?_
  refine hw_ifnonnull C dX2_bandOf_7 (tgt := 24) (by decide) (fun c3 => ?_) (fun c3 => ?_)
  · refine hw_aload_n C dX2_bandOf_24 rfl 2 rfl ?_
    refine hw_aload_n C dX2_bandOf_25 rfl 0 rfl ?_
    refine hw_aload_n C dX2_bandOf_26 rfl 2 rfl ?_
    refine hw_iload_n C dX2_bandOf_27 rfl 3 rfl ?_
    refine hw_callVi C (M_X5_eddy (hw_gE G) hTL t1 a2 s2) W_X5_eddy SV_X5_eddy cf_X5 T1 mw_363 (by decide) rfl ⟨rfl, hw_l8 rfl⟩ dX2_bandOf_28 (fun r4 s5 => ?_)
    refine hw_aload_n C dX2_bandOf_31 rfl 2 rfl ?_
    refine hw_getI C cf_X5 lf_X2_96 T1 dX2_bandOf_32 ?_
    refine hw_aload_n C dX2_bandOf_35 rfl 2 rfl ?_
    refine hw_getI C cf_X5 lf_X2_86 T1 dX2_bandOf_36 ?_
    refine hw_aload_n C dX2_bandOf_39 rfl 1 rfl ?_
    refine hw_getR C cf_X2 lf_X2_45 T0 rfl dX2_bandOf_40 ?_
    refine hw_gdK (fun h7 => ?_)
    have T_6 := hw_gH_T h7
    refine hw_callVi C (M_X0_gives (hw_gE G) hTL r1 r4 (s5 t1 2) (s5 t1 4) (hw_fl t0 1) s5) W_X0_gives SV_X0_gives cf_X0 T_6 mw_364 (by decide) rfl ⟨rfl, hw_l8 rfl⟩ dX2_bandOf_43 (fun r8 s9 => ?_)
    refine hw_iconst C dX2_bandOf_46 (v := 0) (by decide) ?_
    refine hw_bipush C dX2_bandOf_47 (v := 99) (by decide) ?_
    refine hw_callSNi C (M_X6_within (hw_gE G) hTL r8 (0 : Int32) (99 : Int32) s9) W_X6_within SS_X6_within C.2.2.2.2.2.2.2.1.2.1 (by decide) rfl ⟨rfl, hw_l8 rfl⟩ dX2_bandOf_49 (fun r10 s11 => ?_)
    refine hw_callVi C (M_X5_bandOutOf (hw_gE G) hTL t1 r10 s11) W_X5_bandOutOf SV_X5_bandOutOf cf_X5 T1 mw_358 (by decide) rfl ⟨rfl, hw_l8 rfl⟩ dX2_bandOf_52 (fun r12 s13 => ?_)
    exact hw_iret C dX2_bandOf_55
  · refine hw_aload_n C dX2_bandOf_10 rfl 2 rfl ?_
    refine hw_aload_n C dX2_bandOf_11 rfl 2 rfl ?_
    refine hw_getI C cf_X5 lf_X2_86 T1 dX2_bandOf_12 ?_
    refine hw_bipush C dX2_bandOf_15 (v := 20) (by decide) ?_
    refine hw_idivC C dX2_bandOf_17 (by decide) ?_
    refine hw_iconst C dX2_bandOf_18 (v := 4) (by decide) ?_
    refine hw_iadd C dX2_bandOf_19 ?_
    refine hw_callVi C (M_X5_bandOutOf (hw_gE G) hTL t1 (((s2 t1 4) / (20 : Int32)) + (4 : Int32)) s2) W_X5_bandOutOf SV_X5_bandOutOf cf_X5 T1 mw_358 (by decide) rfl ⟨rfl, hw_l8 rfl⟩ dX2_bandOf_20 (fun r14 s15 => ?_)
    exact hw_iret C dX2_bandOf_23
/-! HumWire$Scene holds(LHumWire$Wire;I)Z, level 4 -/
def B_X2_holds_26  (k0 : Int32) (k1 : Int32) (s0 : hw_St) : Option (Int32 × hw_St) := if k0 < k1 then (some ((0 : Int32), s0)) else (some ((1 : Int32), s0))
def F_X2_holds  (t0 : Nat) (t1 : Nat) (a2 : Int32) (s0 : hw_St) : Option (Int32 × hw_St) := hw_gd (hw_gH t0 2) (hw_gd (hw_gH t1 5) (hw_bd (F_X2_bandOf t0 t1 a2 s0) (fun r1 s2 => hw_bd (F_X5_off t1 a2 s2) (fun r3 s4 => if (s4 t1 5) = 0 then (B_X2_holds_26 r1 r3 s4) else (B_X2_holds_26 ((2 : Int32) * r1) r3 s4)))))
set_option maxRecDepth 20000 in
theorem KB_X2_holds_26 {G : hw_G} (C : hw_Ok G cX2_holds RX2 4 4 (some .boolean) hw_TH) (hTL : hw_eT (hw_gE G) = hw_TH) (k0 : Int32) (k1 : Int32) (s0 : hw_St) : hw_K G 4 hw_ri (B_X2_holds_26 k0 k1 s0) 26 [] [.int k0, .int k1] s0 := by
  unfold B_X2_holds_26
  refine hw_icmp_gt C dX2_holds_26 (tgt := 33) (by decide) (fun c6 => ?_) (fun c6 => ?_)
  · refine hw_iconst C dX2_holds_33 (v := 0) (by decide) ?_
    exact hw_zret1 C (by decide) dX2_holds_34
  · refine hw_iconst C dX2_holds_29 (v := 1) (by decide) ?_
    refine hw_goto C dX2_holds_30 (tgt := 34) (by decide) ?_
    exact hw_zret1 C (by decide) dX2_holds_34
set_option maxRecDepth 20000 in
theorem M_X2_holds (E : hw_E) (hE : hw_eT E = hw_TH) (t0 : Nat) (t1 : Nat) (a2 : Int32) (s0 : hw_St) : hw_M E yX2_holds cX2_holds 4 (some .boolean) 4 [hw_rv (hw_ea E) t0, hw_rv (hw_ea E) t1, .int a2] s0 hw_ri (F_X2_holds t0 t1 a2 s0) := by
  refine hw_entry (own := RX2) (TL := hw_TH) (by decide) rfl hE (hw_cR (hw_cR (hw_cI hw_cN))) (hw_l8 rfl) (fun G hG C => ?_)
  subst hG
  have hTL := hE
  show hw_K G 4 hw_ri _ 0 [(0, hw_rv (hw_ea (hw_gE G)) t0), (1, hw_rv (hw_ea (hw_gE G)) t1), (2, .int a2)] [] s0
  unfold F_X2_holds
  refine hw_gdK (fun h_T0 => ?_)
  have T0 := hw_gH_T h_T0
  refine hw_gdK (fun h_T1 => ?_)
  have T1 := hw_gH_T h_T1
  refine hw_aload_n C dX2_holds_0 rfl 0 rfl ?_
  refine hw_aload_n C dX2_holds_1 rfl 1 rfl ?_
  refine hw_iload_n C dX2_holds_2 rfl 2 rfl ?_
  refine hw_callVi C (M_X2_bandOf (hw_gE G) hTL t0 t1 a2 s0) W_X2_bandOf SV_X2_bandOf cf_X2 T0 mw_382 (by decide) rfl ⟨rfl, hw_l8 rfl⟩ dX2_holds_3 (fun r1 s2 => ?_)
  refine hw_istore_n C dX2_holds_6 rfl (by decide) rfl ?_
  refine hw_aload_n C dX2_holds_7 rfl 2 rfl ?_
  refine hw_iload_n C dX2_holds_8 rfl 3 rfl ?_
  refine hw_callVi C (M_X5_off (hw_gE G) hTL t1 a2 s2) W_X5_off SV_X5_off cf_X5 T1 mw_383 (by decide) rfl ⟨rfl, hw_l8 rfl⟩ dX2_holds_9 (fun r3 s4 => ?_)
  refine hw_aload_n C dX2_holds_12 rfl 2 rfl ?_
  refine hw_getI C cf_X5 lf_X2_69 T1 dX2_holds_13 ?_
  refine hw_if_eq C dX2_holds_16 (tgt := 25) (by decide) (fun c5 => ?_) (fun c5 => ?_)
  · refine hw_iload_n C dX2_holds_25 rfl 0 rfl ?_
    exact hw_lv [] rfl (KB_X2_holds_26 C hTL r1 r3 s4)
  · refine hw_iconst C dX2_holds_19 (v := 2) (by decide) ?_
    refine hw_iload_n C dX2_holds_20 rfl 0 rfl ?_
    refine hw_imul C dX2_holds_21 ?_
    refine hw_goto C dX2_holds_22 (tgt := 26) (by decide) ?_
    exact hw_lv [] rfl (KB_X2_holds_26 C hTL ((2 : Int32) * r1) r3 s4)
/-! HumWire$Scene tiring(LHumWire$Wire;)I, level 3 -/
def B_X2_tiring_45  (t0 : Nat) (k0 : Int32) (k1 : Int32) (k2 : Int32) (k3 : Nat) (s0 : hw_St) : Option (Int32 × hw_St) := hw_gd (hw_gH k3 0) (hw_bd (F_X0_gives k3 k2 k1 k0 (hw_fl t0 1) s0) (fun r7 s8 => hw_bd (F_X6_within r7 (0 : Int32) (999 : Int32) s8) (fun r9 s10 => some (r9, s10))))
def F_X2_tiring  (t0 : Nat) (t1 : Nat) (s0 : hw_St) : Option (Int32 × hw_St) := hw_gd (hw_gH t0 2) (hw_gd (hw_gH t1 5) (hw_bd (F_X2_lawOf t0 (2 : Int32) s0) (fun r1 s2 => if r1 = 999 then (some ((hw_max (0 : Int32) ((s2 t1 4) - (s2 t0 8))), s2)) else (if (s2 t1 5) = 0 then (B_X2_tiring_45 t0 (0 : Int32) (s2 t0 8) (s2 t1 4) r1 s2) else (B_X2_tiring_45 t0 (1 : Int32) (s2 t0 8) (s2 t1 4) r1 s2)))))
set_option maxRecDepth 20000 in
theorem KB_X2_tiring_45 {G : hw_G} (C : hw_Ok G cX2_tiring RX2 3 3 (some .int) hw_TH) (hTL : hw_eT (hw_gE G) = hw_TH) (t0 : Nat) (k0 : Int32) (k1 : Int32) (k2 : Int32) (k3 : Nat) (s0 : hw_St) (T0 : hw_T hw_TH t0 2) : hw_K G 3 hw_ri (B_X2_tiring_45 t0 k0 k1 k2 k3 s0) 45 [(0, hw_rv (hw_ea (hw_gE G)) t0)] [.int k0, .int k1, .int k2, hw_rv (hw_ea (hw_gE G)) k3] s0 := by
  unfold B_X2_tiring_45
  refine hw_aload_n C dX2_tiring_45 rfl 0 rfl ?_
  refine hw_getR C cf_X2 lf_X2_45 T0 rfl dX2_tiring_46 ?_
  refine hw_gdK (fun h6 => ?_)
  have T_5 := hw_gH_T h6
  refine hw_callVi C (M_X0_gives (hw_gE G) hTL k3 k2 k1 k0 (hw_fl t0 1) s0) W_X0_gives SV_X0_gives cf_X0 T_5 mw_364 (by decide) rfl ⟨rfl, hw_l8 rfl⟩ dX2_tiring_49 (fun r7 s8 => ?_)
  refine hw_iconst C dX2_tiring_52 (v := 0) (by decide) ?_
  refine hw_sipush C dX2_tiring_53 (v := 999) (by decide) ?_
  refine hw_callSNi C (M_X6_within (hw_gE G) hTL r7 (0 : Int32) (999 : Int32) s8) W_X6_within SS_X6_within C.2.2.2.2.2.2.2.1.2.1 (by decide) rfl ⟨rfl, hw_l8 rfl⟩ dX2_tiring_56 (fun r9 s10 => ?_)
  exact hw_iret C dX2_tiring_59
set_option maxRecDepth 20000 in
theorem M_X2_tiring (E : hw_E) (hE : hw_eT E = hw_TH) (t0 : Nat) (t1 : Nat) (s0 : hw_St) : hw_M E yX2_tiring cX2_tiring 3 (some .int) 3 [hw_rv (hw_ea E) t0, hw_rv (hw_ea E) t1] s0 hw_ri (F_X2_tiring t0 t1 s0) := by
  refine hw_entry (own := RX2) (TL := hw_TH) (by decide) rfl hE (hw_cR (hw_cR hw_cN)) (hw_l8 rfl) (fun G hG C => ?_)
  subst hG
  have hTL := hE
  show hw_K G 3 hw_ri _ 0 [(0, hw_rv (hw_ea (hw_gE G)) t0), (1, hw_rv (hw_ea (hw_gE G)) t1)] [] s0
  unfold F_X2_tiring
  refine hw_gdK (fun h_T0 => ?_)
  have T0 := hw_gH_T h_T0
  refine hw_gdK (fun h_T1 => ?_)
  have T1 := hw_gH_T h_T1
  refine hw_aload_n C dX2_tiring_0 rfl 0 rfl ?_
  refine hw_iconst C dX2_tiring_1 (v := 2) (by decide) ?_
  refine hw_callVq C (M_X2_lawOf (hw_gE G) hTL t0 (2 : Int32) s0) W_X2_lawOf SV_X2_lawOf cf_X2 T0 mw_354 (by decide) rfl ⟨rfl, hw_l8 rfl⟩ dX2_tiring_2 (fun r1 s2 => ?_)
  refine hw_astore_n C dX2_tiring_5 rfl (by decide) rfl ?_
  refine hw_aload_n C dX2_tiring_6 rfl 0 rfl ?_
  refine hw_ifnonnull C dX2_tiring_7 (tgt := 24) (by decide) (fun c3 => ?_) (fun c3 => ?_)
  · refine hw_aload_n C dX2_tiring_24 rfl 0 rfl ?_
    refine hw_aload_n C dX2_tiring_25 rfl 2 rfl ?_
    refine hw_getI C cf_X5 lf_X2_86 T1 dX2_tiring_26 ?_
    refine hw_aload_n C dX2_tiring_29 rfl 1 rfl ?_
    refine hw_getI C cf_X2 lf_X2_35 T0 dX2_tiring_30 ?_
    refine hw_aload_n C dX2_tiring_33 rfl 2 rfl ?_
    refine hw_getI C cf_X5 lf_X2_69 T1 dX2_tiring_34 ?_
    refine hw_if_eq C dX2_tiring_37 (tgt := 44) (by decide) (fun c4 => ?_) (fun c4 => ?_)
    · refine hw_iconst C dX2_tiring_44 (v := 0) (by decide) ?_
      exact hw_lv [1] rfl (KB_X2_tiring_45 C hTL t0 (0 : Int32) (s2 t0 8) (s2 t1 4) r1 s2 T0)
    · refine hw_iconst C dX2_tiring_40 (v := 1) (by decide) ?_
      refine hw_goto C dX2_tiring_41 (tgt := 45) (by decide) ?_
      exact hw_lv [1] rfl (KB_X2_tiring_45 C hTL t0 (1 : Int32) (s2 t0 8) (s2 t1 4) r1 s2 T0)
  · refine hw_iconst C dX2_tiring_10 (v := 0) (by decide) ?_
    refine hw_aload_n C dX2_tiring_11 rfl 2 rfl ?_
    refine hw_getI C cf_X5 lf_X2_86 T1 dX2_tiring_12 ?_
    refine hw_aload_n C dX2_tiring_15 rfl 1 rfl ?_
    refine hw_getI C cf_X2 lf_X2_35 T0 dX2_tiring_16 ?_
    refine hw_isub C dX2_tiring_19 ?_
    refine hw_mmax C mw_439 mathw_max (hw_l8 rfl) dX2_tiring_20 ?_
    exact hw_iret C dX2_tiring_23
/-! HumWire$Scene blowOn(LHumWire$Wire;I)I, level 5 -/
def B_X2_blowOn_35  (t0 : Nat) (t1 : Nat) (l2 : Int32) (k0 : Int32) (s0 : hw_St) : Option (Int32 × hw_St) := hw_bd (F_X5_loses t1 s0) (fun r7 s8 => hw_bd (F_X6_within (k0 - ((k0 * r7) / (20 : Int32))) (0 : Int32) (9999 : Int32) s8) (fun r9 s10 => hw_nm (hw_up s10 t1 4 r9) (fun s11 => hw_bd (F_X2_tiring t0 t1 s11) (fun r12 s13 => hw_nm (hw_up s13 t1 6 ((s11 t1 6) + r12)) (fun s14 => if (s14 t1 5) = 0 then (hw_bd (F_X5_eddy t1 l2 s14) (fun r16 s17 => some (r16, s17))) else (some ((s14 t1 2), s14)))))))
def F_X2_blowOn  (t0 : Nat) (t1 : Nat) (a2 : Int32) (s0 : hw_St) : Option (Int32 × hw_St) := hw_gd (hw_gH t0 2) (hw_gd (hw_gH t1 5) (hw_bd (F_X2_holds t0 t1 a2 s0) (fun r1 s2 => hw_gd (hw_isb r1) (hw_nm (hw_up s2 t1 5 r1) (fun s3 => if (s3 t1 5) = 0 then (B_X2_blowOn_35 t0 t1 a2 (s3 t1 4) s3) else (hw_bd (F_X2_growth t0 t1 a2 s3) (fun r5 s6 => B_X2_blowOn_35 t0 t1 a2 ((s3 t1 4) + r5) s6)))))))
set_option maxRecDepth 20000 in
theorem KB_X2_blowOn_35 {G : hw_G} (C : hw_Ok G cX2_blowOn RX2 4 5 (some .int) hw_TH) (hTL : hw_eT (hw_gE G) = hw_TH) (t0 : Nat) (t1 : Nat) (l2 : Int32) (k0 : Int32) (s0 : hw_St) (T0 : hw_T hw_TH t0 2) (T1 : hw_T hw_TH t1 5) : hw_K G 4 hw_ri (B_X2_blowOn_35 t0 t1 l2 k0 s0) 35 [(0, hw_rv (hw_ea (hw_gE G)) t0), (1, hw_rv (hw_ea (hw_gE G)) t1), (2, .int l2)] [.int k0] s0 := by
  unfold B_X2_blowOn_35
  refine hw_istore_n C dX2_blowOn_35 rfl (by decide) rfl ?_
  refine hw_aload_n C dX2_blowOn_36 rfl 2 rfl ?_
  refine hw_iload_n C dX2_blowOn_37 rfl 0 rfl ?_
  refine hw_iload_n C dX2_blowOn_38 rfl 0 rfl ?_
  refine hw_aload_n C dX2_blowOn_39 rfl 2 rfl ?_
  refine hw_callVi C (M_X5_loses (hw_gE G) hTL t1 s0) W_X5_loses SV_X5_loses cf_X5 T1 mw_434 (by decide) rfl ⟨rfl, hw_l8 rfl⟩ dX2_blowOn_40 (fun r7 s8 => ?_)
  refine hw_imul C dX2_blowOn_43 ?_
  refine hw_bipush C dX2_blowOn_44 (v := 20) (by decide) ?_
  refine hw_idivC C dX2_blowOn_46 (by decide) ?_
  refine hw_isub C dX2_blowOn_47 ?_
  refine hw_iconst C dX2_blowOn_48 (v := 0) (by decide) ?_
  refine hw_sipush C dX2_blowOn_49 (v := 9999) (by decide) ?_
  refine hw_callSNi C (M_X6_within (hw_gE G) hTL (k0 - ((k0 * r7) / (20 : Int32))) (0 : Int32) (9999 : Int32) s8) W_X6_within SS_X6_within C.2.2.2.2.2.2.2.1.2.1 (by decide) rfl ⟨rfl, hw_l8 rfl⟩ dX2_blowOn_52 (fun r9 s10 => ?_)
  refine hw_putI C cf_X5 lf_X2_86 T1 rfl rfl dX2_blowOn_55 (fun s11 => ?_)
  refine hw_aload_n C dX2_blowOn_58 rfl 2 rfl ?_
  refine hw_dup C dX2_blowOn_59 ?_
  refine hw_getI C cf_X5 lf_X2_131 T1 dX2_blowOn_60 ?_
  refine hw_aload_n C dX2_blowOn_63 rfl 1 rfl ?_
  refine hw_aload_n C dX2_blowOn_64 rfl 2 rfl ?_
  refine hw_callVi C (M_X2_tiring (hw_gE G) hTL t0 t1 s11) W_X2_tiring SV_X2_tiring cf_X2 T0 mw_435 (by decide) rfl ⟨rfl, hw_l8 rfl⟩ dX2_blowOn_65 (fun r12 s13 => ?_)
  refine hw_iadd C dX2_blowOn_68 ?_
  refine hw_putI C cf_X5 lf_X2_131 T1 rfl rfl dX2_blowOn_69 (fun s14 => ?_)
  refine hw_aload_n C dX2_blowOn_72 rfl 2 rfl ?_
  refine hw_getI C cf_X5 lf_X2_69 T1 dX2_blowOn_73 ?_
  refine hw_if_eq C dX2_blowOn_76 (tgt := 86) (by decide) (fun c15 => ?_) (fun c15 => ?_)
  · refine hw_aload_n C dX2_blowOn_86 rfl 2 rfl ?_
    refine hw_iload_n C dX2_blowOn_87 rfl 3 rfl ?_
    refine hw_callVi C (M_X5_eddy (hw_gE G) hTL t1 l2 s14) W_X5_eddy SV_X5_eddy cf_X5 T1 mw_363 (by decide) rfl ⟨rfl, hw_l8 rfl⟩ dX2_blowOn_88 (fun r16 s17 => ?_)
    exact hw_iret C dX2_blowOn_91
  · refine hw_aload_n C dX2_blowOn_79 rfl 2 rfl ?_
    refine hw_getI C cf_X5 lf_X2_96 T1 dX2_blowOn_80 ?_
    refine hw_goto C dX2_blowOn_83 (tgt := 91) (by decide) ?_
    exact hw_iret C dX2_blowOn_91
set_option maxRecDepth 20000 in
theorem M_X2_blowOn (E : hw_E) (hE : hw_eT E = hw_TH) (t0 : Nat) (t1 : Nat) (a2 : Int32) (s0 : hw_St) : hw_M E yX2_blowOn cX2_blowOn 4 (some .int) 5 [hw_rv (hw_ea E) t0, hw_rv (hw_ea E) t1, .int a2] s0 hw_ri (F_X2_blowOn t0 t1 a2 s0) := by
  refine hw_entry (own := RX2) (TL := hw_TH) (by decide) rfl hE (hw_cR (hw_cR (hw_cI hw_cN))) (hw_l8 rfl) (fun G hG C => ?_)
  subst hG
  have hTL := hE
  show hw_K G 4 hw_ri _ 0 [(0, hw_rv (hw_ea (hw_gE G)) t0), (1, hw_rv (hw_ea (hw_gE G)) t1), (2, .int a2)] [] s0
  unfold F_X2_blowOn
  refine hw_gdK (fun h_T0 => ?_)
  have T0 := hw_gH_T h_T0
  refine hw_gdK (fun h_T1 => ?_)
  have T1 := hw_gH_T h_T1
  refine hw_aload_n C dX2_blowOn_0 rfl 1 rfl ?_
  refine hw_aload_n C dX2_blowOn_1 rfl 0 rfl ?_
  refine hw_aload_n C dX2_blowOn_2 rfl 1 rfl ?_
  refine hw_iload_n C dX2_blowOn_3 rfl 2 rfl ?_
  refine hw_callVi C (M_X2_holds (hw_gE G) hTL t0 t1 a2 s0) W_X2_holds SV_X2_holds cf_X2 T0 mw_432 (by decide) rfl ⟨rfl, hw_l8 rfl⟩ dX2_blowOn_4 (fun r1 s2 => ?_)
  refine hw_putZ C cf_X5 lf_X2_69 T1 rfl rfl dX2_blowOn_7 (fun s3 => ?_)
  refine hw_aload_n C dX2_blowOn_10 rfl 1 rfl ?_
  refine hw_getI C cf_X5 lf_X2_69 T1 dX2_blowOn_11 ?_
  refine hw_if_eq C dX2_blowOn_14 (tgt := 31) (by decide) (fun c4 => ?_) (fun c4 => ?_)
  · refine hw_aload_n C dX2_blowOn_31 rfl 1 rfl ?_
    refine hw_getI C cf_X5 lf_X2_86 T1 dX2_blowOn_32 ?_
    exact hw_lv [0, 1, 2] rfl (KB_X2_blowOn_35 C hTL t0 t1 a2 (s3 t1 4) s3 T0 T1)
  · refine hw_aload_n C dX2_blowOn_17 rfl 1 rfl ?_
    refine hw_getI C cf_X5 lf_X2_86 T1 dX2_blowOn_18 ?_
    refine hw_aload_n C dX2_blowOn_21 rfl 0 rfl ?_
    refine hw_aload_n C dX2_blowOn_22 rfl 1 rfl ?_
    refine hw_iload_n C dX2_blowOn_23 rfl 2 rfl ?_
    refine hw_callVi C (M_X2_growth (hw_gE G) hTL t0 t1 a2 s3) W_X2_growth SV_X2_growth cf_X2 T0 mw_433 (by decide) rfl ⟨rfl, hw_l8 rfl⟩ dX2_blowOn_24 (fun r5 s6 => ?_)
    refine hw_iadd C dX2_blowOn_27 ?_
    refine hw_goto C dX2_blowOn_28 (tgt := 35) (by decide) ?_
    exact hw_lv [0, 1, 2] rfl (KB_X2_blowOn_35 C hTL t0 t1 a2 ((s3 t1 4) + r5) s6 T0 T1)
/-! HumWire$Scene passHour()V, level 6 -/
def S_X2_passHour_2  (w2 : Nat → Int32 → hw_St → Option (Unit × hw_St)) (t0 : Nat) (l1 : Int32) (s0 : hw_St) : Option (Unit × hw_St) := if (s0 t0 6) ≤ l1 then (hw_nm (hw_up s0 t0 7 (hw_rem ((s0 t0 7) + (1 : Int32)) (24 : Int32))) (fun s2 => some ((), s2))) else (hw_gd (hw_gH (hw_fl t0 3) 21) (hw_gd (hw_inb l1 (hw_ln (hw_fl t0 3))) (hw_gd (hw_gH (hw_el (hw_fl t0 3) l1.toNatClampNeg) 5) (hw_gd (hw_gH (hw_fl t0 2) 10) (hw_gd (hw_inb (s0 t0 7) (hw_ln (hw_fl t0 2))) (hw_bd (F_X2_blowOn t0 (hw_el (hw_fl t0 3) l1.toNatClampNeg) (s0 (hw_fl t0 2) (s0 t0 7).toNatClampNeg) s0) (fun r9 s10 => w2 t0 (l1 + 1) s10)))))))
def L_X2_passHour_2  : Nat → Nat → Int32 → hw_St → Option (Unit × hw_St)
  | 0 => fun _ _ _ => none
  | n + 1 => S_X2_passHour_2  (L_X2_passHour_2  n)
def F_X2_passHour  (t0 : Nat) (s0 : hw_St) : Option (Unit × hw_St) := hw_gd (hw_gH t0 2) (L_X2_passHour_2 130 t0 (0 : Int32) s0)
set_option maxRecDepth 20000 in
theorem KS_X2_passHour_2 {G : hw_G} (C : hw_Ok G cX2_passHour RX2 2 6 none hw_TH) (hTL : hw_eT (hw_gE G) = hw_TH) (w2 : Nat → Int32 → hw_St → Option (Unit × hw_St)) (H_w2 : ∀ (t0 : Nat) (l1 : Int32) (s0 : hw_St) (T0 : hw_T hw_TH t0 2), hw_K G 2 hw_r0 (w2 t0 l1 s0) 2 [(0, hw_rv (hw_ea (hw_gE G)) t0), (1, .int l1)] [] s0) (t0 : Nat) (l1 : Int32) (s0 : hw_St) (T0 : hw_T hw_TH t0 2) : hw_K G 2 hw_r0 (S_X2_passHour_2 w2 t0 l1 s0) 2 [(0, hw_rv (hw_ea (hw_gE G)) t0), (1, .int l1)] [] s0 := by
  unfold S_X2_passHour_2
  refine hw_iload_n C dX2_passHour_2 rfl 1 rfl ?_
  refine hw_aload_n C dX2_passHour_3 rfl 0 rfl ?_
  refine hw_getI C cf_X2 lf_X2_29 T0 dX2_passHour_4 ?_
  refine hw_icmp_ge C dX2_passHour_7 (tgt := 36) (by decide) (fun c1 => ?_) (fun c1 => ?_)
  · refine hw_aload_n C dX2_passHour_36 rfl 0 rfl ?_
    refine hw_aload_n C dX2_passHour_37 rfl 0 rfl ?_
    refine hw_getI C cf_X2 lf_X2_32 T0 dX2_passHour_38 ?_
    refine hw_iconst C dX2_passHour_41 (v := 1) (by decide) ?_
    refine hw_iadd C dX2_passHour_42 ?_
    refine hw_bipush C dX2_passHour_43 (v := 24) (by decide) ?_
    refine hw_iremC C dX2_passHour_45 (by decide) ?_
    refine hw_putI C cf_X2 lf_X2_32 T0 rfl rfl dX2_passHour_46 (fun s2 => ?_)
    exact hw_vret C dX2_passHour_49
  · refine hw_aload_n C dX2_passHour_10 rfl 0 rfl ?_
    refine hw_aload_n C dX2_passHour_11 rfl 0 rfl ?_
    refine hw_getR C cf_X2 lf_X2_17 T0 rfl dX2_passHour_12 ?_
    refine hw_iload_n C dX2_passHour_15 rfl 1 rfl ?_
    refine hw_gdK (fun h4 => ?_)
    have T_3 := hw_gH_T h4
    refine hw_aaldH (t0 := 5) C T_3 (by decide) (fun _ => rfl) (by decide) rfl dX2_passHour_16 (fun T_5 => ?_)
    refine hw_aload_n C dX2_passHour_17 rfl 0 rfl ?_
    refine hw_getR C cf_X2 lf_X2_9 T0 rfl dX2_passHour_18 ?_
    refine hw_aload_n C dX2_passHour_21 rfl 0 rfl ?_
    refine hw_getI C cf_X2 lf_X2_32 T0 dX2_passHour_22 ?_
    refine hw_gdK (fun h7 => ?_)
    have T_6 := hw_gH_T h7
    refine hw_iald C T_6 rfl dX2_passHour_25 (fun h8 => ?_)
    refine hw_callVi C (M_X2_blowOn (hw_gE G) hTL t0 (hw_el (hw_fl t0 3) l1.toNatClampNeg) (s0 (hw_fl t0 2) (s0 t0 7).toNatClampNeg) s0) W_X2_blowOn SV_X2_blowOn cf_X2 T0 mw_457 (by decide) rfl ⟨rfl, hw_l8 rfl⟩ dX2_passHour_26 (fun r9 s10 => ?_)
    refine hw_pop C dX2_passHour_29 ?_
    refine hw_iinc C dX2_passHour_30 1 rfl (v := 1) (by decide) (by decide) rfl ?_
    refine hw_goto C dX2_passHour_33 (tgt := 2) (by decide) ?_
    exact hw_lv [1, 0] rfl (H_w2 t0 (l1 + 1) s10 T0)
theorem KL_X2_passHour_2 {G : hw_G} (C : hw_Ok G cX2_passHour RX2 2 6 none hw_TH) (hTL : hw_eT (hw_gE G) = hw_TH) : ∀ (n_ : Nat) (t0 : Nat) (l1 : Int32) (s0 : hw_St) (T0 : hw_T hw_TH t0 2), hw_K G 2 hw_r0 (L_X2_passHour_2 n_ t0 l1 s0) 2 [(0, hw_rv (hw_ea (hw_gE G)) t0), (1, .int l1)] [] s0 := by
  intro n_
  induction n_ with
  | zero => intros; exact hw_nil
  | succ n_ ih => intro t0 l1 s0 T0; exact KS_X2_passHour_2 C hTL (L_X2_passHour_2 n_) ih t0 l1 s0 T0
set_option maxRecDepth 20000 in
theorem M_X2_passHour (E : hw_E) (hE : hw_eT E = hw_TH) (t0 : Nat) (s0 : hw_St) : hw_M E yX2_passHour cX2_passHour 2 none 6 [hw_rv (hw_ea E) t0] s0 hw_r0 (F_X2_passHour t0 s0) := by
  refine hw_entry (own := RX2) (TL := hw_TH) (by decide) rfl hE (hw_cR hw_cN) (hw_l8 rfl) (fun G hG C => ?_)
  subst hG
  have hTL := hE
  show hw_K G 2 hw_r0 _ 0 [(0, hw_rv (hw_ea (hw_gE G)) t0)] [] s0
  unfold F_X2_passHour
  refine hw_gdK (fun h_T0 => ?_)
  have T0 := hw_gH_T h_T0
  refine hw_iconst C dX2_passHour_0 (v := 0) (by decide) ?_
  refine hw_istore_n C dX2_passHour_1 rfl (by decide) rfl ?_
  exact hw_lv [1, 0] rfl (KL_X2_passHour_2 C hTL 130 t0 (0 : Int32) s0 T0)
