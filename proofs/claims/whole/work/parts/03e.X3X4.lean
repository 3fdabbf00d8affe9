/-! java/util/Arrays fill([II)V, level 1 -/
def S_J7_fill_53178_5  (w5 : Nat → Int32 → Int32 → Int32 → hw_St → Option (Unit × hw_St)) (t0 : Nat) (l1 : Int32) (l2 : Int32) (l3 : Int32) (s0 : hw_St) : Option (Unit × hw_St) := if l3 ≤ l2 then (some ((), s0)) else (hw_gd (hw_inb l2 (hw_ln t0)) (hw_nm (hw_up s0 t0 l2.toNatClampNeg l1) (fun s3 => w5 t0 l1 (l2 + 1) l3 s3)))
def L_J7_fill_53178_5  : Nat → Nat → Int32 → Int32 → Int32 → hw_St → Option (Unit × hw_St)
  | 0 => fun _ _ _ _ _ => none
  | n + 1 => S_J7_fill_53178_5  (L_J7_fill_53178_5  n)
def F_J7_fill_53178  (t0 : Nat) (a1 : Int32) (s0 : hw_St) : Option (Unit × hw_St) := hw_gd (hw_gH t0 10) (hw_nm (nI (hw_ln t0)) (fun x1 => L_J7_fill_53178_5 130 t0 a1 (0 : Int32) x1 s0))
set_option maxRecDepth 20000 in
theorem KS_J7_fill_53178_5 {G : hw_G} (C : hw_Ok G cJ7_fill_53178 RJ7 4 1 none hw_TH) (hTL : hw_eT (hw_gE G) = hw_TH) (w5 : Nat → Int32 → Int32 → Int32 → hw_St → Option (Unit × hw_St)) (H_w5 : ∀ (t0 : Nat) (l1 : Int32) (l2 : Int32) (l3 : Int32) (s0 : hw_St) (T0 : hw_T hw_TH t0 10), hw_K G 4 hw_r0 (w5 t0 l1 l2 l3 s0) 5 [(0, hw_rv (hw_ea (hw_gE G)) t0), (1, .int l1), (2, .int l2), (3, .int l3)] [] s0) (t0 : Nat) (l1 : Int32) (l2 : Int32) (l3 : Int32) (s0 : hw_St) (T0 : hw_T hw_TH t0 10) : hw_K G 4 hw_r0 (S_J7_fill_53178_5 w5 t0 l1 l2 l3 s0) 5 [(0, hw_rv (hw_ea (hw_gE G)) t0), (1, .int l1), (2, .int l2), (3, .int l3)] [] s0 := by
  unfold S_J7_fill_53178_5
  refine hw_iload_n C dJ7_fill_53178_5 rfl 2 rfl ?_
  refine hw_iload_n C dJ7_fill_53178_6 rfl 3 rfl ?_
  refine hw_icmp_ge C dJ7_fill_53178_7 (tgt := 20) (by decide) (fun c2 => ?_) (fun c2 => ?_)
  · exact hw_vret C dJ7_fill_53178_20
  · refine hw_aload_n C dJ7_fill_53178_10 rfl 0 rfl ?_
    refine hw_iload_n C dJ7_fill_53178_11 rfl 2 rfl ?_
    refine hw_iload_n C dJ7_fill_53178_12 rfl 1 rfl ?_
    refine hw_iast C T0 rfl dJ7_fill_53178_13 (fun h4 s3 => ?_)
    refine hw_iinc C dJ7_fill_53178_14 2 rfl (v := 1) (by decide) (by decide) rfl ?_
    refine hw_goto C dJ7_fill_53178_17 (tgt := 5) (by decide) ?_
    exact hw_lv [1, 2, 0, 3] rfl (H_w5 t0 l1 (l2 + 1) l3 s3 T0)
theorem KL_J7_fill_53178_5 {G : hw_G} (C : hw_Ok G cJ7_fill_53178 RJ7 4 1 none hw_TH) (hTL : hw_eT (hw_gE G) = hw_TH) : ∀ (n_ : Nat) (t0 : Nat) (l1 : Int32) (l2 : Int32) (l3 : Int32) (s0 : hw_St) (T0 : hw_T hw_TH t0 10), hw_K G 4 hw_r0 (L_J7_fill_53178_5 n_ t0 l1 l2 l3 s0) 5 [(0, hw_rv (hw_ea (hw_gE G)) t0), (1, .int l1), (2, .int l2), (3, .int l3)] [] s0 := by
  intro n_
  induction n_ with
  | zero => intros; exact hw_nil
  | succ n_ ih => intro t0 l1 l2 l3 s0 T0; exact KS_J7_fill_53178_5 C hTL (L_J7_fill_53178_5 n_) ih t0 l1 l2 l3 s0 T0
set_option maxRecDepth 20000 in
theorem M_J7_fill_53178 (E : hw_E) (hE : hw_eT E = hw_TH) (t0 : Nat) (a1 : Int32) (s0 : hw_St) : hw_M E yJ7_fill_53178 cJ7_fill_53178 4 none 1 [hw_rv (hw_ea E) t0, .int a1] s0 hw_r0 (F_J7_fill_53178 t0 a1 s0) := by
  refine hw_entry (own := RJ7) (TL := hw_TH) (by decide) rfl hE (hw_cR (hw_cI hw_cN)) (hw_l8 rfl) (fun G hG C => ?_)
  subst hG
  have hTL := hE
  show hw_K G 4 hw_r0 _ 0 [(0, hw_rv (hw_ea (hw_gE G)) t0), (1, .int a1)] [] s0
  unfold F_J7_fill_53178
  refine hw_gdK (fun h_T0 => ?_)
  have T0 := hw_gH_T h_T0
  refine hw_iconst C dJ7_fill_53178_0 (v := 0) (by decide) ?_
  refine hw_istore_n C dJ7_fill_53178_1 rfl (by decide) rfl ?_
  refine hw_aload_n C dJ7_fill_53178_2 rfl 1 rfl ?_
  refine hw_alen 0 C T0 (by decide) (fun _ => rfl) rfl dJ7_fill_53178_3 ?_
  refine hw_istore_nN C dJ7_fill_53178_4 rfl (by decide) (fun _ => rfl) (fun x1 => ?_)
  exact hw_lv [2, 3, 1, 0] rfl (KL_J7_fill_53178_5 C hTL 130 t0 a1 (0 : Int32) x1 s0 T0)
/-! HumWire$Sheet begin(II)V, level 2 -/
def F_X3_begin  (t0 : Nat) (a1 : Int32) (a2 : Int32) (s0 : hw_St) : Option (Unit × hw_St) := hw_gd (hw_gH t0 3) (hw_nm (hw_up s0 t0 0 a1) (fun s1 => hw_nm (hw_up s1 t0 1 a2) (fun s2 => hw_bd (F_J7_fill_53178 (hw_fl t0 2) (0 : Int32) s2) (fun _ s4 => some ((), s4)))))
set_option maxRecDepth 20000 in
theorem M_X3_begin (E : hw_E) (hE : hw_eT E = hw_TH) (t0 : Nat) (a1 : Int32) (a2 : Int32) (s0 : hw_St) : hw_M E yX3_begin cX3_begin 3 none 2 [hw_rv (hw_ea E) t0, .int a1, .int a2] s0 hw_r0 (F_X3_begin t0 a1 a2 s0) := by
  refine hw_entry (own := RX3) (TL := hw_TH) (by decide) rfl hE (hw_cR (hw_cI (hw_cI hw_cN))) (hw_l8 rfl) (fun G hG C => ?_)
  subst hG
  have hTL := hE
  show hw_K G 3 hw_r0 _ 0 [(0, hw_rv (hw_ea (hw_gE G)) t0), (1, .int a1), (2, .int a2)] [] s0
  unfold F_X3_begin
  refine hw_gdK (fun h_T0 => ?_)
  have T0 := hw_gH_T h_T0
  refine hw_aload_n C dX3_begin_0 rfl 0 rfl ?_
  refine hw_iload_n C dX3_begin_1 rfl 1 rfl ?_
  refine hw_putI C cf_X3 lf_X3_9 T0 rfl rfl dX3_begin_2 (fun s1 => ?_)
  refine hw_aload_n C dX3_begin_5 rfl 0 rfl ?_
  refine hw_iload_n C dX3_begin_6 rfl 2 rfl ?_
  refine hw_putI C cf_X3 lf_X3_15 T0 rfl rfl dX3_begin_7 (fun s2 => ?_)
  refine hw_aload_n C dX3_begin_10 rfl 0 rfl ?_
  refine hw_getR C cf_X3 lf_X3_18 T0 rfl dX3_begin_11 ?_
  refine hw_iconst C dX3_begin_14 (v := 0) (by decide) ?_
  refine hw_callSv C (M_J7_fill_53178 (hw_gE G) hTL (hw_fl t0 2) (0 : Int32) s2) W_J7_fill_53178 SS_J7_fill_53178 mw_885 (by decide) rfl ⟨rfl, hw_l8 rfl⟩ dX3_begin_15 (fun r3 s4 => ?_)
  exact hw_vret C dX3_begin_18
/-! HumWire$Sheet become(LHumWire$Sheet;)V, level 1 -/
def F_X3_become  (t0 : Nat) (t1 : Nat) (s0 : hw_St) : Option (Unit × hw_St) := hw_gd (hw_gH t0 3) (hw_gd (hw_gH t1 3) (hw_nm (hw_up s0 t0 0 (s0 t1 0)) (fun s1 => hw_nm (hw_up s1 t0 1 (s1 t1 1)) (fun s2 => hw_gd (hw_gH (hw_fl t1 2) 10) (hw_gd (hw_gH (hw_fl t0 2) 10) (hw_gd (hw_cpo (0 : Int32) (0 : Int32) (24 : Int32) (hw_ln (hw_fl t1 2)) (hw_ln (hw_fl t0 2))) (hw_nm (hw_upA s2 (hw_fl t0 2) (va_cpy (s2 (hw_fl t1 2)) (s2 (hw_fl t0 2)) (0 : Int32).toNatClampNeg (0 : Int32).toNatClampNeg (24 : Int32).toNatClampNeg)) (fun s7 => some ((), s7)))))))))
set_option maxRecDepth 20000 in
theorem M_X3_become (E : hw_E) (hE : hw_eT E = hw_TH) (t0 : Nat) (t1 : Nat) (s0 : hw_St) : hw_M E yX3_become cX3_become 2 none 1 [hw_rv (hw_ea E) t0, hw_rv (hw_ea E) t1] s0 hw_r0 (F_X3_become t0 t1 s0) := by
  refine hw_entry (own := RX3) (TL := hw_TH) (by decide) rfl hE (hw_cR (hw_cR hw_cN)) (hw_l8 rfl) (fun G hG C => ?_)
  subst hG
  have hTL := hE
  show hw_K G 2 hw_r0 _ 0 [(0, hw_rv (hw_ea (hw_gE G)) t0), (1, hw_rv (hw_ea (hw_gE G)) t1)] [] s0
  unfold F_X3_become
  refine hw_gdK (fun h_T0 => ?_)
  have T0 := hw_gH_T h_T0
  refine hw_gdK (fun h_T1 => ?_)
  have T1 := hw_gH_T h_T1
  refine hw_aload_n C dX3_become_0 rfl 0 rfl ?_
  refine hw_aload_n C dX3_become_1 rfl 1 rfl ?_
  refine hw_getI C cf_X3 lf_X3_9 T1 dX3_become_2 ?_
  refine hw_putI C cf_X3 lf_X3_9 T0 rfl rfl dX3_become_5 (fun s1 => ?_)
  refine hw_aload_n C dX3_become_8 rfl 0 rfl ?_
  refine hw_aload_n C dX3_become_9 rfl 1 rfl ?_
  refine hw_getI C cf_X3 lf_X3_15 T1 dX3_become_10 ?_
  refine hw_putI C cf_X3 lf_X3_15 T0 rfl rfl dX3_become_13 (fun s2 => ?_)
  refine hw_aload_n C dX3_become_16 rfl 1 rfl ?_
  refine hw_getR C cf_X3 lf_X3_18 T1 rfl dX3_become_17 ?_
  refine hw_iconst C dX3_become_20 (v := 0) (by decide) ?_
  refine hw_aload_n C dX3_become_21 rfl 0 rfl ?_
  refine hw_getR C cf_X3 lf_X3_18 T0 rfl dX3_become_22 ?_
  refine hw_iconst C dX3_become_25 (v := 0) (by decide) ?_
  refine hw_bipush C dX3_become_26 (v := 24) (by decide) ?_
  refine hw_gdK (fun h4 => ?_)
  have T_3 := hw_gH_T h4
  refine hw_gdK (fun h6 => ?_)
  have T_5 := hw_gH_T h6
  refine hw_copy C T_3 T_5 rfl rfl mw_953 copyw (hw_l8 rfl) dX3_become_28 (fun s7 => ?_)
  exact hw_vret C dX3_become_31
/-! HumWire$Sheet isMissing()Z, level 1 -/
def F_X3_isMissing  (t0 : Nat) (s0 : hw_St) : Option (Int32 × hw_St) := hw_gd (hw_gH t0 3) (if (s0 t0 0) = (-1 : Int32) then (some ((1 : Int32), s0)) else (some ((0 : Int32), s0)))
set_option maxRecDepth 20000 in
theorem M_X3_isMissing (E : hw_E) (hE : hw_eT E = hw_TH) (t0 : Nat) (s0 : hw_St) : hw_M E yX3_isMissing cX3_isMissing 1 (some .boolean) 1 [hw_rv (hw_ea E) t0] s0 hw_ri (F_X3_isMissing t0 s0) := by
  refine hw_entry (own := RX3) (TL := hw_TH) (by decide) rfl hE (hw_cR hw_cN) (hw_l8 rfl) (fun G hG C => ?_)
  subst hG
  have hTL := hE
  show hw_K G 1 hw_ri _ 0 [(0, hw_rv (hw_ea (hw_gE G)) t0)] [] s0
  unfold F_X3_isMissing
  refine hw_gdK (fun h_T0 => ?_)
  have T0 := hw_gH_T h_T0
  refine hw_aload_n C dX3_isMissing_0 rfl 0 rfl ?_
  refine hw_getI C cf_X3 lf_X3_9 T0 dX3_isMissing_1 ?_
  refine hw_iconst C dX3_isMissing_4 (v := -1) (by decide) ?_
  refine hw_icmp_ne C dX3_isMissing_5 (tgt := 12) (by decide) (fun c1 => ?_) (fun c1 => ?_)
  · refine hw_iconst C dX3_isMissing_12 (v := 0) (by decide) ?_
    exact hw_zret1 C (by decide) dX3_isMissing_13
  · refine hw_iconst C dX3_isMissing_8 (v := 1) (by decide) ?_
    refine hw_goto C dX3_isMissing_9 (tgt := 13) (by decide) ?_
    exact hw_zret1 C (by decide) dX3_isMissing_13
/-! HumWire$Sheet hasPlace(I)Z, level 2 -/
def F_X3_hasPlace  (t0 : Nat) (a1 : Int32) (s0 : hw_St) : Option (Int32 × hw_St) := hw_gd (hw_gH t0 3) (hw_bd (F_X6_isWithin a1 (0 : Int32) ((s0 t0 1) - (1 : Int32)) s0) (fun r1 s2 => hw_gd (hw_isb r1) (some (r1, s2))))
set_option maxRecDepth 20000 in
theorem M_X3_hasPlace (E : hw_E) (hE : hw_eT E = hw_TH) (t0 : Nat) (a1 : Int32) (s0 : hw_St) : hw_M E yX3_hasPlace cX3_hasPlace 2 (some .boolean) 2 [hw_rv (hw_ea E) t0, .int a1] s0 hw_ri (F_X3_hasPlace t0 a1 s0) := by
  refine hw_entry (own := RX3) (TL := hw_TH) (by decide) rfl hE (hw_cR (hw_cI hw_cN)) (hw_l8 rfl) (fun G hG C => ?_)
  subst hG
  have hTL := hE
  show hw_K G 2 hw_ri _ 0 [(0, hw_rv (hw_ea (hw_gE G)) t0), (1, .int a1)] [] s0
  unfold F_X3_hasPlace
  refine hw_gdK (fun h_T0 => ?_)
  have T0 := hw_gH_T h_T0
  refine hw_iload_n C dX3_hasPlace_0 rfl 1 rfl ?_
  refine hw_iconst C dX3_hasPlace_1 (v := 0) (by decide) ?_
  refine hw_aload_n C dX3_hasPlace_2 rfl 0 rfl ?_
  refine hw_getI C cf_X3 lf_X3_15 T0 dX3_hasPlace_3 ?_
  refine hw_iconst C dX3_hasPlace_6 (v := 1) (by decide) ?_
  refine hw_isub C dX3_hasPlace_7 ?_
  refine hw_callSNi C (M_X6_isWithin (hw_gE G) hTL a1 (0 : Int32) ((s0 t0 1) - (1 : Int32)) s0) W_X6_isWithin SS_X6_isWithin C.2.2.2.2.2.2.2.1.2.2.1 (by decide) rfl ⟨rfl, hw_l8 rfl⟩ dX3_hasPlace_8 (fun r1 s2 => ?_)
  exact hw_zret C dX3_hasPlace_11
/-! HumWire$Sheet hasPlaces(II)Z, level 1 -/
def F_X3_hasPlaces  (t0 : Nat) (a1 : Int32) (a2 : Int32) (s0 : hw_St) : Option (Int32 × hw_St) := hw_gd (hw_gH t0 3) (if a1 < 0 then (some ((0 : Int32), s0)) else (if a2 < 0 then (some ((0 : Int32), s0)) else (if (s0 t0 1) < a1 then (some ((0 : Int32), s0)) else (if ((s0 t0 1) - a1) < a2 then (some ((0 : Int32), s0)) else (some ((1 : Int32), s0))))))
set_option maxRecDepth 20000 in
theorem M_X3_hasPlaces (E : hw_E) (hE : hw_eT E = hw_TH) (t0 : Nat) (a1 : Int32) (a2 : Int32) (s0 : hw_St) : hw_M E yX3_hasPlaces cX3_hasPlaces 3 (some .boolean) 1 [hw_rv (hw_ea E) t0, .int a1, .int a2] s0 hw_ri (F_X3_hasPlaces t0 a1 a2 s0) := by
  refine hw_entry (own := RX3) (TL := hw_TH) (by decide) rfl hE (hw_cR (hw_cI (hw_cI hw_cN))) (hw_l8 rfl) (fun G hG C => ?_)
  subst hG
  have hTL := hE
  show hw_K G 3 hw_ri _ 0 [(0, hw_rv (hw_ea (hw_gE G)) t0), (1, .int a1), (2, .int a2)] [] s0
  unfold F_X3_hasPlaces
  refine hw_gdK (fun h_T0 => ?_)
  have T0 := hw_gH_T h_T0
  refine hw_iload_n C dX3_hasPlaces_0 rfl 1 rfl ?_
  refine hw_if_lt C dX3_hasPlaces_1 (tgt := 30) (by decide) (fun c1 => ?_) (fun c1 => ?_)
  · refine hw_iconst C dX3_hasPlaces_30 (v := 0) (by decide) ?_
    exact hw_zret1 C (by decide) dX3_hasPlaces_31
  · refine hw_iload_n C dX3_hasPlaces_4 rfl 2 rfl ?_
    refine hw_if_lt C dX3_hasPlaces_5 (tgt := 30) (by decide) (fun c2 => ?_) (fun c2 => ?_)
    · refine hw_iconst C dX3_hasPlaces_30 (v := 0) (by decide) ?_
      exact hw_zret1 C (by decide) dX3_hasPlaces_31
    · refine hw_iload_n C dX3_hasPlaces_8 rfl 1 rfl ?_
      refine hw_aload_n C dX3_hasPlaces_9 rfl 0 rfl ?_
      refine hw_getI C cf_X3 lf_X3_15 T0 dX3_hasPlaces_10 ?_
      refine hw_icmp_gt C dX3_hasPlaces_13 (tgt := 30) (by decide) (fun c3 => ?_) (fun c3 => ?_)
      · refine hw_iconst C dX3_hasPlaces_30 (v := 0) (by decide) ?_
        exact hw_zret1 C (by decide) dX3_hasPlaces_31
      · refine hw_iload_n C dX3_hasPlaces_16 rfl 2 rfl ?_
        refine hw_aload_n C dX3_hasPlaces_17 rfl 0 rfl ?_
        refine hw_getI C cf_X3 lf_X3_15 T0 dX3_hasPlaces_18 ?_
        refine hw_iload_n C dX3_hasPlaces_21 rfl 1 rfl ?_
        refine hw_isub C dX3_hasPlaces_22 ?_
        refine hw_icmp_gt C dX3_hasPlaces_23 (tgt := 30) (by decide) (fun c4 => ?_) (fun c4 => ?_)
        · refine hw_iconst C dX3_hasPlaces_30 (v := 0) (by decide) ?_
          exact hw_zret1 C (by decide) dX3_hasPlaces_31
        · refine hw_iconst C dX3_hasPlaces_26 (v := 1) (by decide) ?_
          refine hw_goto C dX3_hasPlaces_27 (tgt := 31) (by decide) ?_
          exact hw_zret1 C (by decide) dX3_hasPlaces_31
/-! HumWire$Sheet hasNumber(I)Z, level 3 -/
def F_X3_hasNumber  (t0 : Nat) (a1 : Int32) (s0 : hw_St) : Option (Int32 × hw_St) := hw_gd (hw_gH t0 3) (hw_bd (F_X3_hasPlace t0 a1 s0) (fun r1 s2 => if r1 = 0 then (some ((0 : Int32), s2)) else (hw_gd (hw_gH (hw_fl t0 2) 10) (hw_gd (hw_inb a1 (hw_ln (hw_fl t0 2))) (if (s2 (hw_fl t0 2) a1.toNatClampNeg) = (-1000000005 : Int32) then (some ((0 : Int32), s2)) else (some ((1 : Int32), s2)))))))
set_option maxRecDepth 20000 in
theorem M_X3_hasNumber (E : hw_E) (hE : hw_eT E = hw_TH) (t0 : Nat) (a1 : Int32) (s0 : hw_St) : hw_M E yX3_hasNumber cX3_hasNumber 2 (some .boolean) 3 [hw_rv (hw_ea E) t0, .int a1] s0 hw_ri (F_X3_hasNumber t0 a1 s0) := by
  refine hw_entry (own := RX3) (TL := hw_TH) (by decide) rfl hE (hw_cR (hw_cI hw_cN)) (hw_l8 rfl) (fun G hG C => ?_)
  subst hG
  have hTL := hE
  show hw_K G 2 hw_ri _ 0 [(0, hw_rv (hw_ea (hw_gE G)) t0), (1, .int a1)] [] s0
  unfold F_X3_hasNumber
  refine hw_gdK (fun h_T0 => ?_)
  have T0 := hw_gH_T h_T0
  refine hw_aload_n C dX3_hasNumber_0 rfl 0 rfl ?_
  refine hw_iload_n C dX3_hasNumber_1 rfl 1 rfl ?_
  refine hw_callVi C (M_X3_hasPlace (hw_gE G) hTL t0 a1 s0) W_X3_hasPlace SV_X3_hasPlace cf_X3 T0 mw_571 (by decide) rfl ⟨rfl, hw_l8 rfl⟩ dX3_hasNumber_2 (fun r1 s2 => ?_)
  refine hw_if_eq C dX3_hasNumber_5 (tgt := 23) (by decide) (fun c3 => ?_) (fun c3 => ?_)
  · refine hw_iconst C dX3_hasNumber_23 (v := 0) (by decide) ?_
    exact hw_zret1 C (by decide) dX3_hasNumber_24
  · refine hw_aload_n C dX3_hasNumber_8 rfl 0 rfl ?_
    refine hw_getR C cf_X3 lf_X3_18 T0 rfl dX3_hasNumber_9 ?_
    refine hw_iload_n C dX3_hasNumber_12 rfl 1 rfl ?_
    refine hw_gdK (fun h5 => ?_)
    have T_4 := hw_gH_T h5
    refine hw_iald C T_4 rfl dX3_hasNumber_13 (fun h6 => ?_)
    refine hw_ldc C mw_570 dX3_hasNumber_14 ?_
    refine hw_icmp_eq C dX3_hasNumber_16 (tgt := 23) (by decide) (fun c7 => ?_) (fun c7 => ?_)
    · refine hw_iconst C dX3_hasNumber_23 (v := 0) (by decide) ?_
      exact hw_zret1 C (by decide) dX3_hasNumber_24
    · refine hw_iconst C dX3_hasNumber_19 (v := 1) (by decide) ?_
      refine hw_goto C dX3_hasNumber_20 (tgt := 24) (by decide) ?_
      exact hw_zret1 C (by decide) dX3_hasNumber_24
/-! HumWire$Slot findingFor(I)I, level 1 -/
def F_X4_findingFor  (t0 : Nat) (a1 : Int32) (s0 : hw_St) : Option (Int32 × hw_St) := hw_gd (hw_gH t0 4) (if (s0 t0 0) = 0 then (some ((-1000000011 : Int32), s0)) else (if (s0 t0 0) = a1 then (some ((0 : Int32), s0)) else (some ((-1000000012 : Int32), s0))))
set_option maxRecDepth 20000 in
theorem M_X4_findingFor (E : hw_E) (hE : hw_eT E = hw_TH) (t0 : Nat) (a1 : Int32) (s0 : hw_St) : hw_M E yX4_findingFor cX4_findingFor 2 (some .int) 1 [hw_rv (hw_ea E) t0, .int a1] s0 hw_ri (F_X4_findingFor t0 a1 s0) := by
  refine hw_entry (own := RX4) (TL := hw_TH) (by decide) rfl hE (hw_cR (hw_cI hw_cN)) (hw_l8 rfl) (fun G hG C => ?_)
  subst hG
  have hTL := hE
  show hw_K G 2 hw_ri _ 0 [(0, hw_rv (hw_ea (hw_gE G)) t0), (1, .int a1)] [] s0
  unfold F_X4_findingFor
  refine hw_gdK (fun h_T0 => ?_)
  have T0 := hw_gH_T h_T0
  refine hw_aload_n C dX4_findingFor_0 rfl 0 rfl ?_
  refine hw_getI C cf_X4 lf_X4_9 T0 dX4_findingFor_1 ?_
  refine hw_if_ne C dX4_findingFor_4 (tgt := 10) (by decide) (fun c1 => ?_) (fun c1 => ?_)
  · refine hw_aload_n C dX4_findingFor_10 rfl 0 rfl ?_
    refine hw_getI C cf_X4 lf_X4_9 T0 dX4_findingFor_11 ?_
    refine hw_iload_n C dX4_findingFor_14 rfl 1 rfl ?_
    refine hw_icmp_ne C dX4_findingFor_15 (tgt := 22) (by decide) (fun c2 => ?_) (fun c2 => ?_)
    · refine hw_ldc C mw_970 dX4_findingFor_22 ?_
      exact hw_iret C dX4_findingFor_24
    · refine hw_iconst C dX4_findingFor_18 (v := 0) (by decide) ?_
      refine hw_goto C dX4_findingFor_19 (tgt := 24) (by decide) ?_
      exact hw_iret C dX4_findingFor_24
  · refine hw_ldc C mw_969 dX4_findingFor_7 ?_
    exact hw_iret C dX4_findingFor_9
/-! java/lang/String coder()B, level 1 -/
def F_J0_coder_7d493  (t0 : Nat) (s0 : hw_St) : Option (Int32 × hw_St) := hw_gd (hw_gS t0) (if (1 : Int32) = 0 then (some ((1 : Int32), s0)) else (some ((0 : Int32), s0)))
set_option maxRecDepth 20000 in
theorem M_J0_coder_7d493 (E : hw_E) (hE : hw_eT E = hw_TH) (t0 : Nat) (s0 : hw_St) : hw_M E yJ0_coder_7d493 cJ0_coder_7d493 1 (some .byte) 1 [hw_rv (hw_ea E) t0] s0 hw_ri (F_J0_coder_7d493 t0 s0) := by
  refine hw_entry (own := RJ0) (TL := hw_TH) (by decide) rfl hE (hw_cR hw_cN) (hw_l8 rfl) (fun G hG C => ?_)
  subst hG
  have hTL := hE
  show hw_K G 1 hw_ri _ 0 [(0, hw_rv (hw_ea (hw_gE G)) t0)] [] s0
  unfold F_J0_coder_7d493
  refine hw_gdK (fun h_T0 => ?_)
  have T0 := hw_gS_T h_T0
  refine hw_getsC C mw_649 dJ0_coder_7d493_0 ?_
  refine hw_if_eq C dJ0_coder_7d493_3 (tgt := 13) (by decide) (fun c1 => ?_) (fun c1 => ?_)
  · refine hw_iconst C dJ0_coder_7d493_13 (v := 1) (by decide) ?_
    exact hw_zret1 C (by decide) dJ0_coder_7d493_14
  · refine hw_aload_n C dJ0_coder_7d493_6 rfl 0 rfl ?_
    refine hw_getSc C T0 mw_650 dJ0_coder_7d493_7 ?_
    refine hw_goto C dJ0_coder_7d493_10 (tgt := 14) (by decide) ?_
    exact hw_zret1 C (by decide) dJ0_coder_7d493_14
/-! java/lang/String isLatin1()Z, level 1 -/
def F_J0_isLatin1_aae02  (t0 : Nat) (s0 : hw_St) : Option (Int32 × hw_St) := hw_gd (hw_gS t0) (if (1 : Int32) = 0 then (some ((0 : Int32), s0)) else (if (0 : Int32) = 0 then (some ((1 : Int32), s0)) else (some ((0 : Int32), s0))))
set_option maxRecDepth 20000 in
theorem M_J0_isLatin1_aae02 (E : hw_E) (hE : hw_eT E = hw_TH) (t0 : Nat) (s0 : hw_St) : hw_M E yJ0_isLatin1_aae02 cJ0_isLatin1_aae02 1 (some .boolean) 1 [hw_rv (hw_ea E) t0] s0 hw_ri (F_J0_isLatin1_aae02 t0 s0) := by
  refine hw_entry (own := RJ0) (TL := hw_TH) (by decide) rfl hE (hw_cR hw_cN) (hw_l8 rfl) (fun G hG C => ?_)
  subst hG
  have hTL := hE
  show hw_K G 1 hw_ri _ 0 [(0, hw_rv (hw_ea (hw_gE G)) t0)] [] s0
  unfold F_J0_isLatin1_aae02
  refine hw_gdK (fun h_T0 => ?_)
  have T0 := hw_gS_T h_T0
  refine hw_getsC C mw_649 dJ0_isLatin1_aae02_0 ?_
  refine hw_if_eq C dJ0_isLatin1_aae02_3 (tgt := 17) (by decide) (fun c1 => ?_) (fun c1 => ?_)
  · refine hw_iconst C dJ0_isLatin1_aae02_17 (v := 0) (by decide) ?_
    exact hw_zret1 C (by decide) dJ0_isLatin1_aae02_18
  · refine hw_aload_n C dJ0_isLatin1_aae02_6 rfl 0 rfl ?_
    refine hw_getSc C T0 mw_650 dJ0_isLatin1_aae02_7 ?_
    refine hw_if_ne C dJ0_isLatin1_aae02_10 (tgt := 17) (by decide) (fun c2 => ?_) (fun c2 => ?_)
    · refine hw_iconst C dJ0_isLatin1_aae02_17 (v := 0) (by decide) ?_
      exact hw_zret1 C (by decide) dJ0_isLatin1_aae02_18
    · refine hw_iconst C dJ0_isLatin1_aae02_13 (v := 1) (by decide) ?_
      refine hw_goto C dJ0_isLatin1_aae02_14 (tgt := 18) (by decide) ?_
      exact hw_zret1 C (by decide) dJ0_isLatin1_aae02_18
/-! java/lang/String length()I, level 2 -/
def F_J0_length_8abf5  (t0 : Nat) (s0 : hw_St) : Option (Int32 × hw_St) := hw_gd (hw_gS t0) (hw_bd (F_J0_coder_7d493 t0 s0) (fun r1 s2 => some (((nI (hw_bl (t0 + 10))) >>> (r1 &&& 31)), s2)))
set_option maxRecDepth 20000 in
theorem M_J0_length_8abf5 (E : hw_E) (hE : hw_eT E = hw_TH) (t0 : Nat) (s0 : hw_St) : hw_M E yJ0_length_8abf5 cJ0_length_8abf5 1 (some .int) 2 [hw_rv (hw_ea E) t0] s0 hw_ri (F_J0_length_8abf5 t0 s0) := by
  refine hw_entry (own := RJ0) (TL := hw_TH) (by decide) rfl hE (hw_cR hw_cN) (hw_l8 rfl) (fun G hG C => ?_)
  subst hG
  have hTL := hE
  show hw_K G 1 hw_ri _ 0 [(0, hw_rv (hw_ea (hw_gE G)) t0)] [] s0
  unfold F_J0_length_8abf5
  refine hw_gdK (fun h_T0 => ?_)
  have T0 := hw_gS_T h_T0
  refine hw_aload_n C dJ0_length_8abf5_0 rfl 0 rfl ?_
  refine hw_getSv C T0 mw_644 dJ0_length_8abf5_1 ?_
  refine hw_alenS C (hw_gB_10 T0) dJ0_length_8abf5_4 ?_
  refine hw_aload_n C dJ0_length_8abf5_5 rfl 0 rfl ?_
  refine hw_callSti C (M_J0_coder_7d493 (hw_gE G) hTL t0 s0) W_J0_coder_7d493 SV_J0_coder_7d493 T0 mw_645 (by decide) rfl ⟨rfl, hw_l8 rfl⟩ dJ0_length_8abf5_6 (fun r1 s2 => ?_)
  refine hw_ishr C dJ0_length_8abf5_9 ?_
  exact hw_iret C dJ0_length_8abf5_10
/-! java/lang/StringLatin1 charAt([BI)C, level 3 -/
def F_J1_charAt_3b067  (t0 : Nat) (a1 : Int32) (s0 : hw_St) : Option (Int32 × hw_St) := hw_gd (hw_gB t0) (hw_bd (F_J0_checkIndex_df160 a1 (nI (hw_bl t0)) s0) (fun _ s2 => hw_gd (hw_inb a1 (hw_bl t0)) (hw_gd (hw_isc (hw_i2c ((hw_by t0 a1.toNatClampNeg) &&& (255 : Int32)))) (some ((hw_i2c ((hw_by t0 a1.toNatClampNeg) &&& (255 : Int32))), s2)))))
set_option maxRecDepth 20000 in
theorem M_J1_charAt_3b067 (E : hw_E) (hE : hw_eT E = hw_TH) (t0 : Nat) (a1 : Int32) (s0 : hw_St) : hw_M E yJ1_charAt_3b067 cJ1_charAt_3b067 2 (some .char) 3 [hw_rv (hw_ea E) t0, .int a1] s0 hw_ri (F_J1_charAt_3b067 t0 a1 s0) := by
  refine hw_entry (own := RJ1) (TL := hw_TH) (by decide) rfl hE (hw_cR (hw_cI hw_cN)) (hw_l8 rfl) (fun G hG C => ?_)
  subst hG
  have hTL := hE
  show hw_K G 2 hw_ri _ 0 [(0, hw_rv (hw_ea (hw_gE G)) t0), (1, .int a1)] [] s0
  unfold F_J1_charAt_3b067
  refine hw_gdK (fun h_T0 => ?_)
  have T0 := hw_gB_T h_T0
  refine hw_iload_n C dJ1_charAt_3b067_0 rfl 1 rfl ?_
  refine hw_aload_n C dJ1_charAt_3b067_1 rfl 0 rfl ?_
  refine hw_alenS C T0 dJ1_charAt_3b067_2 ?_
  refine hw_callSv C (M_J0_checkIndex_df160 (hw_gE G) hTL a1 (nI (hw_bl t0)) s0) W_J0_checkIndex_df160 SS_J0_checkIndex_df160 mw_663 (by decide) rfl ⟨rfl, hw_l8 rfl⟩ dJ1_charAt_3b067_3 (fun r1 s2 => ?_)
  refine hw_aload_n C dJ1_charAt_3b067_6 rfl 0 rfl ?_
  refine hw_iload_n C dJ1_charAt_3b067_7 rfl 1 rfl ?_
  refine hw_baldS C T0 dJ1_charAt_3b067_8 (fun h3 => ?_)
  refine hw_sipush C dJ1_charAt_3b067_9 (v := 255) (by decide) ?_
  refine hw_iand C dJ1_charAt_3b067_12 ?_
  refine hw_c_i2c C dJ1_charAt_3b067_13 ?_
  exact hw_cret C dJ1_charAt_3b067_14
/-! java/lang/String charAt(I)C, level 4 -/
def F_J0_charAt_5068e  (t0 : Nat) (a1 : Int32) (s0 : hw_St) : Option (Int32 × hw_St) := hw_gd (hw_gS t0) (hw_bd (F_J0_isLatin1_aae02 t0 s0) (fun r1 s2 => if r1 = 0 then (none) else (hw_bd (F_J1_charAt_3b067 (t0 + 10) a1 s2) (fun r4 s5 => hw_gd (hw_isc r4) (some (r4, s5))))))
set_option maxRecDepth 20000 in
theorem M_J0_charAt_5068e (E : hw_E) (hE : hw_eT E = hw_TH) (t0 : Nat) (a1 : Int32) (s0 : hw_St) : hw_M E yJ0_charAt_5068e cJ0_charAt_5068e 2 (some .char) 4 [hw_rv (hw_ea E) t0, .int a1] s0 hw_ri (F_J0_charAt_5068e t0 a1 s0) := by
  refine hw_entry (own := RJ0) (TL := hw_TH) (by decide) rfl hE (hw_cR (hw_cI hw_cN)) (hw_l8 rfl) (fun G hG C => ?_)
  subst hG
  have hTL := hE
  show hw_K G 2 hw_ri _ 0 [(0, hw_rv (hw_ea (hw_gE G)) t0), (1, .int a1)] [] s0
  unfold F_J0_charAt_5068e
  refine hw_gdK (fun h_T0 => ?_)
  have T0 := hw_gS_T h_T0
  refine hw_aload_n C dJ0_charAt_5068e_0 rfl 0 rfl ?_
  refine hw_callSti C (M_J0_isLatin1_aae02 (hw_gE G) hTL t0 s0) W_J0_isLatin1_aae02 SV_J0_isLatin1_aae02 T0 mw_655 (by decide) rfl ⟨rfl, hw_l8 rfl⟩ dJ0_charAt_5068e_1 (fun r1 s2 => ?_)
  refine hw_if_eq C dJ0_charAt_5068e_4 (tgt := 16) (by decide) (fun c3 => ?_) (fun c3 => ?_)
  · exact hw_nil
  · refine hw_aload_n C dJ0_charAt_5068e_7 rfl 0 rfl ?_
    refine hw_getSv C T0 mw_644 dJ0_charAt_5068e_8 ?_
    refine hw_iload_n C dJ0_charAt_5068e_11 rfl 1 rfl ?_
    refine hw_callSi C (M_J1_charAt_3b067 (hw_gE G) hTL (t0 + 10) a1 s2) W_J1_charAt_3b067 SS_J1_charAt_3b067 mw_659 (by decide) rfl ⟨rfl, hw_l8 rfl⟩ dJ0_charAt_5068e_12 (fun r4 s5 => ?_)
    exact hw_cret C dJ0_charAt_5068e_15
/-! java/lang/StringLatin1 canEncode(I)Z, level 1 -/
def F_J1_canEncode_9a6ad  (a0 : Int32) (s0 : hw_St) : Option (Int32 × hw_St) := if a0 < 0 then (some ((0 : Int32), s0)) else (if (255 : Int32) < a0 then (some ((0 : Int32), s0)) else (some ((1 : Int32), s0)))
set_option maxRecDepth 20000 in
theorem M_J1_canEncode_9a6ad (E : hw_E) (hE : hw_eT E = hw_TH) (a0 : Int32) (s0 : hw_St) : hw_M E yJ1_canEncode_9a6ad cJ1_canEncode_9a6ad 1 (some .boolean) 1 [.int a0] s0 hw_ri (F_J1_canEncode_9a6ad a0 s0) := by
  refine hw_entry (own := RJ1) (TL := hw_TH) (by decide) rfl hE (hw_cI hw_cN) (hw_l8 rfl) (fun G hG C => ?_)
  subst hG
  have hTL := hE
  show hw_K G 1 hw_ri _ 0 [(0, .int a0)] [] s0
  unfold F_J1_canEncode_9a6ad
  refine hw_iload_n C dJ1_canEncode_9a6ad_0 rfl 0 rfl ?_
  refine hw_if_lt C dJ1_canEncode_9a6ad_1 (tgt := 15) (by decide) (fun c1 => ?_) (fun c1 => ?_)
  · refine hw_iconst C dJ1_canEncode_9a6ad_15 (v := 0) (by decide) ?_
    exact hw_zret1 C (by decide) dJ1_canEncode_9a6ad_16
  · refine hw_iload_n C dJ1_canEncode_9a6ad_4 rfl 0 rfl ?_
    refine hw_sipush C dJ1_canEncode_9a6ad_5 (v := 255) (by decide) ?_
    refine hw_icmp_gt C dJ1_canEncode_9a6ad_8 (tgt := 15) (by decide) (fun c2 => ?_) (fun c2 => ?_)
    · refine hw_iconst C dJ1_canEncode_9a6ad_15 (v := 0) (by decide) ?_
      exact hw_zret1 C (by decide) dJ1_canEncode_9a6ad_16
    · refine hw_iconst C dJ1_canEncode_9a6ad_11 (v := 1) (by decide) ?_
      refine hw_goto C dJ1_canEncode_9a6ad_12 (tgt := 16) (by decide) ?_
      exact hw_zret1 C (by decide) dJ1_canEncode_9a6ad_16
/-! java/lang/StringLatin1 indexOfChar([BIII)I, level 1 -/
def S_J1_indexOfChar_4cfef_7  (w7 : Nat → Int32 → Int32 → Int32 → hw_St → Option (Int32 × hw_St)) (t0 : Nat) (l3 : Int32) (l4 : Int32) (l5 : Int32) (s0 : hw_St) : Option (Int32 × hw_St) := if l3 ≤ l5 then (some ((-1 : Int32), s0)) else (hw_gd (hw_inb l5 (hw_bl t0)) (if (hw_by t0 l5.toNatClampNeg) = l4 then (some (l5, s0)) else (w7 t0 l3 l4 (l5 + 1) s0)))
def L_J1_indexOfChar_4cfef_7  : Nat → Nat → Int32 → Int32 → Int32 → hw_St → Option (Int32 × hw_St)
  | 0 => fun _ _ _ _ _ => none
  | n + 1 => S_J1_indexOfChar_4cfef_7  (L_J1_indexOfChar_4cfef_7  n)
def F_J1_indexOfChar_4cfef  (t0 : Nat) (a1 : Int32) (a2 : Int32) (a3 : Int32) (s0 : hw_St) : Option (Int32 × hw_St) := hw_gd (hw_gB t0) (hw_nm a1.toInt8.toInt32 (fun x1 => L_J1_indexOfChar_4cfef_7 130 t0 a3 x1 a2 s0))
set_option maxRecDepth 20000 in
theorem KS_J1_indexOfChar_4cfef_7 {G : hw_G} (C : hw_Ok G cJ1_indexOfChar_4cfef RJ1 6 1 (some .int) hw_TH) (hTL : hw_eT (hw_gE G) = hw_TH) (w7 : Nat → Int32 → Int32 → Int32 → hw_St → Option (Int32 × hw_St)) (H_w7 : ∀ (t0 : Nat) (l3 : Int32) (l4 : Int32) (l5 : Int32) (s0 : hw_St) (T0 : hw_gB t0 = true), hw_K G 6 hw_ri (w7 t0 l3 l4 l5 s0) 7 [(0, hw_rv (hw_ea (hw_gE G)) t0), (3, .int l3), (4, .int l4), (5, .int l5)] [] s0) (t0 : Nat) (l3 : Int32) (l4 : Int32) (l5 : Int32) (s0 : hw_St) (T0 : hw_gB t0 = true) : hw_K G 6 hw_ri (S_J1_indexOfChar_4cfef_7 w7 t0 l3 l4 l5 s0) 7 [(0, hw_rv (hw_ea (hw_gE G)) t0), (3, .int l3), (4, .int l4), (5, .int l5)] [] s0 := by
  unfold S_J1_indexOfChar_4cfef_7
  refine hw_iload C dJ1_indexOfChar_4cfef_7 3 rfl ?_
  refine hw_iload_n C dJ1_indexOfChar_4cfef_9 rfl 1 rfl ?_
  refine hw_icmp_ge C dJ1_indexOfChar_4cfef_10 (tgt := 31) (by decide) (fun c2 => ?_) (fun c2 => ?_)
  · refine hw_iconst C dJ1_indexOfChar_4cfef_31 (v := -1) (by decide) ?_
    exact hw_iret C dJ1_indexOfChar_4cfef_32
  · refine hw_aload_n C dJ1_indexOfChar_4cfef_13 rfl 0 rfl ?_
    refine hw_iload C dJ1_indexOfChar_4cfef_14 3 rfl ?_
    refine hw_baldS C T0 dJ1_indexOfChar_4cfef_16 (fun h3 => ?_)
    refine hw_iload C dJ1_indexOfChar_4cfef_17 2 rfl ?_
    refine hw_icmp_ne C dJ1_indexOfChar_4cfef_19 (tgt := 25) (by decide) (fun c4 => ?_) (fun c4 => ?_)
    · refine hw_iinc C dJ1_indexOfChar_4cfef_25 3 rfl (v := 1) (by decide) (by decide) rfl ?_
      refine hw_goto C dJ1_indexOfChar_4cfef_28 (tgt := 7) (by decide) ?_
      exact hw_lv [1, 2, 3, 0] rfl (H_w7 t0 l3 l4 (l5 + 1) s0 T0)
    · refine hw_iload C dJ1_indexOfChar_4cfef_22 3 rfl ?_
      exact hw_iret C dJ1_indexOfChar_4cfef_24
theorem KL_J1_indexOfChar_4cfef_7 {G : hw_G} (C : hw_Ok G cJ1_indexOfChar_4cfef RJ1 6 1 (some .int) hw_TH) (hTL : hw_eT (hw_gE G) = hw_TH) : ∀ (n_ : Nat) (t0 : Nat) (l3 : Int32) (l4 : Int32) (l5 : Int32) (s0 : hw_St) (T0 : hw_gB t0 = true), hw_K G 6 hw_ri (L_J1_indexOfChar_4cfef_7 n_ t0 l3 l4 l5 s0) 7 [(0, hw_rv (hw_ea (hw_gE G)) t0), (3, .int l3), (4, .int l4), (5, .int l5)] [] s0 := by
  intro n_
  induction n_ with
  | zero => intros; exact hw_nil
  | succ n_ ih => intro t0 l3 l4 l5 s0 T0; exact KS_J1_indexOfChar_4cfef_7 C hTL (L_J1_indexOfChar_4cfef_7 n_) ih t0 l3 l4 l5 s0 T0
set_option maxRecDepth 20000 in
theorem M_J1_indexOfChar_4cfef (E : hw_E) (hE : hw_eT E = hw_TH) (t0 : Nat) (a1 : Int32) (a2 : Int32) (a3 : Int32) (s0 : hw_St) : hw_M E yJ1_indexOfChar_4cfef cJ1_indexOfChar_4cfef 6 (some .int) 1 [hw_rv (hw_ea E) t0, .int a1, .int a2, .int a3] s0 hw_ri (F_J1_indexOfChar_4cfef t0 a1 a2 a3 s0) := by
  refine hw_entry (own := RJ1) (TL := hw_TH) (by decide) rfl hE (hw_cR (hw_cI (hw_cI (hw_cI hw_cN)))) (hw_l8 rfl) (fun G hG C => ?_)
  subst hG
  have hTL := hE
  show hw_K G 6 hw_ri _ 0 [(0, hw_rv (hw_ea (hw_gE G)) t0), (1, .int a1), (2, .int a2), (3, .int a3)] [] s0
  unfold F_J1_indexOfChar_4cfef
  refine hw_gdK (fun h_T0 => ?_)
  have T0 := hw_gB_T h_T0
  refine hw_iload_n C dJ1_indexOfChar_4cfef_0 rfl 1 rfl ?_
  refine hw_c_i2b C dJ1_indexOfChar_4cfef_1 ?_
  refine hw_istoreN C dJ1_indexOfChar_4cfef_2 (by decide) (fun _ => rfl) (fun x1 => ?_)
  refine hw_iload_n C dJ1_indexOfChar_4cfef_4 rfl 3 rfl ?_
  refine hw_istore C dJ1_indexOfChar_4cfef_5 (by decide) rfl ?_
  exact hw_lv [2, 5, 1, 0] rfl (KL_J1_indexOfChar_4cfef_7 C hTL 130 t0 a3 x1 a2 s0 T0)
/-! java/lang/StringLatin1 indexOf([BIII)I, level 2 -/
def F_J1_indexOf_4cfef  (t0 : Nat) (a1 : Int32) (a2 : Int32) (a3 : Int32) (s0 : hw_St) : Option (Int32 × hw_St) := hw_gd (hw_gB t0) (hw_bd (F_J1_canEncode_9a6ad a1 s0) (fun r1 s2 => if r1 = 0 then (some ((-1 : Int32), s2)) else (hw_nm (hw_max a2 (0 : Int32)) (fun x4 => hw_nm (hw_min a3 (nI (hw_bl t0))) (fun x5 => if x4 < x5 then (hw_bd (F_J1_indexOfChar_4cfef t0 a1 x4 x5 s2) (fun r7 s8 => some (r7, s8))) else (some ((-1 : Int32), s2)))))))
set_option maxRecDepth 20000 in
theorem M_J1_indexOf_4cfef (E : hw_E) (hE : hw_eT E = hw_TH) (t0 : Nat) (a1 : Int32) (a2 : Int32) (a3 : Int32) (s0 : hw_St) : hw_M E yJ1_indexOf_4cfef cJ1_indexOf_4cfef 4 (some .int) 2 [hw_rv (hw_ea E) t0, .int a1, .int a2, .int a3] s0 hw_ri (F_J1_indexOf_4cfef t0 a1 a2 a3 s0) := by
  refine hw_entry (own := RJ1) (TL := hw_TH) (by decide) rfl hE (hw_cR (hw_cI (hw_cI (hw_cI hw_cN)))) (hw_l8 rfl) (fun G hG C => ?_)
  subst hG
  have hTL := hE
  show hw_K G 4 hw_ri _ 0 [(0, hw_rv (hw_ea (hw_gE G)) t0), (1, .int a1), (2, .int a2), (3, .int a3)] [] s0
  unfold F_J1_indexOf_4cfef
  refine hw_gdK (fun h_T0 => ?_)
  have T0 := hw_gB_T h_T0
  refine hw_iload_n C dJ1_indexOf_4cfef_0 rfl 1 rfl ?_
  refine hw_callSi C (M_J1_canEncode_9a6ad (hw_gE G) hTL a1 s0) W_J1_canEncode_9a6ad SS_J1_canEncode_9a6ad mw_749 (by decide) rfl ⟨rfl, hw_l8 rfl⟩ dJ1_indexOf_4cfef_1 (fun r1 s2 => ?_)
  refine hw_if_ne C dJ1_indexOf_4cfef_4 (tgt := 9) (by decide) (fun c3 => ?_) (fun c3 => ?_)
  · refine hw_iload_n C dJ1_indexOf_4cfef_9 rfl 2 rfl ?_
    refine hw_iconst C dJ1_indexOf_4cfef_10 (v := 0) (by decide) ?_
    refine hw_mmax C mw_747 mathw_max (hw_l8 rfl) dJ1_indexOf_4cfef_11 ?_
    refine hw_istore_nN C dJ1_indexOf_4cfef_14 rfl (by decide) (fun _ => rfl) (fun x4 => ?_)
    refine hw_iload_n C dJ1_indexOf_4cfef_15 rfl 3 rfl ?_
    refine hw_aload_n C dJ1_indexOf_4cfef_16 rfl 1 rfl ?_
    refine hw_alenS C T0 dJ1_indexOf_4cfef_17 ?_
    refine hw_mmin C mw_748 mathw_min (hw_l8 rfl) dJ1_indexOf_4cfef_18 ?_
    refine hw_istore_nN C dJ1_indexOf_4cfef_21 rfl (by decide) (fun _ => rfl) (fun x5 => ?_)
    refine hw_iload_n C dJ1_indexOf_4cfef_22 rfl 1 rfl ?_
    refine hw_iload_n C dJ1_indexOf_4cfef_23 rfl 0 rfl ?_
    refine hw_icmp_lt C dJ1_indexOf_4cfef_24 (tgt := 29) (by decide) (fun c6 => ?_) (fun c6 => ?_)
    · refine hw_aload_n C dJ1_indexOf_4cfef_29 rfl 2 rfl ?_
      refine hw_iload_n C dJ1_indexOf_4cfef_30 rfl 3 rfl ?_
      refine hw_iload_n C dJ1_indexOf_4cfef_31 rfl 1 rfl ?_
      refine hw_iload_n C dJ1_indexOf_4cfef_32 rfl 0 rfl ?_
      refine hw_callSi C (M_J1_indexOfChar_4cfef (hw_gE G) hTL t0 a1 x4 x5 s2) W_J1_indexOfChar_4cfef SS_J1_indexOfChar_4cfef mw_752 (by decide) rfl ⟨rfl, hw_l8 rfl⟩ dJ1_indexOf_4cfef_33 (fun r7 s8 => ?_)
      exact hw_iret C dJ1_indexOf_4cfef_36
    · refine hw_iconst C dJ1_indexOf_4cfef_27 (v := -1) (by decide) ?_
      exact hw_iret C dJ1_indexOf_4cfef_28
  · refine hw_iconst C dJ1_indexOf_4cfef_7 (v := -1) (by decide) ?_
    exact hw_iret C dJ1_indexOf_4cfef_8
/-! java/lang/String indexOf(II)I, level 3 -/
def F_J0_indexOf_7cf53  (t0 : Nat) (a1 : Int32) (a2 : Int32) (s0 : hw_St) : Option (Int32 × hw_St) := hw_gd (hw_gS t0) (hw_bd (F_J0_isLatin1_aae02 t0 s0) (fun r1 s2 => if r1 = 0 then (none) else (hw_bd (F_J0_length_8abf5 t0 s2) (fun r4 s5 => hw_bd (F_J1_indexOf_4cfef (t0 + 10) a1 a2 r4 s5) (fun r6 s7 => some (r6, s7))))))
set_option maxRecDepth 20000 in
theorem M_J0_indexOf_7cf53 (E : hw_E) (hE : hw_eT E = hw_TH) (t0 : Nat) (a1 : Int32) (a2 : Int32) (s0 : hw_St) : hw_M E yJ0_indexOf_7cf53 cJ0_indexOf_7cf53 3 (some .int) 3 [hw_rv (hw_ea E) t0, .int a1, .int a2] s0 hw_ri (F_J0_indexOf_7cf53 t0 a1 a2 s0) := by
  refine hw_entry (own := RJ0) (TL := hw_TH) (by decide) rfl hE (hw_cR (hw_cI (hw_cI hw_cN))) (hw_l8 rfl) (fun G hG C => ?_)
  subst hG
  have hTL := hE
  show hw_K G 3 hw_ri _ 0 [(0, hw_rv (hw_ea (hw_gE G)) t0), (1, .int a1), (2, .int a2)] [] s0
  unfold F_J0_indexOf_7cf53
  refine hw_gdK (fun h_T0 => ?_)
  have T0 := hw_gS_T h_T0
  refine hw_aload_n C dJ0_indexOf_7cf53_0 rfl 0 rfl ?_
  refine hw_callSti C (M_J0_isLatin1_aae02 (hw_gE G) hTL t0 s0) W_J0_isLatin1_aae02 SV_J0_isLatin1_aae02 T0 mw_655 (by decide) rfl ⟨rfl, hw_l8 rfl⟩ dJ0_indexOf_7cf53_1 (fun r1 s2 => ?_)
  refine hw_if_eq C dJ0_indexOf_7cf53_4 (tgt := 23) (by decide) (fun c3 => ?_) (fun c3 => ?_)
  · exact hw_nil
  · refine hw_aload_n C dJ0_indexOf_7cf53_7 rfl 0 rfl ?_
    refine hw_getSv C T0 mw_644 dJ0_indexOf_7cf53_8 ?_
    refine hw_iload_n C dJ0_indexOf_7cf53_11 rfl 1 rfl ?_
    refine hw_iload_n C dJ0_indexOf_7cf53_12 rfl 2 rfl ?_
    refine hw_aload_n C dJ0_indexOf_7cf53_13 rfl 0 rfl ?_
    refine hw_callSti C (M_J0_length_8abf5 (hw_gE G) hTL t0 s2) W_J0_length_8abf5 SV_J0_length_8abf5 T0 mw_743 (by decide) rfl ⟨rfl, hw_l8 rfl⟩ dJ0_indexOf_7cf53_14 (fun r4 s5 => ?_)
    refine hw_callSi C (M_J1_indexOf_4cfef (hw_gE G) hTL (t0 + 10) a1 a2 r4 s5) W_J1_indexOf_4cfef SS_J1_indexOf_4cfef mw_744 (by decide) rfl ⟨rfl, hw_l8 rfl⟩ dJ0_indexOf_7cf53_17 (fun r6 s7 => ?_)
    refine hw_goto C dJ0_indexOf_7cf53_20 (tgt := 36) (by decide) ?_
    exact hw_iret C dJ0_indexOf_7cf53_36
/-! java/lang/String indexOf(I)I, level 4 -/
def F_J0_indexOf_0f7a4  (t0 : Nat) (a1 : Int32) (s0 : hw_St) : Option (Int32 × hw_St) := hw_gd (hw_gS t0) (hw_bd (F_J0_indexOf_7cf53 t0 a1 (0 : Int32) s0) (fun r1 s2 => some (r1, s2)))
set_option maxRecDepth 20000 in
theorem M_J0_indexOf_0f7a4 (E : hw_E) (hE : hw_eT E = hw_TH) (t0 : Nat) (a1 : Int32) (s0 : hw_St) : hw_M E yJ0_indexOf_0f7a4 cJ0_indexOf_0f7a4 2 (some .int) 4 [hw_rv (hw_ea E) t0, .int a1] s0 hw_ri (F_J0_indexOf_0f7a4 t0 a1 s0) := by
  refine hw_entry (own := RJ0) (TL := hw_TH) (by decide) rfl hE (hw_cR (hw_cI hw_cN)) (hw_l8 rfl) (fun G hG C => ?_)
  subst hG
  have hTL := hE
  show hw_K G 2 hw_ri _ 0 [(0, hw_rv (hw_ea (hw_gE G)) t0), (1, .int a1)] [] s0
  unfold F_J0_indexOf_0f7a4
  refine hw_gdK (fun h_T0 => ?_)
  have T0 := hw_gS_T h_T0
  refine hw_aload_n C dJ0_indexOf_0f7a4_0 rfl 0 rfl ?_
  refine hw_iload_n C dJ0_indexOf_0f7a4_1 rfl 1 rfl ?_
  refine hw_iconst C dJ0_indexOf_0f7a4_2 (v := 0) (by decide) ?_
  refine hw_callSti C (M_J0_indexOf_7cf53 (hw_gE G) hTL t0 a1 (0 : Int32) s0) W_J0_indexOf_7cf53 SV_J0_indexOf_7cf53 T0 mw_739 (by decide) rfl ⟨rfl, hw_l8 rfl⟩ dJ0_indexOf_0f7a4_3 (fun r1 s2 => ?_)
  exact hw_iret C dJ0_indexOf_0f7a4_6
