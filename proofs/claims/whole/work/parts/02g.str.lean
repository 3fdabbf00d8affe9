section HWS
variable {α : Type} {G : hw_G} {cc : ByteArray} {own : String} {nL d : Nat} {ret : Option FieldType} {TL : List Nat} {rr : α → Option Value} {X : Option (α × hw_St)} {pc : Nat} {lv : List (Nat × Value)} {st : List Value} {σ : hw_St}
/-- the bytes of a String constant -/
def hw_gB (t : Nat) : Bool := decide (910 ≤ t ∧ t < 916)
theorem hw_gB_T {t : Nat} (h : hw_gB t = true) : hw_gB t = true := h
theorem hw_gB_10 {t : Nat} (h : hw_gS t = true) : hw_gB (t + 10) = true := by
  have := of_decide_eq_true h
  exact decide_eq_true (by omega)
def hw_bl (t : Nat) : Nat := hw_sl.getD (t - 910) 0
def hw_by (t j : Nat) : Int32 := (hw_sb.getD (t - 910) []).getD j 0
def hw_isc (x : Int32) : Bool := decide (x.toUInt32.toUInt16.toUInt32.toInt32 = x)
theorem hw_getSv {idx t : Nat} (C : hw_Ok G cc own nL d ret TL) (hs : hw_gS t = true) (hl0 : Cond.fieldLink own idx "java/lang/String" "value" "[B" ∈ hw_all) (dg : decode cc pc = .ok (.getfield idx, 3)) (kk : hw_K G nL rr X (pc + 3) lv (hw_rv (hw_ea (hw_gE G)) (t + 10) :: st) σ) : hw_K G nL rr X pc lv (hw_rv (hw_ea (hw_gE G)) t :: st) σ := by
  intro r σ' hX hc H locs ls hP hS hl
  have h := of_decide_eq_true hs
  have k2 := kk r σ' hX (hw_c1r (hw_c1t hc)) H locs ls hP hS hl
  obtain ⟨i, hi, rfl⟩ : ∃ i, i < 6 ∧ t = 900 + i := ⟨t - 900, by omega, by omega⟩
  rw [hw_rv_ref (by omega)] at k2 ⊢
  have hE := (C.2.2.2.2.2.2.2.2.1.2.2.1.1 i hi).2.2.1
  rw [show 900 + i + 10 = 910 + i by omega] at k2
  exact vk_getf C.1 C.2.1 hE hS C.2.2.2.1 (C.2.2.2.2.1 _ hl0) (fun _ h => h) dg k2
theorem hw_getSc {idx t : Nat} (C : hw_Ok G cc own nL d ret TL) (hs : hw_gS t = true) (hl0 : Cond.fieldLink own idx "java/lang/String" "coder" "B" ∈ hw_all) (dg : decode cc pc = .ok (.getfield idx, 3)) (kk : hw_K G nL rr X (pc + 3) lv (.int 0 :: st) σ) : hw_K G nL rr X pc lv (hw_rv (hw_ea (hw_gE G)) t :: st) σ := by
  intro r σ' hX hc H locs ls hP hS hl
  have h := of_decide_eq_true hs
  have k2 := kk r σ' hX (hw_c1i (hw_c1t hc)) H locs ls hP hS hl
  obtain ⟨i, hi, rfl⟩ : ∃ i, i < 6 ∧ t = 900 + i := ⟨t - 900, by omega, by omega⟩
  rw [hw_rv_ref (by omega)]
  exact vk_getf C.1 C.2.1 (C.2.2.2.2.2.2.2.2.1.2.2.1.1 i hi).2.1 hS C.2.2.2.1 (C.2.2.2.2.1 _ hl0) (fun _ h => h) dg k2
theorem hw_alenS {t : Nat} (C : hw_Ok G cc own nL d ret TL) (hs : hw_gB t = true) (dg : decode cc pc = .ok (.arraylength, 1)) (kk : hw_K G nL rr X (pc + 1) lv (.int (nI (hw_bl t)) :: st) σ) : hw_K G nL rr X pc lv (hw_rv (hw_ea (hw_gE G)) t :: st) σ := by
  intro r σ' hX hc H locs ls hP hS hl
  have h := of_decide_eq_true hs
  have k2 := kk r σ' hX (hw_c1i (hw_c1t hc)) H locs ls hP hS hl
  obtain ⟨i, hi, rfl⟩ : ∃ i, i < 6 ∧ t = 910 + i := ⟨t - 910, by omega, by omega⟩
  rw [hw_rv_ref (by omega)]
  rw [hw_bl, show 910 + i - 910 = i by omega] at k2
  exact va_tlen C.1 C.2.1 (C.2.2.2.2.2.2.2.2.1.2.2.1.1 i hi).2.2.2 hS rfl dg k2
theorem hw_baldS {t : Nat} {j : Int32} (C : hw_Ok G cc own nL d ret TL) (hs : hw_gB t = true) (dg : decode cc pc = .ok (.baload, 1)) (kk : hw_inb j (hw_bl t) = true → hw_K G nL rr X (pc + 1) lv (.int (hw_by t j.toNatClampNeg) :: st) σ) : hw_K G nL rr (hw_gd (hw_inb j (hw_bl t)) X) pc lv (.int j :: hw_rv (hw_ea (hw_gE G)) t :: st) σ := by
  refine hw_gdK (fun hb => ?_)
  intro r σ' hX hc H locs ls hP hS hl
  have h := of_decide_eq_true hs
  have k2 := kk hb r σ' hX (hw_c1i (hw_c1t (hw_c1t hc))) H locs ls hP hS hl
  obtain ⟨i, hi, rfl⟩ : ∃ i, i < 6 ∧ t = 910 + i := ⟨t - 910, by omega, by omega⟩
  rw [hw_rv_ref (by omega)]
  rw [hw_bl, show 910 + i - 910 = i by omega] at hb
  rw [hw_by, show 910 + i - 910 = i by omega] at k2
  exact va_tb C.1 C.2.1 (C.2.2.2.2.2.2.2.2.1.2.2.1.1 i hi).2.2.2 hS (hw_inb_in hb) rfl dg k2
theorem hw_getsC {idx : Nat} (C : hw_Ok G cc own nL d ret TL) (hl0 : Cond.fieldLink own idx "java/lang/String" "COMPACT_STRINGS" "Z" ∈ hw_all) (dg : decode cc pc = .ok (.getstatic idx, 3)) (kk : hw_K G nL rr X (pc + 3) lv (.int 1 :: st) σ) : hw_K G nL rr X pc lv st σ := by
  intro r σ' hX hc H locs ls hP hS hl
  exact va_gets C.1 C.2.1 C.2.2.2.2.2.2.2.2.1.2.2.2.1 hS C.2.2.2.1 (C.2.2.2.2.1 _ hl0) (fun _ h => h) dg (kk r σ' hX (hw_c1i hc) H locs ls hP hS hl)
theorem hw_getsF {idx : Nat} (C : hw_Ok G cc own nL d ret TL) (hl0 : Cond.fieldLink own idx "jdk/internal/util/Preconditions" "SIOOBE_FORMATTER" "Ljava/util/function/BiFunction;" ∈ hw_all) (dg : decode cc pc = .ok (.getstatic idx, 3)) (kk : ∀ v : Value, v.category = 1 → hw_K G nL rr X (pc + 3) lv (v :: st) σ) : hw_K G nL rr X pc lv st σ := by
  intro r σ' hX hc H locs ls hP hS hl
  rcases C.2.2.2.2.2.2.2.2.1.2.2.2.2 with h | ⟨t, h⟩
  · exact va_gets C.1 C.2.1 h hS C.2.2.2.1 (C.2.2.2.2.1 _ hl0) (fun _ h => h) dg (kk .null rfl r σ' hX (hw_c1v hc rfl) H locs ls hP hS hl)
  · exact va_gets C.1 C.2.1 h hS C.2.2.2.1 (C.2.2.2.2.1 _ hl0) (fun _ h => h) dg (kk (.ref t) rfl r σ' hX (hw_c1v hc rfl) H locs ls hP hS hl)
theorem hw_cret {G : hw_G} {x : Int32} (C : hw_Ok G cc own nL d (some .char) TL) (dg : decode cc pc = .ok (.ireturn, 1)) : hw_K G nL hw_ri (hw_gd (hw_isc x) (some (x, σ))) pc lv [.int x] σ :=
  hw_gdK (fun h => hw_zret1 C (show Value.int _ = Value.int x by rw [of_decide_eq_true h]) dg)
theorem hw_cV {v : Value} {l : List Value} (hv : v.category = 1) (h : ∀ v ∈ l, v.category = 1) : ∀ w ∈ (v :: l : List Value), w.category = 1 := fun w hw => by
  rcases List.mem_cons.mp hw with rfl | h1
  · exact hv
  · exact h w h1
theorem hw_callSti {Y : Option (Int32 × hw_St)} {f : Int32 → hw_St → Option (α × hw_St)} {y : MethodName} {cy : ByteArray} {mL n idx d2 t : Nat} {ry : Option FieldType} {As st0 : List Value} (C : hw_Ok G cc own nL d ret TL) (hM : hw_M (hw_gE G) y cy mL ry d2 (hw_rv (hw_ea (hw_gE G)) t :: As) σ hw_ri Y) (hw : hw_MW y cy mL ry n) (hs : Cond.instanceMethod y ∈ hw_all ∧ Cond.selects "java/lang/String" y y ∈ hw_all) (hT : hw_gS t = true) (hl0 : Cond.methodLink own idx y ∈ hw_all) (hd : d2 < d) (hst : st0 = As.reverse ++ hw_rv (hw_ea (hw_gE G)) t :: st) (hn : As.length = n ∧ st.length ≤ 8) (dg : decode cc pc = .ok (.invokevirtual idx, 3))
    (kk : ∀ r1 σ1, hw_K G nL rr (f r1 σ1) (pc + 3) lv (.int r1 :: st) σ1) : hw_K G nL rr (hw_bd Y f) pc lv st0 σ := by
  intro r σ' hX hc H locs ls hP hS hl
  obtain ⟨r1, σ1, hY, hf⟩ := hw_bd_some hX
  subst hst
  have hc2 := hw_c1t (hw_c1a hc)
  have hM2 := hM r1 σ1 hY
  have h := of_decide_eq_true hT
  obtain ⟨i, hi, rfl⟩ : ∃ i, i < 6 ∧ t = 900 + i := ⟨t - 900, by omega, by omega⟩
  have hrv : hw_rv (hw_ea (hw_gE G)) (900 + i) = .ref (hw_ea (hw_gE G) (900 + i)) := hw_rv_ref (by omega)
  rw [hrv] at hM2 ⊢
  have hrec := vk_recv C.2.2.2.2.2.2.2.2.1.2.2.1 hi hS
  have hr := va_runV (Ts := hw_all) (p := hw_gp G) (e := hw_ge G) (R := hw_gR G) (below := hw_gb G) (meth := hw_gM_ G) (H := H) (locs := locs) (cells := 0) (slots := 0) (C := "java/lang/String") (b := hw_ea (hw_gE G) (900 + i)) (g := F0 (hw_gm G) pc ls (As.reverse ++ .ref (hw_ea (hw_gE G) (900 + i)) :: st)) (rest := st) ⟨C.1, C.2.1, C.2.2.1, C.2.2.2.1, C.2.2.2.2.1⟩ hM2 ⟨hw_cw C hw hl0 hd, C.2.2.2.2.1 _ hs.1, C.2.2.2.2.1 _ hs.2⟩ ⟨hw_blind _ _ _, hrec, hw_pre C hP hS (.ref (hw_ea (hw_gE G) (900 + i)) :: As)⟩ rfl hn.1 hl.1 rfl (lv_room (by rw [hw_sum hc2.2]; exact hn.2)) dg ⟨Nat.zero_le _, Nat.zero_le _⟩
  exact hw_cont hr hS (fun H1 locs1 hP1 hS1 => kk r1 σ1 r σ' hf (hw_c1b hc2 (hw_bi r1)) H1 locs1 ls hP1 hS1 hl)
end HWS
