section HWM
variable {α : Type} {G : hw_G} {cc : ByteArray} {own : String} {nL d : Nat} {ret : Option FieldType} {TL : List Nat} {rr : α → Option Value} {X : Option (α × hw_St)} {pc : Nat} {lv : List (Nat × Value)} {st : List Value} {σ : hw_St}
theorem hw_T_lt {t c : Nat} (h : hw_T hw_TH t c) : t < 999 := by
  have h1 := List.mem_range.mp h.1
  omega
theorem hw_tabD {dflt lo hi : Int} {offs : Array Int} {len : Nat} {x : Int32} {tgt : Nat} {cs : List Int} (C : hw_Ok G cc own nL d ret TL) (dg : decode cc pc = .ok (.tableswitch dflt lo hi offs, len)) (hck : (List.range (hi - lo + 1).toNat).all (fun j => decide (offs[j]? = some dflt) || cs.contains (lo + (j : Int))) = true) (hx : ∀ c ∈ cs, x.toInt ≠ c) (ht : (pc : Int) + dflt = (tgt : Int)) (k : hw_K G nL rr X tgt lv st σ) : hw_K G nL rr X pc lv (.int x :: st) σ := by
  by_cases h : x.toInt < lo ∨ hi < x.toInt
  · exact hw_tabOut C dg h ht k
  · have hj : (x.toInt - lo).toNat < (hi - lo + 1).toNat := by omega
    have h1 := List.all_eq_true.mp hck _ (List.mem_range.mpr hj)
    have h2 : lo + ((x.toInt - lo).toNat : Int) = x.toInt := by omega
    rw [h2] at h1
    simp only [Bool.or_eq_true, decide_eq_true_eq, List.contains_iff_mem] at h1
    rcases h1 with h1 | h1
    · exact fun r σ' hX hc H locs ls hP hS hl => lv_tableIn C.1 C.2.1 dg (fun g => h (Or.inl g)) (fun g => h (Or.inr g)) h1 ht (k r σ' hX (hw_c1t hc) H locs ls hP hS hl)
    · exact absurd rfl (hx _ h1)
theorem hw_lookIn {dflt : Int} {ps : Array (Int × Int)} {len : Nat} {x v : Int32} {off : Int} {tgt : Nat} (C : hw_Ok G cc own nL d ret TL) (dg : decode cc pc = .ok (.lookupswitch dflt ps, len)) (hx : x = v) (hd : (ps.toList.zip (ps.toList.drop 1)).all (fun (a, next) => a.1 < next.1) = true ∧ Op.lookupswitch.offset ps.toList dflt v.toInt = off ∧ (pc : Int) + off = (tgt : Int)) (k : hw_K G nL rr X tgt lv st σ) : hw_K G nL rr X pc lv (.int x :: st) σ :=
  hw_look C dg hd.1 (by rw [hx]; exact hd.2.1) hd.2.2 k
theorem hw_lookO (x dflt : Int) : ∀ ps : List (Int × Int), (∀ q ∈ ps, x ≠ q.1) → Op.lookupswitch.offset ps dflt x = dflt := by
  intro ps
  induction ps with
  | nil => intro _; rfl
  | cons q l ih =>
    intro h
    have h1 := h q List.mem_cons_self
    have h2 := ih (fun z hz => h z (List.mem_cons_of_mem _ hz))
    obtain ⟨a, b⟩ := q
    first
      | (rw [Op.lookupswitch.offset, if_neg (fun e => h1 e.symm)]; exact h2)
      | (rw [Op.lookupswitch.offset, if_neg h1]; exact h2)
      | (simp only [Op.lookupswitch.offset] at h2 ⊢; simp_all)
theorem hw_lookD {dflt : Int} {ps : Array (Int × Int)} {len : Nat} {x : Int32} {tgt : Nat} {cs : List Int} (C : hw_Ok G cc own nL d ret TL) (dg : decode cc pc = .ok (.lookupswitch dflt ps, len)) (hd : (ps.toList.zip (ps.toList.drop 1)).all (fun (a, next) => a.1 < next.1) = true ∧ ps.toList.map (fun q => q.1) = cs) (hx : ∀ c ∈ cs, x.toInt ≠ c) (ht : (pc : Int) + dflt = (tgt : Int)) (k : hw_K G nL rr X tgt lv st σ) : hw_K G nL rr X pc lv (.int x :: st) σ :=
  hw_look C dg hd.1 (hw_lookO _ _ _ (fun q hq => hx q.1 (by rw [← hd.2]; exact List.mem_map_of_mem hq))) ht k
/-- String constants by their tags -/
def hw_gS (t : Nat) : Bool := decide (900 ≤ t ∧ t < 906)
theorem hw_gS_T {t : Nat} (h : hw_gS t = true) : hw_gS t = true := h
theorem hw_gS_900 : hw_gS 900 = true := by decide
theorem hw_gS_901 : hw_gS 901 = true := by decide
theorem hw_gS_902 : hw_gS 902 = true := by decide
theorem hw_gS_903 : hw_gS 903 = true := by decide
theorem hw_gS_904 : hw_gS 904 = true := by decide
theorem hw_gS_905 : hw_gS 905 = true := by decide
theorem hw_ldcS {idx t : Nat} {tx : String} (C : hw_Ok G cc own nL d ret TL) (hR : vk_R own idx tx (hw_ea (hw_gE G) t) (hw_gs G)) (ht : t ≠ 999) (dg : decode cc pc = .ok (.ldc idx, 2)) (k : hw_K G nL rr X (pc + 2) lv (hw_rv (hw_ea (hw_gE G)) t :: st) σ) : hw_K G nL rr X pc lv st σ := by
  intro r σ' hX hc H locs ls hP hS hl
  have k2 := k r σ' hX (hw_c1r hc) H locs ls hP hS hl
  rw [hw_rv_ref ht] at k2
  exact va_ldcS C.1 C.2.1 C.2.2.2.1 hR dg k2
end HWM
section HWN
variable {α : Type} {G : hw_G} {cc : ByteArray} {own : String} {nL d : Nat} {ret : Option FieldType} {TL : List Nat} {rr : α → Option Value} {pc : Nat} {lv : List (Nat × Value)} {st : List Value} {σ : hw_St}
theorem hw_callSi {Y : Option (Int32 × hw_St)} {f : Int32 → hw_St → Option (α × hw_St)} {y : MethodName} {cy : ByteArray} {mL n idx d2 : Nat} {ry : Option FieldType} {As st0 : List Value} (C : hw_Ok G cc own nL d ret TL) (hM : hw_M (hw_gE G) y cy mL ry d2 As σ hw_ri Y) (hw : hw_MW y cy mL ry n) (hs : Cond.static y ∈ hw_all) (hl0 : Cond.methodLink own idx y ∈ hw_all) (hd : d2 < d) (hst : st0 = As.reverse ++ st) (hn : As.length = n ∧ st.length ≤ 8) (dg : decode cc pc = .ok (.invokestatic idx, 3)) (kk : ∀ (r1 : Int32) (σ1 : hw_St), hw_K G nL rr (f r1 σ1) (pc + 3) lv (.int r1 :: st) σ1) : hw_K G nL rr (hw_bd Y f) pc lv st0 σ := hw_callS C hM hw hs hl0 hd hst hn hw_bi dg kk
theorem hw_callSNi {Y : Option (Int32 × hw_St)} {f : Int32 → hw_St → Option (α × hw_St)} {y : MethodName} {cy : ByteArray} {mL n idx d2 : Nat} {ry : Option FieldType} {As st0 : List Value} {host : String} (C : hw_Ok G cc own nL d ret TL) (hM : hw_M (hw_gE G) y cy mL ry d2 As σ hw_ri Y) (hw : hw_MW y cy mL ry n) (hs : Cond.static y ∈ hw_all) (hl0 : va_Nw (.methodLinkNest own idx y host) (hw_gs G)) (hd : d2 < d) (hst : st0 = As.reverse ++ st) (hn : As.length = n ∧ st.length ≤ 8) (dg : decode cc pc = .ok (.invokestatic idx, 3)) (kk : ∀ (r1 : Int32) (σ1 : hw_St), hw_K G nL rr (f r1 σ1) (pc + 3) lv (.int r1 :: st) σ1) : hw_K G nL rr (hw_bd Y f) pc lv st0 σ := hw_callSN C hM hw hs hl0 hd hst hn hw_bi dg kk
theorem hw_callVi {Y : Option (Int32 × hw_St)} {f : Int32 → hw_St → Option (α × hw_St)} {y : MethodName} {cy : ByteArray} {mL n idx d2 t ci N : Nat} {Cn : String} {T : u_T} {ty : Nat → FieldType} {ry : Option FieldType} {As st0 : List Value} (C : hw_Ok G cc own nL d ret TL) (hM : hw_M (hw_gE G) y cy mL ry d2 (hw_rv (hw_ea (hw_gE G)) t :: As) σ hw_ri Y) (hw : hw_MW y cy mL ry n) (hs : Cond.instanceMethod y ∈ hw_all ∧ Cond.selects Cn y y ∈ hw_all) (cf : hw_CF ci Cn T N ty) (hT : hw_T TL t ci) (hl0 : Cond.methodLink own idx y ∈ hw_all) (hd : d2 < d) (hst : st0 = As.reverse ++ hw_rv (hw_ea (hw_gE G)) t :: st) (hn : As.length = n ∧ st.length ≤ 8) (dg : decode cc pc = .ok (.invokevirtual idx, 3)) (kk : ∀ (r1 : Int32) (σ1 : hw_St), hw_K G nL rr (f r1 σ1) (pc + 3) lv (.int r1 :: st) σ1) : hw_K G nL rr (hw_bd Y f) pc lv st0 σ := hw_callV C hM hw hs cf hT hl0 hd hst hn hw_bi dg kk
theorem hw_callSv {Y : Option (Unit × hw_St)} {f : Unit → hw_St → Option (α × hw_St)} {y : MethodName} {cy : ByteArray} {mL n idx d2 : Nat} {ry : Option FieldType} {As st0 : List Value} (C : hw_Ok G cc own nL d ret TL) (hM : hw_M (hw_gE G) y cy mL ry d2 As σ hw_r0 Y) (hw : hw_MW y cy mL ry n) (hs : Cond.static y ∈ hw_all) (hl0 : Cond.methodLink own idx y ∈ hw_all) (hd : d2 < d) (hst : st0 = As.reverse ++ st) (hn : As.length = n ∧ st.length ≤ 8) (dg : decode cc pc = .ok (.invokestatic idx, 3)) (kk : ∀ (r1 : Unit) (σ1 : hw_St), hw_K G nL rr (f r1 σ1) (pc + 3) lv (st) σ1) : hw_K G nL rr (hw_bd Y f) pc lv st0 σ := hw_callS C hM hw hs hl0 hd hst hn hw_b0 dg kk
theorem hw_callSNv {Y : Option (Unit × hw_St)} {f : Unit → hw_St → Option (α × hw_St)} {y : MethodName} {cy : ByteArray} {mL n idx d2 : Nat} {ry : Option FieldType} {As st0 : List Value} {host : String} (C : hw_Ok G cc own nL d ret TL) (hM : hw_M (hw_gE G) y cy mL ry d2 As σ hw_r0 Y) (hw : hw_MW y cy mL ry n) (hs : Cond.static y ∈ hw_all) (hl0 : va_Nw (.methodLinkNest own idx y host) (hw_gs G)) (hd : d2 < d) (hst : st0 = As.reverse ++ st) (hn : As.length = n ∧ st.length ≤ 8) (dg : decode cc pc = .ok (.invokestatic idx, 3)) (kk : ∀ (r1 : Unit) (σ1 : hw_St), hw_K G nL rr (f r1 σ1) (pc + 3) lv (st) σ1) : hw_K G nL rr (hw_bd Y f) pc lv st0 σ := hw_callSN C hM hw hs hl0 hd hst hn hw_b0 dg kk
theorem hw_callVv {Y : Option (Unit × hw_St)} {f : Unit → hw_St → Option (α × hw_St)} {y : MethodName} {cy : ByteArray} {mL n idx d2 t ci N : Nat} {Cn : String} {T : u_T} {ty : Nat → FieldType} {ry : Option FieldType} {As st0 : List Value} (C : hw_Ok G cc own nL d ret TL) (hM : hw_M (hw_gE G) y cy mL ry d2 (hw_rv (hw_ea (hw_gE G)) t :: As) σ hw_r0 Y) (hw : hw_MW y cy mL ry n) (hs : Cond.instanceMethod y ∈ hw_all ∧ Cond.selects Cn y y ∈ hw_all) (cf : hw_CF ci Cn T N ty) (hT : hw_T TL t ci) (hl0 : Cond.methodLink own idx y ∈ hw_all) (hd : d2 < d) (hst : st0 = As.reverse ++ hw_rv (hw_ea (hw_gE G)) t :: st) (hn : As.length = n ∧ st.length ≤ 8) (dg : decode cc pc = .ok (.invokevirtual idx, 3)) (kk : ∀ (r1 : Unit) (σ1 : hw_St), hw_K G nL rr (f r1 σ1) (pc + 3) lv (st) σ1) : hw_K G nL rr (hw_bd Y f) pc lv st0 σ := hw_callV C hM hw hs cf hT hl0 hd hst hn hw_b0 dg kk
theorem hw_callSq {Y : Option (Nat × hw_St)} {f : Nat → hw_St → Option (α × hw_St)} {y : MethodName} {cy : ByteArray} {mL n idx d2 : Nat} {ry : Option FieldType} {As st0 : List Value} (C : hw_Ok G cc own nL d ret TL) (hM : hw_M (hw_gE G) y cy mL ry d2 As σ (hw_rq (hw_ea (hw_gE G))) Y) (hw : hw_MW y cy mL ry n) (hs : Cond.static y ∈ hw_all) (hl0 : Cond.methodLink own idx y ∈ hw_all) (hd : d2 < d) (hst : st0 = As.reverse ++ st) (hn : As.length = n ∧ st.length ≤ 8) (dg : decode cc pc = .ok (.invokestatic idx, 3)) (kk : ∀ (r1 : Nat) (σ1 : hw_St), hw_K G nL rr (f r1 σ1) (pc + 3) lv (hw_rv (hw_ea (hw_gE G)) r1 :: st) σ1) : hw_K G nL rr (hw_bd Y f) pc lv st0 σ := hw_callS C hM hw hs hl0 hd hst hn (hw_bq _) dg kk
theorem hw_callSNq {Y : Option (Nat × hw_St)} {f : Nat → hw_St → Option (α × hw_St)} {y : MethodName} {cy : ByteArray} {mL n idx d2 : Nat} {ry : Option FieldType} {As st0 : List Value} {host : String} (C : hw_Ok G cc own nL d ret TL) (hM : hw_M (hw_gE G) y cy mL ry d2 As σ (hw_rq (hw_ea (hw_gE G))) Y) (hw : hw_MW y cy mL ry n) (hs : Cond.static y ∈ hw_all) (hl0 : va_Nw (.methodLinkNest own idx y host) (hw_gs G)) (hd : d2 < d) (hst : st0 = As.reverse ++ st) (hn : As.length = n ∧ st.length ≤ 8) (dg : decode cc pc = .ok (.invokestatic idx, 3)) (kk : ∀ (r1 : Nat) (σ1 : hw_St), hw_K G nL rr (f r1 σ1) (pc + 3) lv (hw_rv (hw_ea (hw_gE G)) r1 :: st) σ1) : hw_K G nL rr (hw_bd Y f) pc lv st0 σ := hw_callSN C hM hw hs hl0 hd hst hn (hw_bq _) dg kk
theorem hw_callVq {Y : Option (Nat × hw_St)} {f : Nat → hw_St → Option (α × hw_St)} {y : MethodName} {cy : ByteArray} {mL n idx d2 t ci N : Nat} {Cn : String} {T : u_T} {ty : Nat → FieldType} {ry : Option FieldType} {As st0 : List Value} (C : hw_Ok G cc own nL d ret TL) (hM : hw_M (hw_gE G) y cy mL ry d2 (hw_rv (hw_ea (hw_gE G)) t :: As) σ (hw_rq (hw_ea (hw_gE G))) Y) (hw : hw_MW y cy mL ry n) (hs : Cond.instanceMethod y ∈ hw_all ∧ Cond.selects Cn y y ∈ hw_all) (cf : hw_CF ci Cn T N ty) (hT : hw_T TL t ci) (hl0 : Cond.methodLink own idx y ∈ hw_all) (hd : d2 < d) (hst : st0 = As.reverse ++ hw_rv (hw_ea (hw_gE G)) t :: st) (hn : As.length = n ∧ st.length ≤ 8) (dg : decode cc pc = .ok (.invokevirtual idx, 3)) (kk : ∀ (r1 : Nat) (σ1 : hw_St), hw_K G nL rr (f r1 σ1) (pc + 3) lv (hw_rv (hw_ea (hw_gE G)) r1 :: st) σ1) : hw_K G nL rr (hw_bd Y f) pc lv st0 σ := hw_callV C hM hw hs cf hT hl0 hd hst hn (hw_bq _) dg kk
end HWN
