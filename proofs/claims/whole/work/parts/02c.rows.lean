section HWR
variable {α : Type} {G : hw_G} {cc : ByteArray} {own : String} {nL d : Nat} {ret : Option FieldType} {TL : List Nat} {rr : α → Option Value} {X : Option (α × hw_St)} {pc : Nat} {lv : List (Nat × Value)} {st : List Value} {σ : hw_St}
theorem hw_c1i {lv : List (Nat × Value)} {st : List Value} {x : Int32} (h : hw_c1 lv st) : hw_c1 lv (.int x :: st) := ⟨h.1, fun v hv => by
  rcases List.mem_cons.mp hv with rfl | h1
  · rfl
  · exact h.2 v h1⟩
theorem hw_c1r {lv : List (Nat × Value)} {st : List Value} {ad : Nat → Nat} {t : Nat} (h : hw_c1 lv st) : hw_c1 lv (hw_rv ad t :: st) := ⟨h.1, fun v hv => by
  rcases List.mem_cons.mp hv with rfl | h1
  · exact hw_rv_cat ad t
  · exact h.2 v h1⟩
theorem hw_c1t {lv : List (Nat × Value)} {st : List Value} {w : Value} (h : hw_c1 lv (w :: st)) : hw_c1 lv st := ⟨h.1, fun v hv => h.2 v (List.mem_cons_of_mem _ hv)⟩
theorem hw_c1v {lv : List (Nat × Value)} {st : List Value} {w : Value} (h : hw_c1 lv st) (hw : w.category = 1) : hw_c1 lv (w :: st) := ⟨h.1, fun v hv => by
  rcases List.mem_cons.mp hv with rfl | h1
  · exact hw
  · exact h.2 v h1⟩
theorem hw_c1s {lv lv' : List (Nat × Value)} {st : List Value} {i : Nat} {w : Value} (h : hw_c1 lv st) (hw : w.category = 1) (hl : (i, w) :: lv.filter (fun q => !(q.1 == i)) = lv') : hw_c1 lv' st := ⟨fun q hq => by
  rw [← hl] at hq
  rcases List.mem_cons.mp hq with rfl | h1
  · exact hw
  · exact h.1 q (List.mem_filter.mp h1).1, h.2⟩
theorem hw_filt {lv : List (Nat × Value)} {i : Nat} (h : ∀ q ∈ lv, q.2.category = 1) : lv.filter (fun q => !(q.1 == i) && !(q.1 + 1 == i && q.2.category == 2)) = lv.filter (fun q => !(q.1 == i)) := by
  apply List.filter_congr
  intro q hq
  rw [h q hq]
  simp
theorem hw_sum {st : List Value} (h : ∀ v ∈ st, v.category = 1) : (st.map fun v => v.category).sum = st.length := by
  induction st with
  | nil => rfl
  | cons a l ih =>
    rw [List.map_cons, List.sum_cons, ih (fun v hv => h v (List.mem_cons_of_mem _ hv)), h a List.mem_cons_self, List.length_cons]
    omega
theorem hw_nil : hw_K G nL rr none pc lv st σ := fun _ _ h => by cases h
theorem hw_eq {Y : Option (α × hw_St)} (h : X = Y) (k : hw_K G nL rr Y pc lv st σ) : hw_K G nL rr X pc lv st σ := h ▸ k
theorem hw_gdK {b : Bool} (k : b = true → hw_K G nL rr X pc lv st σ) : hw_K G nL rr (hw_gd b X) pc lv st σ := by
  intro r σ' hX
  unfold hw_gd at hX
  split at hX
  · next h => exact k h r σ' hX
  · cases hX
theorem hw_ifK {c : Prop} [Decidable c] {Y : Option (α × hw_St)} (kt : c → hw_K G nL rr X pc lv st σ) (kf : ¬ c → hw_K G nL rr Y pc lv st σ) : hw_K G nL rr (if c then X else Y) pc lv st σ := by
  by_cases h : c
  · rw [if_pos h]; exact kt h
  · rw [if_neg h]; exact kf h
theorem hw_lv {lv2 : List (Nat × Value)} (ks : List Nat) (h : lv_pick lv ks = lv2) (k : hw_K G nL rr X pc lv2 st σ) : hw_K G nL rr X pc lv st σ := by
  intro r σ' hX hc H locs ls hP hS hl
  refine k r σ' hX ⟨fun q hq => ?_, hc.2⟩ H locs ls hP hS (lv_sub hl ks h)
  rw [← h] at hq
  obtain ⟨i, -, hi⟩ := List.mem_filterMap.mp hq
  exact hc.1 q (List.mem_of_getElem? hi)
theorem hw_iconst (C : hw_Ok G cc own nL d ret TL) {n : Int} {v : Int32} (dg : decode cc pc = .ok (.iconst n, 1)) (hv : Int32.ofInt n = v) (k : hw_K G nL rr X (pc + 1) lv (.int v :: st) σ) : hw_K G nL rr X (pc) lv (st) σ := fun r σ' hX hc H locs ls hP hS hl => lv_iconst C.1 C.2.1 dg hv (k r σ' hX (hw_c1i hc) H locs ls hP hS hl)
theorem hw_bipush (C : hw_Ok G cc own nL d ret TL) {n : Int} {v : Int32} (dg : decode cc pc = .ok (.bipush n, 2)) (hv : (Int8.ofInt n).toInt32 = v) (k : hw_K G nL rr X (pc + 2) lv (.int v :: st) σ) : hw_K G nL rr X (pc) lv (st) σ := fun r σ' hX hc H locs ls hP hS hl => lv_bipush C.1 C.2.1 dg hv (k r σ' hX (hw_c1i hc) H locs ls hP hS hl)
theorem hw_sipush (C : hw_Ok G cc own nL d ret TL) {n : Int} {v : Int32} (dg : decode cc pc = .ok (.sipush n, 3)) (hv : (Int16.ofInt n).toInt32 = v) (k : hw_K G nL rr X (pc + 3) lv (.int v :: st) σ) : hw_K G nL rr X (pc) lv (st) σ := fun r σ' hX hc H locs ls hP hS hl => lv_sipush C.1 C.2.1 dg hv (k r σ' hX (hw_c1i hc) H locs ls hP hS hl)
theorem hw_ldc (C : hw_Ok G cc own nL d ret TL) {idx : Nat} {v : Int32} (hw : Cond.constant own idx v ∈ hw_all) (dg : decode cc pc = .ok (.ldc idx, 2)) (k : hw_K G nL rr X (pc + 2) lv (.int v :: st) σ) : hw_K G nL rr X (pc) lv (st) σ := fun r σ' hX hc H locs ls hP hS hl => lv_ldc C.1 C.2.1 C.2.2.2.1 (C.2.2.2.2.1 _ hw) dg (k r σ' hX (hw_c1i hc) H locs ls hP hS hl)
theorem hw_ldcw (C : hw_Ok G cc own nL d ret TL) {idx : Nat} {v : Int32} (hw : Cond.constant own idx v ∈ hw_all) (dg : decode cc pc = .ok (.ldc_w idx, 3)) (k : hw_K G nL rr X (pc + 3) lv (.int v :: st) σ) : hw_K G nL rr X (pc) lv (st) σ := fun r σ' hX hc H locs ls hP hS hl => lv_ldcw C.1 C.2.1 C.2.2.2.1 (C.2.2.2.2.1 _ hw) dg (k r σ' hX (hw_c1i hc) H locs ls hP hS hl)
theorem hw_null (C : hw_Ok G cc own nL d ret TL) (dg : decode cc pc = .ok (.aconst_null, 1)) (k : hw_K G nL rr X (pc + 1) lv (hw_rv (hw_ea (hw_gE G)) 999 :: st) σ) : hw_K G nL rr X (pc) lv (st) σ := fun r σ' hX hc H locs ls hP hS hl => lv_null C.1 C.2.1 dg (k r σ' hX (hw_c1r hc) H locs ls hP hS hl)
theorem hw_iload_n (C : hw_Ok G cc own nL d ret TL) {n : Fin 4} {i : Nat} {x : Int32} (dg : decode cc pc = .ok (.iload_n n, 1)) (hi : (n : Nat) = i) (j : Nat) (hj : lv[j]? = some (i, .int x)) (k : hw_K G nL rr X (pc + 1) lv (.int x :: st) σ) : hw_K G nL rr X (pc) lv (st) σ := fun r σ' hX hc H locs ls hP hS hl => lv_iload_n C.1 C.2.1 dg hi (lv_at hl j hj) (k r σ' hX (hw_c1i hc) H locs ls hP hS hl)
theorem hw_iload (C : hw_Ok G cc own nL d ret TL) {i : Nat} {x : Int32} (dg : decode cc pc = .ok (.iload i, 2)) (j : Nat) (hj : lv[j]? = some (i, .int x)) (k : hw_K G nL rr X (pc + 2) lv (.int x :: st) σ) : hw_K G nL rr X (pc) lv (st) σ := fun r σ' hX hc H locs ls hP hS hl => lv_iload C.1 C.2.1 dg (lv_at hl j hj) (k r σ' hX (hw_c1i hc) H locs ls hP hS hl)
theorem hw_aload_n (C : hw_Ok G cc own nL d ret TL) {n : Fin 4} {i t : Nat} {ad : Nat → Nat} (dg : decode cc pc = .ok (.aload_n n, 1)) (hi : (n : Nat) = i) (j : Nat) (hj : lv[j]? = some (i, hw_rv ad t)) (k : hw_K G nL rr X (pc + 1) lv (hw_rv ad t :: st) σ) : hw_K G nL rr X (pc) lv (st) σ := by
  intro r σ' hX hc H locs ls hP hS hl
  have h := lv_at hl j hj
  have k2 := k r σ' hX (hw_c1r hc) H locs ls hP hS hl
  unfold hw_rv at h k2
  split at h
  · next e => rw [if_pos e] at k2; exact lv_aload_nN C.1 C.2.1 dg hi h k2
  · next e => rw [if_neg e] at k2; exact lv_aload_n C.1 C.2.1 dg hi h k2
theorem hw_aload (C : hw_Ok G cc own nL d ret TL) {i t : Nat} {ad : Nat → Nat} (dg : decode cc pc = .ok (.aload i, 2)) (j : Nat) (hj : lv[j]? = some (i, hw_rv ad t)) (k : hw_K G nL rr X (pc + 2) lv (hw_rv ad t :: st) σ) : hw_K G nL rr X (pc) lv (st) σ := by
  intro r σ' hX hc H locs ls hP hS hl
  have h := lv_at hl j hj
  have k2 := k r σ' hX (hw_c1r hc) H locs ls hP hS hl
  unfold hw_rv at h k2
  split at h
  · next e => rw [if_pos e] at k2; exact lv_aloadN C.1 C.2.1 dg h k2
  · next e => rw [if_neg e] at k2; exact lv_aload C.1 C.2.1 dg h k2
theorem hw_istore_n (C : hw_Ok G cc own nL d ret TL) {n : Fin 4} {i : Nat} {e : Int32} (dg : decode cc pc = .ok (.istore_n n, 1)) (hi : (n : Nat) = i) (hn : i < nL) {lv2 : List (Nat × Value)} (hl2 : (i, Value.int e) :: lv.filter (fun q => !(q.1 == i)) = lv2) (k : hw_K G nL rr X (pc + 1) lv2 st σ) : hw_K G nL rr X pc lv (.int e :: st) σ := by
  intro r σ' hX hc H locs ls hP hS hl
  exact lv_istore_n C.1 C.2.1 dg hi hl hn (by rw [hw_filt hc.1]; exact hl2) (fun ls' hl' => k r σ' hX (hw_c1s (hw_c1t hc) rfl hl2) H locs ls' hP hS hl')
theorem hw_istore_nN (C : hw_Ok G cc own nL d ret TL) {n : Fin 4} {i : Nat} {e : Int32} {f : Int32 → Option (α × hw_St)} (dg : decode cc pc = .ok (.istore_n n, 1)) (hi : (n : Nat) = i) (hn : i < nL) {lv2 : Int32 → List (Nat × Value)} (hl2 : ∀ x : Int32, (i, Value.int x) :: lv.filter (fun q => !(q.1 == i)) = lv2 x) (k : ∀ x : Int32, hw_K G nL rr (f x) (pc + 1) (lv2 x) st σ) : hw_K G nL rr (hw_nm e f) pc lv (.int e :: st) σ := by
  intro r σ' hX hc H locs ls hP hS hl
  exact lv_istore_n C.1 C.2.1 dg hi hl hn (by rw [hw_filt hc.1]; exact hl2 e) (fun ls' hl' => k e r σ' hX (hw_c1s (hw_c1t hc) rfl (hl2 e)) H locs ls' hP hS hl')
theorem hw_istore (C : hw_Ok G cc own nL d ret TL) {i : Nat} {e : Int32} (dg : decode cc pc = .ok (.istore i, 2)) (hn : i < nL) {lv2 : List (Nat × Value)} (hl2 : (i, Value.int e) :: lv.filter (fun q => !(q.1 == i)) = lv2) (k : hw_K G nL rr X (pc + 2) lv2 st σ) : hw_K G nL rr X pc lv (.int e :: st) σ := by
  intro r σ' hX hc H locs ls hP hS hl
  exact lv_istore C.1 C.2.1 dg hl hn (by rw [hw_filt hc.1]; exact hl2) (fun ls' hl' => k r σ' hX (hw_c1s (hw_c1t hc) rfl hl2) H locs ls' hP hS hl')
theorem hw_istoreN (C : hw_Ok G cc own nL d ret TL) {i : Nat} {e : Int32} {f : Int32 → Option (α × hw_St)} (dg : decode cc pc = .ok (.istore i, 2)) (hn : i < nL) {lv2 : Int32 → List (Nat × Value)} (hl2 : ∀ x : Int32, (i, Value.int x) :: lv.filter (fun q => !(q.1 == i)) = lv2 x) (k : ∀ x : Int32, hw_K G nL rr (f x) (pc + 2) (lv2 x) st σ) : hw_K G nL rr (hw_nm e f) pc lv (.int e :: st) σ := by
  intro r σ' hX hc H locs ls hP hS hl
  exact lv_istore C.1 C.2.1 dg hl hn (by rw [hw_filt hc.1]; exact hl2 e) (fun ls' hl' => k e r σ' hX (hw_c1s (hw_c1t hc) rfl (hl2 e)) H locs ls' hP hS hl')
theorem hw_astore_n (C : hw_Ok G cc own nL d ret TL) {n : Fin 4} {i t : Nat} {ad : Nat → Nat} (dg : decode cc pc = .ok (.astore_n n, 1)) (hi : (n : Nat) = i) (hn : i < nL) {lv2 : List (Nat × Value)} (hl2 : (i, hw_rv ad t) :: lv.filter (fun q => !(q.1 == i)) = lv2) (k : hw_K G nL rr X (pc + 1) lv2 st σ) : hw_K G nL rr X pc lv (hw_rv ad t :: st) σ := by
  intro r σ' hX hc H locs ls hP hS hl
  have hc2 := hw_c1s (hw_c1t hc) (hw_rv_cat ad t) hl2
  have k2 := fun ls' hl' => k r σ' hX hc2 H locs ls' hP hS hl'
  have hl3 : (i, hw_rv ad t) :: lv.filter (fun q => !(q.1 == i) && !(q.1 + 1 == i && q.2.category == 2)) = lv2 := by rw [hw_filt hc.1]; exact hl2
  by_cases e : t = 999
  · have e2 : hw_rv ad t = .null := if_pos e
    rw [e2] at hl3 ⊢
    exact lv_astore_nN C.1 C.2.1 dg hi hl hn hl3 k2
  · have e2 : hw_rv ad t = .ref (ad t) := if_neg e
    rw [e2] at hl3 ⊢
    exact lv_astore_n C.1 C.2.1 dg hi hl hn hl3 k2
theorem hw_astore (C : hw_Ok G cc own nL d ret TL) {i t : Nat} {ad : Nat → Nat} (dg : decode cc pc = .ok (.astore i, 2)) (hn : i < nL) {lv2 : List (Nat × Value)} (hl2 : (i, hw_rv ad t) :: lv.filter (fun q => !(q.1 == i)) = lv2) (k : hw_K G nL rr X (pc + 2) lv2 st σ) : hw_K G nL rr X pc lv (hw_rv ad t :: st) σ := by
  intro r σ' hX hc H locs ls hP hS hl
  have hc2 := hw_c1s (hw_c1t hc) (hw_rv_cat ad t) hl2
  have k2 := fun ls' hl' => k r σ' hX hc2 H locs ls' hP hS hl'
  have hl3 : (i, hw_rv ad t) :: lv.filter (fun q => !(q.1 == i) && !(q.1 + 1 == i && q.2.category == 2)) = lv2 := by rw [hw_filt hc.1]; exact hl2
  by_cases e : t = 999
  · have e2 : hw_rv ad t = .null := if_pos e
    rw [e2] at hl3 ⊢
    exact lv_astoreN C.1 C.2.1 dg hl hn hl3 k2
  · have e2 : hw_rv ad t = .ref (ad t) := if_neg e
    rw [e2] at hl3 ⊢
    exact lv_astore C.1 C.2.1 dg hl hn hl3 k2
theorem hw_iinc (C : hw_Ok G cc own nL d ret TL) {i : Nat} {z : Int} {x v : Int32} (dg : decode cc pc = .ok (.iinc i z, 3)) (j : Nat) (hj : lv[j]? = some (i, .int x)) (hv : Int32.ofInt z = v) (hn : i < nL) {lv2 : List (Nat × Value)} (hl2 : (i, Value.int (x + v)) :: lv.filter (fun q => !(q.1 == i)) = lv2) (k : hw_K G nL rr X (pc + 3) lv2 st σ) : hw_K G nL rr X pc lv st σ := by
  intro r σ' hX hc H locs ls hP hS hl
  exact lv_iinc C.1 C.2.1 dg hl hj (by rw [hv]) hn (by rw [hw_filt hc.1]; exact hl2) (fun ls' hl' => k r σ' hX (hw_c1s hc rfl hl2) H locs ls' hP hS hl')
theorem hw_iadd (C : hw_Ok G cc own nL d ret TL) {x y : Int32} (dg : decode cc pc = .ok (.iadd, 1)) (k : hw_K G nL rr X (pc + 1) lv (.int (x + y) :: st) σ) : hw_K G nL rr X (pc) lv (.int y :: .int x :: st) σ := fun r σ' hX hc H locs ls hP hS hl => lv_iadd C.1 C.2.1 dg (k r σ' hX (hw_c1i (hw_c1t (hw_c1t hc))) H locs ls hP hS hl)
theorem hw_isub (C : hw_Ok G cc own nL d ret TL) {x y : Int32} (dg : decode cc pc = .ok (.isub, 1)) (k : hw_K G nL rr X (pc + 1) lv (.int (x - y) :: st) σ) : hw_K G nL rr X (pc) lv (.int y :: .int x :: st) σ := fun r σ' hX hc H locs ls hP hS hl => lv_isub C.1 C.2.1 dg (k r σ' hX (hw_c1i (hw_c1t (hw_c1t hc))) H locs ls hP hS hl)
theorem hw_imul (C : hw_Ok G cc own nL d ret TL) {x y : Int32} (dg : decode cc pc = .ok (.imul, 1)) (k : hw_K G nL rr X (pc + 1) lv (.int (x * y) :: st) σ) : hw_K G nL rr X (pc) lv (.int y :: .int x :: st) σ := fun r σ' hX hc H locs ls hP hS hl => lv_imul C.1 C.2.1 dg (k r σ' hX (hw_c1i (hw_c1t (hw_c1t hc))) H locs ls hP hS hl)
theorem hw_iand (C : hw_Ok G cc own nL d ret TL) {x y : Int32} (dg : decode cc pc = .ok (.iand, 1)) (k : hw_K G nL rr X (pc + 1) lv (.int (x &&& y) :: st) σ) : hw_K G nL rr X (pc) lv (.int y :: .int x :: st) σ := fun r σ' hX hc H locs ls hP hS hl => lv_iand C.1 C.2.1 dg (k r σ' hX (hw_c1i (hw_c1t (hw_c1t hc))) H locs ls hP hS hl)
theorem hw_ior (C : hw_Ok G cc own nL d ret TL) {x y : Int32} (dg : decode cc pc = .ok (.ior, 1)) (k : hw_K G nL rr X (pc + 1) lv (.int (x ||| y) :: st) σ) : hw_K G nL rr X (pc) lv (.int y :: .int x :: st) σ := fun r σ' hX hc H locs ls hP hS hl => lv_ior C.1 C.2.1 dg (k r σ' hX (hw_c1i (hw_c1t (hw_c1t hc))) H locs ls hP hS hl)
theorem hw_ixor (C : hw_Ok G cc own nL d ret TL) {x y : Int32} (dg : decode cc pc = .ok (.ixor, 1)) (k : hw_K G nL rr X (pc + 1) lv (.int (x ^^^ y) :: st) σ) : hw_K G nL rr X (pc) lv (.int y :: .int x :: st) σ := fun r σ' hX hc H locs ls hP hS hl => lv_ixor C.1 C.2.1 dg (k r σ' hX (hw_c1i (hw_c1t (hw_c1t hc))) H locs ls hP hS hl)
theorem hw_ishl (C : hw_Ok G cc own nL d ret TL) {x y : Int32} (dg : decode cc pc = .ok (.ishl, 1)) (k : hw_K G nL rr X (pc + 1) lv (.int (x <<< (y &&& 31)) :: st) σ) : hw_K G nL rr X (pc) lv (.int y :: .int x :: st) σ := fun r σ' hX hc H locs ls hP hS hl => lv_ishl C.1 C.2.1 dg (k r σ' hX (hw_c1i (hw_c1t (hw_c1t hc))) H locs ls hP hS hl)
theorem hw_ishr (C : hw_Ok G cc own nL d ret TL) {x y : Int32} (dg : decode cc pc = .ok (.ishr, 1)) (k : hw_K G nL rr X (pc + 1) lv (.int (x >>> (y &&& 31)) :: st) σ) : hw_K G nL rr X (pc) lv (.int y :: .int x :: st) σ := fun r σ' hX hc H locs ls hP hS hl => lv_ishr C.1 C.2.1 dg (k r σ' hX (hw_c1i (hw_c1t (hw_c1t hc))) H locs ls hP hS hl)
theorem hw_iushr (C : hw_Ok G cc own nL d ret TL) {x y : Int32} (dg : decode cc pc = .ok (.iushr, 1)) (k : hw_K G nL rr X (pc + 1) lv (.int (hw_ushr x y) :: st) σ) : hw_K G nL rr X (pc) lv (.int y :: .int x :: st) σ := fun r σ' hX hc H locs ls hP hS hl => lv_iushr C.1 C.2.1 dg rfl (k r σ' hX (hw_c1i (hw_c1t (hw_c1t hc))) H locs ls hP hS hl)
theorem hw_idivC (C : hw_Ok G cc own nL d ret TL) {x y : Int32} (dg : decode cc pc = .ok (.idiv, 1)) (hne : ¬ y = 0) (k : hw_K G nL rr X (pc + 1) lv (.int (x / y) :: st) σ) : hw_K G nL rr X (pc) lv (.int y :: .int x :: st) σ := fun r σ' hX hc H locs ls hP hS hl => lv_idiv C.1 C.2.1 dg hne (k r σ' hX (hw_c1i (hw_c1t (hw_c1t hc))) H locs ls hP hS hl)
theorem hw_idiv (C : hw_Ok G cc own nL d ret TL) {x y : Int32} (dg : decode cc pc = .ok (.idiv, 1)) (k : hw_K G nL rr X (pc + 1) lv (.int (x / y) :: st) σ) : hw_K G nL rr (hw_gd (hw_nz y) X) (pc) lv (.int y :: .int x :: st) σ := hw_gdK (fun h => hw_idivC C dg (of_decide_eq_true h) k)
theorem hw_iremC (C : hw_Ok G cc own nL d ret TL) {x y : Int32} (dg : decode cc pc = .ok (.irem, 1)) (hne : ¬ y = 0) (k : hw_K G nL rr X (pc + 1) lv (.int (hw_rem x y) :: st) σ) : hw_K G nL rr X (pc) lv (.int y :: .int x :: st) σ := fun r σ' hX hc H locs ls hP hS hl => lv_irem C.1 C.2.1 dg hne (k r σ' hX (hw_c1i (hw_c1t (hw_c1t hc))) H locs ls hP hS hl)
theorem hw_irem (C : hw_Ok G cc own nL d ret TL) {x y : Int32} (dg : decode cc pc = .ok (.irem, 1)) (k : hw_K G nL rr X (pc + 1) lv (.int (hw_rem x y) :: st) σ) : hw_K G nL rr (hw_gd (hw_nz y) X) (pc) lv (.int y :: .int x :: st) σ := hw_gdK (fun h => hw_iremC C dg (of_decide_eq_true h) k)
theorem hw_ineg (C : hw_Ok G cc own nL d ret TL) {x : Int32} (dg : decode cc pc = .ok (.ineg, 1)) (k : hw_K G nL rr X (pc + 1) lv (.int (-x) :: st) σ) : hw_K G nL rr X (pc) lv (.int x :: st) σ := fun r σ' hX hc H locs ls hP hS hl => lv_ineg C.1 C.2.1 dg (k r σ' hX (hw_c1i (hw_c1t hc)) H locs ls hP hS hl)
theorem hw_c_i2b (C : hw_Ok G cc own nL d ret TL) {x : Int32} (dg : decode cc pc = .ok (.i2b, 1)) (k : hw_K G nL rr X (pc + 1) lv (.int (x.toInt8.toInt32) :: st) σ) : hw_K G nL rr X (pc) lv (.int x :: st) σ := fun r σ' hX hc H locs ls hP hS hl => lv_i2b C.1 C.2.1 dg rfl (k r σ' hX (hw_c1i (hw_c1t hc)) H locs ls hP hS hl)
theorem hw_c_i2s (C : hw_Ok G cc own nL d ret TL) {x : Int32} (dg : decode cc pc = .ok (.i2s, 1)) (k : hw_K G nL rr X (pc + 1) lv (.int (x.toInt16.toInt32) :: st) σ) : hw_K G nL rr X (pc) lv (.int x :: st) σ := fun r σ' hX hc H locs ls hP hS hl => lv_i2s C.1 C.2.1 dg rfl (k r σ' hX (hw_c1i (hw_c1t hc)) H locs ls hP hS hl)
theorem hw_c_i2c (C : hw_Ok G cc own nL d ret TL) {x : Int32} (dg : decode cc pc = .ok (.i2c, 1)) (k : hw_K G nL rr X (pc + 1) lv (.int (hw_i2c x) :: st) σ) : hw_K G nL rr X (pc) lv (.int x :: st) σ := fun r σ' hX hc H locs ls hP hS hl => lv_i2c C.1 C.2.1 dg rfl (k r σ' hX (hw_c1i (hw_c1t hc)) H locs ls hP hS hl)
theorem hw_dup (C : hw_Ok G cc own nL d ret TL) {v : Value} (dg : decode cc pc = .ok (.dup, 1)) (k : hw_K G nL rr X (pc + 1) lv (v :: v :: st) σ) : hw_K G nL rr X pc lv (v :: st) σ :=
  fun r σ' hX hc H locs ls hP hS hl => lv_dup C.1 C.2.1 dg (hc.2 v List.mem_cons_self) (k r σ' hX (hw_c1v hc (hc.2 v List.mem_cons_self)) H locs ls hP hS hl)
theorem hw_pop (C : hw_Ok G cc own nL d ret TL) {v : Value} (dg : decode cc pc = .ok (.pop, 1)) (k : hw_K G nL rr X (pc + 1) lv st σ) : hw_K G nL rr X pc lv (v :: st) σ :=
  fun r σ' hX hc H locs ls hP hS hl => lv_pop C.1 C.2.1 dg (hc.2 v List.mem_cons_self) (k r σ' hX (hw_c1t hc) H locs ls hP hS hl)
theorem hw_dup2 (C : hw_Ok G cc own nL d ret TL) {v w : Value} (dg : decode cc pc = .ok (.dup2, 1)) (k : hw_K G nL rr X (pc + 1) lv (v :: w :: v :: w :: st) σ) : hw_K G nL rr X pc lv (v :: w :: st) σ :=
  fun r σ' hX hc H locs ls hP hS hl => lv_dup2_11 C.1 C.2.1 dg (hc.2 v List.mem_cons_self) (hc.2 w (List.mem_cons_of_mem _ List.mem_cons_self)) (k r σ' hX (hw_c1v (hw_c1v hc (hc.2 w (List.mem_cons_of_mem _ List.mem_cons_self))) (hc.2 v List.mem_cons_self)) H locs ls hP hS hl)
theorem hw_dup_x1 (C : hw_Ok G cc own nL d ret TL) {v w : Value} (dg : decode cc pc = .ok (.dup_x1, 1)) (k : hw_K G nL rr X (pc + 1) lv (v :: w :: v :: st) σ) : hw_K G nL rr X pc lv (v :: w :: st) σ :=
  fun r σ' hX hc H locs ls hP hS hl => lv_dup_x1 C.1 C.2.1 dg (hc.2 v List.mem_cons_self) (hc.2 w (List.mem_cons_of_mem _ List.mem_cons_self)) (k r σ' hX (hw_c1v (hw_c1v (hw_c1v (hw_c1t (hw_c1t hc)) (hc.2 v List.mem_cons_self)) (hc.2 w (List.mem_cons_of_mem _ List.mem_cons_self))) (hc.2 v List.mem_cons_self)) H locs ls hP hS hl)
theorem hw_if_eq (C : hw_Ok G cc own nL d ret TL) {x : Int32} {off : Int} {tgt : Nat} {Y : Option (α × hw_St)} (dg : decode cc pc = .ok (.ifCond .eq off, 3)) (ht : (pc : Int) + off = (tgt : Int)) (kt : x = 0 → hw_K G nL rr X tgt lv st σ) (kf : ¬ (x = 0) → hw_K G nL rr Y (pc + 3) lv st σ) : hw_K G nL rr (if x = 0 then X else Y) pc lv (.int x :: st) σ :=
  hw_ifK (fun h r σ' hX hc H locs ls hP hS hl => lv_if_eq C.1 C.2.1 dg ht (fun _ => kt h r σ' hX (hw_c1t hc) H locs ls hP hS hl) (fun g => absurd h g)) (fun h r σ' hX hc H locs ls hP hS hl => lv_if_eq C.1 C.2.1 dg ht (fun g => absurd g h) (fun _ => kf h r σ' hX (hw_c1t hc) H locs ls hP hS hl))
theorem hw_icmp_eq (C : hw_Ok G cc own nL d ret TL) {x y : Int32} {off : Int} {tgt : Nat} {Y : Option (α × hw_St)} (dg : decode cc pc = .ok (.if_icmp .eq off, 3)) (ht : (pc : Int) + off = (tgt : Int)) (kt : x = y → hw_K G nL rr X tgt lv st σ) (kf : ¬ (x = y) → hw_K G nL rr Y (pc + 3) lv st σ) : hw_K G nL rr (if x = y then X else Y) pc lv (.int y :: .int x :: st) σ :=
  hw_ifK (fun h r σ' hX hc H locs ls hP hS hl => lv_icmp_eq C.1 C.2.1 dg ht (fun _ => kt h r σ' hX (hw_c1t (hw_c1t hc)) H locs ls hP hS hl) (fun g => absurd h g)) (fun h r σ' hX hc H locs ls hP hS hl => lv_icmp_eq C.1 C.2.1 dg ht (fun g => absurd g h) (fun _ => kf h r σ' hX (hw_c1t (hw_c1t hc)) H locs ls hP hS hl))
theorem hw_if_ne (C : hw_Ok G cc own nL d ret TL) {x : Int32} {off : Int} {tgt : Nat} {Y : Option (α × hw_St)} (dg : decode cc pc = .ok (.ifCond .ne off, 3)) (ht : (pc : Int) + off = (tgt : Int)) (kt : ¬ x = 0 → hw_K G nL rr X tgt lv st σ) (kf : x = 0 → hw_K G nL rr Y (pc + 3) lv st σ) : hw_K G nL rr (if x = 0 then Y else X) pc lv (.int x :: st) σ :=
  hw_ifK (fun h r σ' hX hc H locs ls hP hS hl => lv_if_ne C.1 C.2.1 dg ht (fun g => absurd h g) (fun _ => kf h r σ' hX (hw_c1t hc) H locs ls hP hS hl)) (fun h r σ' hX hc H locs ls hP hS hl => lv_if_ne C.1 C.2.1 dg ht (fun _ => kt h r σ' hX (hw_c1t hc) H locs ls hP hS hl) (fun g => absurd g h))
theorem hw_icmp_ne (C : hw_Ok G cc own nL d ret TL) {x y : Int32} {off : Int} {tgt : Nat} {Y : Option (α × hw_St)} (dg : decode cc pc = .ok (.if_icmp .ne off, 3)) (ht : (pc : Int) + off = (tgt : Int)) (kt : ¬ x = y → hw_K G nL rr X tgt lv st σ) (kf : x = y → hw_K G nL rr Y (pc + 3) lv st σ) : hw_K G nL rr (if x = y then Y else X) pc lv (.int y :: .int x :: st) σ :=
  hw_ifK (fun h r σ' hX hc H locs ls hP hS hl => lv_icmp_ne C.1 C.2.1 dg ht (fun g => absurd h g) (fun _ => kf h r σ' hX (hw_c1t (hw_c1t hc)) H locs ls hP hS hl)) (fun h r σ' hX hc H locs ls hP hS hl => lv_icmp_ne C.1 C.2.1 dg ht (fun _ => kt h r σ' hX (hw_c1t (hw_c1t hc)) H locs ls hP hS hl) (fun g => absurd g h))
theorem hw_if_lt (C : hw_Ok G cc own nL d ret TL) {x : Int32} {off : Int} {tgt : Nat} {Y : Option (α × hw_St)} (dg : decode cc pc = .ok (.ifCond .lt off, 3)) (ht : (pc : Int) + off = (tgt : Int)) (kt : x < 0 → hw_K G nL rr X tgt lv st σ) (kf : ¬ (x < 0) → hw_K G nL rr Y (pc + 3) lv st σ) : hw_K G nL rr (if x < 0 then X else Y) pc lv (.int x :: st) σ :=
  hw_ifK (fun h r σ' hX hc H locs ls hP hS hl => lv_if_lt C.1 C.2.1 dg ht (fun _ => kt h r σ' hX (hw_c1t hc) H locs ls hP hS hl) (fun g => absurd h g)) (fun h r σ' hX hc H locs ls hP hS hl => lv_if_lt C.1 C.2.1 dg ht (fun g => absurd g h) (fun _ => kf h r σ' hX (hw_c1t hc) H locs ls hP hS hl))
theorem hw_icmp_lt (C : hw_Ok G cc own nL d ret TL) {x y : Int32} {off : Int} {tgt : Nat} {Y : Option (α × hw_St)} (dg : decode cc pc = .ok (.if_icmp .lt off, 3)) (ht : (pc : Int) + off = (tgt : Int)) (kt : x < y → hw_K G nL rr X tgt lv st σ) (kf : ¬ (x < y) → hw_K G nL rr Y (pc + 3) lv st σ) : hw_K G nL rr (if x < y then X else Y) pc lv (.int y :: .int x :: st) σ :=
  hw_ifK (fun h r σ' hX hc H locs ls hP hS hl => lv_icmp_lt C.1 C.2.1 dg ht (fun _ => kt h r σ' hX (hw_c1t (hw_c1t hc)) H locs ls hP hS hl) (fun g => absurd h g)) (fun h r σ' hX hc H locs ls hP hS hl => lv_icmp_lt C.1 C.2.1 dg ht (fun g => absurd g h) (fun _ => kf h r σ' hX (hw_c1t (hw_c1t hc)) H locs ls hP hS hl))
theorem hw_if_ge (C : hw_Ok G cc own nL d ret TL) {x : Int32} {off : Int} {tgt : Nat} {Y : Option (α × hw_St)} (dg : decode cc pc = .ok (.ifCond .ge off, 3)) (ht : (pc : Int) + off = (tgt : Int)) (kt : 0 ≤ x → hw_K G nL rr X tgt lv st σ) (kf : ¬ (0 ≤ x) → hw_K G nL rr Y (pc + 3) lv st σ) : hw_K G nL rr (if 0 ≤ x then X else Y) pc lv (.int x :: st) σ :=
  hw_ifK (fun h r σ' hX hc H locs ls hP hS hl => lv_if_ge C.1 C.2.1 dg ht (fun _ => kt h r σ' hX (hw_c1t hc) H locs ls hP hS hl) (fun g => absurd h g)) (fun h r σ' hX hc H locs ls hP hS hl => lv_if_ge C.1 C.2.1 dg ht (fun g => absurd g h) (fun _ => kf h r σ' hX (hw_c1t hc) H locs ls hP hS hl))
theorem hw_icmp_ge (C : hw_Ok G cc own nL d ret TL) {x y : Int32} {off : Int} {tgt : Nat} {Y : Option (α × hw_St)} (dg : decode cc pc = .ok (.if_icmp .ge off, 3)) (ht : (pc : Int) + off = (tgt : Int)) (kt : y ≤ x → hw_K G nL rr X tgt lv st σ) (kf : ¬ (y ≤ x) → hw_K G nL rr Y (pc + 3) lv st σ) : hw_K G nL rr (if y ≤ x then X else Y) pc lv (.int y :: .int x :: st) σ :=
  hw_ifK (fun h r σ' hX hc H locs ls hP hS hl => lv_icmp_ge C.1 C.2.1 dg ht (fun _ => kt h r σ' hX (hw_c1t (hw_c1t hc)) H locs ls hP hS hl) (fun g => absurd h g)) (fun h r σ' hX hc H locs ls hP hS hl => lv_icmp_ge C.1 C.2.1 dg ht (fun g => absurd g h) (fun _ => kf h r σ' hX (hw_c1t (hw_c1t hc)) H locs ls hP hS hl))
theorem hw_if_gt (C : hw_Ok G cc own nL d ret TL) {x : Int32} {off : Int} {tgt : Nat} {Y : Option (α × hw_St)} (dg : decode cc pc = .ok (.ifCond .gt off, 3)) (ht : (pc : Int) + off = (tgt : Int)) (kt : 0 < x → hw_K G nL rr X tgt lv st σ) (kf : ¬ (0 < x) → hw_K G nL rr Y (pc + 3) lv st σ) : hw_K G nL rr (if 0 < x then X else Y) pc lv (.int x :: st) σ :=
  hw_ifK (fun h r σ' hX hc H locs ls hP hS hl => lv_if_gt C.1 C.2.1 dg ht (fun _ => kt h r σ' hX (hw_c1t hc) H locs ls hP hS hl) (fun g => absurd h g)) (fun h r σ' hX hc H locs ls hP hS hl => lv_if_gt C.1 C.2.1 dg ht (fun g => absurd g h) (fun _ => kf h r σ' hX (hw_c1t hc) H locs ls hP hS hl))
theorem hw_icmp_gt (C : hw_Ok G cc own nL d ret TL) {x y : Int32} {off : Int} {tgt : Nat} {Y : Option (α × hw_St)} (dg : decode cc pc = .ok (.if_icmp .gt off, 3)) (ht : (pc : Int) + off = (tgt : Int)) (kt : y < x → hw_K G nL rr X tgt lv st σ) (kf : ¬ (y < x) → hw_K G nL rr Y (pc + 3) lv st σ) : hw_K G nL rr (if y < x then X else Y) pc lv (.int y :: .int x :: st) σ :=
  hw_ifK (fun h r σ' hX hc H locs ls hP hS hl => lv_icmp_gt C.1 C.2.1 dg ht (fun _ => kt h r σ' hX (hw_c1t (hw_c1t hc)) H locs ls hP hS hl) (fun g => absurd h g)) (fun h r σ' hX hc H locs ls hP hS hl => lv_icmp_gt C.1 C.2.1 dg ht (fun g => absurd g h) (fun _ => kf h r σ' hX (hw_c1t (hw_c1t hc)) H locs ls hP hS hl))
theorem hw_if_le (C : hw_Ok G cc own nL d ret TL) {x : Int32} {off : Int} {tgt : Nat} {Y : Option (α × hw_St)} (dg : decode cc pc = .ok (.ifCond .le off, 3)) (ht : (pc : Int) + off = (tgt : Int)) (kt : x ≤ 0 → hw_K G nL rr X tgt lv st σ) (kf : ¬ (x ≤ 0) → hw_K G nL rr Y (pc + 3) lv st σ) : hw_K G nL rr (if x ≤ 0 then X else Y) pc lv (.int x :: st) σ :=
  hw_ifK (fun h r σ' hX hc H locs ls hP hS hl => lv_if_le C.1 C.2.1 dg ht (fun _ => kt h r σ' hX (hw_c1t hc) H locs ls hP hS hl) (fun g => absurd h g)) (fun h r σ' hX hc H locs ls hP hS hl => lv_if_le C.1 C.2.1 dg ht (fun g => absurd g h) (fun _ => kf h r σ' hX (hw_c1t hc) H locs ls hP hS hl))
theorem hw_icmp_le (C : hw_Ok G cc own nL d ret TL) {x y : Int32} {off : Int} {tgt : Nat} {Y : Option (α × hw_St)} (dg : decode cc pc = .ok (.if_icmp .le off, 3)) (ht : (pc : Int) + off = (tgt : Int)) (kt : x ≤ y → hw_K G nL rr X tgt lv st σ) (kf : ¬ (x ≤ y) → hw_K G nL rr Y (pc + 3) lv st σ) : hw_K G nL rr (if x ≤ y then X else Y) pc lv (.int y :: .int x :: st) σ :=
  hw_ifK (fun h r σ' hX hc H locs ls hP hS hl => lv_icmp_le C.1 C.2.1 dg ht (fun _ => kt h r σ' hX (hw_c1t (hw_c1t hc)) H locs ls hP hS hl) (fun g => absurd h g)) (fun h r σ' hX hc H locs ls hP hS hl => lv_icmp_le C.1 C.2.1 dg ht (fun g => absurd g h) (fun _ => kf h r σ' hX (hw_c1t (hw_c1t hc)) H locs ls hP hS hl))
theorem hw_goto (C : hw_Ok G cc own nL d ret TL) {off : Int} {tgt : Nat} (dg : decode cc pc = .ok (.goto off, 3)) (ht : (pc : Int) + off = (tgt : Int)) (k : hw_K G nL rr X tgt lv st σ) : hw_K G nL rr X pc lv st σ :=
  fun r σ' hX hc H locs ls hP hS hl => lv_goto C.1 C.2.1 dg ht (k r σ' hX hc H locs ls hP hS hl)
theorem hw_ifnull (C : hw_Ok G cc own nL d ret TL) {t : Nat} {ad : Nat → Nat} {off : Int} {tgt : Nat} {Y : Option (α × hw_St)} (dg : decode cc pc = .ok (.ifnull off, 3)) (ht : (pc : Int) + off = (tgt : Int)) (kt : t = 999 → hw_K G nL rr X tgt lv st σ) (kf : ¬ t = 999 → hw_K G nL rr Y (pc + 3) lv st σ) : hw_K G nL rr (if t = 999 then X else Y) pc lv (hw_rv ad t :: st) σ := by
  refine hw_ifK (fun h => ?_) (fun h => ?_)
  · intro r σ' hX hc H locs ls hP hS hl
    rw [show hw_rv ad t = .null from if_pos h]
    exact lv_ifnullN C.1 C.2.1 dg ht (kt h r σ' hX (hw_c1t hc) H locs ls hP hS hl)
  · intro r σ' hX hc H locs ls hP hS hl
    rw [show hw_rv ad t = .ref (ad t) from if_neg h]
    exact lv_ifnull C.1 C.2.1 dg (kf h r σ' hX (hw_c1t hc) H locs ls hP hS hl)
theorem hw_ifnonnull (C : hw_Ok G cc own nL d ret TL) {t : Nat} {ad : Nat → Nat} {off : Int} {tgt : Nat} {Y : Option (α × hw_St)} (dg : decode cc pc = .ok (.ifnonnull off, 3)) (ht : (pc : Int) + off = (tgt : Int)) (kt : ¬ t = 999 → hw_K G nL rr X tgt lv st σ) (kf : t = 999 → hw_K G nL rr Y (pc + 3) lv st σ) : hw_K G nL rr (if t = 999 then Y else X) pc lv (hw_rv ad t :: st) σ := by
  refine hw_ifK (fun h => ?_) (fun h => ?_)
  · intro r σ' hX hc H locs ls hP hS hl
    rw [show hw_rv ad t = .null from if_pos h]
    exact lv_ifnonnullN C.1 C.2.1 dg (kf h r σ' hX (hw_c1t hc) H locs ls hP hS hl)
  · intro r σ' hX hc H locs ls hP hS hl
    rw [show hw_rv ad t = .ref (ad t) from if_neg h]
    exact lv_ifnonnull C.1 C.2.1 dg ht (kt h r σ' hX (hw_c1t hc) H locs ls hP hS hl)
theorem hw_tabIn (C : hw_Ok G cc own nL d ret TL) {dflt lo hi : Int} {offs : Array Int} {len : Nat} {x v : Int32} {off : Int} {tgt : Nat} (dg : decode cc pc = .ok (.tableswitch dflt lo hi offs, len)) (hx : x = v) (hd : ¬ v.toInt < lo ∧ ¬ hi < v.toInt ∧ offs[(v.toInt - lo).toNat]? = some off ∧ (pc : Int) + off = (tgt : Int)) (k : hw_K G nL rr X tgt lv st σ) : hw_K G nL rr X pc lv (.int x :: st) σ :=
  fun r σ' hX hc H locs ls hP hS hl => lv_tableIn C.1 C.2.1 dg (by rw [hx]; exact hd.1) (by rw [hx]; exact hd.2.1) (by rw [hx]; exact hd.2.2.1) hd.2.2.2 (k r σ' hX (hw_c1t hc) H locs ls hP hS hl)
theorem hw_tabOut (C : hw_Ok G cc own nL d ret TL) {dflt lo hi : Int} {offs : Array Int} {len : Nat} {x : Int32} {tgt : Nat} (dg : decode cc pc = .ok (.tableswitch dflt lo hi offs, len)) (h : x.toInt < lo ∨ hi < x.toInt) (ht : (pc : Int) + dflt = (tgt : Int)) (k : hw_K G nL rr X tgt lv st σ) : hw_K G nL rr X pc lv (.int x :: st) σ :=
  fun r σ' hX hc H locs ls hP hS hl => lv_tableOut C.1 C.2.1 dg h ht (k r σ' hX (hw_c1t hc) H locs ls hP hS hl)
theorem hw_look (C : hw_Ok G cc own nL d ret TL) {dflt : Int} {ps : Array (Int × Int)} {len : Nat} {x : Int32} {off : Int} {tgt : Nat} (dg : decode cc pc = .ok (.lookupswitch dflt ps, len)) (hp : (ps.toList.zip (ps.toList.drop 1)).all (fun (a, next) => a.1 < next.1) = true) (ho : Op.lookupswitch.offset ps.toList dflt x.toInt = off) (ht : (pc : Int) + off = (tgt : Int)) (k : hw_K G nL rr X tgt lv st σ) : hw_K G nL rr X pc lv (.int x :: st) σ :=
  fun r σ' hX hc H locs ls hP hS hl => lv_lookup C.1 C.2.1 dg hp ho ht (k r σ' hX (hw_c1t hc) H locs ls hP hS hl)
theorem hw_ni {x c : Int32} {z : Int} (h : ¬ x = c) (hz : c.toInt = z) : x.toInt ≠ z := fun e => h (Int32.toInt_inj.mp (e.trans hz.symm))
theorem hw_post {β : Type} {G : hw_G} {rr : β → Option Value} {r : β} {σ : hw_St} {H : Heap} {locs : List Loc} {v : Option Value} (hv : v = rr r) (hP : hw_W (hw_gE G) σ H) (hS : va_S (hw_A (hw_gE G)) (hw_gs G).heap H locs) : ∀ t : State, t.heap = H → (hw_gs G).WarmedH t.vm → hw_Q (hw_gE G) rr r σ (hw_ga G) (hw_gs G) (.returned v) t :=
  fun t ht _ => ⟨by rw [hv], by rw [ht]; exact hP, hS.F ht⟩
theorem hw_iret {G : hw_G} {x : Int32} (C : hw_Ok G cc own nL d (some .int) TL) (dg : decode cc pc = .ok (.ireturn, 1)) : hw_K G nL hw_ri (some (x, σ)) pc lv [.int x] σ := by
  intro r σ' hX hc H locs ls hP hS hl
  cases hX
  exact W.iret C.1 C.2.1 C.2.2.2.2.2.2.2.2.2.2.1 (hw_post rfl hP hS) hS.2.2 dg C.2.2.2.2.2.2.2.2.2.1
theorem hw_zret1 {G : hw_G} {x : Int32} {ty : FieldType} (C : hw_Ok G cc own nL d (some ty) TL) (hn : narrow ty (.int x) = .int x) (dg : decode cc pc = .ok (.ireturn, 1)) : hw_K G nL hw_ri (some (x, σ)) pc lv [.int x] σ := by
  intro r σ' hX hc H locs ls hP hS hl
  cases hX
  exact W.zret C.1 C.2.1 C.2.2.2.2.2.2.2.2.2.2.1 hn (hw_post rfl hP hS) hS.2.2 dg C.2.2.2.2.2.2.2.2.2.1
theorem hw_isb_n {x : Int32} (h : hw_isb x = true) : narrow .boolean (.int x) = .int x ∧ fits .boolean (.int x) = true := by
  rcases of_decide_eq_true h with rfl | rfl <;> decide
theorem hw_zret {G : hw_G} {x : Int32} (C : hw_Ok G cc own nL d (some .boolean) TL) (dg : decode cc pc = .ok (.ireturn, 1)) : hw_K G nL hw_ri (hw_gd (hw_isb x) (some (x, σ))) pc lv [.int x] σ :=
  hw_gdK (fun h => hw_zret1 C (hw_isb_n h).1 dg)
theorem hw_vret {G : hw_G} (C : hw_Ok G cc own nL d none TL) (dg : decode cc pc = .ok (.return_, 1)) : hw_K G nL hw_r0 (some ((), σ)) pc lv [] σ := by
  intro r σ' hX hc H locs ls hP hS hl
  cases hX
  exact W.vret C.1 C.2.1 C.2.2.2.2.2.2.2.2.2.2.1 (hw_post rfl hP hS) hS.2.2 dg C.2.2.2.2.2.2.2.2.2.1
theorem hw_aret {G : hw_G} {t : Nat} {C0 : String} (C : hw_Ok G cc own nL d (some (.object C0)) TL) (dg : decode cc pc = .ok (.areturn, 1)) : hw_K G nL (hw_rq (hw_ea (hw_gE G))) (some (t, σ)) pc lv [hw_rv (hw_ea (hw_gE G)) t] σ := by
  intro r σ' hX hc H locs ls hP hS hl
  cases hX
  exact W.aret C.1 C.2.1 C.2.2.2.2.2.2.2.2.2.2.1 (Or.inl ⟨C0, rfl⟩) (by unfold hw_rv; split; · exact Or.inl rfl
                                                                        · exact Or.inr ⟨_, rfl⟩) (hw_post rfl hP hS) hS.2.2 dg C.2.2.2.2.2.2.2.2.2.1
end HWR
