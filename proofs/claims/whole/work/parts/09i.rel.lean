/-! the relation between the class's state σ and the reference's state τ -/
def hv_Sc (σ : hw_St) (S : Nat) (N : Nat → Int32) (w h T : Nat) : Prop := (w ≤ 6) ∧ (h < 24) ∧ (T ≤ 14) ∧ (N 1 = nI w) ∧ (N 2 = nI h) ∧ (N 4 = nI T) ∧ (0 ≤ N 3 ∧ N 3 ≤ 9999) ∧ (σ S 9 = N 0) ∧ (σ S 6 = nI w) ∧ (σ S 7 = nI h) ∧ (σ S 8 = N 3) ∧ (σ S 5 = nI T) ∧ (∀ k, k < 24 → σ (S + 2) k = N (5 + k)) ∧ (∀ k, k < 24 → 0 ≤ N (5 + k) ∧ N (5 + k) ≤ 99) ∧ (∀ i, i < w → hv_W (rw_ N i)) ∧ (∀ i, i < w → ∀ k, k < 7 → σ (12 + 6 * S + i) k = rw_ N i k) ∧ (∀ k, k < 3 → σ (S + 6) k = nwv (cn N k T)) ∧ (hv_Txt σ N T)
theorem hv_Sc.bw {σ : hw_St} {S : Nat} {N : Nat → Int32} {w h T : Nat} (H : hv_Sc σ S N w h T) : w ≤ 6 := H.1
theorem hv_Sc.bh {σ : hw_St} {S : Nat} {N : Nat → Int32} {w h T : Nat} (H : hv_Sc σ S N w h T) : h < 24 := H.2.1
theorem hv_Sc.bT {σ : hw_St} {S : Nat} {N : Nat → Int32} {w h T : Nat} (H : hv_Sc σ S N w h T) : T ≤ 14 := H.2.2.1
theorem hv_Sc.n1 {σ : hw_St} {S : Nat} {N : Nat → Int32} {w h T : Nat} (H : hv_Sc σ S N w h T) : N 1 = nI w := H.2.2.2.1
theorem hv_Sc.n2 {σ : hw_St} {S : Nat} {N : Nat → Int32} {w h T : Nat} (H : hv_Sc σ S N w h T) : N 2 = nI h := H.2.2.2.2.1
theorem hv_Sc.n4 {σ : hw_St} {S : Nat} {N : Nat → Int32} {w h T : Nat} (H : hv_Sc σ S N w h T) : N 4 = nI T := H.2.2.2.2.2.1
theorem hv_Sc.n3 {σ : hw_St} {S : Nat} {N : Nat → Int32} {w h T : Nat} (H : hv_Sc σ S N w h T) : 0 ≤ N 3 ∧ N 3 ≤ 9999 := H.2.2.2.2.2.2.1
theorem hv_Sc.s9 {σ : hw_St} {S : Nat} {N : Nat → Int32} {w h T : Nat} (H : hv_Sc σ S N w h T) : σ S 9 = N 0 := H.2.2.2.2.2.2.2.1
theorem hv_Sc.s6 {σ : hw_St} {S : Nat} {N : Nat → Int32} {w h T : Nat} (H : hv_Sc σ S N w h T) : σ S 6 = nI w := H.2.2.2.2.2.2.2.2.1
theorem hv_Sc.s7 {σ : hw_St} {S : Nat} {N : Nat → Int32} {w h T : Nat} (H : hv_Sc σ S N w h T) : σ S 7 = nI h := H.2.2.2.2.2.2.2.2.2.1
theorem hv_Sc.s8 {σ : hw_St} {S : Nat} {N : Nat → Int32} {w h T : Nat} (H : hv_Sc σ S N w h T) : σ S 8 = N 3 := H.2.2.2.2.2.2.2.2.2.2.1
theorem hv_Sc.s5 {σ : hw_St} {S : Nat} {N : Nat → Int32} {w h T : Nat} (H : hv_Sc σ S N w h T) : σ S 5 = nI T := H.2.2.2.2.2.2.2.2.2.2.2.1
theorem hv_Sc.wd {σ : hw_St} {S : Nat} {N : Nat → Int32} {w h T : Nat} (H : hv_Sc σ S N w h T) : ∀ k, k < 24 → σ (S + 2) k = N (5 + k) := H.2.2.2.2.2.2.2.2.2.2.2.2.1
theorem hv_Sc.wr {σ : hw_St} {S : Nat} {N : Nat → Int32} {w h T : Nat} (H : hv_Sc σ S N w h T) : ∀ k, k < 24 → 0 ≤ N (5 + k) ∧ N (5 + k) ≤ 99 := H.2.2.2.2.2.2.2.2.2.2.2.2.2.1
theorem hv_Sc.ww {σ : hw_St} {S : Nat} {N : Nat → Int32} {w h T : Nat} (H : hv_Sc σ S N w h T) : ∀ i, i < w → hv_W (rw_ N i) := H.2.2.2.2.2.2.2.2.2.2.2.2.2.2.1
theorem hv_Sc.wi {σ : hw_St} {S : Nat} {N : Nat → Int32} {w h T : Nat} (H : hv_Sc σ S N w h T) : ∀ i, i < w → ∀ k, k < 7 → σ (12 + 6 * S + i) k = rw_ N i k := H.2.2.2.2.2.2.2.2.2.2.2.2.2.2.2.1
theorem hv_Sc.nw {σ : hw_St} {S : Nat} {N : Nat → Int32} {w h T : Nat} (H : hv_Sc σ S N w h T) : ∀ k, k < 3 → σ (S + 6) k = nwv (cn N k T) := H.2.2.2.2.2.2.2.2.2.2.2.2.2.2.2.2.1
theorem hv_Sc.tx {σ : hw_St} {S : Nat} {N : Nat → Int32} {w h T : Nat} (H : hv_Sc σ S N w h T) : hv_Txt σ N T := H.2.2.2.2.2.2.2.2.2.2.2.2.2.2.2.2.2
def hv_Im (σ τ : hw_St) (T : Nat) : Prop := (σ 0 3 = 0 ∧ τ 200 3 = 0) ∨ (σ 0 3 = 1 ∧ τ 200 3 = 1 ∧ ∃ w h T2, T2 ≤ T ∧ hv_Sc σ 2 (τ 202) w h T2)
def hv_Sl (σ τ : hw_St) (i : Nat) : Prop := (σ (68 + i) 0 = τ 217 i) ∧ (0 ≤ τ 217 i ∧ τ 217 i ≤ 3) ∧ (τ 217 i = 1 → hv_W (σ (73 + i)) ∧ τ 218 i = σ (73 + i) 0 ∧ τ 219 i = wWorth (σ (73 + i))) ∧ (τ 217 i = 2 → (∃ p, p ≤ 24 ∧ σ (78 + i) 1 = nI p ∧ τ 218 i = nI p) ∧ ∀ j, j < 24 → σ (83 + i) j = τ 220 (24 * i + j)) ∧ (τ 217 i = 3 → σ (68 + i) 1 = τ 218 i)
theorem hv_Sl.th {σ τ : hw_St} {i : Nat} (H : hv_Sl σ τ i) : σ (68 + i) 0 = τ 217 i := H.1
theorem hv_Sl.rg {σ τ : hw_St} {i : Nat} (H : hv_Sl σ τ i) : 0 ≤ τ 217 i ∧ τ 217 i ≤ 3 := H.2.1
theorem hv_Sl.one {σ τ : hw_St} {i : Nat} (H : hv_Sl σ τ i) : τ 217 i = 1 → hv_W (σ (73 + i)) ∧ τ 218 i = σ (73 + i) 0 ∧ τ 219 i = wWorth (σ (73 + i)) := H.2.2.1
theorem hv_Sl.two {σ τ : hw_St} {i : Nat} (H : hv_Sl σ τ i) : τ 217 i = 2 → (∃ p, p ≤ 24 ∧ σ (78 + i) 1 = nI p ∧ τ 218 i = nI p) ∧ ∀ j, j < 24 → σ (83 + i) j = τ 220 (24 * i + j) := H.2.2.2.1
theorem hv_Sl.thr {σ τ : hw_St} {i : Nat} (H : hv_Sl σ τ i) : τ 217 i = 3 → σ (68 + i) 1 = τ 218 i := H.2.2.2.2
def hv_Sh (σ τ : hw_St) (i : Nat) : Prop := (σ (60 + i) 0 = τ 214 i) ∧ (-1 ≤ τ 214 i ∧ τ 214 i ≤ 1) ∧ (∃ p, p ≤ 24 ∧ σ (60 + i) 1 = nI p ∧ τ 215 i = nI p) ∧ (∀ j, j < 24 → σ (64 + i) j = τ 216 (24 * i + j))
theorem hv_Sh.so {σ τ : hw_St} {i : Nat} (H : hv_Sh σ τ i) : σ (60 + i) 0 = τ 214 i := H.1
theorem hv_Sh.sr {σ τ : hw_St} {i : Nat} (H : hv_Sh σ τ i) : -1 ≤ τ 214 i ∧ τ 214 i ≤ 1 := H.2.1
theorem hv_Sh.pl {σ τ : hw_St} {i : Nat} (H : hv_Sh σ τ i) : ∃ p, p ≤ 24 ∧ σ (60 + i) 1 = nI p ∧ τ 215 i = nI p := H.2.2.1
theorem hv_Sh.nu {σ τ : hw_St} {i : Nat} (H : hv_Sh σ τ i) : ∀ j, j < 24 → σ (64 + i) j = τ 216 (24 * i + j) := H.2.2.2
def hv_Bo (σ : hw_St) : Prop := ∀ x, 18 ≤ x → x < 30 → (σ x 5 = 0 ∨ σ x 5 = 1)
def hv_Ta (σ τ : hw_St) : Prop := ∃ n, n ≤ 96 ∧ σ 0 6 = nI n ∧ τ 200 10 = nI n ∧ ∀ j, j < n → σ 12 j = (τ 206 j).toInt8.toInt32 ∧ 0 ≤ τ 206 j ∧ τ 206 j ≤ 255
def hv_Te (σ τ : hw_St) : Prop := ∃ n, n ≤ 60 ∧ σ 0 11 = nI n ∧ τ 200 36 = nI n ∧ ∀ j, j < n → σ 16 j = τ 222 j
def hv_Co (τ : hw_St) : Prop := τ 207 = hw_s0M 207 ∧ τ 208 = hw_s0M 208
def hv_Re (σ τ : hw_St) : Prop := (hv_Ta σ τ) ∧ (hv_Te σ τ) ∧ (∀ i, i < 4 → hv_Sh σ τ i) ∧ (∀ i, i < 5 → hv_Sl σ τ i) ∧ (hv_Co τ)
theorem hv_Re.ta {σ τ : hw_St} (H : hv_Re σ τ) : hv_Ta σ τ := H.1
theorem hv_Re.te {σ τ : hw_St} (H : hv_Re σ τ) : hv_Te σ τ := H.2.1
theorem hv_Re.sh {σ τ : hw_St} (H : hv_Re σ τ) : ∀ i, i < 4 → hv_Sh σ τ i := H.2.2.1
theorem hv_Re.sl {σ τ : hw_St} (H : hv_Re σ τ) : ∀ i, i < 5 → hv_Sl σ τ i := H.2.2.2.1
theorem hv_Re.co {σ τ : hw_St} (H : hv_Re σ τ) : hv_Co τ := H.2.2.2.2
def hv_R (σ τ : hw_St) : Prop := ∃ w h T, hv_Sc σ 1 (τ 201) w h T ∧ hv_Im σ τ T ∧ hv_Bo σ ∧ hv_Re σ τ
/-! what keeps what -/
theorem Txt_keep {σ σ' : hw_St} {N : Nat → Int32} {T : Nat} (hT : T ≤ 14) (h : hv_Txt σ N T) (hk : ∀ t, 30 ≤ t → t < 60 → σ' t = σ t) : hv_Txt σ' N T := by
  intro t ht
  obtain ⟨key, len, g1, g2, g3, g4, g5⟩ := h t ht
  refine ⟨key, len, g1, ?_, ?_, ?_, fun j hj => ?_⟩
  · rw [hk (30 + t) (by omega) (by omega)]; exact g2
  · rw [hk (30 + t) (by omega) (by omega)]; exact g3
  · rw [hk (30 + t) (by omega) (by omega)]; exact g4
  · rw [hk (45 + t) (by omega) (by omega)]; exact g5 j hj
theorem Sc_keep {σ σ' : hw_St} {S : Nat} {N : Nat → Int32} {w h T : Nat} (H : hv_Sc σ S N w h T) (k1 : σ' S = σ S) (k2 : σ' (S + 2) = σ (S + 2)) (k3 : σ' (S + 6) = σ (S + 6)) (k4 : ∀ i, i < 6 → σ' (12 + 6 * S + i) = σ (12 + 6 * S + i)) (k5 : ∀ t, 30 ≤ t → t < 60 → σ' t = σ t) : hv_Sc σ' S N w h T := by
  refine ⟨H.bw, H.bh, H.bT, H.n1, H.n2, H.n4, H.n3, ?_, ?_, ?_, ?_, ?_, ?_, H.wr, H.ww, fun i hi => ?_, ?_, Txt_keep H.bT H.tx k5⟩
  · rw [k1]; exact H.s9
  · rw [k1]; exact H.s6
  · rw [k1]; exact H.s7
  · rw [k1]; exact H.s8
  · rw [k1]; exact H.s5
  · rw [k2]; exact H.wd
  · rw [k4 i (Nat.lt_of_lt_of_le hi H.bw)]; exact H.wi i hi
  · rw [k3]; exact H.nw
theorem Re_keep {σ σ' τ τ' : hw_St} (H : hv_Re σ τ) (k0 : ∀ t, (t = 12 ∨ t = 16 ∨ 60 ≤ t) → σ' t = σ t) (k1 : σ' 0 6 = σ 0 6) (k2 : σ' 0 11 = σ 0 11) (m0 : ∀ t, (206 ≤ t ∧ t ≤ 208 ∨ 214 ≤ t ∧ t ≤ 220 ∨ t = 222) → τ' t = τ t) (m1 : τ' 200 10 = τ 200 10) (m2 : τ' 200 36 = τ 200 36) : hv_Re σ' τ' := by
  refine ⟨?_, ?_, fun i hi => ?_, fun i hi => ?_, ?_⟩
  · obtain ⟨n, h1, h2, h3, h4⟩ := H.ta
    exact ⟨n, h1, by rw [k1]; exact h2, by rw [m1]; exact h3, by rw [k0 12 (by omega), m0 206 (by omega)]; exact h4⟩
  · obtain ⟨n, h1, h2, h3, h4⟩ := H.te
    exact ⟨n, h1, by rw [k2]; exact h2, by rw [m2]; exact h3, by rw [k0 16 (by omega), m0 222 (by omega)]; exact h4⟩
  · obtain ⟨h1, h2, h3, h4⟩ := H.sh i hi
    refine ⟨?_, ?_, ?_, ?_⟩
    · rw [k0 _ (by omega), m0 214 (by omega)]; exact h1
    · rw [m0 214 (by omega)]; exact h2
    · rw [k0 _ (by omega), m0 215 (by omega)]; exact h3
    · rw [k0 _ (by omega), m0 216 (by omega)]; exact h4
  · obtain ⟨h1, h2, h3, h4, h5⟩ := H.sl i hi
    refine ⟨?_, ?_, ?_, ?_, ?_⟩
    · rw [k0 _ (by omega), m0 217 (by omega)]; exact h1
    · rw [m0 217 (by omega)]; exact h2
    · rw [k0 _ (by omega), m0 217 (by omega), m0 218 (by omega), m0 219 (by omega)]; exact h3
    · rw [k0 (78 + i) (by omega), k0 (83 + i) (by omega), m0 217 (by omega), m0 218 (by omega), m0 220 (by omega)]; exact h4
    · rw [k0 _ (by omega), m0 217 (by omega), m0 218 (by omega)]; exact h5
  · exact ⟨by rw [m0 207 (by omega)]; exact H.co.1, by rw [m0 208 (by omega)]; exact H.co.2⟩
theorem Im_keep {σ σ' τ τ' : hw_St} {T : Nat} (H : hv_Im σ τ T) (k0 : σ' 0 3 = σ 0 3) (m0 : τ' 200 3 = τ 200 3) (m1 : τ' 202 = τ 202) (k1 : ∀ t, (t = 2 ∨ t = 4 ∨ t = 8 ∨ 24 ≤ t ∧ t < 60) → σ' t = σ t) : hv_Im σ' τ' T := by
  rcases H with ⟨h1, h2⟩ | ⟨h1, h2, w, h, T2, h3, h4⟩
  · exact Or.inl ⟨by rw [k0]; exact h1, by rw [m0]; exact h2⟩
  · refine Or.inr ⟨by rw [k0]; exact h1, by rw [m0]; exact h2, w, h, T2, h3, ?_⟩
    rw [m1]
    exact Sc_keep h4 (k1 2 (by omega)) (k1 4 (by omega)) (k1 8 (by omega)) (fun i hi => k1 _ (by omega)) (fun t h1 h2 => k1 t (by omega))
/-- a step that changes the now-scene only, and scratch -/
theorem R_now {σ σ' τ τ' : hw_St} {w h T w' h' T' : Nat} (hT : T ≤ T') (H : hv_Sc σ' 1 (τ' 201) w' h' T') (I : hv_Im σ τ T) (B : hv_Bo σ) (E : hv_Re σ τ) (B' : ∀ x, 18 ≤ x → x < 24 → (σ' x 5 = 0 ∨ σ' x 5 = 1)) (ks : ∀ t, (t = 0 ∨ t = 2 ∨ t = 4 ∨ t = 8 ∨ t = 12 ∨ t = 16 ∨ 24 ≤ t) → σ' t = σ t) (kt : ∀ t, (t = 202 ∨ 206 ≤ t ∧ t ≤ 208 ∨ 214 ≤ t ∧ t ≤ 220 ∨ t = 222) → τ' t = τ t) (k3 : τ' 200 3 = τ 200 3) (k10 : τ' 200 10 = τ 200 10) (k36 : τ' 200 36 = τ 200 36) : hv_R σ' τ' := by
  refine ⟨w', h', T', H, ?_, ?_, ?_⟩
  · have I' : hv_Im σ τ T' := by
      rcases I with i | ⟨i1, i2, w2, h2, T2, i3, i4⟩
      · exact Or.inl i
      · exact Or.inr ⟨i1, i2, w2, h2, T2, Nat.le_trans i3 hT, i4⟩
    exact Im_keep I' (by rw [ks 0 (by omega)]) k3 (kt 202 (by omega)) (fun t ht => ks t (by omega))
  · intro x h1 h2
    by_cases h3 : x < 24
    · exact B' x h1 h3
    · rw [ks x (by omega)]; exact B x h1 h2
  · exact Re_keep E (fun t ht => ks t (by omega)) (by rw [ks 0 (by omega)]) (by rw [ks 0 (by omega)]) (fun t ht => kt t (by omega)) k10 k36
/-- a step that changes nothing but scratch -/
theorem R_same {σ σ' τ τ' : hw_St} (H : hv_R σ τ) (ks : ∀ t, (t ≤ 9 ∨ t = 12 ∨ 14 ≤ t) → σ' t = σ t) (kt : ∀ t, (t = 201 ∨ t = 202 ∨ 206 ≤ t ∧ t ≤ 208 ∨ 214 ≤ t ∧ t ≤ 220 ∨ t = 222) → τ' t = τ t) (k3 : τ' 200 3 = τ 200 3) (k10 : τ' 200 10 = τ 200 10) (k36 : τ' 200 36 = τ 200 36) : hv_R σ' τ' := by
  obtain ⟨w, h, T, A, I, B, E⟩ := H
  refine R_now (T' := T) (w' := w) (h' := h) (w := w) (h := h) (Nat.le_refl _) ?_ I B E ?_ (fun t ht => ks t (by omega)) (fun t ht => kt t (by omega)) k3 k10 k36
  · rw [kt 201 (by omega)]
    exact Sc_keep A (ks _ (by omega)) (ks _ (by omega)) (ks _ (by omega)) (fun i hi => ks _ (by omega)) (fun t h1 h2 => ks t (by omega))
  · intro x h1 h2
    rw [ks x (by omega)]; exact B x h1 (by omega)
