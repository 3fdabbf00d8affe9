/-! my world: every cell of the system has a tag; 0 .. 87 the class, 200 .. 222 the reference -/
def hw_kdH : List Nat := [6, 2, 2, 10, 10, 21, 21, 10, 10, 20, 10, 5, 11, 1, 22, 23, 10, 11, 5, 5, 5, 5, 5, 5, 5, 5, 5, 5, 5, 5, 0, 0, 0, 0, 0, 0, 0, 0, 0, 0, 0, 0, 0, 0, 0, 10, 10, 10, 10, 10, 10, 10, 10, 10, 10, 10, 10, 10, 10, 10, 3, 3, 3, 3, 10, 10, 10, 10, 4, 4, 4, 4, 4, 5, 5, 5, 5, 5, 3, 3, 3, 3, 3, 10, 10, 10, 10, 10]
def hw_kdM : List Nat := [7, 10, 10, 10, 10, 10, 10, 12, 10, 10, 10, 13, 10, 10, 10, 10, 10, 10, 10, 10, 10, 10, 10]
def hw_lnH : List Nat := [0, 0, 0, 24, 24, 6, 6, 3, 3, 15, 96, 0, 96, 0, 4, 5, 60, 0, 0, 0, 0, 0, 0, 0, 0, 0, 0, 0, 0, 0, 0, 0, 0, 0, 0, 0, 0, 0, 0, 0, 0, 0, 0, 0, 0, 96, 96, 96, 96, 96, 96, 96, 96, 96, 96, 96, 96, 96, 96, 96, 0, 0, 0, 0, 24, 24, 24, 24, 0, 0, 0, 0, 0, 0, 0, 0, 0, 0, 0, 0, 0, 0, 0, 24, 24, 24, 24, 24]
def hw_lnM : List Nat := [0, 1443, 1443, 1443, 7, 24, 96, 12, 4, 96, 96, 10, 96, 4, 4, 4, 96, 5, 5, 5, 120, 24, 60]
/-- the kind of a cell: below 10 a class of vwCl, 10 .. 13 rows of numbers, 20 .. 23 rows of cells, 99 none -/
def hw_kd (t : Nat) : Nat := if t < 200 then hw_kdH.getD t 99 else hw_kdM.getD (t - 200) 99
def hw_ln (t : Nat) : Nat := if t < 200 then hw_lnH.getD t 0 else hw_lnM.getD (t - 200) 0
/-- field kinds: 0 a number, 1 a cell that stays, 2 a cell that may change -/
def hw_fkL : List (List Nat) := [[0, 0, 1, 0], [2, 0, 2, 0, 0, 0, 0], [1, 1, 1, 1, 1, 0, 0, 0, 0, 0], [0, 0, 1], [0, 0, 1, 1], [0, 0, 0, 0, 0, 0, 0], [1, 1, 1, 0, 1, 1, 0, 1, 1, 1, 1, 0], [1, 1, 1, 0, 1, 0, 0, 0, 1, 1, 0, 0, 0, 0, 0, 0, 0, 1, 1, 1, 0, 0, 1, 0, 1, 1, 1, 1, 1, 1, 1, 1, 1, 1, 1, 1, 0]]
def hw_fk (ci k : Nat) : Nat := (hw_fkL.getD ci []).getD k 0
def hw_nf (ci : Nat) : Nat := (hw_fkL.getD ci []).length
def hw_flL : List (List Nat) := [[9, 1, 2, 999, 11, 12, 999, 13, 14, 15, 16], [9, 10, 3, 5, 7], [9, 10, 4, 6, 8], [], [], [], [], [], [], [], [], [], [], [], [], [], [], [], [], [], [], [], [], [], [], [], [], [], [], [], [999, 999, 45], [999, 999, 46], [999, 999, 47], [999, 999, 48], [999, 999, 49], [999, 999, 50], [999, 999, 51], [999, 999, 52], [999, 999, 53], [999, 999, 54], [999, 999, 55], [999, 999, 56], [999, 999, 57], [999, 999, 58], [999, 999, 59], [], [], [], [], [], [], [], [], [], [], [], [], [], [], [], [999, 999, 64], [999, 999, 65], [999, 999, 66], [999, 999, 67], [], [], [], [], [999, 999, 73, 78], [999, 999, 74, 79], [999, 999, 75, 80], [999, 999, 76, 81], [999, 999, 77, 82], [], [], [], [], [], [999, 999, 83], [999, 999, 84], [999, 999, 85], [999, 999, 86], [999, 999, 87], [], [], [], [], []]
def hw_flM : List Nat := [201, 202, 203, 999, 204, 999, 999, 999, 205, 206, 999, 999, 999, 999, 999, 999, 999, 207, 208, 209, 999, 999, 210, 999, 211, 212, 213, 214, 215, 216, 217, 218, 219, 220, 221, 222, 999]
def hw_fl (t k : Nat) : Nat := if t < 200 then (hw_flL.getD t []).getD k 999 else if t = 200 then hw_flM.getD k 999 else 999
def hw_elL : List (List Nat) := [[], [], [], [], [], [18, 19, 20, 21, 22, 23], [24, 25, 26, 27, 28, 29], [], [], [30, 31, 32, 33, 34, 35, 36, 37, 38, 39, 40, 41, 42, 43, 44], [], [], [], [], [60, 61, 62, 63], [68, 69, 70, 71, 72]]
def hw_el (t j : Nat) : Nat := (hw_elL.getD t []).getD j 999
def hw_TH : List Nat := List.range 88
def hw_TM : List Nat := List.range' 200 23
theorem hw_TH_in {t : Nat} (h : t < 88) : t ∈ hw_TH := List.mem_range.mpr h
theorem hw_TM_in {t : Nat} (h : 200 ≤ t) (h2 : t < 223) : t ∈ hw_TM := List.mem_range'_1.mpr ⟨h, h2⟩
/-- a cell of the class's (the reference's) of a kind -/
def hw_gH (t c : Nat) : Bool := decide (t < 88) && decide (hw_kd t = c)
def hw_gM (t c : Nat) : Bool := decide (200 ≤ t) && (decide (t < 223) && decide (hw_kd t = c))
def hw_T (TL : List Nat) (t c : Nat) : Prop := t ∈ TL ∧ hw_kd t = c
theorem hw_gH_T {t c : Nat} (h : hw_gH t c = true) : hw_T hw_TH t c := by
  simp only [hw_gH, Bool.and_eq_true, decide_eq_true_eq] at h
  exact ⟨hw_TH_in h.1, h.2⟩
theorem hw_gM_T {t c : Nat} (h : hw_gM t c = true) : hw_T hw_TM t c := by
  simp only [hw_gM, Bool.and_eq_true, decide_eq_true_eq] at h
  exact ⟨hw_TM_in h.1 h.2.1, h.2.2⟩
theorem hw_T0 : hw_T hw_TH 0 6 := ⟨hw_TH_in (by decide), by decide⟩
theorem hw_T1 : hw_T hw_TH 1 2 := ⟨hw_TH_in (by decide), by decide⟩
theorem hw_T2 : hw_T hw_TH 2 2 := ⟨hw_TH_in (by decide), by decide⟩
theorem hw_T3 : hw_T hw_TH 3 10 := ⟨hw_TH_in (by decide), by decide⟩
theorem hw_T4 : hw_T hw_TH 4 10 := ⟨hw_TH_in (by decide), by decide⟩
theorem hw_T5 : hw_T hw_TH 5 21 := ⟨hw_TH_in (by decide), by decide⟩
theorem hw_T6 : hw_T hw_TH 6 21 := ⟨hw_TH_in (by decide), by decide⟩
theorem hw_T7 : hw_T hw_TH 7 10 := ⟨hw_TH_in (by decide), by decide⟩
theorem hw_T8 : hw_T hw_TH 8 10 := ⟨hw_TH_in (by decide), by decide⟩
theorem hw_T9 : hw_T hw_TH 9 20 := ⟨hw_TH_in (by decide), by decide⟩
theorem hw_T10 : hw_T hw_TH 10 10 := ⟨hw_TH_in (by decide), by decide⟩
theorem hw_T11 : hw_T hw_TH 11 5 := ⟨hw_TH_in (by decide), by decide⟩
theorem hw_T12 : hw_T hw_TH 12 11 := ⟨hw_TH_in (by decide), by decide⟩
theorem hw_T13 : hw_T hw_TH 13 1 := ⟨hw_TH_in (by decide), by decide⟩
theorem hw_T14 : hw_T hw_TH 14 22 := ⟨hw_TH_in (by decide), by decide⟩
theorem hw_T15 : hw_T hw_TH 15 23 := ⟨hw_TH_in (by decide), by decide⟩
theorem hw_T16 : hw_T hw_TH 16 10 := ⟨hw_TH_in (by decide), by decide⟩
theorem hw_T17 : hw_T hw_TH 17 11 := ⟨hw_TH_in (by decide), by decide⟩
theorem hw_T18 : hw_T hw_TH 18 5 := ⟨hw_TH_in (by decide), by decide⟩
theorem hw_T19 : hw_T hw_TH 19 5 := ⟨hw_TH_in (by decide), by decide⟩
theorem hw_T20 : hw_T hw_TH 20 5 := ⟨hw_TH_in (by decide), by decide⟩
theorem hw_T21 : hw_T hw_TH 21 5 := ⟨hw_TH_in (by decide), by decide⟩
theorem hw_T22 : hw_T hw_TH 22 5 := ⟨hw_TH_in (by decide), by decide⟩
theorem hw_T23 : hw_T hw_TH 23 5 := ⟨hw_TH_in (by decide), by decide⟩
theorem hw_T24 : hw_T hw_TH 24 5 := ⟨hw_TH_in (by decide), by decide⟩
theorem hw_T25 : hw_T hw_TH 25 5 := ⟨hw_TH_in (by decide), by decide⟩
theorem hw_T26 : hw_T hw_TH 26 5 := ⟨hw_TH_in (by decide), by decide⟩
theorem hw_T27 : hw_T hw_TH 27 5 := ⟨hw_TH_in (by decide), by decide⟩
theorem hw_T28 : hw_T hw_TH 28 5 := ⟨hw_TH_in (by decide), by decide⟩
theorem hw_T29 : hw_T hw_TH 29 5 := ⟨hw_TH_in (by decide), by decide⟩
theorem hw_T30 : hw_T hw_TH 30 0 := ⟨hw_TH_in (by decide), by decide⟩
theorem hw_T31 : hw_T hw_TH 31 0 := ⟨hw_TH_in (by decide), by decide⟩
theorem hw_T32 : hw_T hw_TH 32 0 := ⟨hw_TH_in (by decide), by decide⟩
theorem hw_T33 : hw_T hw_TH 33 0 := ⟨hw_TH_in (by decide), by decide⟩
theorem hw_T34 : hw_T hw_TH 34 0 := ⟨hw_TH_in (by decide), by decide⟩
theorem hw_T35 : hw_T hw_TH 35 0 := ⟨hw_TH_in (by decide), by decide⟩
theorem hw_T36 : hw_T hw_TH 36 0 := ⟨hw_TH_in (by decide), by decide⟩
theorem hw_T37 : hw_T hw_TH 37 0 := ⟨hw_TH_in (by decide), by decide⟩
theorem hw_T38 : hw_T hw_TH 38 0 := ⟨hw_TH_in (by decide), by decide⟩
theorem hw_T39 : hw_T hw_TH 39 0 := ⟨hw_TH_in (by decide), by decide⟩
theorem hw_T40 : hw_T hw_TH 40 0 := ⟨hw_TH_in (by decide), by decide⟩
theorem hw_T41 : hw_T hw_TH 41 0 := ⟨hw_TH_in (by decide), by decide⟩
theorem hw_T42 : hw_T hw_TH 42 0 := ⟨hw_TH_in (by decide), by decide⟩
theorem hw_T43 : hw_T hw_TH 43 0 := ⟨hw_TH_in (by decide), by decide⟩
theorem hw_T44 : hw_T hw_TH 44 0 := ⟨hw_TH_in (by decide), by decide⟩
theorem hw_T45 : hw_T hw_TH 45 10 := ⟨hw_TH_in (by decide), by decide⟩
theorem hw_T46 : hw_T hw_TH 46 10 := ⟨hw_TH_in (by decide), by decide⟩
theorem hw_T47 : hw_T hw_TH 47 10 := ⟨hw_TH_in (by decide), by decide⟩
theorem hw_T48 : hw_T hw_TH 48 10 := ⟨hw_TH_in (by decide), by decide⟩
theorem hw_T49 : hw_T hw_TH 49 10 := ⟨hw_TH_in (by decide), by decide⟩
theorem hw_T50 : hw_T hw_TH 50 10 := ⟨hw_TH_in (by decide), by decide⟩
theorem hw_T51 : hw_T hw_TH 51 10 := ⟨hw_TH_in (by decide), by decide⟩
theorem hw_T52 : hw_T hw_TH 52 10 := ⟨hw_TH_in (by decide), by decide⟩
theorem hw_T53 : hw_T hw_TH 53 10 := ⟨hw_TH_in (by decide), by decide⟩
theorem hw_T54 : hw_T hw_TH 54 10 := ⟨hw_TH_in (by decide), by decide⟩
theorem hw_T55 : hw_T hw_TH 55 10 := ⟨hw_TH_in (by decide), by decide⟩
theorem hw_T56 : hw_T hw_TH 56 10 := ⟨hw_TH_in (by decide), by decide⟩
theorem hw_T57 : hw_T hw_TH 57 10 := ⟨hw_TH_in (by decide), by decide⟩
theorem hw_T58 : hw_T hw_TH 58 10 := ⟨hw_TH_in (by decide), by decide⟩
theorem hw_T59 : hw_T hw_TH 59 10 := ⟨hw_TH_in (by decide), by decide⟩
theorem hw_T60 : hw_T hw_TH 60 3 := ⟨hw_TH_in (by decide), by decide⟩
theorem hw_T61 : hw_T hw_TH 61 3 := ⟨hw_TH_in (by decide), by decide⟩
theorem hw_T62 : hw_T hw_TH 62 3 := ⟨hw_TH_in (by decide), by decide⟩
theorem hw_T63 : hw_T hw_TH 63 3 := ⟨hw_TH_in (by decide), by decide⟩
theorem hw_T64 : hw_T hw_TH 64 10 := ⟨hw_TH_in (by decide), by decide⟩
theorem hw_T65 : hw_T hw_TH 65 10 := ⟨hw_TH_in (by decide), by decide⟩
theorem hw_T66 : hw_T hw_TH 66 10 := ⟨hw_TH_in (by decide), by decide⟩
theorem hw_T67 : hw_T hw_TH 67 10 := ⟨hw_TH_in (by decide), by decide⟩
theorem hw_T68 : hw_T hw_TH 68 4 := ⟨hw_TH_in (by decide), by decide⟩
theorem hw_T69 : hw_T hw_TH 69 4 := ⟨hw_TH_in (by decide), by decide⟩
theorem hw_T70 : hw_T hw_TH 70 4 := ⟨hw_TH_in (by decide), by decide⟩
theorem hw_T71 : hw_T hw_TH 71 4 := ⟨hw_TH_in (by decide), by decide⟩
theorem hw_T72 : hw_T hw_TH 72 4 := ⟨hw_TH_in (by decide), by decide⟩
theorem hw_T73 : hw_T hw_TH 73 5 := ⟨hw_TH_in (by decide), by decide⟩
theorem hw_T74 : hw_T hw_TH 74 5 := ⟨hw_TH_in (by decide), by decide⟩
theorem hw_T75 : hw_T hw_TH 75 5 := ⟨hw_TH_in (by decide), by decide⟩
theorem hw_T76 : hw_T hw_TH 76 5 := ⟨hw_TH_in (by decide), by decide⟩
theorem hw_T77 : hw_T hw_TH 77 5 := ⟨hw_TH_in (by decide), by decide⟩
theorem hw_T78 : hw_T hw_TH 78 3 := ⟨hw_TH_in (by decide), by decide⟩
theorem hw_T79 : hw_T hw_TH 79 3 := ⟨hw_TH_in (by decide), by decide⟩
theorem hw_T80 : hw_T hw_TH 80 3 := ⟨hw_TH_in (by decide), by decide⟩
theorem hw_T81 : hw_T hw_TH 81 3 := ⟨hw_TH_in (by decide), by decide⟩
theorem hw_T82 : hw_T hw_TH 82 3 := ⟨hw_TH_in (by decide), by decide⟩
theorem hw_T83 : hw_T hw_TH 83 10 := ⟨hw_TH_in (by decide), by decide⟩
theorem hw_T84 : hw_T hw_TH 84 10 := ⟨hw_TH_in (by decide), by decide⟩
theorem hw_T85 : hw_T hw_TH 85 10 := ⟨hw_TH_in (by decide), by decide⟩
theorem hw_T86 : hw_T hw_TH 86 10 := ⟨hw_TH_in (by decide), by decide⟩
theorem hw_T87 : hw_T hw_TH 87 10 := ⟨hw_TH_in (by decide), by decide⟩
theorem hw_T200 : hw_T hw_TM 200 7 := ⟨hw_TM_in (by decide) (by decide), by decide⟩
theorem hw_T201 : hw_T hw_TM 201 10 := ⟨hw_TM_in (by decide) (by decide), by decide⟩
theorem hw_T202 : hw_T hw_TM 202 10 := ⟨hw_TM_in (by decide) (by decide), by decide⟩
theorem hw_T203 : hw_T hw_TM 203 10 := ⟨hw_TM_in (by decide) (by decide), by decide⟩
theorem hw_T204 : hw_T hw_TM 204 10 := ⟨hw_TM_in (by decide) (by decide), by decide⟩
theorem hw_T205 : hw_T hw_TM 205 10 := ⟨hw_TM_in (by decide) (by decide), by decide⟩
theorem hw_T206 : hw_T hw_TM 206 10 := ⟨hw_TM_in (by decide) (by decide), by decide⟩
theorem hw_T207 : hw_T hw_TM 207 12 := ⟨hw_TM_in (by decide) (by decide), by decide⟩
theorem hw_T208 : hw_T hw_TM 208 10 := ⟨hw_TM_in (by decide) (by decide), by decide⟩
theorem hw_T209 : hw_T hw_TM 209 10 := ⟨hw_TM_in (by decide) (by decide), by decide⟩
theorem hw_T210 : hw_T hw_TM 210 10 := ⟨hw_TM_in (by decide) (by decide), by decide⟩
theorem hw_T211 : hw_T hw_TM 211 13 := ⟨hw_TM_in (by decide) (by decide), by decide⟩
theorem hw_T212 : hw_T hw_TM 212 10 := ⟨hw_TM_in (by decide) (by decide), by decide⟩
theorem hw_T213 : hw_T hw_TM 213 10 := ⟨hw_TM_in (by decide) (by decide), by decide⟩
theorem hw_T214 : hw_T hw_TM 214 10 := ⟨hw_TM_in (by decide) (by decide), by decide⟩
theorem hw_T215 : hw_T hw_TM 215 10 := ⟨hw_TM_in (by decide) (by decide), by decide⟩
theorem hw_T216 : hw_T hw_TM 216 10 := ⟨hw_TM_in (by decide) (by decide), by decide⟩
theorem hw_T217 : hw_T hw_TM 217 10 := ⟨hw_TM_in (by decide) (by decide), by decide⟩
theorem hw_T218 : hw_T hw_TM 218 10 := ⟨hw_TM_in (by decide) (by decide), by decide⟩
theorem hw_T219 : hw_T hw_TM 219 10 := ⟨hw_TM_in (by decide) (by decide), by decide⟩
theorem hw_T220 : hw_T hw_TM 220 10 := ⟨hw_TM_in (by decide) (by decide), by decide⟩
theorem hw_T221 : hw_T hw_TM 221 10 := ⟨hw_TM_in (by decide) (by decide), by decide⟩
theorem hw_T222 : hw_T hw_TM 222 10 := ⟨hw_TM_in (by decide) (by decide), by decide⟩
def hw_ka : List Int32 := [-1000000005, 0, 0, 1, 2, 0]
def hw_sl : List Nat := [4, 4, 4, 3, 2, 3]
def hw_sb : List (List Int32) := [[98, 97, 110, 100], [112, 117, 115, 104], [116, 105, 114, 101], [101, 111, 115], [97, 115], [115, 108, 104]]
