/-! the loops of BelfryHouse$Rows, a turn each; printed by program (wip/gen/p24.py) -/
/-- BelfryHouse$Rows.howMany(I)I: entry -/
theorem en_129 (d : Nat) (w : Wd) (n : Int32)   (hF : wK w 1 = (31, 9)) (hy1 : inB n 9 = true) : val (129, d, 0, [some (.int n)], [], w) = some (some (.int (gI w 1 (n).toNatClampNeg)), w) := by
  refine (val_g (c2 := (129, d, 3, [some (.int n)], [.ref 1], w)) rfl).trans ?_
  refine (val_g (c2 := (129, d, 4, [some (.int n)], [.int n, .ref 1], w)) rfl).trans ?_
  refine (val_ial rfl hF rfl hy1).trans ?_
  show val (129, d, 5, [some (.int n)], [.int (gI w 1 (n).toNatClampNeg)], w) = _
  exact val_r rfl
/-- BelfryHouse$Rows.placeOf(III)I: entry -/
theorem en_132 (d : Nat) (w : Wd) (n : Int32) (row : Int32) (bell : Int32)     : val (132, d + 1, 0, [some (.int n), some (.int row), some (.int bell), none], [], w) = val (132, d + 1, 2, [some (.int n), some (.int row), some (.int bell), some (.int 0)], [], w) := by
  refine (val_g (c2 := (132, d + 1, 1, [some (.int n), some (.int row), some (.int bell), none], [.int 0], w)) rfl).trans ?_
  refine (val_g (c2 := (132, d + 1, 2, [some (.int n), some (.int row), some (.int bell), some (.int 0)], [], w)) rfl).trans ?_
  rfl
/-- BelfryHouse$Rows.placeOf(III)I: the loop at 2 -/
theorem lp_132_2 (d : Nat) (w : Wd) (n : Int32) (row : Int32) (bell : Int32) (place : Int32)     : val (132, d + 1, 2, [some (.int n), some (.int row), some (.int bell), some (.int place)], [], w) = (if (n - 1) ≤ place then some (some (.int place), w) else (if (fn_130 n row place) = bell then some (some (.int place), w) else val (132, d + 1, 2, [some (.int n), some (.int row), some (.int bell), some (.int (place + 1))], [], w))) := by
  refine (val_g (c2 := (132, d + 1, 3, [some (.int n), some (.int row), some (.int bell), some (.int place)], [.int place], w)) rfl).trans ?_
  refine (val_g (c2 := (132, d + 1, 4, [some (.int n), some (.int row), some (.int bell), some (.int place)], [.int n, .int place], w)) rfl).trans ?_
  refine (val_g (c2 := (132, d + 1, 5, [some (.int n), some (.int row), some (.int bell), some (.int place)], [.int 1, .int n, .int place], w)) rfl).trans ?_
  refine (val_g (c2 := (132, d + 1, 6, [some (.int n), some (.int row), some (.int bell), some (.int place)], [.int (n - 1), .int place], w)) rfl).trans ?_
  by_cases hc33 : (n - 1) ≤ place
  · refine ((val_ic_ge rfl).trans (if_pos hc33)).trans ?_
    show val (132, d + 1, 25, [some (.int n), some (.int row), some (.int bell), some (.int place)], [], w) = _
    rw [if_pos hc33]
    refine (val_g (c2 := (132, d + 1, 26, [some (.int n), some (.int row), some (.int bell), some (.int place)], [.int place], w)) rfl).trans ?_
    exact val_r rfl
  · refine ((val_ic_ge rfl).trans (if_neg hc33)).trans ?_
    show val (132, d + 1, 9, [some (.int n), some (.int row), some (.int bell), some (.int place)], [], w) = _
    rw [if_neg hc33]
    refine (val_g (c2 := (132, d + 1, 10, [some (.int n), some (.int row), some (.int bell), some (.int place)], [.int n], w)) rfl).trans ?_
    refine (val_g (c2 := (132, d + 1, 11, [some (.int n), some (.int row), some (.int bell), some (.int place)], [.int row, .int n], w)) rfl).trans ?_
    refine (val_g (c2 := (132, d + 1, 12, [some (.int n), some (.int row), some (.int bell), some (.int place)], [.int place, .int row, .int n], w)) rfl).trans ?_
    refine (val_call (w1 := w) (pc2 := 15) rfl rfl rfl rfl rfl (Nat.le_of_ble_eq_true rfl) (Nat.le_of_ble_eq_true rfl) rfl (ev_130 (d) w n row place) rfl).trans ?_
    show val (132, d + 1, 15, [some (.int n), some (.int row), some (.int bell), some (.int place)], [.int (fn_130 n row place)], w) = _
    refine (val_g (c2 := (132, d + 1, 16, [some (.int n), some (.int row), some (.int bell), some (.int place)], [.int bell, .int (fn_130 n row place)], w)) rfl).trans ?_
    by_cases hc34 : (fn_130 n row place) = bell
    · refine ((val_ic_eq rfl).trans (if_pos hc34)).trans ?_
      show val (132, d + 1, 25, [some (.int n), some (.int row), some (.int bell), some (.int place)], [], w) = _
      rw [if_pos hc34]
      refine (val_g (c2 := (132, d + 1, 26, [some (.int n), some (.int row), some (.int bell), some (.int place)], [.int place], w)) rfl).trans ?_
      exact val_r rfl
    · refine ((val_ic_eq rfl).trans (if_neg hc34)).trans ?_
      show val (132, d + 1, 19, [some (.int n), some (.int row), some (.int bell), some (.int place)], [], w) = _
      rw [if_neg hc34]
      refine (val_g (c2 := (132, d + 1, 22, [some (.int n), some (.int row), some (.int bell), some (.int (place + 1))], [], w)) rfl).trans ?_
      refine (val_g (c2 := (132, d + 1, 2, [some (.int n), some (.int row), some (.int bell), some (.int (place + 1))], [], w)) rfl).trans ?_
      rfl
/-- BelfryHouse$Rows.rounds(I)I: entry -/
theorem en_133 (d : Nat) (w : Wd) (n : Int32)     : val (133, d, 0, [some (.int n), none, none], [], w) = val (133, d, 4, [some (.int n), some (.int 0), some (.int 0)], [], w) := by
  refine (val_g (c2 := (133, d, 1, [some (.int n), none, none], [.int 0], w)) rfl).trans ?_
  refine (val_g (c2 := (133, d, 2, [some (.int n), some (.int 0), none], [], w)) rfl).trans ?_
  refine (val_g (c2 := (133, d, 3, [some (.int n), some (.int 0), none], [.int 0], w)) rfl).trans ?_
  refine (val_g (c2 := (133, d, 4, [some (.int n), some (.int 0), some (.int 0)], [], w)) rfl).trans ?_
  rfl
/-- BelfryHouse$Rows.rounds(I)I: the loop at 4 -/
theorem lp_133_4 (d : Nat) (w : Wd) (n : Int32) (row : Int32) (i : Int32)     : val (133, d, 4, [some (.int n), some (.int row), some (.int i)], [], w) = (if n ≤ i then some (some (.int row), w) else val (133, d, 4, [some (.int n), some (.int ((row <<< (4 &&& 31)) ||| i)), some (.int (i + 1))], [], w)) := by
  refine (val_g (c2 := (133, d, 5, [some (.int n), some (.int row), some (.int i)], [.int i], w)) rfl).trans ?_
  refine (val_g (c2 := (133, d, 6, [some (.int n), some (.int row), some (.int i)], [.int n, .int i], w)) rfl).trans ?_
  by_cases hc35 : n ≤ i
  · refine ((val_ic_ge rfl).trans (if_pos hc35)).trans ?_
    show val (133, d, 21, [some (.int n), some (.int row), some (.int i)], [], w) = _
    rw [if_pos hc35]
    refine (val_g (c2 := (133, d, 22, [some (.int n), some (.int row), some (.int i)], [.int row], w)) rfl).trans ?_
    exact val_r rfl
  · refine ((val_ic_ge rfl).trans (if_neg hc35)).trans ?_
    show val (133, d, 9, [some (.int n), some (.int row), some (.int i)], [], w) = _
    rw [if_neg hc35]
    refine (val_g (c2 := (133, d, 10, [some (.int n), some (.int row), some (.int i)], [.int row], w)) rfl).trans ?_
    refine (val_g (c2 := (133, d, 11, [some (.int n), some (.int row), some (.int i)], [.int 4, .int row], w)) rfl).trans ?_
    refine (val_g (c2 := (133, d, 12, [some (.int n), some (.int row), some (.int i)], [.int (row <<< (4 &&& 31))], w)) rfl).trans ?_
    refine (val_g (c2 := (133, d, 13, [some (.int n), some (.int row), some (.int i)], [.int i, .int (row <<< (4 &&& 31))], w)) rfl).trans ?_
    refine (val_g (c2 := (133, d, 14, [some (.int n), some (.int row), some (.int i)], [.int ((row <<< (4 &&& 31)) ||| i)], w)) rfl).trans ?_
    refine (val_g (c2 := (133, d, 15, [some (.int n), some (.int ((row <<< (4 &&& 31)) ||| i)), some (.int i)], [], w)) rfl).trans ?_
    refine (val_g (c2 := (133, d, 18, [some (.int n), some (.int ((row <<< (4 &&& 31)) ||| i)), some (.int (i + 1))], [], w)) rfl).trans ?_
    refine (val_g (c2 := (133, d, 4, [some (.int n), some (.int ((row <<< (4 &&& 31)) ||| i)), some (.int (i + 1))], [], w)) rfl).trans ?_
    rfl
/-- BelfryHouse$Rows.toNumber(II)I: entry -/
theorem en_135 (d : Nat) (w : Wd) (n : Int32) (row : Int32)     : val (135, d + 1, 0, [some (.int n), some (.int row), none, none], [], w) = val (135, d + 1, 4, [some (.int n), some (.int row), some (.int 0), some (.int 0)], [], w) := by
  refine (val_g (c2 := (135, d + 1, 1, [some (.int n), some (.int row), none, none], [.int 0], w)) rfl).trans ?_
  refine (val_g (c2 := (135, d + 1, 2, [some (.int n), some (.int row), some (.int 0), none], [], w)) rfl).trans ?_
  refine (val_g (c2 := (135, d + 1, 3, [some (.int n), some (.int row), some (.int 0), none], [.int 0], w)) rfl).trans ?_
  refine (val_g (c2 := (135, d + 1, 4, [some (.int n), some (.int row), some (.int 0), some (.int 0)], [], w)) rfl).trans ?_
  rfl
/-- BelfryHouse$Rows.toNumber(II)I: the loop at 4 -/
theorem lp_135_4 (d : Nat) (w : Wd) (n : Int32) (row : Int32) (number : Int32) (place : Int32)     : val (135, d + 1, 4, [some (.int n), some (.int row), some (.int number), some (.int place)], [], w) = (if n ≤ place then some (some (.int number), w) else val (135, d + 1, 4, [some (.int n), some (.int row), some (.int (((number * 10) + (fn_130 n row place)) + 1)), some (.int (place + 1))], [], w)) := by
  refine (val_g (c2 := (135, d + 1, 5, [some (.int n), some (.int row), some (.int number), some (.int place)], [.int place], w)) rfl).trans ?_
  refine (val_g (c2 := (135, d + 1, 6, [some (.int n), some (.int row), some (.int number), some (.int place)], [.int n, .int place], w)) rfl).trans ?_
  by_cases hc36 : n ≤ place
  · refine ((val_ic_ge rfl).trans (if_pos hc36)).trans ?_
    show val (135, d + 1, 29, [some (.int n), some (.int row), some (.int number), some (.int place)], [], w) = _
    rw [if_pos hc36]
    refine (val_g (c2 := (135, d + 1, 30, [some (.int n), some (.int row), some (.int number), some (.int place)], [.int number], w)) rfl).trans ?_
    exact val_r rfl
  · refine ((val_ic_ge rfl).trans (if_neg hc36)).trans ?_
    show val (135, d + 1, 9, [some (.int n), some (.int row), some (.int number), some (.int place)], [], w) = _
    rw [if_neg hc36]
    refine (val_g (c2 := (135, d + 1, 10, [some (.int n), some (.int row), some (.int number), some (.int place)], [.int number], w)) rfl).trans ?_
    refine (val_g (c2 := (135, d + 1, 12, [some (.int n), some (.int row), some (.int number), some (.int place)], [.int 10, .int number], w)) rfl).trans ?_
    refine (val_g (c2 := (135, d + 1, 13, [some (.int n), some (.int row), some (.int number), some (.int place)], [.int (number * 10)], w)) rfl).trans ?_
    refine (val_g (c2 := (135, d + 1, 14, [some (.int n), some (.int row), some (.int number), some (.int place)], [.int n, .int (number * 10)], w)) rfl).trans ?_
    refine (val_g (c2 := (135, d + 1, 15, [some (.int n), some (.int row), some (.int number), some (.int place)], [.int row, .int n, .int (number * 10)], w)) rfl).trans ?_
    refine (val_g (c2 := (135, d + 1, 16, [some (.int n), some (.int row), some (.int number), some (.int place)], [.int place, .int row, .int n, .int (number * 10)], w)) rfl).trans ?_
    refine (val_call (w1 := w) (pc2 := 19) rfl rfl rfl rfl rfl (Nat.le_of_ble_eq_true rfl) (Nat.le_of_ble_eq_true rfl) rfl (ev_130 (d) w n row place) rfl).trans ?_
    show val (135, d + 1, 19, [some (.int n), some (.int row), some (.int number), some (.int place)], [.int (fn_130 n row place), .int (number * 10)], w) = _
    refine (val_g (c2 := (135, d + 1, 20, [some (.int n), some (.int row), some (.int number), some (.int place)], [.int ((number * 10) + (fn_130 n row place))], w)) rfl).trans ?_
    refine (val_g (c2 := (135, d + 1, 21, [some (.int n), some (.int row), some (.int number), some (.int place)], [.int 1, .int ((number * 10) + (fn_130 n row place))], w)) rfl).trans ?_
    refine (val_g (c2 := (135, d + 1, 22, [some (.int n), some (.int row), some (.int number), some (.int place)], [.int (((number * 10) + (fn_130 n row place)) + 1)], w)) rfl).trans ?_
    refine (val_g (c2 := (135, d + 1, 23, [some (.int n), some (.int row), some (.int (((number * 10) + (fn_130 n row place)) + 1)), some (.int place)], [], w)) rfl).trans ?_
    refine (val_g (c2 := (135, d + 1, 26, [some (.int n), some (.int row), some (.int (((number * 10) + (fn_130 n row place)) + 1)), some (.int (place + 1))], [], w)) rfl).trans ?_
    refine (val_g (c2 := (135, d + 1, 4, [some (.int n), some (.int row), some (.int (((number * 10) + (fn_130 n row place)) + 1)), some (.int (place + 1))], [], w)) rfl).trans ?_
    rfl
/-- BelfryHouse$Rows.times(III)I: entry -/
theorem en_136 (d : Nat) (w : Wd) (n : Int32) (a : Int32) (b : Int32)     : val (136, d + 1, 0, [some (.int n), some (.int a), some (.int b), none, none], [], w) = val (136, d + 1, 5, [some (.int n), some (.int a), some (.int b), some (.int 0), some (.int 0)], [], w) := by
  refine (val_g (c2 := (136, d + 1, 1, [some (.int n), some (.int a), some (.int b), none, none], [.int 0], w)) rfl).trans ?_
  refine (val_g (c2 := (136, d + 1, 2, [some (.int n), some (.int a), some (.int b), some (.int 0), none], [], w)) rfl).trans ?_
  refine (val_g (c2 := (136, d + 1, 3, [some (.int n), some (.int a), some (.int b), some (.int 0), none], [.int 0], w)) rfl).trans ?_
  refine (val_g (c2 := (136, d + 1, 5, [some (.int n), some (.int a), some (.int b), some (.int 0), some (.int 0)], [], w)) rfl).trans ?_
  rfl
/-- BelfryHouse$Rows.times(III)I: the loop at 5 -/
theorem lp_136_5 (d : Nat) (w : Wd) (n : Int32) (a : Int32) (b : Int32) (row : Int32) (place : Int32)     : val (136, d + 1, 5, [some (.int n), some (.int a), some (.int b), some (.int row), some (.int place)], [], w) = (if n ≤ place then some (some (.int row), w) else val (136, d + 1, 5, [some (.int n), some (.int a), some (.int b), some (.int ((row <<< (4 &&& 31)) ||| (fn_130 n a ((fn_130 n b place))))), some (.int (place + 1))], [], w)) := by
  refine (val_g (c2 := (136, d + 1, 7, [some (.int n), some (.int a), some (.int b), some (.int row), some (.int place)], [.int place], w)) rfl).trans ?_
  refine (val_g (c2 := (136, d + 1, 8, [some (.int n), some (.int a), some (.int b), some (.int row), some (.int place)], [.int n, .int place], w)) rfl).trans ?_
  by_cases hc37 : n ≤ place
  · refine ((val_ic_ge rfl).trans (if_pos hc37)).trans ?_
    show val (136, d + 1, 34, [some (.int n), some (.int a), some (.int b), some (.int row), some (.int place)], [], w) = _
    rw [if_pos hc37]
    refine (val_g (c2 := (136, d + 1, 35, [some (.int n), some (.int a), some (.int b), some (.int row), some (.int place)], [.int row], w)) rfl).trans ?_
    exact val_r rfl
  · refine ((val_ic_ge rfl).trans (if_neg hc37)).trans ?_
    show val (136, d + 1, 11, [some (.int n), some (.int a), some (.int b), some (.int row), some (.int place)], [], w) = _
    rw [if_neg hc37]
    refine (val_g (c2 := (136, d + 1, 12, [some (.int n), some (.int a), some (.int b), some (.int row), some (.int place)], [.int row], w)) rfl).trans ?_
    refine (val_g (c2 := (136, d + 1, 13, [some (.int n), some (.int a), some (.int b), some (.int row), some (.int place)], [.int 4, .int row], w)) rfl).trans ?_
    refine (val_g (c2 := (136, d + 1, 14, [some (.int n), some (.int a), some (.int b), some (.int row), some (.int place)], [.int (row <<< (4 &&& 31))], w)) rfl).trans ?_
    refine (val_g (c2 := (136, d + 1, 15, [some (.int n), some (.int a), some (.int b), some (.int row), some (.int place)], [.int n, .int (row <<< (4 &&& 31))], w)) rfl).trans ?_
    refine (val_g (c2 := (136, d + 1, 16, [some (.int n), some (.int a), some (.int b), some (.int row), some (.int place)], [.int a, .int n, .int (row <<< (4 &&& 31))], w)) rfl).trans ?_
    refine (val_g (c2 := (136, d + 1, 17, [some (.int n), some (.int a), some (.int b), some (.int row), some (.int place)], [.int n, .int a, .int n, .int (row <<< (4 &&& 31))], w)) rfl).trans ?_
    refine (val_g (c2 := (136, d + 1, 18, [some (.int n), some (.int a), some (.int b), some (.int row), some (.int place)], [.int b, .int n, .int a, .int n, .int (row <<< (4 &&& 31))], w)) rfl).trans ?_
    refine (val_g (c2 := (136, d + 1, 20, [some (.int n), some (.int a), some (.int b), some (.int row), some (.int place)], [.int place, .int b, .int n, .int a, .int n, .int (row <<< (4 &&& 31))], w)) rfl).trans ?_
    refine (val_call (w1 := w) (pc2 := 23) rfl rfl rfl rfl rfl (Nat.le_of_ble_eq_true rfl) (Nat.le_of_ble_eq_true rfl) rfl (ev_130 (d) w n b place) rfl).trans ?_
    show val (136, d + 1, 23, [some (.int n), some (.int a), some (.int b), some (.int row), some (.int place)], [.int (fn_130 n b place), .int a, .int n, .int (row <<< (4 &&& 31))], w) = _
    refine (val_call (w1 := w) (pc2 := 26) rfl rfl rfl rfl rfl (Nat.le_of_ble_eq_true rfl) (Nat.le_of_ble_eq_true rfl) rfl (ev_130 (d) w n a ((fn_130 n b place))) rfl).trans ?_
    show val (136, d + 1, 26, [some (.int n), some (.int a), some (.int b), some (.int row), some (.int place)], [.int (fn_130 n a ((fn_130 n b place))), .int (row <<< (4 &&& 31))], w) = _
    refine (val_g (c2 := (136, d + 1, 27, [some (.int n), some (.int a), some (.int b), some (.int row), some (.int place)], [.int ((row <<< (4 &&& 31)) ||| (fn_130 n a ((fn_130 n b place))))], w)) rfl).trans ?_
    refine (val_g (c2 := (136, d + 1, 28, [some (.int n), some (.int a), some (.int b), some (.int ((row <<< (4 &&& 31)) ||| (fn_130 n a ((fn_130 n b place))))), some (.int place)], [], w)) rfl).trans ?_
    refine (val_g (c2 := (136, d + 1, 31, [some (.int n), some (.int a), some (.int b), some (.int ((row <<< (4 &&& 31)) ||| (fn_130 n a ((fn_130 n b place))))), some (.int (place + 1))], [], w)) rfl).trans ?_
    refine (val_g (c2 := (136, d + 1, 5, [some (.int n), some (.int a), some (.int b), some (.int ((row <<< (4 &&& 31)) ||| (fn_130 n a ((fn_130 n b place))))), some (.int (place + 1))], [], w)) rfl).trans ?_
    rfl
/-- BelfryHouse$Rows.undone(II)I: entry -/
theorem en_137 (d : Nat) (w : Wd) (n : Int32) (a : Int32)     : val (137, d + 1, 0, [some (.int n), some (.int a), none, none], [], w) = val (137, d + 1, 4, [some (.int n), some (.int a), some (.int 0), some (.int 0)], [], w) := by
  refine (val_g (c2 := (137, d + 1, 1, [some (.int n), some (.int a), none, none], [.int 0], w)) rfl).trans ?_
  refine (val_g (c2 := (137, d + 1, 2, [some (.int n), some (.int a), some (.int 0), none], [], w)) rfl).trans ?_
  refine (val_g (c2 := (137, d + 1, 3, [some (.int n), some (.int a), some (.int 0), none], [.int 0], w)) rfl).trans ?_
  refine (val_g (c2 := (137, d + 1, 4, [some (.int n), some (.int a), some (.int 0), some (.int 0)], [], w)) rfl).trans ?_
  rfl
/-- BelfryHouse$Rows.undone(II)I: the loop at 4 -/
theorem lp_137_4 (d : Nat) (w : Wd) (n : Int32) (a : Int32) (row : Int32) (place : Int32)     : val (137, d + 1, 4, [some (.int n), some (.int a), some (.int row), some (.int place)], [], w) = (if n ≤ place then some (some (.int row), w) else val (137, d + 1, 4, [some (.int n), some (.int a), some (.int (row ||| (fn_131 n place ((fn_130 n a place))))), some (.int (place + 1))], [], w)) := by
  refine (val_g (c2 := (137, d + 1, 5, [some (.int n), some (.int a), some (.int row), some (.int place)], [.int place], w)) rfl).trans ?_
  refine (val_g (c2 := (137, d + 1, 6, [some (.int n), some (.int a), some (.int row), some (.int place)], [.int n, .int place], w)) rfl).trans ?_
  by_cases hc38 : n ≤ place
  · refine ((val_ic_ge rfl).trans (if_pos hc38)).trans ?_
    show val (137, d + 1, 29, [some (.int n), some (.int a), some (.int row), some (.int place)], [], w) = _
    rw [if_pos hc38]
    refine (val_g (c2 := (137, d + 1, 30, [some (.int n), some (.int a), some (.int row), some (.int place)], [.int row], w)) rfl).trans ?_
    exact val_r rfl
  · refine ((val_ic_ge rfl).trans (if_neg hc38)).trans ?_
    show val (137, d + 1, 9, [some (.int n), some (.int a), some (.int row), some (.int place)], [], w) = _
    rw [if_neg hc38]
    refine (val_g (c2 := (137, d + 1, 10, [some (.int n), some (.int a), some (.int row), some (.int place)], [.int row], w)) rfl).trans ?_
    refine (val_g (c2 := (137, d + 1, 11, [some (.int n), some (.int a), some (.int row), some (.int place)], [.int n, .int row], w)) rfl).trans ?_
    refine (val_g (c2 := (137, d + 1, 12, [some (.int n), some (.int a), some (.int row), some (.int place)], [.int place, .int n, .int row], w)) rfl).trans ?_
    refine (val_g (c2 := (137, d + 1, 13, [some (.int n), some (.int a), some (.int row), some (.int place)], [.int n, .int place, .int n, .int row], w)) rfl).trans ?_
    refine (val_g (c2 := (137, d + 1, 14, [some (.int n), some (.int a), some (.int row), some (.int place)], [.int a, .int n, .int place, .int n, .int row], w)) rfl).trans ?_
    refine (val_g (c2 := (137, d + 1, 15, [some (.int n), some (.int a), some (.int row), some (.int place)], [.int place, .int a, .int n, .int place, .int n, .int row], w)) rfl).trans ?_
    refine (val_call (w1 := w) (pc2 := 18) rfl rfl rfl rfl rfl (Nat.le_of_ble_eq_true rfl) (Nat.le_of_ble_eq_true rfl) rfl (ev_130 (d) w n a place) rfl).trans ?_
    show val (137, d + 1, 18, [some (.int n), some (.int a), some (.int row), some (.int place)], [.int (fn_130 n a place), .int place, .int n, .int row], w) = _
    refine (val_call (w1 := w) (pc2 := 21) rfl rfl rfl rfl rfl (Nat.le_of_ble_eq_true rfl) (Nat.le_of_ble_eq_true rfl) rfl (ev_131 (d) w n place ((fn_130 n a place))) rfl).trans ?_
    show val (137, d + 1, 21, [some (.int n), some (.int a), some (.int row), some (.int place)], [.int (fn_131 n place ((fn_130 n a place))), .int row], w) = _
    refine (val_g (c2 := (137, d + 1, 22, [some (.int n), some (.int a), some (.int row), some (.int place)], [.int (row ||| (fn_131 n place ((fn_130 n a place))))], w)) rfl).trans ?_
    refine (val_g (c2 := (137, d + 1, 23, [some (.int n), some (.int a), some (.int (row ||| (fn_131 n place ((fn_130 n a place))))), some (.int place)], [], w)) rfl).trans ?_
    refine (val_g (c2 := (137, d + 1, 26, [some (.int n), some (.int a), some (.int (row ||| (fn_131 n place ((fn_130 n a place))))), some (.int (place + 1))], [], w)) rfl).trans ?_
    refine (val_g (c2 := (137, d + 1, 4, [some (.int n), some (.int a), some (.int (row ||| (fn_131 n place ((fn_130 n a place))))), some (.int (place + 1))], [], w)) rfl).trans ?_
    rfl
/-- BelfryHouse$Rows.fromNumber(II)I: entry -/
theorem en_134 (d : Nat) (w : Wd) (n : Int32) (number : Int32)     : val (134, d + 1, 0, [some (.int n), some (.int number), none, none, none, none, none], [], w) = val (134, d + 1, 12, [some (.int n), some (.int number), some (.int 0), some (.int 0), some (.int number), some (.int (n - 1)), none], [], w) := by
  refine (val_g (c2 := (134, d + 1, 1, [some (.int n), some (.int number), none, none, none, none, none], [.int 0], w)) rfl).trans ?_
  refine (val_g (c2 := (134, d + 1, 2, [some (.int n), some (.int number), some (.int 0), none, none, none, none], [], w)) rfl).trans ?_
  refine (val_g (c2 := (134, d + 1, 3, [some (.int n), some (.int number), some (.int 0), none, none, none, none], [.int 0], w)) rfl).trans ?_
  refine (val_g (c2 := (134, d + 1, 4, [some (.int n), some (.int number), some (.int 0), some (.int 0), none, none, none], [], w)) rfl).trans ?_
  refine (val_g (c2 := (134, d + 1, 5, [some (.int n), some (.int number), some (.int 0), some (.int 0), none, none, none], [.int number], w)) rfl).trans ?_
  refine (val_g (c2 := (134, d + 1, 7, [some (.int n), some (.int number), some (.int 0), some (.int 0), some (.int number), none, none], [], w)) rfl).trans ?_
  refine (val_g (c2 := (134, d + 1, 8, [some (.int n), some (.int number), some (.int 0), some (.int 0), some (.int number), none, none], [.int n], w)) rfl).trans ?_
  refine (val_g (c2 := (134, d + 1, 9, [some (.int n), some (.int number), some (.int 0), some (.int 0), some (.int number), none, none], [.int 1, .int n], w)) rfl).trans ?_
  refine (val_g (c2 := (134, d + 1, 10, [some (.int n), some (.int number), some (.int 0), some (.int 0), some (.int number), none, none], [.int (n - 1)], w)) rfl).trans ?_
  refine (val_g (c2 := (134, d + 1, 12, [some (.int n), some (.int number), some (.int 0), some (.int 0), some (.int number), some (.int (n - 1)), none], [], w)) rfl).trans ?_
  rfl
/-- BelfryHouse$Rows.fromNumber(II)I: the loop at 12 -/
theorem lp_134_12 (d : Nat) (w : Wd) (n : Int32) (number : Int32) (row : Int32) (seen : Int32) (rest : Int32) (place : Int32) (t6 : Option Value)    : val (134, d + 1, 12, [some (.int n), some (.int number), some (.int row), some (.int seen), some (.int rest), some (.int place), t6], [], w) = (if place < 0 then (if ¬ rest = 0 then some (some (.int (-1)), w) else some (some (.int row), w)) else (if ((rest - rest / 10 * 10) - 1) < 0 then some (some (.int (-1)), w) else (if n ≤ ((rest - rest / 10 * 10) - 1) then some (some (.int (-1)), w) else (if ((ushI seen (((rest - rest / 10 * 10) - 1))) &&& 1) = 0 then val (134, d + 1, 12, [some (.int n), some (.int number), some (.int (row ||| (fn_131 n (((rest - rest / 10 * 10) - 1)) place))), some (.int (seen ||| (1 <<< (((rest - rest / 10 * 10) - 1) &&& 31)))), some (.int (rest / 10)), some (.int (place + (-1))), some (.int ((rest - rest / 10 * 10) - 1))], [], w) else some (some (.int (-1)), w))))) := by
  refine (val_g (c2 := (134, d + 1, 14, [some (.int n), some (.int number), some (.int row), some (.int seen), some (.int rest), some (.int place), t6], [.int place], w)) rfl).trans ?_
  by_cases hc39 : place < 0
  · refine ((val_if_lt rfl).trans (if_pos hc39)).trans ?_
    show val (134, d + 1, 79, [some (.int n), some (.int number), some (.int row), some (.int seen), some (.int rest), some (.int place), t6], [], w) = _
    rw [if_pos hc39]
    refine (val_g (c2 := (134, d + 1, 81, [some (.int n), some (.int number), some (.int row), some (.int seen), some (.int rest), some (.int place), t6], [.int rest], w)) rfl).trans ?_
    by_cases hc40 : ¬ rest = 0
    · refine ((val_if_ne rfl).trans (if_pos hc40)).trans ?_
      show val (134, d + 1, 88, [some (.int n), some (.int number), some (.int row), some (.int seen), some (.int rest), some (.int place), t6], [], w) = _
      rw [if_pos hc40]
      refine (val_g (c2 := (134, d + 1, 89, [some (.int n), some (.int number), some (.int row), some (.int seen), some (.int rest), some (.int place), t6], [.int (-1)], w)) rfl).trans ?_
      exact val_r rfl
    · refine ((val_if_ne rfl).trans (if_neg hc40)).trans ?_
      show val (134, d + 1, 84, [some (.int n), some (.int number), some (.int row), some (.int seen), some (.int rest), some (.int place), t6], [], w) = _
      rw [if_neg hc40]
      refine (val_g (c2 := (134, d + 1, 85, [some (.int n), some (.int number), some (.int row), some (.int seen), some (.int rest), some (.int place), t6], [.int row], w)) rfl).trans ?_
      refine (val_g (c2 := (134, d + 1, 89, [some (.int n), some (.int number), some (.int row), some (.int seen), some (.int rest), some (.int place), t6], [.int row], w)) rfl).trans ?_
      exact val_r rfl
  · refine ((val_if_lt rfl).trans (if_neg hc39)).trans ?_
    show val (134, d + 1, 17, [some (.int n), some (.int number), some (.int row), some (.int seen), some (.int rest), some (.int place), t6], [], w) = _
    rw [if_neg hc39]
    refine (val_g (c2 := (134, d + 1, 19, [some (.int n), some (.int number), some (.int row), some (.int seen), some (.int rest), some (.int place), t6], [.int rest], w)) rfl).trans ?_
    refine (val_g (c2 := (134, d + 1, 21, [some (.int n), some (.int number), some (.int row), some (.int seen), some (.int rest), some (.int place), t6], [.int 10, .int rest], w)) rfl).trans ?_
    refine (val_irem rfl (by decide)).trans ?_
    show val (134, d + 1, 22, [some (.int n), some (.int number), some (.int row), some (.int seen), some (.int rest), some (.int place), t6], [.int (rest - rest / 10 * 10)], w) = _
    refine (val_g (c2 := (134, d + 1, 23, [some (.int n), some (.int number), some (.int row), some (.int seen), some (.int rest), some (.int place), t6], [.int 1, .int (rest - rest / 10 * 10)], w)) rfl).trans ?_
    refine (val_g (c2 := (134, d + 1, 24, [some (.int n), some (.int number), some (.int row), some (.int seen), some (.int rest), some (.int place), t6], [.int ((rest - rest / 10 * 10) - 1)], w)) rfl).trans ?_
    refine (val_g (c2 := (134, d + 1, 26, [some (.int n), some (.int number), some (.int row), some (.int seen), some (.int rest), some (.int place), some (.int ((rest - rest / 10 * 10) - 1))], [], w)) rfl).trans ?_
    refine (val_g (c2 := (134, d + 1, 28, [some (.int n), some (.int number), some (.int row), some (.int seen), some (.int rest), some (.int place), some (.int ((rest - rest / 10 * 10) - 1))], [.int ((rest - rest / 10 * 10) - 1)], w)) rfl).trans ?_
    by_cases hc41 : ((rest - rest / 10 * 10) - 1) < 0
    · refine ((val_if_lt rfl).trans (if_pos hc41)).trans ?_
      show val (134, d + 1, 46, [some (.int n), some (.int number), some (.int row), some (.int seen), some (.int rest), some (.int place), some (.int ((rest - rest / 10 * 10) - 1))], [], w) = _
      rw [if_pos hc41]
      refine (val_g (c2 := (134, d + 1, 47, [some (.int n), some (.int number), some (.int row), some (.int seen), some (.int rest), some (.int place), some (.int ((rest - rest / 10 * 10) - 1))], [.int (-1)], w)) rfl).trans ?_
      exact val_r rfl
    · refine ((val_if_lt rfl).trans (if_neg hc41)).trans ?_
      show val (134, d + 1, 31, [some (.int n), some (.int number), some (.int row), some (.int seen), some (.int rest), some (.int place), some (.int ((rest - rest / 10 * 10) - 1))], [], w) = _
      rw [if_neg hc41]
      refine (val_g (c2 := (134, d + 1, 33, [some (.int n), some (.int number), some (.int row), some (.int seen), some (.int rest), some (.int place), some (.int ((rest - rest / 10 * 10) - 1))], [.int ((rest - rest / 10 * 10) - 1)], w)) rfl).trans ?_
      refine (val_g (c2 := (134, d + 1, 34, [some (.int n), some (.int number), some (.int row), some (.int seen), some (.int rest), some (.int place), some (.int ((rest - rest / 10 * 10) - 1))], [.int n, .int ((rest - rest / 10 * 10) - 1)], w)) rfl).trans ?_
      by_cases hc42 : n ≤ ((rest - rest / 10 * 10) - 1)
      · refine ((val_ic_ge rfl).trans (if_pos hc42)).trans ?_
        show val (134, d + 1, 46, [some (.int n), some (.int number), some (.int row), some (.int seen), some (.int rest), some (.int place), some (.int ((rest - rest / 10 * 10) - 1))], [], w) = _
        rw [if_pos hc42]
        refine (val_g (c2 := (134, d + 1, 47, [some (.int n), some (.int number), some (.int row), some (.int seen), some (.int rest), some (.int place), some (.int ((rest - rest / 10 * 10) - 1))], [.int (-1)], w)) rfl).trans ?_
        exact val_r rfl
      · refine ((val_ic_ge rfl).trans (if_neg hc42)).trans ?_
        show val (134, d + 1, 37, [some (.int n), some (.int number), some (.int row), some (.int seen), some (.int rest), some (.int place), some (.int ((rest - rest / 10 * 10) - 1))], [], w) = _
        rw [if_neg hc42]
        refine (val_g (c2 := (134, d + 1, 38, [some (.int n), some (.int number), some (.int row), some (.int seen), some (.int rest), some (.int place), some (.int ((rest - rest / 10 * 10) - 1))], [.int seen], w)) rfl).trans ?_
        refine (val_g (c2 := (134, d + 1, 40, [some (.int n), some (.int number), some (.int row), some (.int seen), some (.int rest), some (.int place), some (.int ((rest - rest / 10 * 10) - 1))], [.int ((rest - rest / 10 * 10) - 1), .int seen], w)) rfl).trans ?_
        refine (val_g (c2 := (134, d + 1, 41, [some (.int n), some (.int number), some (.int row), some (.int seen), some (.int rest), some (.int place), some (.int ((rest - rest / 10 * 10) - 1))], [.int (ushI seen (((rest - rest / 10 * 10) - 1)))], w)) rfl).trans ?_
        refine (val_g (c2 := (134, d + 1, 42, [some (.int n), some (.int number), some (.int row), some (.int seen), some (.int rest), some (.int place), some (.int ((rest - rest / 10 * 10) - 1))], [.int 1, .int (ushI seen (((rest - rest / 10 * 10) - 1)))], w)) rfl).trans ?_
        refine (val_g (c2 := (134, d + 1, 43, [some (.int n), some (.int number), some (.int row), some (.int seen), some (.int rest), some (.int place), some (.int ((rest - rest / 10 * 10) - 1))], [.int ((ushI seen (((rest - rest / 10 * 10) - 1))) &&& 1)], w)) rfl).trans ?_
        by_cases hc43 : ((ushI seen (((rest - rest / 10 * 10) - 1))) &&& 1) = 0
        · refine ((val_if_eq rfl).trans (if_pos hc43)).trans ?_
          show val (134, d + 1, 48, [some (.int n), some (.int number), some (.int row), some (.int seen), some (.int rest), some (.int place), some (.int ((rest - rest / 10 * 10) - 1))], [], w) = _
          rw [if_pos hc43]
          refine (val_g (c2 := (134, d + 1, 49, [some (.int n), some (.int number), some (.int row), some (.int seen), some (.int rest), some (.int place), some (.int ((rest - rest / 10 * 10) - 1))], [.int seen], w)) rfl).trans ?_
          refine (val_g (c2 := (134, d + 1, 50, [some (.int n), some (.int number), some (.int row), some (.int seen), some (.int rest), some (.int place), some (.int ((rest - rest / 10 * 10) - 1))], [.int 1, .int seen], w)) rfl).trans ?_
          refine (val_g (c2 := (134, d + 1, 52, [some (.int n), some (.int number), some (.int row), some (.int seen), some (.int rest), some (.int place), some (.int ((rest - rest / 10 * 10) - 1))], [.int ((rest - rest / 10 * 10) - 1), .int 1, .int seen], w)) rfl).trans ?_
          refine (val_g (c2 := (134, d + 1, 53, [some (.int n), some (.int number), some (.int row), some (.int seen), some (.int rest), some (.int place), some (.int ((rest - rest / 10 * 10) - 1))], [.int (1 <<< (((rest - rest / 10 * 10) - 1) &&& 31)), .int seen], w)) rfl).trans ?_
          refine (val_g (c2 := (134, d + 1, 54, [some (.int n), some (.int number), some (.int row), some (.int seen), some (.int rest), some (.int place), some (.int ((rest - rest / 10 * 10) - 1))], [.int (seen ||| (1 <<< (((rest - rest / 10 * 10) - 1) &&& 31)))], w)) rfl).trans ?_
          refine (val_g (c2 := (134, d + 1, 55, [some (.int n), some (.int number), some (.int row), some (.int (seen ||| (1 <<< (((rest - rest / 10 * 10) - 1) &&& 31)))), some (.int rest), some (.int place), some (.int ((rest - rest / 10 * 10) - 1))], [], w)) rfl).trans ?_
          refine (val_g (c2 := (134, d + 1, 56, [some (.int n), some (.int number), some (.int row), some (.int (seen ||| (1 <<< (((rest - rest / 10 * 10) - 1) &&& 31)))), some (.int rest), some (.int place), some (.int ((rest - rest / 10 * 10) - 1))], [.int row], w)) rfl).trans ?_
          refine (val_g (c2 := (134, d + 1, 57, [some (.int n), some (.int number), some (.int row), some (.int (seen ||| (1 <<< (((rest - rest / 10 * 10) - 1) &&& 31)))), some (.int rest), some (.int place), some (.int ((rest - rest / 10 * 10) - 1))], [.int n, .int row], w)) rfl).trans ?_
          refine (val_g (c2 := (134, d + 1, 59, [some (.int n), some (.int number), some (.int row), some (.int (seen ||| (1 <<< (((rest - rest / 10 * 10) - 1) &&& 31)))), some (.int rest), some (.int place), some (.int ((rest - rest / 10 * 10) - 1))], [.int ((rest - rest / 10 * 10) - 1), .int n, .int row], w)) rfl).trans ?_
          refine (val_g (c2 := (134, d + 1, 61, [some (.int n), some (.int number), some (.int row), some (.int (seen ||| (1 <<< (((rest - rest / 10 * 10) - 1) &&& 31)))), some (.int rest), some (.int place), some (.int ((rest - rest / 10 * 10) - 1))], [.int place, .int ((rest - rest / 10 * 10) - 1), .int n, .int row], w)) rfl).trans ?_
          refine (val_call (w1 := w) (pc2 := 64) rfl rfl rfl rfl rfl (Nat.le_of_ble_eq_true rfl) (Nat.le_of_ble_eq_true rfl) rfl (ev_131 (d) w n (((rest - rest / 10 * 10) - 1)) place) rfl).trans ?_
          show val (134, d + 1, 64, [some (.int n), some (.int number), some (.int row), some (.int (seen ||| (1 <<< (((rest - rest / 10 * 10) - 1) &&& 31)))), some (.int rest), some (.int place), some (.int ((rest - rest / 10 * 10) - 1))], [.int (fn_131 n (((rest - rest / 10 * 10) - 1)) place), .int row], w) = _
          refine (val_g (c2 := (134, d + 1, 65, [some (.int n), some (.int number), some (.int row), some (.int (seen ||| (1 <<< (((rest - rest / 10 * 10) - 1) &&& 31)))), some (.int rest), some (.int place), some (.int ((rest - rest / 10 * 10) - 1))], [.int (row ||| (fn_131 n (((rest - rest / 10 * 10) - 1)) place))], w)) rfl).trans ?_
          refine (val_g (c2 := (134, d + 1, 66, [some (.int n), some (.int number), some (.int (row ||| (fn_131 n (((rest - rest / 10 * 10) - 1)) place))), some (.int (seen ||| (1 <<< (((rest - rest / 10 * 10) - 1) &&& 31)))), some (.int rest), some (.int place), some (.int ((rest - rest / 10 * 10) - 1))], [], w)) rfl).trans ?_
          refine (val_g (c2 := (134, d + 1, 68, [some (.int n), some (.int number), some (.int (row ||| (fn_131 n (((rest - rest / 10 * 10) - 1)) place))), some (.int (seen ||| (1 <<< (((rest - rest / 10 * 10) - 1) &&& 31)))), some (.int rest), some (.int place), some (.int ((rest - rest / 10 * 10) - 1))], [.int rest], w)) rfl).trans ?_
          refine (val_g (c2 := (134, d + 1, 70, [some (.int n), some (.int number), some (.int (row ||| (fn_131 n (((rest - rest / 10 * 10) - 1)) place))), some (.int (seen ||| (1 <<< (((rest - rest / 10 * 10) - 1) &&& 31)))), some (.int rest), some (.int place), some (.int ((rest - rest / 10 * 10) - 1))], [.int 10, .int rest], w)) rfl).trans ?_
          refine (val_idiv rfl (by decide)).trans ?_
          show val (134, d + 1, 71, [some (.int n), some (.int number), some (.int (row ||| (fn_131 n (((rest - rest / 10 * 10) - 1)) place))), some (.int (seen ||| (1 <<< (((rest - rest / 10 * 10) - 1) &&& 31)))), some (.int rest), some (.int place), some (.int ((rest - rest / 10 * 10) - 1))], [.int (rest / 10)], w) = _
          refine (val_g (c2 := (134, d + 1, 73, [some (.int n), some (.int number), some (.int (row ||| (fn_131 n (((rest - rest / 10 * 10) - 1)) place))), some (.int (seen ||| (1 <<< (((rest - rest / 10 * 10) - 1) &&& 31)))), some (.int (rest / 10)), some (.int place), some (.int ((rest - rest / 10 * 10) - 1))], [], w)) rfl).trans ?_
          refine (val_g (c2 := (134, d + 1, 76, [some (.int n), some (.int number), some (.int (row ||| (fn_131 n (((rest - rest / 10 * 10) - 1)) place))), some (.int (seen ||| (1 <<< (((rest - rest / 10 * 10) - 1) &&& 31)))), some (.int (rest / 10)), some (.int (place + (-1))), some (.int ((rest - rest / 10 * 10) - 1))], [], w)) rfl).trans ?_
          refine (val_g (c2 := (134, d + 1, 12, [some (.int n), some (.int number), some (.int (row ||| (fn_131 n (((rest - rest / 10 * 10) - 1)) place))), some (.int (seen ||| (1 <<< (((rest - rest / 10 * 10) - 1) &&& 31)))), some (.int (rest / 10)), some (.int (place + (-1))), some (.int ((rest - rest / 10 * 10) - 1))], [], w)) rfl).trans ?_
          rfl
        · refine ((val_if_eq rfl).trans (if_neg hc43)).trans ?_
          show val (134, d + 1, 46, [some (.int n), some (.int number), some (.int row), some (.int seen), some (.int rest), some (.int place), some (.int ((rest - rest / 10 * 10) - 1))], [], w) = _
          rw [if_neg hc43]
          refine (val_g (c2 := (134, d + 1, 47, [some (.int n), some (.int number), some (.int row), some (.int seen), some (.int rest), some (.int place), some (.int ((rest - rest / 10 * 10) - 1))], [.int (-1)], w)) rfl).trans ?_
          exact val_r rfl
/-- BelfryHouse$Rows.rank(II)I: entry -/
theorem en_139 (d : Nat) (w : Wd) (n : Int32) (row : Int32)     : val (139, d + 1, 0, [some (.int n), some (.int row), none, none, none, none, none], [], w) = val (139, d + 1, 7, [some (.int n), some (.int row), some (.int 0), some (.int 0), some (.int 0), none, none], [], w) := by
  refine (val_g (c2 := (139, d + 1, 1, [some (.int n), some (.int row), none, none, none, none, none], [.int 0], w)) rfl).trans ?_
  refine (val_g (c2 := (139, d + 1, 2, [some (.int n), some (.int row), some (.int 0), none, none, none, none], [], w)) rfl).trans ?_
  refine (val_g (c2 := (139, d + 1, 3, [some (.int n), some (.int row), some (.int 0), none, none, none, none], [.int 0], w)) rfl).trans ?_
  refine (val_g (c2 := (139, d + 1, 4, [some (.int n), some (.int row), some (.int 0), some (.int 0), none, none, none], [], w)) rfl).trans ?_
  refine (val_g (c2 := (139, d + 1, 5, [some (.int n), some (.int row), some (.int 0), some (.int 0), none, none, none], [.int 0], w)) rfl).trans ?_
  refine (val_g (c2 := (139, d + 1, 7, [some (.int n), some (.int row), some (.int 0), some (.int 0), some (.int 0), none, none], [], w)) rfl).trans ?_
  rfl
/-- BelfryHouse$Rows.rank(II)I: the loop at 7 -/
theorem lp_139_7 (d : Nat) (w : Wd) (n : Int32) (row : Int32) (rank : Int32) (seen : Int32) (place : Int32) (t5 : Option Value) (t6 : Option Value)    : val (139, d + 1, 7, [some (.int n), some (.int row), some (.int rank), some (.int seen), some (.int place), t5, t6], [], w) = (if n ≤ place then some (some (.int rank), w) else val (139, d + 1, 7, [some (.int n), some (.int row), some (.int (((rank * (n - place)) + (fn_130 n row place)) - (fn_257 ((seen &&& ((1 <<< ((fn_130 n row place) &&& 31)) - 1)))))), some (.int (seen ||| (1 <<< ((fn_130 n row place) &&& 31)))), some (.int (place + 1)), some (.int (fn_130 n row place)), some (.int (fn_257 ((seen &&& ((1 <<< ((fn_130 n row place) &&& 31)) - 1)))))], [], w)) := by
  refine (val_g (c2 := (139, d + 1, 9, [some (.int n), some (.int row), some (.int rank), some (.int seen), some (.int place), t5, t6], [.int place], w)) rfl).trans ?_
  refine (val_g (c2 := (139, d + 1, 10, [some (.int n), some (.int row), some (.int rank), some (.int seen), some (.int place), t5, t6], [.int n, .int place], w)) rfl).trans ?_
  by_cases hc44 : n ≤ place
  · refine ((val_ic_ge rfl).trans (if_pos hc44)).trans ?_
    show val (139, d + 1, 61, [some (.int n), some (.int row), some (.int rank), some (.int seen), some (.int place), t5, t6], [], w) = _
    rw [if_pos hc44]
    refine (val_g (c2 := (139, d + 1, 62, [some (.int n), some (.int row), some (.int rank), some (.int seen), some (.int place), t5, t6], [.int rank], w)) rfl).trans ?_
    exact val_r rfl
  · refine ((val_ic_ge rfl).trans (if_neg hc44)).trans ?_
    show val (139, d + 1, 13, [some (.int n), some (.int row), some (.int rank), some (.int seen), some (.int place), t5, t6], [], w) = _
    rw [if_neg hc44]
    refine (val_g (c2 := (139, d + 1, 14, [some (.int n), some (.int row), some (.int rank), some (.int seen), some (.int place), t5, t6], [.int n], w)) rfl).trans ?_
    refine (val_g (c2 := (139, d + 1, 15, [some (.int n), some (.int row), some (.int rank), some (.int seen), some (.int place), t5, t6], [.int row, .int n], w)) rfl).trans ?_
    refine (val_g (c2 := (139, d + 1, 17, [some (.int n), some (.int row), some (.int rank), some (.int seen), some (.int place), t5, t6], [.int place, .int row, .int n], w)) rfl).trans ?_
    refine (val_call (w1 := w) (pc2 := 20) rfl rfl rfl rfl rfl (Nat.le_of_ble_eq_true rfl) (Nat.le_of_ble_eq_true rfl) rfl (ev_130 (d) w n row place) rfl).trans ?_
    show val (139, d + 1, 20, [some (.int n), some (.int row), some (.int rank), some (.int seen), some (.int place), t5, t6], [.int (fn_130 n row place)], w) = _
    refine (val_g (c2 := (139, d + 1, 22, [some (.int n), some (.int row), some (.int rank), some (.int seen), some (.int place), some (.int (fn_130 n row place)), t6], [], w)) rfl).trans ?_
    refine (val_g (c2 := (139, d + 1, 23, [some (.int n), some (.int row), some (.int rank), some (.int seen), some (.int place), some (.int (fn_130 n row place)), t6], [.int seen], w)) rfl).trans ?_
    refine (val_g (c2 := (139, d + 1, 24, [some (.int n), some (.int row), some (.int rank), some (.int seen), some (.int place), some (.int (fn_130 n row place)), t6], [.int 1, .int seen], w)) rfl).trans ?_
    refine (val_g (c2 := (139, d + 1, 26, [some (.int n), some (.int row), some (.int rank), some (.int seen), some (.int place), some (.int (fn_130 n row place)), t6], [.int (fn_130 n row place), .int 1, .int seen], w)) rfl).trans ?_
    refine (val_g (c2 := (139, d + 1, 27, [some (.int n), some (.int row), some (.int rank), some (.int seen), some (.int place), some (.int (fn_130 n row place)), t6], [.int (1 <<< ((fn_130 n row place) &&& 31)), .int seen], w)) rfl).trans ?_
    refine (val_g (c2 := (139, d + 1, 28, [some (.int n), some (.int row), some (.int rank), some (.int seen), some (.int place), some (.int (fn_130 n row place)), t6], [.int 1, .int (1 <<< ((fn_130 n row place) &&& 31)), .int seen], w)) rfl).trans ?_
    refine (val_g (c2 := (139, d + 1, 29, [some (.int n), some (.int row), some (.int rank), some (.int seen), some (.int place), some (.int (fn_130 n row place)), t6], [.int ((1 <<< ((fn_130 n row place) &&& 31)) - 1), .int seen], w)) rfl).trans ?_
    refine (val_g (c2 := (139, d + 1, 30, [some (.int n), some (.int row), some (.int rank), some (.int seen), some (.int place), some (.int (fn_130 n row place)), t6], [.int (seen &&& ((1 <<< ((fn_130 n row place) &&& 31)) - 1))], w)) rfl).trans ?_
    refine (val_call (w1 := w) (pc2 := 33) rfl rfl rfl rfl rfl (Nat.le_of_ble_eq_true rfl) (Nat.le_of_ble_eq_true rfl) rfl (ev_257 (d) w ((seen &&& ((1 <<< ((fn_130 n row place) &&& 31)) - 1)))) rfl).trans ?_
    show val (139, d + 1, 33, [some (.int n), some (.int row), some (.int rank), some (.int seen), some (.int place), some (.int (fn_130 n row place)), t6], [.int (fn_257 ((seen &&& ((1 <<< ((fn_130 n row place) &&& 31)) - 1))))], w) = _
    refine (val_g (c2 := (139, d + 1, 35, [some (.int n), some (.int row), some (.int rank), some (.int seen), some (.int place), some (.int (fn_130 n row place)), some (.int (fn_257 ((seen &&& ((1 <<< ((fn_130 n row place) &&& 31)) - 1)))))], [], w)) rfl).trans ?_
    refine (val_g (c2 := (139, d + 1, 36, [some (.int n), some (.int row), some (.int rank), some (.int seen), some (.int place), some (.int (fn_130 n row place)), some (.int (fn_257 ((seen &&& ((1 <<< ((fn_130 n row place) &&& 31)) - 1)))))], [.int rank], w)) rfl).trans ?_
    refine (val_g (c2 := (139, d + 1, 37, [some (.int n), some (.int row), some (.int rank), some (.int seen), some (.int place), some (.int (fn_130 n row place)), some (.int (fn_257 ((seen &&& ((1 <<< ((fn_130 n row place) &&& 31)) - 1)))))], [.int n, .int rank], w)) rfl).trans ?_
    refine (val_g (c2 := (139, d + 1, 39, [some (.int n), some (.int row), some (.int rank), some (.int seen), some (.int place), some (.int (fn_130 n row place)), some (.int (fn_257 ((seen &&& ((1 <<< ((fn_130 n row place) &&& 31)) - 1)))))], [.int place, .int n, .int rank], w)) rfl).trans ?_
    refine (val_g (c2 := (139, d + 1, 40, [some (.int n), some (.int row), some (.int rank), some (.int seen), some (.int place), some (.int (fn_130 n row place)), some (.int (fn_257 ((seen &&& ((1 <<< ((fn_130 n row place) &&& 31)) - 1)))))], [.int (n - place), .int rank], w)) rfl).trans ?_
    refine (val_g (c2 := (139, d + 1, 41, [some (.int n), some (.int row), some (.int rank), some (.int seen), some (.int place), some (.int (fn_130 n row place)), some (.int (fn_257 ((seen &&& ((1 <<< ((fn_130 n row place) &&& 31)) - 1)))))], [.int (rank * (n - place))], w)) rfl).trans ?_
    refine (val_g (c2 := (139, d + 1, 43, [some (.int n), some (.int row), some (.int rank), some (.int seen), some (.int place), some (.int (fn_130 n row place)), some (.int (fn_257 ((seen &&& ((1 <<< ((fn_130 n row place) &&& 31)) - 1)))))], [.int (fn_130 n row place), .int (rank * (n - place))], w)) rfl).trans ?_
    refine (val_g (c2 := (139, d + 1, 44, [some (.int n), some (.int row), some (.int rank), some (.int seen), some (.int place), some (.int (fn_130 n row place)), some (.int (fn_257 ((seen &&& ((1 <<< ((fn_130 n row place) &&& 31)) - 1)))))], [.int ((rank * (n - place)) + (fn_130 n row place))], w)) rfl).trans ?_
    refine (val_g (c2 := (139, d + 1, 46, [some (.int n), some (.int row), some (.int rank), some (.int seen), some (.int place), some (.int (fn_130 n row place)), some (.int (fn_257 ((seen &&& ((1 <<< ((fn_130 n row place) &&& 31)) - 1)))))], [.int (fn_257 ((seen &&& ((1 <<< ((fn_130 n row place) &&& 31)) - 1)))), .int ((rank * (n - place)) + (fn_130 n row place))], w)) rfl).trans ?_
    refine (val_g (c2 := (139, d + 1, 47, [some (.int n), some (.int row), some (.int rank), some (.int seen), some (.int place), some (.int (fn_130 n row place)), some (.int (fn_257 ((seen &&& ((1 <<< ((fn_130 n row place) &&& 31)) - 1)))))], [.int (((rank * (n - place)) + (fn_130 n row place)) - (fn_257 ((seen &&& ((1 <<< ((fn_130 n row place) &&& 31)) - 1)))))], w)) rfl).trans ?_
    refine (val_g (c2 := (139, d + 1, 48, [some (.int n), some (.int row), some (.int (((rank * (n - place)) + (fn_130 n row place)) - (fn_257 ((seen &&& ((1 <<< ((fn_130 n row place) &&& 31)) - 1)))))), some (.int seen), some (.int place), some (.int (fn_130 n row place)), some (.int (fn_257 ((seen &&& ((1 <<< ((fn_130 n row place) &&& 31)) - 1)))))], [], w)) rfl).trans ?_
    refine (val_g (c2 := (139, d + 1, 49, [some (.int n), some (.int row), some (.int (((rank * (n - place)) + (fn_130 n row place)) - (fn_257 ((seen &&& ((1 <<< ((fn_130 n row place) &&& 31)) - 1)))))), some (.int seen), some (.int place), some (.int (fn_130 n row place)), some (.int (fn_257 ((seen &&& ((1 <<< ((fn_130 n row place) &&& 31)) - 1)))))], [.int seen], w)) rfl).trans ?_
    refine (val_g (c2 := (139, d + 1, 50, [some (.int n), some (.int row), some (.int (((rank * (n - place)) + (fn_130 n row place)) - (fn_257 ((seen &&& ((1 <<< ((fn_130 n row place) &&& 31)) - 1)))))), some (.int seen), some (.int place), some (.int (fn_130 n row place)), some (.int (fn_257 ((seen &&& ((1 <<< ((fn_130 n row place) &&& 31)) - 1)))))], [.int 1, .int seen], w)) rfl).trans ?_
    refine (val_g (c2 := (139, d + 1, 52, [some (.int n), some (.int row), some (.int (((rank * (n - place)) + (fn_130 n row place)) - (fn_257 ((seen &&& ((1 <<< ((fn_130 n row place) &&& 31)) - 1)))))), some (.int seen), some (.int place), some (.int (fn_130 n row place)), some (.int (fn_257 ((seen &&& ((1 <<< ((fn_130 n row place) &&& 31)) - 1)))))], [.int (fn_130 n row place), .int 1, .int seen], w)) rfl).trans ?_
    refine (val_g (c2 := (139, d + 1, 53, [some (.int n), some (.int row), some (.int (((rank * (n - place)) + (fn_130 n row place)) - (fn_257 ((seen &&& ((1 <<< ((fn_130 n row place) &&& 31)) - 1)))))), some (.int seen), some (.int place), some (.int (fn_130 n row place)), some (.int (fn_257 ((seen &&& ((1 <<< ((fn_130 n row place) &&& 31)) - 1)))))], [.int (1 <<< ((fn_130 n row place) &&& 31)), .int seen], w)) rfl).trans ?_
    refine (val_g (c2 := (139, d + 1, 54, [some (.int n), some (.int row), some (.int (((rank * (n - place)) + (fn_130 n row place)) - (fn_257 ((seen &&& ((1 <<< ((fn_130 n row place) &&& 31)) - 1)))))), some (.int seen), some (.int place), some (.int (fn_130 n row place)), some (.int (fn_257 ((seen &&& ((1 <<< ((fn_130 n row place) &&& 31)) - 1)))))], [.int (seen ||| (1 <<< ((fn_130 n row place) &&& 31)))], w)) rfl).trans ?_
    refine (val_g (c2 := (139, d + 1, 55, [some (.int n), some (.int row), some (.int (((rank * (n - place)) + (fn_130 n row place)) - (fn_257 ((seen &&& ((1 <<< ((fn_130 n row place) &&& 31)) - 1)))))), some (.int (seen ||| (1 <<< ((fn_130 n row place) &&& 31)))), some (.int place), some (.int (fn_130 n row place)), some (.int (fn_257 ((seen &&& ((1 <<< ((fn_130 n row place) &&& 31)) - 1)))))], [], w)) rfl).trans ?_
    refine (val_g (c2 := (139, d + 1, 58, [some (.int n), some (.int row), some (.int (((rank * (n - place)) + (fn_130 n row place)) - (fn_257 ((seen &&& ((1 <<< ((fn_130 n row place) &&& 31)) - 1)))))), some (.int (seen ||| (1 <<< ((fn_130 n row place) &&& 31)))), some (.int (place + 1)), some (.int (fn_130 n row place)), some (.int (fn_257 ((seen &&& ((1 <<< ((fn_130 n row place) &&& 31)) - 1)))))], [], w)) rfl).trans ?_
    refine (val_g (c2 := (139, d + 1, 7, [some (.int n), some (.int row), some (.int (((rank * (n - place)) + (fn_130 n row place)) - (fn_257 ((seen &&& ((1 <<< ((fn_130 n row place) &&& 31)) - 1)))))), some (.int (seen ||| (1 <<< ((fn_130 n row place) &&& 31)))), some (.int (place + 1)), some (.int (fn_130 n row place)), some (.int (fn_257 ((seen &&& ((1 <<< ((fn_130 n row place) &&& 31)) - 1)))))], [], w)) rfl).trans ?_
    rfl
/-- BelfryHouse$Rows.isEven(II)Z: entry -/
theorem en_142 (d : Nat) (w : Wd) (n : Int32) (row : Int32)     : val (142, d + 1, 0, [some (.int n), some (.int row), none, none, none, none], [], w) = val (142, d + 1, 7, [some (.int n), some (.int row), some (.int 0), some (.int 0), some (.int 0), none], [], w) := by
  refine (val_g (c2 := (142, d + 1, 1, [some (.int n), some (.int row), none, none, none, none], [.int 0], w)) rfl).trans ?_
  refine (val_g (c2 := (142, d + 1, 2, [some (.int n), some (.int row), some (.int 0), none, none, none], [], w)) rfl).trans ?_
  refine (val_g (c2 := (142, d + 1, 3, [some (.int n), some (.int row), some (.int 0), none, none, none], [.int 0], w)) rfl).trans ?_
  refine (val_g (c2 := (142, d + 1, 4, [some (.int n), some (.int row), some (.int 0), some (.int 0), none, none], [], w)) rfl).trans ?_
  refine (val_g (c2 := (142, d + 1, 5, [some (.int n), some (.int row), some (.int 0), some (.int 0), none, none], [.int 0], w)) rfl).trans ?_
  refine (val_g (c2 := (142, d + 1, 7, [some (.int n), some (.int row), some (.int 0), some (.int 0), some (.int 0), none], [], w)) rfl).trans ?_
  rfl
/-- BelfryHouse$Rows.isEven(II)Z: the loop at 7 -/
theorem lp_142_7 (d : Nat) (w : Wd) (n : Int32) (row : Int32) (pairs : Int32) (seen : Int32) (place : Int32) (t5 : Option Value)    : val (142, d + 1, 7, [some (.int n), some (.int row), some (.int pairs), some (.int seen), some (.int place), t5], [], w) = (if n ≤ place then (if ¬ (pairs &&& 1) = 0 then some (some (.int 0), w) else some (some (.int 1), w)) else val (142, d + 1, 7, [some (.int n), some (.int row), some (.int (pairs + (fn_257 ((ushI seen ((fn_130 n row place))))))), some (.int (seen ||| (1 <<< ((fn_130 n row place) &&& 31)))), some (.int (place + 1)), some (.int (fn_130 n row place))], [], w)) := by
  refine (val_g (c2 := (142, d + 1, 9, [some (.int n), some (.int row), some (.int pairs), some (.int seen), some (.int place), t5], [.int place], w)) rfl).trans ?_
  refine (val_g (c2 := (142, d + 1, 10, [some (.int n), some (.int row), some (.int pairs), some (.int seen), some (.int place), t5], [.int n, .int place], w)) rfl).trans ?_
  by_cases hc45 : n ≤ place
  · refine ((val_ic_ge rfl).trans (if_pos hc45)).trans ?_
    show val (142, d + 1, 45, [some (.int n), some (.int row), some (.int pairs), some (.int seen), some (.int place), t5], [], w) = _
    rw [if_pos hc45]
    refine (val_g (c2 := (142, d + 1, 46, [some (.int n), some (.int row), some (.int pairs), some (.int seen), some (.int place), t5], [.int pairs], w)) rfl).trans ?_
    refine (val_g (c2 := (142, d + 1, 47, [some (.int n), some (.int row), some (.int pairs), some (.int seen), some (.int place), t5], [.int 1, .int pairs], w)) rfl).trans ?_
    refine (val_g (c2 := (142, d + 1, 48, [some (.int n), some (.int row), some (.int pairs), some (.int seen), some (.int place), t5], [.int (pairs &&& 1)], w)) rfl).trans ?_
    by_cases hc46 : ¬ (pairs &&& 1) = 0
    · refine ((val_if_ne rfl).trans (if_pos hc46)).trans ?_
      show val (142, d + 1, 55, [some (.int n), some (.int row), some (.int pairs), some (.int seen), some (.int place), t5], [], w) = _
      rw [if_pos hc46]
      refine (val_g (c2 := (142, d + 1, 56, [some (.int n), some (.int row), some (.int pairs), some (.int seen), some (.int place), t5], [.int 0], w)) rfl).trans ?_
      exact val_r rfl
    · refine ((val_if_ne rfl).trans (if_neg hc46)).trans ?_
      show val (142, d + 1, 51, [some (.int n), some (.int row), some (.int pairs), some (.int seen), some (.int place), t5], [], w) = _
      rw [if_neg hc46]
      refine (val_g (c2 := (142, d + 1, 52, [some (.int n), some (.int row), some (.int pairs), some (.int seen), some (.int place), t5], [.int 1], w)) rfl).trans ?_
      refine (val_g (c2 := (142, d + 1, 56, [some (.int n), some (.int row), some (.int pairs), some (.int seen), some (.int place), t5], [.int 1], w)) rfl).trans ?_
      exact val_r rfl
  · refine ((val_ic_ge rfl).trans (if_neg hc45)).trans ?_
    show val (142, d + 1, 13, [some (.int n), some (.int row), some (.int pairs), some (.int seen), some (.int place), t5], [], w) = _
    rw [if_neg hc45]
    refine (val_g (c2 := (142, d + 1, 14, [some (.int n), some (.int row), some (.int pairs), some (.int seen), some (.int place), t5], [.int n], w)) rfl).trans ?_
    refine (val_g (c2 := (142, d + 1, 15, [some (.int n), some (.int row), some (.int pairs), some (.int seen), some (.int place), t5], [.int row, .int n], w)) rfl).trans ?_
    refine (val_g (c2 := (142, d + 1, 17, [some (.int n), some (.int row), some (.int pairs), some (.int seen), some (.int place), t5], [.int place, .int row, .int n], w)) rfl).trans ?_
    refine (val_call (w1 := w) (pc2 := 20) rfl rfl rfl rfl rfl (Nat.le_of_ble_eq_true rfl) (Nat.le_of_ble_eq_true rfl) rfl (ev_130 (d) w n row place) rfl).trans ?_
    show val (142, d + 1, 20, [some (.int n), some (.int row), some (.int pairs), some (.int seen), some (.int place), t5], [.int (fn_130 n row place)], w) = _
    refine (val_g (c2 := (142, d + 1, 22, [some (.int n), some (.int row), some (.int pairs), some (.int seen), some (.int place), some (.int (fn_130 n row place))], [], w)) rfl).trans ?_
    refine (val_g (c2 := (142, d + 1, 23, [some (.int n), some (.int row), some (.int pairs), some (.int seen), some (.int place), some (.int (fn_130 n row place))], [.int pairs], w)) rfl).trans ?_
    refine (val_g (c2 := (142, d + 1, 24, [some (.int n), some (.int row), some (.int pairs), some (.int seen), some (.int place), some (.int (fn_130 n row place))], [.int seen, .int pairs], w)) rfl).trans ?_
    refine (val_g (c2 := (142, d + 1, 26, [some (.int n), some (.int row), some (.int pairs), some (.int seen), some (.int place), some (.int (fn_130 n row place))], [.int (fn_130 n row place), .int seen, .int pairs], w)) rfl).trans ?_
    refine (val_g (c2 := (142, d + 1, 27, [some (.int n), some (.int row), some (.int pairs), some (.int seen), some (.int place), some (.int (fn_130 n row place))], [.int (ushI seen ((fn_130 n row place))), .int pairs], w)) rfl).trans ?_
    refine (val_call (w1 := w) (pc2 := 30) rfl rfl rfl rfl rfl (Nat.le_of_ble_eq_true rfl) (Nat.le_of_ble_eq_true rfl) rfl (ev_257 (d) w ((ushI seen ((fn_130 n row place))))) rfl).trans ?_
    show val (142, d + 1, 30, [some (.int n), some (.int row), some (.int pairs), some (.int seen), some (.int place), some (.int (fn_130 n row place))], [.int (fn_257 ((ushI seen ((fn_130 n row place))))), .int pairs], w) = _
    refine (val_g (c2 := (142, d + 1, 31, [some (.int n), some (.int row), some (.int pairs), some (.int seen), some (.int place), some (.int (fn_130 n row place))], [.int (pairs + (fn_257 ((ushI seen ((fn_130 n row place))))))], w)) rfl).trans ?_
    refine (val_g (c2 := (142, d + 1, 32, [some (.int n), some (.int row), some (.int (pairs + (fn_257 ((ushI seen ((fn_130 n row place))))))), some (.int seen), some (.int place), some (.int (fn_130 n row place))], [], w)) rfl).trans ?_
    refine (val_g (c2 := (142, d + 1, 33, [some (.int n), some (.int row), some (.int (pairs + (fn_257 ((ushI seen ((fn_130 n row place))))))), some (.int seen), some (.int place), some (.int (fn_130 n row place))], [.int seen], w)) rfl).trans ?_
    refine (val_g (c2 := (142, d + 1, 34, [some (.int n), some (.int row), some (.int (pairs + (fn_257 ((ushI seen ((fn_130 n row place))))))), some (.int seen), some (.int place), some (.int (fn_130 n row place))], [.int 1, .int seen], w)) rfl).trans ?_
    refine (val_g (c2 := (142, d + 1, 36, [some (.int n), some (.int row), some (.int (pairs + (fn_257 ((ushI seen ((fn_130 n row place))))))), some (.int seen), some (.int place), some (.int (fn_130 n row place))], [.int (fn_130 n row place), .int 1, .int seen], w)) rfl).trans ?_
    refine (val_g (c2 := (142, d + 1, 37, [some (.int n), some (.int row), some (.int (pairs + (fn_257 ((ushI seen ((fn_130 n row place))))))), some (.int seen), some (.int place), some (.int (fn_130 n row place))], [.int (1 <<< ((fn_130 n row place) &&& 31)), .int seen], w)) rfl).trans ?_
    refine (val_g (c2 := (142, d + 1, 38, [some (.int n), some (.int row), some (.int (pairs + (fn_257 ((ushI seen ((fn_130 n row place))))))), some (.int seen), some (.int place), some (.int (fn_130 n row place))], [.int (seen ||| (1 <<< ((fn_130 n row place) &&& 31)))], w)) rfl).trans ?_
    refine (val_g (c2 := (142, d + 1, 39, [some (.int n), some (.int row), some (.int (pairs + (fn_257 ((ushI seen ((fn_130 n row place))))))), some (.int (seen ||| (1 <<< ((fn_130 n row place) &&& 31)))), some (.int place), some (.int (fn_130 n row place))], [], w)) rfl).trans ?_
    refine (val_g (c2 := (142, d + 1, 42, [some (.int n), some (.int row), some (.int (pairs + (fn_257 ((ushI seen ((fn_130 n row place))))))), some (.int (seen ||| (1 <<< ((fn_130 n row place) &&& 31)))), some (.int (place + 1)), some (.int (fn_130 n row place))], [], w)) rfl).trans ?_
    refine (val_g (c2 := (142, d + 1, 7, [some (.int n), some (.int row), some (.int (pairs + (fn_257 ((ushI seen ((fn_130 n row place))))))), some (.int (seen ||| (1 <<< ((fn_130 n row place) &&& 31)))), some (.int (place + 1)), some (.int (fn_130 n row place))], [], w)) rfl).trans ?_
    rfl
/-- BelfryHouse$Rows.unseen(III)I: entry -/
theorem en_141 (d : Nat) (w : Wd) (n : Int32) (seen : Int32) (skip : Int32)     : val (141, d, 0, [some (.int n), some (.int seen), some (.int skip), none, none], [], w) = val (141, d, 5, [some (.int n), some (.int seen), some (.int skip), some (.int skip), some (.int 0)], [], w) := by
  refine (val_g (c2 := (141, d, 1, [some (.int n), some (.int seen), some (.int skip), none, none], [.int skip], w)) rfl).trans ?_
  refine (val_g (c2 := (141, d, 2, [some (.int n), some (.int seen), some (.int skip), some (.int skip), none], [], w)) rfl).trans ?_
  refine (val_g (c2 := (141, d, 3, [some (.int n), some (.int seen), some (.int skip), some (.int skip), none], [.int 0], w)) rfl).trans ?_
  refine (val_g (c2 := (141, d, 5, [some (.int n), some (.int seen), some (.int skip), some (.int skip), some (.int 0)], [], w)) rfl).trans ?_
  rfl
/-- BelfryHouse$Rows.unseen(III)I: the loop at 5 -/
theorem lp_141_5 (d : Nat) (w : Wd) (n : Int32) (seen : Int32) (skip : Int32) (left : Int32) (bell : Int32)     : val (141, d, 5, [some (.int n), some (.int seen), some (.int skip), some (.int left), some (.int bell)], [], w) = (if n ≤ bell then some (some (.int 0), w) else (if ((ushI seen bell) &&& 1) = 0 then (if ¬ left = 0 then val (141, d, 5, [some (.int n), some (.int seen), some (.int skip), some (.int (left + (-1))), some (.int (bell + 1))], [], w) else some (some (.int bell), w)) else val (141, d, 5, [some (.int n), some (.int seen), some (.int skip), some (.int left), some (.int (bell + 1))], [], w))) := by
  refine (val_g (c2 := (141, d, 7, [some (.int n), some (.int seen), some (.int skip), some (.int left), some (.int bell)], [.int bell], w)) rfl).trans ?_
  refine (val_g (c2 := (141, d, 8, [some (.int n), some (.int seen), some (.int skip), some (.int left), some (.int bell)], [.int n, .int bell], w)) rfl).trans ?_
  by_cases hc47 : n ≤ bell
  · refine ((val_ic_ge rfl).trans (if_pos hc47)).trans ?_
    show val (141, d, 39, [some (.int n), some (.int seen), some (.int skip), some (.int left), some (.int bell)], [], w) = _
    rw [if_pos hc47]
    refine (val_g (c2 := (141, d, 40, [some (.int n), some (.int seen), some (.int skip), some (.int left), some (.int bell)], [.int 0], w)) rfl).trans ?_
    exact val_r rfl
  · refine ((val_ic_ge rfl).trans (if_neg hc47)).trans ?_
    show val (141, d, 11, [some (.int n), some (.int seen), some (.int skip), some (.int left), some (.int bell)], [], w) = _
    rw [if_neg hc47]
    refine (val_g (c2 := (141, d, 12, [some (.int n), some (.int seen), some (.int skip), some (.int left), some (.int bell)], [.int seen], w)) rfl).trans ?_
    refine (val_g (c2 := (141, d, 14, [some (.int n), some (.int seen), some (.int skip), some (.int left), some (.int bell)], [.int bell, .int seen], w)) rfl).trans ?_
    refine (val_g (c2 := (141, d, 15, [some (.int n), some (.int seen), some (.int skip), some (.int left), some (.int bell)], [.int (ushI seen bell)], w)) rfl).trans ?_
    refine (val_g (c2 := (141, d, 16, [some (.int n), some (.int seen), some (.int skip), some (.int left), some (.int bell)], [.int 1, .int (ushI seen bell)], w)) rfl).trans ?_
    refine (val_g (c2 := (141, d, 17, [some (.int n), some (.int seen), some (.int skip), some (.int left), some (.int bell)], [.int ((ushI seen bell) &&& 1)], w)) rfl).trans ?_
    by_cases hc48 : ((ushI seen bell) &&& 1) = 0
    · refine ((val_if_eq rfl).trans (if_pos hc48)).trans ?_
      show val (141, d, 23, [some (.int n), some (.int seen), some (.int skip), some (.int left), some (.int bell)], [], w) = _
      rw [if_pos hc48]
      refine (val_g (c2 := (141, d, 24, [some (.int n), some (.int seen), some (.int skip), some (.int left), some (.int bell)], [.int left], w)) rfl).trans ?_
      by_cases hc49 : ¬ left = 0
      · refine ((val_if_ne rfl).trans (if_pos hc49)).trans ?_
        show val (141, d, 30, [some (.int n), some (.int seen), some (.int skip), some (.int left), some (.int bell)], [], w) = _
        rw [if_pos hc49]
        refine (val_g (c2 := (141, d, 33, [some (.int n), some (.int seen), some (.int skip), some (.int (left + (-1))), some (.int bell)], [], w)) rfl).trans ?_
        refine (val_g (c2 := (141, d, 36, [some (.int n), some (.int seen), some (.int skip), some (.int (left + (-1))), some (.int (bell + 1))], [], w)) rfl).trans ?_
        refine (val_g (c2 := (141, d, 5, [some (.int n), some (.int seen), some (.int skip), some (.int (left + (-1))), some (.int (bell + 1))], [], w)) rfl).trans ?_
        rfl
      · refine ((val_if_ne rfl).trans (if_neg hc49)).trans ?_
        show val (141, d, 27, [some (.int n), some (.int seen), some (.int skip), some (.int left), some (.int bell)], [], w) = _
        rw [if_neg hc49]
        refine (val_g (c2 := (141, d, 29, [some (.int n), some (.int seen), some (.int skip), some (.int left), some (.int bell)], [.int bell], w)) rfl).trans ?_
        exact val_r rfl
    · refine ((val_if_eq rfl).trans (if_neg hc48)).trans ?_
      show val (141, d, 20, [some (.int n), some (.int seen), some (.int skip), some (.int left), some (.int bell)], [], w) = _
      rw [if_neg hc48]
      refine (val_g (c2 := (141, d, 33, [some (.int n), some (.int seen), some (.int skip), some (.int left), some (.int bell)], [], w)) rfl).trans ?_
      refine (val_g (c2 := (141, d, 36, [some (.int n), some (.int seen), some (.int skip), some (.int left), some (.int (bell + 1))], [], w)) rfl).trans ?_
      refine (val_g (c2 := (141, d, 5, [some (.int n), some (.int seen), some (.int skip), some (.int left), some (.int (bell + 1))], [], w)) rfl).trans ?_
      rfl
