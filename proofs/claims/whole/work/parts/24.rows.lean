/-! the loops of BelfryHouse$Rows, a turn each; printed by program (wip/gen/p24.py) -/
/-- BelfryHouse$Rows.howMany(I)I: entry -/
theorem en_129 (d : Nat) (w : Wd) (n : Int32) (hF : wK w 1 = (31, 9)) (hy1 : inB n 9 = true) : val (129, d, 0, [some (.int n)], [], w) = some (some (.int (gI w 1 (n).toNatClampNeg)), w) := by
  refine (val_g (c2 := (129, d, 3, [some (.int n)], [.ref 1], w)) rfl).trans ?_
  refine (val_g (c2 := (129, d, 4, [some (.int n)], [.int n, .ref 1], w)) rfl).trans ?_
  refine (val_ial rfl hF rfl hy1).trans ?_
  show val (129, d, 5, [some (.int n)], [.int (gI w 1 (n).toNatClampNeg)], w) = _
  exact val_r rfl
/-- BelfryHouse$Rows.placeOf(III)I: entry -/
theorem en_132 (d : Nat) (w : Wd) (n : Int32) (row : Int32) (bell : Int32)   : val (132, d + 1, 0, [some (.int n), some (.int row), some (.int bell), none], [], w) = val (132, d + 1, 2, [some (.int n), some (.int row), some (.int bell), some (.int 0)], [], w) := by
  refine (val_g (c2 := (132, d + 1, 1, [some (.int n), some (.int row), some (.int bell), none], [.int 0], w)) rfl).trans ?_
  refine (val_g (c2 := (132, d + 1, 2, [some (.int n), some (.int row), some (.int bell), some (.int 0)], [], w)) rfl).trans ?_
  rfl
/-- BelfryHouse$Rows.placeOf(III)I: the loop at 2 -/
theorem lp_132_2 (d : Nat) (w : Wd) (n : Int32) (row : Int32) (bell : Int32) (place : Int32)   : val (132, d + 1, 2, [some (.int n), some (.int row), some (.int bell), some (.int place)], [], w) = (if (n - 1) ≤ place then some (some (.int place), w) else (if (fn_130 n row place) = bell then some (some (.int place), w) else val (132, d + 1, 2, [some (.int n), some (.int row), some (.int bell), some (.int (place + 1))], [], w))) := by
  refine (val_g (c2 := (132, d + 1, 3, [some (.int n), some (.int row), some (.int bell), some (.int place)], [.int place], w)) rfl).trans ?_
  refine (val_g (c2 := (132, d + 1, 4, [some (.int n), some (.int row), some (.int bell), some (.int place)], [.int n, .int place], w)) rfl).trans ?_
  refine (val_g (c2 := (132, d + 1, 5, [some (.int n), some (.int row), some (.int bell), some (.int place)], [.int 1, .int n, .int place], w)) rfl).trans ?_
  refine (val_g (c2 := (132, d + 1, 6, [some (.int n), some (.int row), some (.int bell), some (.int place)], [.int (n - 1), .int place], w)) rfl).trans ?_
  by_cases hc33 : (n - 1) ≤ place
  · refine ((val_ic_ge rfl).trans (if_pos hc33)).trans ?_
    show val (132, d + 1, 25, [some (.int n), some (.int row), some (.int bell), some (.int place)], [], w) = _
    rw [if_pos hc33]
    refine (val_g (c2 := (132, d + 1, 26, [some (.int n), some (.int row), some (.int bell), some (.int place)], [.int place], w)) rfl).trans ?_
    exact val_r rfl
  · refine ((val_ic_ge rfl).trans (if_neg hc33)).trans ?_
    show val (132, d + 1, 9, [some (.int n), some (.int row), some (.int bell), some (.int place)], [], w) = _
    rw [if_neg hc33]
    refine (val_g (c2 := (132, d + 1, 10, [some (.int n), some (.int row), some (.int bell), some (.int place)], [.int n], w)) rfl).trans ?_
    refine (val_g (c2 := (132, d + 1, 11, [some (.int n), some (.int row), some (.int bell), some (.int place)], [.int row, .int n], w)) rfl).trans ?_
    refine (val_g (c2 := (132, d + 1, 12, [some (.int n), some (.int row), some (.int bell), some (.int place)], [.int place, .int row, .int n], w)) rfl).trans ?_
    refine (val_call (w1 := w) (pc2 := 15) rfl rfl rfl rfl rfl (Nat.le_of_ble_eq_true rfl) (Nat.le_of_ble_eq_true rfl) rfl (ev_130 (d) w n row place) rfl).trans ?_
    show val (132, d + 1, 15, [some (.int n), some (.int row), some (.int bell), some (.int place)], [.int (fn_130 n row place)], w) = _
    refine (val_g (c2 := (132, d + 1, 16, [some (.int n), some (.int row), some (.int bell), some (.int place)], [.int bell, .int (fn_130 n row place)], w)) rfl).trans ?_
    by_cases hc34 : (fn_130 n row place) = bell
    · refine ((val_ic_eq rfl).trans (if_pos hc34)).trans ?_
      show val (132, d + 1, 25, [some (.int n), some (.int row), some (.int bell), some (.int place)], [], w) = _
      rw [if_pos hc34]
      refine (val_g (c2 := (132, d + 1, 26, [some (.int n), some (.int row), some (.int bell), some (.int place)], [.int place], w)) rfl).trans ?_
      exact val_r rfl
    · refine ((val_ic_eq rfl).trans (if_neg hc34)).trans ?_
      show val (132, d + 1, 19, [some (.int n), some (.int row), some (.int bell), some (.int place)], [], w) = _
      rw [if_neg hc34]
      refine (val_g (c2 := (132, d + 1, 22, [some (.int n), some (.int row), some (.int bell), some (.int (place + 1))], [], w)) rfl).trans ?_
      refine (val_g (c2 := (132, d + 1, 2, [some (.int n), some (.int row), some (.int bell), some (.int (place + 1))], [], w)) rfl).trans ?_
      rfl
/-- BelfryHouse$Rows.rounds(I)I: entry -/
theorem en_133 (d : Nat) (w : Wd) (n : Int32)   : val (133, d, 0, [some (.int n), none, none], [], w) = val (133, d, 4, [some (.int n), some (.int 0), some (.int 0)], [], w) := by
  refine (val_g (c2 := (133, d, 1, [some (.int n), none, none], [.int 0], w)) rfl).trans ?_
  refine (val_g (c2 := (133, d, 2, [some (.int n), some (.int 0), none], [], w)) rfl).trans ?_
  refine (val_g (c2 := (133, d, 3, [some (.int n), some (.int 0), none], [.int 0], w)) rfl).trans ?_
  refine (val_g (c2 := (133, d, 4, [some (.int n), some (.int 0), some (.int 0)], [], w)) rfl).trans ?_
  rfl
/-- BelfryHouse$Rows.rounds(I)I: the loop at 4 -/
theorem lp_133_4 (d : Nat) (w : Wd) (n : Int32) (row : Int32) (i : Int32)   : val (133, d, 4, [some (.int n), some (.int row), some (.int i)], [], w) = (if n ≤ i then some (some (.int row), w) else val (133, d, 4, [some (.int n), some (.int ((row <<< (4 &&& 31)) ||| i)), some (.int (i + 1))], [], w)) := by
  refine (val_g (c2 := (133, d, 5, [some (.int n), some (.int row), some (.int i)], [.int i], w)) rfl).trans ?_
  refine (val_g (c2 := (133, d, 6, [some (.int n), some (.int row), some (.int i)], [.int n, .int i], w)) rfl).trans ?_
  by_cases hc35 : n ≤ i
  · refine ((val_ic_ge rfl).trans (if_pos hc35)).trans ?_
    show val (133, d, 21, [some (.int n), some (.int row), some (.int i)], [], w) = _
    rw [if_pos hc35]
    refine (val_g (c2 := (133, d, 22, [some (.int n), some (.int row), some (.int i)], [.int row], w)) rfl).trans ?_
    exact val_r rfl
  · refine ((val_ic_ge rfl).trans (if_neg hc35)).trans ?_
    show val (133, d, 9, [some (.int n), some (.int row), some (.int i)], [], w) = _
    rw [if_neg hc35]
    refine (val_g (c2 := (133, d, 10, [some (.int n), some (.int row), some (.int i)], [.int row], w)) rfl).trans ?_
    refine (val_g (c2 := (133, d, 11, [some (.int n), some (.int row), some (.int i)], [.int 4, .int row], w)) rfl).trans ?_
    refine (val_g (c2 := (133, d, 12, [some (.int n), some (.int row), some (.int i)], [.int (row <<< (4 &&& 31))], w)) rfl).trans ?_
    refine (val_g (c2 := (133, d, 13, [some (.int n), some (.int row), some (.int i)], [.int i, .int (row <<< (4 &&& 31))], w)) rfl).trans ?_
    refine (val_g (c2 := (133, d, 14, [some (.int n), some (.int row), some (.int i)], [.int ((row <<< (4 &&& 31)) ||| i)], w)) rfl).trans ?_
    refine (val_g (c2 := (133, d, 15, [some (.int n), some (.int ((row <<< (4 &&& 31)) ||| i)), some (.int i)], [], w)) rfl).trans ?_
    refine (val_g (c2 := (133, d, 18, [some (.int n), some (.int ((row <<< (4 &&& 31)) ||| i)), some (.int (i + 1))], [], w)) rfl).trans ?_
    refine (val_g (c2 := (133, d, 4, [some (.int n), some (.int ((row <<< (4 &&& 31)) ||| i)), some (.int (i + 1))], [], w)) rfl).trans ?_
    rfl
/-- BelfryHouse$Rows.toNumber(II)I: entry -/
theorem en_135 (d : Nat) (w : Wd) (n : Int32) (row : Int32)   : val (135, d + 1, 0, [some (.int n), some (.int row), none, none], [], w) = val (135, d + 1, 4, [some (.int n), some (.int row), some (.int 0), some (.int 0)], [], w) := by
  refine (val_g (c2 := (135, d + 1, 1, [some (.int n), some (.int row), none, none], [.int 0], w)) rfl).trans ?_
  refine (val_g (c2 := (135, d + 1, 2, [some (.int n), some (.int row), some (.int 0), none], [], w)) rfl).trans ?_
  refine (val_g (c2 := (135, d + 1, 3, [some (.int n), some (.int row), some (.int 0), none], [.int 0], w)) rfl).trans ?_
  refine (val_g (c2 := (135, d + 1, 4, [some (.int n), some (.int row), some (.int 0), some (.int 0)], [], w)) rfl).trans ?_
  rfl
/-- BelfryHouse$Rows.toNumber(II)I: the loop at 4 -/
theorem lp_135_4 (d : Nat) (w : Wd) (n : Int32) (row : Int32) (number : Int32) (place : Int32)   : val (135, d + 1, 4, [some (.int n), some (.int row), some (.int number), some (.int place)], [], w) = (if n ≤ place then some (some (.int number), w) else val (135, d + 1, 4, [some (.int n), some (.int row), some (.int (((number * 10) + (fn_130 n row place)) + 1)), some (.int (place + 1))], [], w)) := by
  refine (val_g (c2 := (135, d + 1, 5, [some (.int n), some (.int row), some (.int number), some (.int place)], [.int place], w)) rfl).trans ?_
  refine (val_g (c2 := (135, d + 1, 6, [some (.int n), some (.int row), some (.int number), some (.int place)], [.int n, .int place], w)) rfl).trans ?_
  by_cases hc36 : n ≤ place
  · refine ((val_ic_ge rfl).trans (if_pos hc36)).trans ?_
    show val (135, d + 1, 29, [some (.int n), some (.int row), some (.int number), some (.int place)], [], w) = _
    rw [if_pos hc36]
    refine (val_g (c2 := (135, d + 1, 30, [some (.int n), some (.int row), some (.int number), some (.int place)], [.int number], w)) rfl).trans ?_
    exact val_r rfl
  · refine ((val_ic_ge rfl).trans (if_neg hc36)).trans ?_
    show val (135, d + 1, 9, [some (.int n), some (.int row), some (.int number), some (.int place)], [], w) = _
    rw [if_neg hc36]
    refine (val_g (c2 := (135, d + 1, 10, [some (.int n), some (.int row), some (.int number), some (.int place)], [.int number], w)) rfl).trans ?_
    refine (val_g (c2 := (135, d + 1, 12, [some (.int n), some (.int row), some (.int number), some (.int place)], [.int 10, .int number], w)) rfl).trans ?_
    refine (val_g (c2 := (135, d + 1, 13, [some (.int n), some (.int row), some (.int number), some (.int place)], [.int (number * 10)], w)) rfl).trans ?_
    refine (val_g (c2 := (135, d + 1, 14, [some (.int n), some (.int row), some (.int number), some (.int place)], [.int n, .int (number * 10)], w)) rfl).trans ?_
    refine (val_g (c2 := (135, d + 1, 15, [some (.int n), some (.int row), some (.int number), some (.int place)], [.int row, .int n, .int (number * 10)], w)) rfl).trans ?_
    refine (val_g (c2 := (135, d + 1, 16, [some (.int n), some (.int row), some (.int number), some (.int place)], [.int place, .int row, .int n, .int (number * 10)], w)) rfl).trans ?_
    refine (val_call (w1 := w) (pc2 := 19) rfl rfl rfl rfl rfl (Nat.le_of_ble_eq_true rfl) (Nat.le_of_ble_eq_true rfl) rfl (ev_130 (d) w n row place) rfl).trans ?_
    show val (135, d + 1, 19, [some (.int n), some (.int row), some (.int number), some (.int place)], [.int (fn_130 n row place), .int (number * 10)], w) = _
    refine (val_g (c2 := (135, d + 1, 20, [some (.int n), some (.int row), some (.int number), some (.int place)], [.int ((number * 10) + (fn_130 n row place))], w)) rfl).trans ?_
    refine (val_g (c2 := (135, d + 1, 21, [some (.int n), some (.int row), some (.int number), some (.int place)], [.int 1, .int ((number * 10) + (fn_130 n row place))], w)) rfl).trans ?_
    refine (val_g (c2 := (135, d + 1, 22, [some (.int n), some (.int row), some (.int number), some (.int place)], [.int (((number * 10) + (fn_130 n row place)) + 1)], w)) rfl).trans ?_
    refine (val_g (c2 := (135, d + 1, 23, [some (.int n), some (.int row), some (.int (((number * 10) + (fn_130 n row place)) + 1)), some (.int place)], [], w)) rfl).trans ?_
    refine (val_g (c2 := (135, d + 1, 26, [some (.int n), some (.int row), some (.int (((number * 10) + (fn_130 n row place)) + 1)), some (.int (place + 1))], [], w)) rfl).trans ?_
    refine (val_g (c2 := (135, d + 1, 4, [some (.int n), some (.int row), some (.int (((number * 10) + (fn_130 n row place)) + 1)), some (.int (place + 1))], [], w)) rfl).trans ?_
    rfl
/-- BelfryHouse$Rows.times(III)I: entry -/
theorem en_136 (d : Nat) (w : Wd) (n : Int32) (a : Int32) (b : Int32)   : val (136, d + 1, 0, [some (.int n), some (.int a), some (.int b), none, none], [], w) = val (136, d + 1, 5, [some (.int n), some (.int a), some (.int b), some (.int 0), some (.int 0)], [], w) := by
  refine (val_g (c2 := (136, d + 1, 1, [some (.int n), some (.int a), some (.int b), none, none], [.int 0], w)) rfl).trans ?_
  refine (val_g (c2 := (136, d + 1, 2, [some (.int n), some (.int a), some (.int b), some (.int 0), none], [], w)) rfl).trans ?_
  refine (val_g (c2 := (136, d + 1, 3, [some (.int n), some (.int a), some (.int b), some (.int 0), none], [.int 0], w)) rfl).trans ?_
  refine (val_g (c2 := (136, d + 1, 5, [some (.int n), some (.int a), some (.int b), some (.int 0), some (.int 0)], [], w)) rfl).trans ?_
  rfl
/-- BelfryHouse$Rows.times(III)I: the loop at 5 -/
theorem lp_136_5 (d : Nat) (w : Wd) (n : Int32) (a : Int32) (b : Int32) (row : Int32) (place : Int32)   : val (136, d + 1, 5, [some (.int n), some (.int a), some (.int b), some (.int row), some (.int place)], [], w) = (if n ≤ place then some (some (.int row), w) else val (136, d + 1, 5, [some (.int n), some (.int a), some (.int b), some (.int ((row <<< (4 &&& 31)) ||| (fn_130 n a ((fn_130 n b place))))), some (.int (place + 1))], [], w)) := by
  refine (val_g (c2 := (136, d + 1, 7, [some (.int n), some (.int a), some (.int b), some (.int row), some (.int place)], [.int place], w)) rfl).trans ?_
  refine (val_g (c2 := (136, d + 1, 8, [some (.int n), some (.int a), some (.int b), some (.int row), some (.int place)], [.int n, .int place], w)) rfl).trans ?_
  by_cases hc37 : n ≤ place
  · refine ((val_ic_ge rfl).trans (if_pos hc37)).trans ?_
    show val (136, d + 1, 34, [some (.int n), some (.int a), some (.int b), some (.int row), some (.int place)], [], w) = _
    rw [if_pos hc37]
    refine (val_g (c2 := (136, d + 1, 35, [some (.int n), some (.int a), some (.int b), some (.int row), some (.int place)], [.int row], w)) rfl).trans ?_
    exact val_r rfl
  · refine ((val_ic_ge rfl).trans (if_neg hc37)).trans ?_
    show val (136, d + 1, 11, [some (.int n), some (.int a), some (.int b), some (.int row), some (.int place)], [], w) = _
    rw [if_neg hc37]
    refine (val_g (c2 := (136, d + 1, 12, [some (.int n), some (.int a), some (.int b), some (.int row), some (.int place)], [.int row], w)) rfl).trans ?_
    refine (val_g (c2 := (136, d + 1, 13, [some (.int n), some (.int a), some (.int b), some (.int row), some (.int place)], [.int 4, .int row], w)) rfl).trans ?_
    refine (val_g (c2 := (136, d + 1, 14, [some (.int n), some (.int a), some (.int b), some (.int row), some (.int place)], [.int (row <<< (4 &&& 31))], w)) rfl).trans ?_
    refine (val_g (c2 := (136, d + 1, 15, [some (.int n), some (.int a), some (.int b), some (.int row), some (.int place)], [.int n, .int (row <<< (4 &&& 31))], w)) rfl).trans ?_
    refine (val_g (c2 := (136, d + 1, 16, [some (.int n), some (.int a), some (.int b), some (.int row), some (.int place)], [.int a, .int n, .int (row <<< (4 &&& 31))], w)) rfl).trans ?_
    refine (val_g (c2 := (136, d + 1, 17, [some (.int n), some (.int a), some (.int b), some (.int row), some (.int place)], [.int n, .int a, .int n, .int (row <<< (4 &&& 31))], w)) rfl).trans ?_
    refine (val_g (c2 := (136, d + 1, 18, [some (.int n), some (.int a), some (.int b), some (.int row), some (.int place)], [.int b, .int n, .int a, .int n, .int (row <<< (4 &&& 31))], w)) rfl).trans ?_
    refine (val_g (c2 := (136, d + 1, 20, [some (.int n), some (.int a), some (.int b), some (.int row), some (.int place)], [.int place, .int b, .int n, .int a, .int n, .int (row <<< (4 &&& 31))], w)) rfl).trans ?_
    refine (val_call (w1 := w) (pc2 := 23) rfl rfl rfl rfl rfl (Nat.le_of_ble_eq_true rfl) (Nat.le_of_ble_eq_true rfl) rfl (ev_130 (d) w n b place) rfl).trans ?_
    show val (136, d + 1, 23, [some (.int n), some (.int a), some (.int b), some (.int row), some (.int place)], [.int (fn_130 n b place), .int a, .int n, .int (row <<< (4 &&& 31))], w) = _
    refine (val_call (w1 := w) (pc2 := 26) rfl rfl rfl rfl rfl (Nat.le_of_ble_eq_true rfl) (Nat.le_of_ble_eq_true rfl) rfl (ev_130 (d) w n a ((fn_130 n b place))) rfl).trans ?_
    show val (136, d + 1, 26, [some (.int n), some (.int a), some (.int b), some (.int row), some (.int place)], [.int (fn_130 n a ((fn_130 n b place))), .int (row <<< (4 &&& 31))], w) = _
    refine (val_g (c2 := (136, d + 1, 27, [some (.int n), some (.int a), some (.int b), some (.int row), some (.int place)], [.int ((row <<< (4 &&& 31)) ||| (fn_130 n a ((fn_130 n b place))))], w)) rfl).trans ?_
    refine (val_g (c2 := (136, d + 1, 28, [some (.int n), some (.int a), some (.int b), some (.int ((row <<< (4 &&& 31)) ||| (fn_130 n a ((fn_130 n b place))))), some (.int place)], [], w)) rfl).trans ?_
    refine (val_g (c2 := (136, d + 1, 31, [some (.int n), some (.int a), some (.int b), some (.int ((row <<< (4 &&& 31)) ||| (fn_130 n a ((fn_130 n b place))))), some (.int (place + 1))], [], w)) rfl).trans ?_
    refine (val_g (c2 := (136, d + 1, 5, [some (.int n), some (.int a), some (.int b), some (.int ((row <<< (4 &&& 31)) ||| (fn_130 n a ((fn_130 n b place))))), some (.int (place + 1))], [], w)) rfl).trans ?_
    rfl
/-- BelfryHouse$Rows.undone(II)I: entry -/
theorem en_137 (d : Nat) (w : Wd) (n : Int32) (a : Int32)   : val (137, d + 1, 0, [some (.int n), some (.int a), none, none], [], w) = val (137, d + 1, 4, [some (.int n), some (.int a), some (.int 0), some (.int 0)], [], w) := by
  refine (val_g (c2 := (137, d + 1, 1, [some (.int n), some (.int a), none, none], [.int 0], w)) rfl).trans ?_
  refine (val_g (c2 := (137, d + 1, 2, [some (.int n), some (.int a), some (.int 0), none], [], w)) rfl).trans ?_
  refine (val_g (c2 := (137, d + 1, 3, [some (.int n), some (.int a), some (.int 0), none], [.int 0], w)) rfl).trans ?_
  refine (val_g (c2 := (137, d + 1, 4, [some (.int n), some (.int a), some (.int 0), some (.int 0)], [], w)) rfl).trans ?_
  rfl
/-- BelfryHouse$Rows.undone(II)I: the loop at 4 -/
theorem lp_137_4 (d : Nat) (w : Wd) (n : Int32) (a : Int32) (row : Int32) (place : Int32)   : val (137, d + 1, 4, [some (.int n), some (.int a), some (.int row), some (.int place)], [], w) = (if n ≤ place then some (some (.int row), w) else val (137, d + 1, 4, [some (.int n), some (.int a), some (.int (row ||| (fn_131 n place ((fn_130 n a place))))), some (.int (place + 1))], [], w)) := by
  refine (val_g (c2 := (137, d + 1, 5, [some (.int n), some (.int a), some (.int row), some (.int place)], [.int place], w)) rfl).trans ?_
  refine (val_g (c2 := (137, d + 1, 6, [some (.int n), some (.int a), some (.int row), some (.int place)], [.int n, .int place], w)) rfl).trans ?_
  by_cases hc38 : n ≤ place
  · refine ((val_ic_ge rfl).trans (if_pos hc38)).trans ?_
    show val (137, d + 1, 29, [some (.int n), some (.int a), some (.int row), some (.int place)], [], w) = _
    rw [if_pos hc38]
    refine (val_g (c2 := (137, d + 1, 30, [some (.int n), some (.int a), some (.int row), some (.int place)], [.int row], w)) rfl).trans ?_
    exact val_r rfl
  · refine ((val_ic_ge rfl).trans (if_neg hc38)).trans ?_
    show val (137, d + 1, 9, [some (.int n), some (.int a), some (.int row), some (.int place)], [], w) = _
    rw [if_neg hc38]
    refine (val_g (c2 := (137, d + 1, 10, [some (.int n), some (.int a), some (.int row), some (.int place)], [.int row], w)) rfl).trans ?_
    refine (val_g (c2 := (137, d + 1, 11, [some (.int n), some (.int a), some (.int row), some (.int place)], [.int n, .int row], w)) rfl).trans ?_
    refine (val_g (c2 := (137, d + 1, 12, [some (.int n), some (.int a), some (.int row), some (.int place)], [.int place, .int n, .int row], w)) rfl).trans ?_
    refine (val_g (c2 := (137, d + 1, 13, [some (.int n), some (.int a), some (.int row), some (.int place)], [.int n, .int place, .int n, .int row], w)) rfl).trans ?_
    refine (val_g (c2 := (137, d + 1, 14, [some (.int n), some (.int a), some (.int row), some (.int place)], [.int a, .int n, .int place, .int n, .int row], w)) rfl).trans ?_
    refine (val_g (c2 := (137, d + 1, 15, [some (.int n), some (.int a), some (.int row), some (.int place)], [.int place, .int a, .int n, .int place, .int n, .int row], w)) rfl).trans ?_
    refine (val_call (w1 := w) (pc2 := 18) rfl rfl rfl rfl rfl (Nat.le_of_ble_eq_true rfl) (Nat.le_of_ble_eq_true rfl) rfl (ev_130 (d) w n a place) rfl).trans ?_
    show val (137, d + 1, 18, [some (.int n), some (.int a), some (.int row), some (.int place)], [.int (fn_130 n a place), .int place, .int n, .int row], w) = _
    refine (val_call (w1 := w) (pc2 := 21) rfl rfl rfl rfl rfl (Nat.le_of_ble_eq_true rfl) (Nat.le_of_ble_eq_true rfl) rfl (ev_131 (d) w n place ((fn_130 n a place))) rfl).trans ?_
    show val (137, d + 1, 21, [some (.int n), some (.int a), some (.int row), some (.int place)], [.int (fn_131 n place ((fn_130 n a place))), .int row], w) = _
    refine (val_g (c2 := (137, d + 1, 22, [some (.int n), some (.int a), some (.int row), some (.int place)], [.int (row ||| (fn_131 n place ((fn_130 n a place))))], w)) rfl).trans ?_
    refine (val_g (c2 := (137, d + 1, 23, [some (.int n), some (.int a), some (.int (row ||| (fn_131 n place ((fn_130 n a place))))), some (.int place)], [], w)) rfl).trans ?_
    refine (val_g (c2 := (137, d + 1, 26, [some (.int n), some (.int a), some (.int (row ||| (fn_131 n place ((fn_130 n a place))))), some (.int (place + 1))], [], w)) rfl).trans ?_
    refine (val_g (c2 := (137, d + 1, 4, [some (.int n), some (.int a), some (.int (row ||| (fn_131 n place ((fn_130 n a place))))), some (.int (place + 1))], [], w)) rfl).trans ?_
    rfl
