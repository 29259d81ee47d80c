/-! pure methods without loops, printed by program (wip/gen/p22.py): what they compute, and that they do -/
/-- BelfryHouse$Rows.at(III)I -/
def fn_130 (n : Int32) (row : Int32) (place : Int32) : Int32 := ((ushI row ((4 * ((n - 1) - place)))) &&& 15)
theorem ev_130 (d : Nat) (w : Wd) (n : Int32) (row : Int32) (place : Int32) : val (130, d, 0, [some (.int n), some (.int row), some (.int place)], [], w) = some (some (.int (fn_130 n row place)), w) := by
  unfold fn_130
  refine (val_g (c2 := (130, d, 1, [some (.int n), some (.int row), some (.int place)], [.int row], w)) rfl).trans ?_
  refine (val_g (c2 := (130, d, 2, [some (.int n), some (.int row), some (.int place)], [.int 4, .int row], w)) rfl).trans ?_
  refine (val_g (c2 := (130, d, 3, [some (.int n), some (.int row), some (.int place)], [.int n, .int 4, .int row], w)) rfl).trans ?_
  refine (val_g (c2 := (130, d, 4, [some (.int n), some (.int row), some (.int place)], [.int 1, .int n, .int 4, .int row], w)) rfl).trans ?_
  refine (val_g (c2 := (130, d, 5, [some (.int n), some (.int row), some (.int place)], [.int (n - 1), .int 4, .int row], w)) rfl).trans ?_
  refine (val_g (c2 := (130, d, 6, [some (.int n), some (.int row), some (.int place)], [.int place, .int (n - 1), .int 4, .int row], w)) rfl).trans ?_
  refine (val_g (c2 := (130, d, 7, [some (.int n), some (.int row), some (.int place)], [.int ((n - 1) - place), .int 4, .int row], w)) rfl).trans ?_
  refine (val_g (c2 := (130, d, 8, [some (.int n), some (.int row), some (.int place)], [.int (4 * ((n - 1) - place)), .int row], w)) rfl).trans ?_
  refine (val_g (c2 := (130, d, 9, [some (.int n), some (.int row), some (.int place)], [.int (ushI row ((4 * ((n - 1) - place))))], w)) rfl).trans ?_
  refine (val_g (c2 := (130, d, 11, [some (.int n), some (.int row), some (.int place)], [.int 15, .int (ushI row ((4 * ((n - 1) - place))))], w)) rfl).trans ?_
  refine (val_g (c2 := (130, d, 12, [some (.int n), some (.int row), some (.int place)], [.int ((ushI row ((4 * ((n - 1) - place)))) &&& 15)], w)) rfl).trans ?_
  exact val_r rfl
/-- BelfryHouse$Rows.put(III)I -/
def fn_131 (n : Int32) (bell : Int32) (place : Int32) : Int32 := (bell <<< ((4 * ((n - 1) - place)) &&& 31))
theorem ev_131 (d : Nat) (w : Wd) (n : Int32) (bell : Int32) (place : Int32) : val (131, d, 0, [some (.int n), some (.int bell), some (.int place)], [], w) = some (some (.int (fn_131 n bell place)), w) := by
  unfold fn_131
  refine (val_g (c2 := (131, d, 1, [some (.int n), some (.int bell), some (.int place)], [.int bell], w)) rfl).trans ?_
  refine (val_g (c2 := (131, d, 2, [some (.int n), some (.int bell), some (.int place)], [.int 4, .int bell], w)) rfl).trans ?_
  refine (val_g (c2 := (131, d, 3, [some (.int n), some (.int bell), some (.int place)], [.int n, .int 4, .int bell], w)) rfl).trans ?_
  refine (val_g (c2 := (131, d, 4, [some (.int n), some (.int bell), some (.int place)], [.int 1, .int n, .int 4, .int bell], w)) rfl).trans ?_
  refine (val_g (c2 := (131, d, 5, [some (.int n), some (.int bell), some (.int place)], [.int (n - 1), .int 4, .int bell], w)) rfl).trans ?_
  refine (val_g (c2 := (131, d, 6, [some (.int n), some (.int bell), some (.int place)], [.int place, .int (n - 1), .int 4, .int bell], w)) rfl).trans ?_
  refine (val_g (c2 := (131, d, 7, [some (.int n), some (.int bell), some (.int place)], [.int ((n - 1) - place), .int 4, .int bell], w)) rfl).trans ?_
  refine (val_g (c2 := (131, d, 8, [some (.int n), some (.int bell), some (.int place)], [.int (4 * ((n - 1) - place)), .int bell], w)) rfl).trans ?_
  refine (val_g (c2 := (131, d, 9, [some (.int n), some (.int bell), some (.int place)], [.int (bell <<< ((4 * ((n - 1) - place)) &&& 31))], w)) rfl).trans ?_
  exact val_r rfl
/-- BelfryHouse$Rows.swapped(IIII)I -/
def fn_143 (n : Int32) (row : Int32) (one : Int32) (other : Int32) : Int32 := ((row ^^^ (fn_131 n (((fn_130 n row one) ^^^ (fn_130 n row other))) one)) ^^^ (fn_131 n (((fn_130 n row one) ^^^ (fn_130 n row other))) other))
theorem ev_143 (d : Nat) (w : Wd) (n : Int32) (row : Int32) (one : Int32) (other : Int32) : val (143, d + 1, 0, [some (.int n), some (.int row), some (.int one), some (.int other), none], [], w) = some (some (.int (fn_143 n row one other)), w) := by
  unfold fn_143
  refine (val_g (c2 := (143, d + 1, 1, [some (.int n), some (.int row), some (.int one), some (.int other), none], [.int n], w)) rfl).trans ?_
  refine (val_g (c2 := (143, d + 1, 2, [some (.int n), some (.int row), some (.int one), some (.int other), none], [.int row, .int n], w)) rfl).trans ?_
  refine (val_g (c2 := (143, d + 1, 3, [some (.int n), some (.int row), some (.int one), some (.int other), none], [.int one, .int row, .int n], w)) rfl).trans ?_
  refine (val_call (w1 := w) (pc2 := 6) rfl rfl rfl rfl rfl (Nat.le_of_ble_eq_true rfl) (Nat.le_of_ble_eq_true rfl) rfl (ev_130 (d) w n row one) rfl).trans ?_
  show val (143, d + 1, 6, [some (.int n), some (.int row), some (.int one), some (.int other), none], [.int (fn_130 n row one)], w) = _
  refine (val_g (c2 := (143, d + 1, 7, [some (.int n), some (.int row), some (.int one), some (.int other), none], [.int n, .int (fn_130 n row one)], w)) rfl).trans ?_
  refine (val_g (c2 := (143, d + 1, 8, [some (.int n), some (.int row), some (.int one), some (.int other), none], [.int row, .int n, .int (fn_130 n row one)], w)) rfl).trans ?_
  refine (val_g (c2 := (143, d + 1, 9, [some (.int n), some (.int row), some (.int one), some (.int other), none], [.int other, .int row, .int n, .int (fn_130 n row one)], w)) rfl).trans ?_
  refine (val_call (w1 := w) (pc2 := 12) rfl rfl rfl rfl rfl (Nat.le_of_ble_eq_true rfl) (Nat.le_of_ble_eq_true rfl) rfl (ev_130 (d) w n row other) rfl).trans ?_
  show val (143, d + 1, 12, [some (.int n), some (.int row), some (.int one), some (.int other), none], [.int (fn_130 n row other), .int (fn_130 n row one)], w) = _
  refine (val_g (c2 := (143, d + 1, 13, [some (.int n), some (.int row), some (.int one), some (.int other), none], [.int ((fn_130 n row one) ^^^ (fn_130 n row other))], w)) rfl).trans ?_
  refine (val_g (c2 := (143, d + 1, 15, [some (.int n), some (.int row), some (.int one), some (.int other), some (.int ((fn_130 n row one) ^^^ (fn_130 n row other)))], [], w)) rfl).trans ?_
  refine (val_g (c2 := (143, d + 1, 16, [some (.int n), some (.int row), some (.int one), some (.int other), some (.int ((fn_130 n row one) ^^^ (fn_130 n row other)))], [.int row], w)) rfl).trans ?_
  refine (val_g (c2 := (143, d + 1, 17, [some (.int n), some (.int row), some (.int one), some (.int other), some (.int ((fn_130 n row one) ^^^ (fn_130 n row other)))], [.int n, .int row], w)) rfl).trans ?_
  refine (val_g (c2 := (143, d + 1, 19, [some (.int n), some (.int row), some (.int one), some (.int other), some (.int ((fn_130 n row one) ^^^ (fn_130 n row other)))], [.int ((fn_130 n row one) ^^^ (fn_130 n row other)), .int n, .int row], w)) rfl).trans ?_
  refine (val_g (c2 := (143, d + 1, 20, [some (.int n), some (.int row), some (.int one), some (.int other), some (.int ((fn_130 n row one) ^^^ (fn_130 n row other)))], [.int one, .int ((fn_130 n row one) ^^^ (fn_130 n row other)), .int n, .int row], w)) rfl).trans ?_
  refine (val_call (w1 := w) (pc2 := 23) rfl rfl rfl rfl rfl (Nat.le_of_ble_eq_true rfl) (Nat.le_of_ble_eq_true rfl) rfl (ev_131 (d) w n (((fn_130 n row one) ^^^ (fn_130 n row other))) one) rfl).trans ?_
  show val (143, d + 1, 23, [some (.int n), some (.int row), some (.int one), some (.int other), some (.int ((fn_130 n row one) ^^^ (fn_130 n row other)))], [.int (fn_131 n (((fn_130 n row one) ^^^ (fn_130 n row other))) one), .int row], w) = _
  refine (val_g (c2 := (143, d + 1, 24, [some (.int n), some (.int row), some (.int one), some (.int other), some (.int ((fn_130 n row one) ^^^ (fn_130 n row other)))], [.int (row ^^^ (fn_131 n (((fn_130 n row one) ^^^ (fn_130 n row other))) one))], w)) rfl).trans ?_
  refine (val_g (c2 := (143, d + 1, 25, [some (.int n), some (.int row), some (.int one), some (.int other), some (.int ((fn_130 n row one) ^^^ (fn_130 n row other)))], [.int n, .int (row ^^^ (fn_131 n (((fn_130 n row one) ^^^ (fn_130 n row other))) one))], w)) rfl).trans ?_
  refine (val_g (c2 := (143, d + 1, 27, [some (.int n), some (.int row), some (.int one), some (.int other), some (.int ((fn_130 n row one) ^^^ (fn_130 n row other)))], [.int ((fn_130 n row one) ^^^ (fn_130 n row other)), .int n, .int (row ^^^ (fn_131 n (((fn_130 n row one) ^^^ (fn_130 n row other))) one))], w)) rfl).trans ?_
  refine (val_g (c2 := (143, d + 1, 28, [some (.int n), some (.int row), some (.int one), some (.int other), some (.int ((fn_130 n row one) ^^^ (fn_130 n row other)))], [.int other, .int ((fn_130 n row one) ^^^ (fn_130 n row other)), .int n, .int (row ^^^ (fn_131 n (((fn_130 n row one) ^^^ (fn_130 n row other))) one))], w)) rfl).trans ?_
  refine (val_call (w1 := w) (pc2 := 31) rfl rfl rfl rfl rfl (Nat.le_of_ble_eq_true rfl) (Nat.le_of_ble_eq_true rfl) rfl (ev_131 (d) w n (((fn_130 n row one) ^^^ (fn_130 n row other))) other) rfl).trans ?_
  show val (143, d + 1, 31, [some (.int n), some (.int row), some (.int one), some (.int other), some (.int ((fn_130 n row one) ^^^ (fn_130 n row other)))], [.int (fn_131 n (((fn_130 n row one) ^^^ (fn_130 n row other))) other), .int (row ^^^ (fn_131 n (((fn_130 n row one) ^^^ (fn_130 n row other))) one))], w) = _
  refine (val_g (c2 := (143, d + 1, 32, [some (.int n), some (.int row), some (.int one), some (.int other), some (.int ((fn_130 n row one) ^^^ (fn_130 n row other)))], [.int ((row ^^^ (fn_131 n (((fn_130 n row one) ^^^ (fn_130 n row other))) one)) ^^^ (fn_131 n (((fn_130 n row one) ^^^ (fn_130 n row other))) other))], w)) rfl).trans ?_
  exact val_r rfl
/-- BelfryHouse.isBoard(I)Z -/
def fn_39 (b : Int32) : Int32 := (if b < 0 then 0 else (if 8 ≤ b then 0 else 1))
theorem ev_39 (d : Nat) (w : Wd) (b : Int32) : val (39, d, 0, [some (.int b)], [], w) = some (some (.int (fn_39 b)), w) := by
  unfold fn_39
  refine (val_g (c2 := (39, d, 1, [some (.int b)], [.int b], w)) rfl).trans ?_
  by_cases hc1 : b < 0
  · refine ((val_if_lt rfl).trans (if_pos hc1)).trans ?_
    show val (39, d, 14, [some (.int b)], [], w) = _
    rw [if_pos hc1]
    refine (val_g (c2 := (39, d, 15, [some (.int b)], [.int 0], w)) rfl).trans ?_
    exact val_r rfl
  · refine ((val_if_lt rfl).trans (if_neg hc1)).trans ?_
    show val (39, d, 4, [some (.int b)], [], w) = _
    rw [if_neg hc1]
    refine (val_g (c2 := (39, d, 5, [some (.int b)], [.int b], w)) rfl).trans ?_
    refine (val_g (c2 := (39, d, 7, [some (.int b)], [.int 8, .int b], w)) rfl).trans ?_
    by_cases hc2 : 8 ≤ b
    · refine ((val_ic_ge rfl).trans (if_pos hc2)).trans ?_
      show val (39, d, 14, [some (.int b)], [], w) = _
      rw [if_pos hc2]
      refine (val_g (c2 := (39, d, 15, [some (.int b)], [.int 0], w)) rfl).trans ?_
      exact val_r rfl
    · refine ((val_ic_ge rfl).trans (if_neg hc2)).trans ?_
      show val (39, d, 10, [some (.int b)], [], w) = _
      rw [if_neg hc2]
      refine (val_g (c2 := (39, d, 11, [some (.int b)], [.int 1], w)) rfl).trans ?_
      refine (val_g (c2 := (39, d, 15, [some (.int b)], [.int 1], w)) rfl).trans ?_
      exact val_r rfl
/-- BelfryHouse.isSort(I)Z -/
def fn_40 (sort : Int32) : Int32 := (if sort < 0 then 0 else (if 4 < sort then 0 else 1))
theorem ev_40 (d : Nat) (w : Wd) (sort : Int32) : val (40, d, 0, [some (.int sort)], [], w) = some (some (.int (fn_40 sort)), w) := by
  unfold fn_40
  refine (val_g (c2 := (40, d, 1, [some (.int sort)], [.int sort], w)) rfl).trans ?_
  by_cases hc3 : sort < 0
  · refine ((val_if_lt rfl).trans (if_pos hc3)).trans ?_
    show val (40, d, 13, [some (.int sort)], [], w) = _
    rw [if_pos hc3]
    refine (val_g (c2 := (40, d, 14, [some (.int sort)], [.int 0], w)) rfl).trans ?_
    exact val_r rfl
  · refine ((val_if_lt rfl).trans (if_neg hc3)).trans ?_
    show val (40, d, 4, [some (.int sort)], [], w) = _
    rw [if_neg hc3]
    refine (val_g (c2 := (40, d, 5, [some (.int sort)], [.int sort], w)) rfl).trans ?_
    refine (val_g (c2 := (40, d, 6, [some (.int sort)], [.int 4, .int sort], w)) rfl).trans ?_
    by_cases hc4 : 4 < sort
    · refine ((val_ic_gt rfl).trans (if_pos hc4)).trans ?_
      show val (40, d, 13, [some (.int sort)], [], w) = _
      rw [if_pos hc4]
      refine (val_g (c2 := (40, d, 14, [some (.int sort)], [.int 0], w)) rfl).trans ?_
      exact val_r rfl
    · refine ((val_ic_gt rfl).trans (if_neg hc4)).trans ?_
      show val (40, d, 9, [some (.int sort)], [], w) = _
      rw [if_neg hc4]
      refine (val_g (c2 := (40, d, 10, [some (.int sort)], [.int 1], w)) rfl).trans ?_
      refine (val_g (c2 := (40, d, 14, [some (.int sort)], [.int 1], w)) rfl).trans ?_
      exact val_r rfl
/-- BelfryHouse$Reader.kindOf(I)I -/
def fn_76 (c : Int32) : Int32 := (if c = 32 then 1 else (if ¬ c = 10 then (if c < 97 then (if c < 48 then (if c = 59 then 4 else (if c = 40 then 4 else (if c = 41 then 4 else (if ¬ c = 44 then 5 else 4)))) else (if 57 < c then (if c = 59 then 4 else (if c = 40 then 4 else (if c = 41 then 4 else (if ¬ c = 44 then 5 else 4)))) else 3)) else (if 122 < c then (if c < 48 then (if c = 59 then 4 else (if c = 40 then 4 else (if c = 41 then 4 else (if ¬ c = 44 then 5 else 4)))) else (if 57 < c then (if c = 59 then 4 else (if c = 40 then 4 else (if c = 41 then 4 else (if ¬ c = 44 then 5 else 4)))) else 3)) else 2)) else 1))
theorem ev_76 (d : Nat) (w : Wd) (c : Int32) : val (76, d, 0, [some (.int c)], [], w) = some (some (.int (fn_76 c)), w) := by
  unfold fn_76
  refine (val_g (c2 := (76, d, 1, [some (.int c)], [.int c], w)) rfl).trans ?_
  refine (val_g (c2 := (76, d, 3, [some (.int c)], [.int 32, .int c], w)) rfl).trans ?_
  by_cases hc5 : c = 32
  · refine ((val_ic_eq rfl).trans (if_pos hc5)).trans ?_
    show val (76, d, 12, [some (.int c)], [], w) = _
    rw [if_pos hc5]
    refine (val_g (c2 := (76, d, 13, [some (.int c)], [.int 1], w)) rfl).trans ?_
    exact val_r rfl
  · refine ((val_ic_eq rfl).trans (if_neg hc5)).trans ?_
    show val (76, d, 6, [some (.int c)], [], w) = _
    rw [if_neg hc5]
    refine (val_g (c2 := (76, d, 7, [some (.int c)], [.int c], w)) rfl).trans ?_
    refine (val_g (c2 := (76, d, 9, [some (.int c)], [.int 10, .int c], w)) rfl).trans ?_
    by_cases hc6 : ¬ c = 10
    · refine ((val_ic_ne rfl).trans (if_pos hc6)).trans ?_
      show val (76, d, 14, [some (.int c)], [], w) = _
      rw [if_pos hc6]
      refine (val_g (c2 := (76, d, 15, [some (.int c)], [.int c], w)) rfl).trans ?_
      refine (val_g (c2 := (76, d, 17, [some (.int c)], [.int 97, .int c], w)) rfl).trans ?_
      by_cases hc7 : c < 97
      · refine ((val_ic_lt rfl).trans (if_pos hc7)).trans ?_
        show val (76, d, 28, [some (.int c)], [], w) = _
        rw [if_pos hc7]
        refine (val_g (c2 := (76, d, 29, [some (.int c)], [.int c], w)) rfl).trans ?_
        refine (val_g (c2 := (76, d, 31, [some (.int c)], [.int 48, .int c], w)) rfl).trans ?_
        by_cases hc8 : c < 48
        · refine ((val_ic_lt rfl).trans (if_pos hc8)).trans ?_
          show val (76, d, 42, [some (.int c)], [], w) = _
          rw [if_pos hc8]
          refine (val_g (c2 := (76, d, 43, [some (.int c)], [.int c], w)) rfl).trans ?_
          refine (val_g (c2 := (76, d, 45, [some (.int c)], [.int 59, .int c], w)) rfl).trans ?_
          by_cases hc9 : c = 59
          · refine ((val_ic_eq rfl).trans (if_pos hc9)).trans ?_
            show val (76, d, 66, [some (.int c)], [], w) = _
            rw [if_pos hc9]
            refine (val_g (c2 := (76, d, 67, [some (.int c)], [.int 4], w)) rfl).trans ?_
            refine (val_g (c2 := (76, d, 71, [some (.int c)], [.int 4], w)) rfl).trans ?_
            exact val_r rfl
          · refine ((val_ic_eq rfl).trans (if_neg hc9)).trans ?_
            show val (76, d, 48, [some (.int c)], [], w) = _
            rw [if_neg hc9]
            refine (val_g (c2 := (76, d, 49, [some (.int c)], [.int c], w)) rfl).trans ?_
            refine (val_g (c2 := (76, d, 51, [some (.int c)], [.int 40, .int c], w)) rfl).trans ?_
            by_cases hc10 : c = 40
            · refine ((val_ic_eq rfl).trans (if_pos hc10)).trans ?_
              show val (76, d, 66, [some (.int c)], [], w) = _
              rw [if_pos hc10]
              refine (val_g (c2 := (76, d, 67, [some (.int c)], [.int 4], w)) rfl).trans ?_
              refine (val_g (c2 := (76, d, 71, [some (.int c)], [.int 4], w)) rfl).trans ?_
              exact val_r rfl
            · refine ((val_ic_eq rfl).trans (if_neg hc10)).trans ?_
              show val (76, d, 54, [some (.int c)], [], w) = _
              rw [if_neg hc10]
              refine (val_g (c2 := (76, d, 55, [some (.int c)], [.int c], w)) rfl).trans ?_
              refine (val_g (c2 := (76, d, 57, [some (.int c)], [.int 41, .int c], w)) rfl).trans ?_
              by_cases hc11 : c = 41
              · refine ((val_ic_eq rfl).trans (if_pos hc11)).trans ?_
                show val (76, d, 66, [some (.int c)], [], w) = _
                rw [if_pos hc11]
                refine (val_g (c2 := (76, d, 67, [some (.int c)], [.int 4], w)) rfl).trans ?_
                refine (val_g (c2 := (76, d, 71, [some (.int c)], [.int 4], w)) rfl).trans ?_
                exact val_r rfl
              · refine ((val_ic_eq rfl).trans (if_neg hc11)).trans ?_
                show val (76, d, 60, [some (.int c)], [], w) = _
                rw [if_neg hc11]
                refine (val_g (c2 := (76, d, 61, [some (.int c)], [.int c], w)) rfl).trans ?_
                refine (val_g (c2 := (76, d, 63, [some (.int c)], [.int 44, .int c], w)) rfl).trans ?_
                by_cases hc12 : ¬ c = 44
                · refine ((val_ic_ne rfl).trans (if_pos hc12)).trans ?_
                  show val (76, d, 70, [some (.int c)], [], w) = _
                  rw [if_pos hc12]
                  refine (val_g (c2 := (76, d, 71, [some (.int c)], [.int 5], w)) rfl).trans ?_
                  exact val_r rfl
                · refine ((val_ic_ne rfl).trans (if_neg hc12)).trans ?_
                  show val (76, d, 66, [some (.int c)], [], w) = _
                  rw [if_neg hc12]
                  refine (val_g (c2 := (76, d, 67, [some (.int c)], [.int 4], w)) rfl).trans ?_
                  refine (val_g (c2 := (76, d, 71, [some (.int c)], [.int 4], w)) rfl).trans ?_
                  exact val_r rfl
        · refine ((val_ic_lt rfl).trans (if_neg hc8)).trans ?_
          show val (76, d, 34, [some (.int c)], [], w) = _
          rw [if_neg hc8]
          refine (val_g (c2 := (76, d, 35, [some (.int c)], [.int c], w)) rfl).trans ?_
          refine (val_g (c2 := (76, d, 37, [some (.int c)], [.int 57, .int c], w)) rfl).trans ?_
          by_cases hc13 : 57 < c
          · refine ((val_ic_gt rfl).trans (if_pos hc13)).trans ?_
            show val (76, d, 42, [some (.int c)], [], w) = _
            rw [if_pos hc13]
            refine (val_g (c2 := (76, d, 43, [some (.int c)], [.int c], w)) rfl).trans ?_
            refine (val_g (c2 := (76, d, 45, [some (.int c)], [.int 59, .int c], w)) rfl).trans ?_
            by_cases hc14 : c = 59
            · refine ((val_ic_eq rfl).trans (if_pos hc14)).trans ?_
              show val (76, d, 66, [some (.int c)], [], w) = _
              rw [if_pos hc14]
              refine (val_g (c2 := (76, d, 67, [some (.int c)], [.int 4], w)) rfl).trans ?_
              refine (val_g (c2 := (76, d, 71, [some (.int c)], [.int 4], w)) rfl).trans ?_
              exact val_r rfl
            · refine ((val_ic_eq rfl).trans (if_neg hc14)).trans ?_
              show val (76, d, 48, [some (.int c)], [], w) = _
              rw [if_neg hc14]
              refine (val_g (c2 := (76, d, 49, [some (.int c)], [.int c], w)) rfl).trans ?_
              refine (val_g (c2 := (76, d, 51, [some (.int c)], [.int 40, .int c], w)) rfl).trans ?_
              by_cases hc15 : c = 40
              · refine ((val_ic_eq rfl).trans (if_pos hc15)).trans ?_
                show val (76, d, 66, [some (.int c)], [], w) = _
                rw [if_pos hc15]
                refine (val_g (c2 := (76, d, 67, [some (.int c)], [.int 4], w)) rfl).trans ?_
                refine (val_g (c2 := (76, d, 71, [some (.int c)], [.int 4], w)) rfl).trans ?_
                exact val_r rfl
              · refine ((val_ic_eq rfl).trans (if_neg hc15)).trans ?_
                show val (76, d, 54, [some (.int c)], [], w) = _
                rw [if_neg hc15]
                refine (val_g (c2 := (76, d, 55, [some (.int c)], [.int c], w)) rfl).trans ?_
                refine (val_g (c2 := (76, d, 57, [some (.int c)], [.int 41, .int c], w)) rfl).trans ?_
                by_cases hc16 : c = 41
                · refine ((val_ic_eq rfl).trans (if_pos hc16)).trans ?_
                  show val (76, d, 66, [some (.int c)], [], w) = _
                  rw [if_pos hc16]
                  refine (val_g (c2 := (76, d, 67, [some (.int c)], [.int 4], w)) rfl).trans ?_
                  refine (val_g (c2 := (76, d, 71, [some (.int c)], [.int 4], w)) rfl).trans ?_
                  exact val_r rfl
                · refine ((val_ic_eq rfl).trans (if_neg hc16)).trans ?_
                  show val (76, d, 60, [some (.int c)], [], w) = _
                  rw [if_neg hc16]
                  refine (val_g (c2 := (76, d, 61, [some (.int c)], [.int c], w)) rfl).trans ?_
                  refine (val_g (c2 := (76, d, 63, [some (.int c)], [.int 44, .int c], w)) rfl).trans ?_
                  by_cases hc17 : ¬ c = 44
                  · refine ((val_ic_ne rfl).trans (if_pos hc17)).trans ?_
                    show val (76, d, 70, [some (.int c)], [], w) = _
                    rw [if_pos hc17]
                    refine (val_g (c2 := (76, d, 71, [some (.int c)], [.int 5], w)) rfl).trans ?_
                    exact val_r rfl
                  · refine ((val_ic_ne rfl).trans (if_neg hc17)).trans ?_
                    show val (76, d, 66, [some (.int c)], [], w) = _
                    rw [if_neg hc17]
                    refine (val_g (c2 := (76, d, 67, [some (.int c)], [.int 4], w)) rfl).trans ?_
                    refine (val_g (c2 := (76, d, 71, [some (.int c)], [.int 4], w)) rfl).trans ?_
                    exact val_r rfl
          · refine ((val_ic_gt rfl).trans (if_neg hc13)).trans ?_
            show val (76, d, 40, [some (.int c)], [], w) = _
            rw [if_neg hc13]
            refine (val_g (c2 := (76, d, 41, [some (.int c)], [.int 3], w)) rfl).trans ?_
            exact val_r rfl
      · refine ((val_ic_lt rfl).trans (if_neg hc7)).trans ?_
        show val (76, d, 20, [some (.int c)], [], w) = _
        rw [if_neg hc7]
        refine (val_g (c2 := (76, d, 21, [some (.int c)], [.int c], w)) rfl).trans ?_
        refine (val_g (c2 := (76, d, 23, [some (.int c)], [.int 122, .int c], w)) rfl).trans ?_
        by_cases hc18 : 122 < c
        · refine ((val_ic_gt rfl).trans (if_pos hc18)).trans ?_
          show val (76, d, 28, [some (.int c)], [], w) = _
          rw [if_pos hc18]
          refine (val_g (c2 := (76, d, 29, [some (.int c)], [.int c], w)) rfl).trans ?_
          refine (val_g (c2 := (76, d, 31, [some (.int c)], [.int 48, .int c], w)) rfl).trans ?_
          by_cases hc19 : c < 48
          · refine ((val_ic_lt rfl).trans (if_pos hc19)).trans ?_
            show val (76, d, 42, [some (.int c)], [], w) = _
            rw [if_pos hc19]
            refine (val_g (c2 := (76, d, 43, [some (.int c)], [.int c], w)) rfl).trans ?_
            refine (val_g (c2 := (76, d, 45, [some (.int c)], [.int 59, .int c], w)) rfl).trans ?_
            by_cases hc20 : c = 59
            · refine ((val_ic_eq rfl).trans (if_pos hc20)).trans ?_
              show val (76, d, 66, [some (.int c)], [], w) = _
              rw [if_pos hc20]
              refine (val_g (c2 := (76, d, 67, [some (.int c)], [.int 4], w)) rfl).trans ?_
              refine (val_g (c2 := (76, d, 71, [some (.int c)], [.int 4], w)) rfl).trans ?_
              exact val_r rfl
            · refine ((val_ic_eq rfl).trans (if_neg hc20)).trans ?_
              show val (76, d, 48, [some (.int c)], [], w) = _
              rw [if_neg hc20]
              refine (val_g (c2 := (76, d, 49, [some (.int c)], [.int c], w)) rfl).trans ?_
              refine (val_g (c2 := (76, d, 51, [some (.int c)], [.int 40, .int c], w)) rfl).trans ?_
              by_cases hc21 : c = 40
              · refine ((val_ic_eq rfl).trans (if_pos hc21)).trans ?_
                show val (76, d, 66, [some (.int c)], [], w) = _
                rw [if_pos hc21]
                refine (val_g (c2 := (76, d, 67, [some (.int c)], [.int 4], w)) rfl).trans ?_
                refine (val_g (c2 := (76, d, 71, [some (.int c)], [.int 4], w)) rfl).trans ?_
                exact val_r rfl
              · refine ((val_ic_eq rfl).trans (if_neg hc21)).trans ?_
                show val (76, d, 54, [some (.int c)], [], w) = _
                rw [if_neg hc21]
                refine (val_g (c2 := (76, d, 55, [some (.int c)], [.int c], w)) rfl).trans ?_
                refine (val_g (c2 := (76, d, 57, [some (.int c)], [.int 41, .int c], w)) rfl).trans ?_
                by_cases hc22 : c = 41
                · refine ((val_ic_eq rfl).trans (if_pos hc22)).trans ?_
                  show val (76, d, 66, [some (.int c)], [], w) = _
                  rw [if_pos hc22]
                  refine (val_g (c2 := (76, d, 67, [some (.int c)], [.int 4], w)) rfl).trans ?_
                  refine (val_g (c2 := (76, d, 71, [some (.int c)], [.int 4], w)) rfl).trans ?_
                  exact val_r rfl
                · refine ((val_ic_eq rfl).trans (if_neg hc22)).trans ?_
                  show val (76, d, 60, [some (.int c)], [], w) = _
                  rw [if_neg hc22]
                  refine (val_g (c2 := (76, d, 61, [some (.int c)], [.int c], w)) rfl).trans ?_
                  refine (val_g (c2 := (76, d, 63, [some (.int c)], [.int 44, .int c], w)) rfl).trans ?_
                  by_cases hc23 : ¬ c = 44
                  · refine ((val_ic_ne rfl).trans (if_pos hc23)).trans ?_
                    show val (76, d, 70, [some (.int c)], [], w) = _
                    rw [if_pos hc23]
                    refine (val_g (c2 := (76, d, 71, [some (.int c)], [.int 5], w)) rfl).trans ?_
                    exact val_r rfl
                  · refine ((val_ic_ne rfl).trans (if_neg hc23)).trans ?_
                    show val (76, d, 66, [some (.int c)], [], w) = _
                    rw [if_neg hc23]
                    refine (val_g (c2 := (76, d, 67, [some (.int c)], [.int 4], w)) rfl).trans ?_
                    refine (val_g (c2 := (76, d, 71, [some (.int c)], [.int 4], w)) rfl).trans ?_
                    exact val_r rfl
          · refine ((val_ic_lt rfl).trans (if_neg hc19)).trans ?_
            show val (76, d, 34, [some (.int c)], [], w) = _
            rw [if_neg hc19]
            refine (val_g (c2 := (76, d, 35, [some (.int c)], [.int c], w)) rfl).trans ?_
            refine (val_g (c2 := (76, d, 37, [some (.int c)], [.int 57, .int c], w)) rfl).trans ?_
            by_cases hc24 : 57 < c
            · refine ((val_ic_gt rfl).trans (if_pos hc24)).trans ?_
              show val (76, d, 42, [some (.int c)], [], w) = _
              rw [if_pos hc24]
              refine (val_g (c2 := (76, d, 43, [some (.int c)], [.int c], w)) rfl).trans ?_
              refine (val_g (c2 := (76, d, 45, [some (.int c)], [.int 59, .int c], w)) rfl).trans ?_
              by_cases hc25 : c = 59
              · refine ((val_ic_eq rfl).trans (if_pos hc25)).trans ?_
                show val (76, d, 66, [some (.int c)], [], w) = _
                rw [if_pos hc25]
                refine (val_g (c2 := (76, d, 67, [some (.int c)], [.int 4], w)) rfl).trans ?_
                refine (val_g (c2 := (76, d, 71, [some (.int c)], [.int 4], w)) rfl).trans ?_
                exact val_r rfl
              · refine ((val_ic_eq rfl).trans (if_neg hc25)).trans ?_
                show val (76, d, 48, [some (.int c)], [], w) = _
                rw [if_neg hc25]
                refine (val_g (c2 := (76, d, 49, [some (.int c)], [.int c], w)) rfl).trans ?_
                refine (val_g (c2 := (76, d, 51, [some (.int c)], [.int 40, .int c], w)) rfl).trans ?_
                by_cases hc26 : c = 40
                · refine ((val_ic_eq rfl).trans (if_pos hc26)).trans ?_
                  show val (76, d, 66, [some (.int c)], [], w) = _
                  rw [if_pos hc26]
                  refine (val_g (c2 := (76, d, 67, [some (.int c)], [.int 4], w)) rfl).trans ?_
                  refine (val_g (c2 := (76, d, 71, [some (.int c)], [.int 4], w)) rfl).trans ?_
                  exact val_r rfl
                · refine ((val_ic_eq rfl).trans (if_neg hc26)).trans ?_
                  show val (76, d, 54, [some (.int c)], [], w) = _
                  rw [if_neg hc26]
                  refine (val_g (c2 := (76, d, 55, [some (.int c)], [.int c], w)) rfl).trans ?_
                  refine (val_g (c2 := (76, d, 57, [some (.int c)], [.int 41, .int c], w)) rfl).trans ?_
                  by_cases hc27 : c = 41
                  · refine ((val_ic_eq rfl).trans (if_pos hc27)).trans ?_
                    show val (76, d, 66, [some (.int c)], [], w) = _
                    rw [if_pos hc27]
                    refine (val_g (c2 := (76, d, 67, [some (.int c)], [.int 4], w)) rfl).trans ?_
                    refine (val_g (c2 := (76, d, 71, [some (.int c)], [.int 4], w)) rfl).trans ?_
                    exact val_r rfl
                  · refine ((val_ic_eq rfl).trans (if_neg hc27)).trans ?_
                    show val (76, d, 60, [some (.int c)], [], w) = _
                    rw [if_neg hc27]
                    refine (val_g (c2 := (76, d, 61, [some (.int c)], [.int c], w)) rfl).trans ?_
                    refine (val_g (c2 := (76, d, 63, [some (.int c)], [.int 44, .int c], w)) rfl).trans ?_
                    by_cases hc28 : ¬ c = 44
                    · refine ((val_ic_ne rfl).trans (if_pos hc28)).trans ?_
                      show val (76, d, 70, [some (.int c)], [], w) = _
                      rw [if_pos hc28]
                      refine (val_g (c2 := (76, d, 71, [some (.int c)], [.int 5], w)) rfl).trans ?_
                      exact val_r rfl
                    · refine ((val_ic_ne rfl).trans (if_neg hc28)).trans ?_
                      show val (76, d, 66, [some (.int c)], [], w) = _
                      rw [if_neg hc28]
                      refine (val_g (c2 := (76, d, 67, [some (.int c)], [.int 4], w)) rfl).trans ?_
                      refine (val_g (c2 := (76, d, 71, [some (.int c)], [.int 4], w)) rfl).trans ?_
                      exact val_r rfl
            · refine ((val_ic_gt rfl).trans (if_neg hc24)).trans ?_
              show val (76, d, 40, [some (.int c)], [], w) = _
              rw [if_neg hc24]
              refine (val_g (c2 := (76, d, 41, [some (.int c)], [.int 3], w)) rfl).trans ?_
              exact val_r rfl
        · refine ((val_ic_gt rfl).trans (if_neg hc18)).trans ?_
          show val (76, d, 26, [some (.int c)], [], w) = _
          rw [if_neg hc18]
          refine (val_g (c2 := (76, d, 27, [some (.int c)], [.int 2], w)) rfl).trans ?_
          exact val_r rfl
    · refine ((val_ic_ne rfl).trans (if_neg hc6)).trans ?_
      show val (76, d, 12, [some (.int c)], [], w) = _
      rw [if_neg hc6]
      refine (val_g (c2 := (76, d, 13, [some (.int c)], [.int 1], w)) rfl).trans ?_
      exact val_r rfl
/-- BelfryHouse$Reals.size(J)J -/
def fn_96 (a : Int64) : Int64 := (a &&& 9223372036854775807)
theorem ev_96 (d : Nat) (w : Wd) (a : Int64) : val (96, d, 0, [some (.long a), none], [], w) = some (some (.long (fn_96 a)), w) := by
  unfold fn_96
  refine (val_g (c2 := (96, d, 1, [some (.long a), none], [.long a], w)) rfl).trans ?_
  refine (val_g (c2 := (96, d, 4, [some (.long a), none], [.long 9223372036854775807, .long a], w)) rfl).trans ?_
  refine (val_g (c2 := (96, d, 5, [some (.long a), none], [.long (a &&& 9223372036854775807)], w)) rfl).trans ?_
  exact val_r rfl
/-- BelfryHouse$Reals.isNaN(J)Z -/
def fn_97 (a : Int64) : Int32 := (if (cmpL ((fn_96 a)) 9218868437227405312) ≤ 0 then 0 else 1)
theorem ev_97 (d : Nat) (w : Wd) (a : Int64) : val (97, d + 1, 0, [some (.long a), none], [], w) = some (some (.int (fn_97 a)), w) := by
  unfold fn_97
  refine (val_g (c2 := (97, d + 1, 1, [some (.long a), none], [.long a], w)) rfl).trans ?_
  refine (val_call (w1 := w) (pc2 := 4) rfl rfl rfl rfl rfl (Nat.le_of_ble_eq_true rfl) (Nat.le_of_ble_eq_true rfl) rfl (ev_96 (d) w a) rfl).trans ?_
  show val (97, d + 1, 4, [some (.long a), none], [.long (fn_96 a)], w) = _
  refine (val_g (c2 := (97, d + 1, 7, [some (.long a), none], [.long 9218868437227405312, .long (fn_96 a)], w)) rfl).trans ?_
  refine (val_g (c2 := (97, d + 1, 8, [some (.long a), none], [.int (cmpL ((fn_96 a)) 9218868437227405312)], w)) rfl).trans ?_
  by_cases hc29 : (cmpL ((fn_96 a)) 9218868437227405312) ≤ 0
  · refine ((val_if_le rfl).trans (if_pos hc29)).trans ?_
    show val (97, d + 1, 15, [some (.long a), none], [], w) = _
    rw [if_pos hc29]
    refine (val_g (c2 := (97, d + 1, 16, [some (.long a), none], [.int 0], w)) rfl).trans ?_
    exact val_r rfl
  · refine ((val_if_le rfl).trans (if_neg hc29)).trans ?_
    show val (97, d + 1, 11, [some (.long a), none], [], w) = _
    rw [if_neg hc29]
    refine (val_g (c2 := (97, d + 1, 12, [some (.long a), none], [.int 1], w)) rfl).trans ?_
    refine (val_g (c2 := (97, d + 1, 16, [some (.long a), none], [.int 1], w)) rfl).trans ?_
    exact val_r rfl
/-- BelfryHouse$Reals.isInfinite(J)Z -/
def fn_98 (a : Int64) : Int32 := (if ¬ (cmpL ((fn_96 a)) 9218868437227405312) = 0 then 0 else 1)
theorem ev_98 (d : Nat) (w : Wd) (a : Int64) : val (98, d + 1, 0, [some (.long a), none], [], w) = some (some (.int (fn_98 a)), w) := by
  unfold fn_98
  refine (val_g (c2 := (98, d + 1, 1, [some (.long a), none], [.long a], w)) rfl).trans ?_
  refine (val_call (w1 := w) (pc2 := 4) rfl rfl rfl rfl rfl (Nat.le_of_ble_eq_true rfl) (Nat.le_of_ble_eq_true rfl) rfl (ev_96 (d) w a) rfl).trans ?_
  show val (98, d + 1, 4, [some (.long a), none], [.long (fn_96 a)], w) = _
  refine (val_g (c2 := (98, d + 1, 7, [some (.long a), none], [.long 9218868437227405312, .long (fn_96 a)], w)) rfl).trans ?_
  refine (val_g (c2 := (98, d + 1, 8, [some (.long a), none], [.int (cmpL ((fn_96 a)) 9218868437227405312)], w)) rfl).trans ?_
  by_cases hc30 : ¬ (cmpL ((fn_96 a)) 9218868437227405312) = 0
  · refine ((val_if_ne rfl).trans (if_pos hc30)).trans ?_
    show val (98, d + 1, 15, [some (.long a), none], [], w) = _
    rw [if_pos hc30]
    refine (val_g (c2 := (98, d + 1, 16, [some (.long a), none], [.int 0], w)) rfl).trans ?_
    exact val_r rfl
  · refine ((val_if_ne rfl).trans (if_neg hc30)).trans ?_
    show val (98, d + 1, 11, [some (.long a), none], [], w) = _
    rw [if_neg hc30]
    refine (val_g (c2 := (98, d + 1, 12, [some (.long a), none], [.int 1], w)) rfl).trans ?_
    refine (val_g (c2 := (98, d + 1, 16, [some (.long a), none], [.int 1], w)) rfl).trans ?_
    exact val_r rfl
/-- BelfryHouse$Reals.isZero(J)Z -/
def fn_99 (a : Int64) : Int32 := (if ¬ (cmpL ((fn_96 a)) 0) = 0 then 0 else 1)
theorem ev_99 (d : Nat) (w : Wd) (a : Int64) : val (99, d + 1, 0, [some (.long a), none], [], w) = some (some (.int (fn_99 a)), w) := by
  unfold fn_99
  refine (val_g (c2 := (99, d + 1, 1, [some (.long a), none], [.long a], w)) rfl).trans ?_
  refine (val_call (w1 := w) (pc2 := 4) rfl rfl rfl rfl rfl (Nat.le_of_ble_eq_true rfl) (Nat.le_of_ble_eq_true rfl) rfl (ev_96 (d) w a) rfl).trans ?_
  show val (99, d + 1, 4, [some (.long a), none], [.long (fn_96 a)], w) = _
  refine (val_g (c2 := (99, d + 1, 5, [some (.long a), none], [.long 0, .long (fn_96 a)], w)) rfl).trans ?_
  refine (val_g (c2 := (99, d + 1, 6, [some (.long a), none], [.int (cmpL ((fn_96 a)) 0)], w)) rfl).trans ?_
  by_cases hc31 : ¬ (cmpL ((fn_96 a)) 0) = 0
  · refine ((val_if_ne rfl).trans (if_pos hc31)).trans ?_
    show val (99, d + 1, 13, [some (.long a), none], [], w) = _
    rw [if_pos hc31]
    refine (val_g (c2 := (99, d + 1, 14, [some (.long a), none], [.int 0], w)) rfl).trans ?_
    exact val_r rfl
  · refine ((val_if_ne rfl).trans (if_neg hc31)).trans ?_
    show val (99, d + 1, 9, [some (.long a), none], [], w) = _
    rw [if_neg hc31]
    refine (val_g (c2 := (99, d + 1, 10, [some (.long a), none], [.int 1], w)) rfl).trans ?_
    refine (val_g (c2 := (99, d + 1, 14, [some (.long a), none], [.int 1], w)) rfl).trans ?_
    exact val_r rfl
/-- BelfryHouse$Reals.level(J)J -/
def fn_100 (a : Int64) : Int64 := (if 0 ≤ (cmpL a 0) then a else (-((fn_96 a))))
theorem ev_100 (d : Nat) (w : Wd) (a : Int64) : val (100, d + 1, 0, [some (.long a), none], [], w) = some (some (.long (fn_100 a)), w) := by
  unfold fn_100
  refine (val_g (c2 := (100, d + 1, 1, [some (.long a), none], [.long a], w)) rfl).trans ?_
  refine (val_g (c2 := (100, d + 1, 2, [some (.long a), none], [.long 0, .long a], w)) rfl).trans ?_
  refine (val_g (c2 := (100, d + 1, 3, [some (.long a), none], [.int (cmpL a 0)], w)) rfl).trans ?_
  by_cases hc32 : 0 ≤ (cmpL a 0)
  · refine ((val_if_ge rfl).trans (if_pos hc32)).trans ?_
    show val (100, d + 1, 14, [some (.long a), none], [], w) = _
    rw [if_pos hc32]
    refine (val_g (c2 := (100, d + 1, 15, [some (.long a), none], [.long a], w)) rfl).trans ?_
    exact val_r rfl
  · refine ((val_if_ge rfl).trans (if_neg hc32)).trans ?_
    show val (100, d + 1, 6, [some (.long a), none], [], w) = _
    rw [if_neg hc32]
    refine (val_g (c2 := (100, d + 1, 7, [some (.long a), none], [.long a], w)) rfl).trans ?_
    refine (val_call (w1 := w) (pc2 := 10) rfl rfl rfl rfl rfl (Nat.le_of_ble_eq_true rfl) (Nat.le_of_ble_eq_true rfl) rfl (ev_96 (d) w a) rfl).trans ?_
    show val (100, d + 1, 10, [some (.long a), none], [.long (fn_96 a)], w) = _
    refine (val_g (c2 := (100, d + 1, 11, [some (.long a), none], [.long (-((fn_96 a)))], w)) rfl).trans ?_
    refine (val_g (c2 := (100, d + 1, 15, [some (.long a), none], [.long (-((fn_96 a)))], w)) rfl).trans ?_
    exact val_r rfl
/-- BelfryHouse$Reals.isLess(JJ)Z -/
def fn_101 (a : Int64) (b : Int64) : Int32 := (if 0 ≤ (cmpL ((fn_100 a)) ((fn_100 b))) then 0 else 1)
theorem ev_101 (d : Nat) (w : Wd) (a : Int64) (b : Int64) : val (101, d + 2, 0, [some (.long a), none, some (.long b), none], [], w) = some (some (.int (fn_101 a b)), w) := by
  unfold fn_101
  refine (val_g (c2 := (101, d + 2, 1, [some (.long a), none, some (.long b), none], [.long a], w)) rfl).trans ?_
  refine (val_call (w1 := w) (pc2 := 4) rfl rfl rfl rfl rfl (Nat.le_of_ble_eq_true rfl) (Nat.le_of_ble_eq_true rfl) rfl (ev_100 (d) w a) rfl).trans ?_
  show val (101, d + 2, 4, [some (.long a), none, some (.long b), none], [.long (fn_100 a)], w) = _
  refine (val_g (c2 := (101, d + 2, 5, [some (.long a), none, some (.long b), none], [.long b, .long (fn_100 a)], w)) rfl).trans ?_
  refine (val_call (w1 := w) (pc2 := 8) rfl rfl rfl rfl rfl (Nat.le_of_ble_eq_true rfl) (Nat.le_of_ble_eq_true rfl) rfl (ev_100 (d) w b) rfl).trans ?_
  show val (101, d + 2, 8, [some (.long a), none, some (.long b), none], [.long (fn_100 b), .long (fn_100 a)], w) = _
  refine (val_g (c2 := (101, d + 2, 9, [some (.long a), none, some (.long b), none], [.int (cmpL ((fn_100 a)) ((fn_100 b)))], w)) rfl).trans ?_
  by_cases hc33 : 0 ≤ (cmpL ((fn_100 a)) ((fn_100 b)))
  · refine ((val_if_ge rfl).trans (if_pos hc33)).trans ?_
    show val (101, d + 2, 16, [some (.long a), none, some (.long b), none], [], w) = _
    rw [if_pos hc33]
    refine (val_g (c2 := (101, d + 2, 17, [some (.long a), none, some (.long b), none], [.int 0], w)) rfl).trans ?_
    exact val_r rfl
  · refine ((val_if_ge rfl).trans (if_neg hc33)).trans ?_
    show val (101, d + 2, 12, [some (.long a), none, some (.long b), none], [], w) = _
    rw [if_neg hc33]
    refine (val_g (c2 := (101, d + 2, 13, [some (.long a), none, some (.long b), none], [.int 1], w)) rfl).trans ?_
    refine (val_g (c2 := (101, d + 2, 17, [some (.long a), none, some (.long b), none], [.int 1], w)) rfl).trans ?_
    exact val_r rfl
/-- BelfryHouse$Reals.greater(JJ)J -/
def fn_102 (a : Int64) (b : Int64) : Int64 := (if ¬ (fn_97 a) = 0 then 9221120237041090560 else (if (fn_97 b) = 0 then (if b < a then a else b) else 9221120237041090560))
theorem ev_102 (d : Nat) (w : Wd) (a : Int64) (b : Int64) : val (102, d + 2, 0, [some (.long a), none, some (.long b), none], [], w) = some (some (.long (fn_102 a b)), w) := by
  unfold fn_102
  refine (val_g (c2 := (102, d + 2, 1, [some (.long a), none, some (.long b), none], [.long a], w)) rfl).trans ?_
  refine (val_call (w1 := w) (pc2 := 4) rfl rfl rfl rfl rfl (Nat.le_of_ble_eq_true rfl) (Nat.le_of_ble_eq_true rfl) rfl (ev_97 (d) w a) rfl).trans ?_
  show val (102, d + 2, 4, [some (.long a), none, some (.long b), none], [.int (fn_97 a)], w) = _
  by_cases hc34 : ¬ (fn_97 a) = 0
  · refine ((val_if_ne rfl).trans (if_pos hc34)).trans ?_
    show val (102, d + 2, 14, [some (.long a), none, some (.long b), none], [], w) = _
    rw [if_pos hc34]
    refine (val_g (c2 := (102, d + 2, 17, [some (.long a), none, some (.long b), none], [.long 9221120237041090560], w)) rfl).trans ?_
    refine (val_g (c2 := (102, d + 2, 25, [some (.long a), none, some (.long b), none], [.long 9221120237041090560], w)) rfl).trans ?_
    exact val_r rfl
  · refine ((val_if_ne rfl).trans (if_neg hc34)).trans ?_
    show val (102, d + 2, 7, [some (.long a), none, some (.long b), none], [], w) = _
    rw [if_neg hc34]
    refine (val_g (c2 := (102, d + 2, 8, [some (.long a), none, some (.long b), none], [.long b], w)) rfl).trans ?_
    refine (val_call (w1 := w) (pc2 := 11) rfl rfl rfl rfl rfl (Nat.le_of_ble_eq_true rfl) (Nat.le_of_ble_eq_true rfl) rfl (ev_97 (d) w b) rfl).trans ?_
    show val (102, d + 2, 11, [some (.long a), none, some (.long b), none], [.int (fn_97 b)], w) = _
    by_cases hc35 : (fn_97 b) = 0
    · refine ((val_if_eq rfl).trans (if_pos hc35)).trans ?_
      show val (102, d + 2, 20, [some (.long a), none, some (.long b), none], [], w) = _
      rw [if_pos hc35]
      refine (val_g (c2 := (102, d + 2, 21, [some (.long a), none, some (.long b), none], [.long a], w)) rfl).trans ?_
      refine (val_g (c2 := (102, d + 2, 22, [some (.long a), none, some (.long b), none], [.long b, .long a], w)) rfl).trans ?_
      refine (val_g (c2 := (102, d + 2, 25, [some (.long a), none, some (.long b), none], [.long (if b < a then a else b)], w)) rfl).trans ?_
      exact val_r rfl
    · refine ((val_if_eq rfl).trans (if_neg hc35)).trans ?_
      show val (102, d + 2, 14, [some (.long a), none, some (.long b), none], [], w) = _
      rw [if_neg hc35]
      refine (val_g (c2 := (102, d + 2, 17, [some (.long a), none, some (.long b), none], [.long 9221120237041090560], w)) rfl).trans ?_
      refine (val_g (c2 := (102, d + 2, 25, [some (.long a), none, some (.long b), none], [.long 9221120237041090560], w)) rfl).trans ?_
      exact val_r rfl
/-- BelfryHouse$Reals.exponentField(J)I -/
def fn_103 (a : Int64) : Int32 := ((Int64.toInt32 ((ushL a 52))) &&& 2047)
theorem ev_103 (d : Nat) (w : Wd) (a : Int64) : val (103, d, 0, [some (.long a), none], [], w) = some (some (.int (fn_103 a)), w) := by
  unfold fn_103
  refine (val_g (c2 := (103, d, 1, [some (.long a), none], [.long a], w)) rfl).trans ?_
  refine (val_g (c2 := (103, d, 3, [some (.long a), none], [.int 52, .long a], w)) rfl).trans ?_
  refine (val_g (c2 := (103, d, 4, [some (.long a), none], [.long (ushL a 52)], w)) rfl).trans ?_
  refine (val_g (c2 := (103, d, 5, [some (.long a), none], [.int (Int64.toInt32 ((ushL a 52)))], w)) rfl).trans ?_
  refine (val_g (c2 := (103, d, 8, [some (.long a), none], [.int 2047, .int (Int64.toInt32 ((ushL a 52)))], w)) rfl).trans ?_
  refine (val_g (c2 := (103, d, 9, [some (.long a), none], [.int ((Int64.toInt32 ((ushL a 52))) &&& 2047)], w)) rfl).trans ?_
  exact val_r rfl
/-- BelfryHouse$Reals.significand(J)J -/
def fn_104 (a : Int64) : Int64 := (if ¬ (fn_103 a) = 0 then ((a &&& 4503599627370495) ||| 4503599627370496) else (a &&& 4503599627370495))
theorem ev_104 (d : Nat) (w : Wd) (a : Int64) : val (104, d + 1, 0, [some (.long a), none], [], w) = some (some (.long (fn_104 a)), w) := by
  unfold fn_104
  refine (val_g (c2 := (104, d + 1, 1, [some (.long a), none], [.long a], w)) rfl).trans ?_
  refine (val_call (w1 := w) (pc2 := 4) rfl rfl rfl rfl rfl (Nat.le_of_ble_eq_true rfl) (Nat.le_of_ble_eq_true rfl) rfl (ev_103 (d) w a) rfl).trans ?_
  show val (104, d + 1, 4, [some (.long a), none], [.int (fn_103 a)], w) = _
  by_cases hc36 : ¬ (fn_103 a) = 0
  · refine ((val_if_ne rfl).trans (if_pos hc36)).trans ?_
    show val (104, d + 1, 15, [some (.long a), none], [], w) = _
    rw [if_pos hc36]
    refine (val_g (c2 := (104, d + 1, 16, [some (.long a), none], [.long a], w)) rfl).trans ?_
    refine (val_g (c2 := (104, d + 1, 19, [some (.long a), none], [.long 4503599627370495, .long a], w)) rfl).trans ?_
    refine (val_g (c2 := (104, d + 1, 20, [some (.long a), none], [.long (a &&& 4503599627370495)], w)) rfl).trans ?_
    refine (val_g (c2 := (104, d + 1, 23, [some (.long a), none], [.long 4503599627370496, .long (a &&& 4503599627370495)], w)) rfl).trans ?_
    refine (val_g (c2 := (104, d + 1, 24, [some (.long a), none], [.long ((a &&& 4503599627370495) ||| 4503599627370496)], w)) rfl).trans ?_
    exact val_r rfl
  · refine ((val_if_ne rfl).trans (if_neg hc36)).trans ?_
    show val (104, d + 1, 7, [some (.long a), none], [], w) = _
    rw [if_neg hc36]
    refine (val_g (c2 := (104, d + 1, 8, [some (.long a), none], [.long a], w)) rfl).trans ?_
    refine (val_g (c2 := (104, d + 1, 11, [some (.long a), none], [.long 4503599627370495, .long a], w)) rfl).trans ?_
    refine (val_g (c2 := (104, d + 1, 12, [some (.long a), none], [.long (a &&& 4503599627370495)], w)) rfl).trans ?_
    refine (val_g (c2 := (104, d + 1, 24, [some (.long a), none], [.long (a &&& 4503599627370495)], w)) rfl).trans ?_
    exact val_r rfl
/-- BelfryHouse$Reals.exponent(J)I -/
def fn_105 (a : Int64) : Int32 := (((if (fn_103 a) < 1 then 1 else (fn_103 a)) - 1) + (-1074))
theorem ev_105 (d : Nat) (w : Wd) (a : Int64) : val (105, d + 1, 0, [some (.long a), none], [], w) = some (some (.int (fn_105 a)), w) := by
  unfold fn_105
  refine (val_g (c2 := (105, d + 1, 1, [some (.long a), none], [.long a], w)) rfl).trans ?_
  refine (val_call (w1 := w) (pc2 := 4) rfl rfl rfl rfl rfl (Nat.le_of_ble_eq_true rfl) (Nat.le_of_ble_eq_true rfl) rfl (ev_103 (d) w a) rfl).trans ?_
  show val (105, d + 1, 4, [some (.long a), none], [.int (fn_103 a)], w) = _
  refine (val_g (c2 := (105, d + 1, 5, [some (.long a), none], [.int 1, .int (fn_103 a)], w)) rfl).trans ?_
  refine (val_g (c2 := (105, d + 1, 8, [some (.long a), none], [.int (if (fn_103 a) < 1 then 1 else (fn_103 a))], w)) rfl).trans ?_
  refine (val_g (c2 := (105, d + 1, 9, [some (.long a), none], [.int 1, .int (if (fn_103 a) < 1 then 1 else (fn_103 a))], w)) rfl).trans ?_
  refine (val_g (c2 := (105, d + 1, 10, [some (.long a), none], [.int ((if (fn_103 a) < 1 then 1 else (fn_103 a)) - 1)], w)) rfl).trans ?_
  refine (val_g (c2 := (105, d + 1, 13, [some (.long a), none], [.int (-1074), .int ((if (fn_103 a) < 1 then 1 else (fn_103 a)) - 1)], w)) rfl).trans ?_
  refine (val_g (c2 := (105, d + 1, 14, [some (.long a), none], [.int (((if (fn_103 a) < 1 then 1 else (fn_103 a)) - 1) + (-1074))], w)) rfl).trans ?_
  exact val_r rfl
/-- BelfryHouse$Reals.shiftedRight(JI)J -/
def fn_107 (a : Int64) (by1 : Int32) : Int64 := (if 0 < by1 then (if by1 ≤ 62 then (if ¬ (cmpL ((shlL a ((64 - by1)))) 0) = 0 then ((ushL a by1) ||| (Int32.toInt64 1)) else ((ushL a by1) ||| (Int32.toInt64 0))) else (if ¬ (cmpL a 0) = 0 then 1 else 0)) else a)
theorem ev_107 (d : Nat) (w : Wd) (a : Int64) (by1 : Int32) : val (107, d, 0, [some (.long a), none, some (.int by1)], [], w) = some (some (.long (fn_107 a by1)), w) := by
  unfold fn_107
  refine (val_g (c2 := (107, d, 1, [some (.long a), none, some (.int by1)], [.int by1], w)) rfl).trans ?_
  by_cases hc37 : 0 < by1
  · refine ((val_if_gt rfl).trans (if_pos hc37)).trans ?_
    show val (107, d, 6, [some (.long a), none, some (.int by1)], [], w) = _
    rw [if_pos hc37]
    refine (val_g (c2 := (107, d, 7, [some (.long a), none, some (.int by1)], [.int by1], w)) rfl).trans ?_
    refine (val_g (c2 := (107, d, 9, [some (.long a), none, some (.int by1)], [.int 62, .int by1], w)) rfl).trans ?_
    by_cases hc38 : by1 ≤ 62
    · refine ((val_ic_le rfl).trans (if_pos hc38)).trans ?_
      show val (107, d, 24, [some (.long a), none, some (.int by1)], [], w) = _
      rw [if_pos hc38]
      refine (val_g (c2 := (107, d, 25, [some (.long a), none, some (.int by1)], [.long a], w)) rfl).trans ?_
      refine (val_g (c2 := (107, d, 26, [some (.long a), none, some (.int by1)], [.int by1, .long a], w)) rfl).trans ?_
      refine (val_g (c2 := (107, d, 27, [some (.long a), none, some (.int by1)], [.long (ushL a by1)], w)) rfl).trans ?_
      refine (val_g (c2 := (107, d, 28, [some (.long a), none, some (.int by1)], [.long a, .long (ushL a by1)], w)) rfl).trans ?_
      refine (val_g (c2 := (107, d, 30, [some (.long a), none, some (.int by1)], [.int 64, .long a, .long (ushL a by1)], w)) rfl).trans ?_
      refine (val_g (c2 := (107, d, 31, [some (.long a), none, some (.int by1)], [.int by1, .int 64, .long a, .long (ushL a by1)], w)) rfl).trans ?_
      refine (val_g (c2 := (107, d, 32, [some (.long a), none, some (.int by1)], [.int (64 - by1), .long a, .long (ushL a by1)], w)) rfl).trans ?_
      refine (val_g (c2 := (107, d, 33, [some (.long a), none, some (.int by1)], [.long (shlL a ((64 - by1))), .long (ushL a by1)], w)) rfl).trans ?_
      refine (val_g (c2 := (107, d, 34, [some (.long a), none, some (.int by1)], [.long 0, .long (shlL a ((64 - by1))), .long (ushL a by1)], w)) rfl).trans ?_
      refine (val_g (c2 := (107, d, 35, [some (.long a), none, some (.int by1)], [.int (cmpL ((shlL a ((64 - by1)))) 0), .long (ushL a by1)], w)) rfl).trans ?_
      by_cases hc39 : ¬ (cmpL ((shlL a ((64 - by1)))) 0) = 0
      · refine ((val_if_ne rfl).trans (if_pos hc39)).trans ?_
        show val (107, d, 42, [some (.long a), none, some (.int by1)], [.long (ushL a by1)], w) = _
        rw [if_pos hc39]
        refine (val_g (c2 := (107, d, 43, [some (.long a), none, some (.int by1)], [.int 1, .long (ushL a by1)], w)) rfl).trans ?_
        refine (val_g (c2 := (107, d, 44, [some (.long a), none, some (.int by1)], [.long (Int32.toInt64 1), .long (ushL a by1)], w)) rfl).trans ?_
        refine (val_g (c2 := (107, d, 45, [some (.long a), none, some (.int by1)], [.long ((ushL a by1) ||| (Int32.toInt64 1))], w)) rfl).trans ?_
        exact val_r rfl
      · refine ((val_if_ne rfl).trans (if_neg hc39)).trans ?_
        show val (107, d, 38, [some (.long a), none, some (.int by1)], [.long (ushL a by1)], w) = _
        rw [if_neg hc39]
        refine (val_g (c2 := (107, d, 39, [some (.long a), none, some (.int by1)], [.int 0, .long (ushL a by1)], w)) rfl).trans ?_
        refine (val_g (c2 := (107, d, 43, [some (.long a), none, some (.int by1)], [.int 0, .long (ushL a by1)], w)) rfl).trans ?_
        refine (val_g (c2 := (107, d, 44, [some (.long a), none, some (.int by1)], [.long (Int32.toInt64 0), .long (ushL a by1)], w)) rfl).trans ?_
        refine (val_g (c2 := (107, d, 45, [some (.long a), none, some (.int by1)], [.long ((ushL a by1) ||| (Int32.toInt64 0))], w)) rfl).trans ?_
        exact val_r rfl
    · refine ((val_ic_le rfl).trans (if_neg hc38)).trans ?_
      show val (107, d, 12, [some (.long a), none, some (.int by1)], [], w) = _
      rw [if_neg hc38]
      refine (val_g (c2 := (107, d, 13, [some (.long a), none, some (.int by1)], [.long a], w)) rfl).trans ?_
      refine (val_g (c2 := (107, d, 14, [some (.long a), none, some (.int by1)], [.long 0, .long a], w)) rfl).trans ?_
      refine (val_g (c2 := (107, d, 15, [some (.long a), none, some (.int by1)], [.int (cmpL a 0)], w)) rfl).trans ?_
      by_cases hc40 : ¬ (cmpL a 0) = 0
      · refine ((val_if_ne rfl).trans (if_pos hc40)).trans ?_
        show val (107, d, 22, [some (.long a), none, some (.int by1)], [], w) = _
        rw [if_pos hc40]
        refine (val_g (c2 := (107, d, 23, [some (.long a), none, some (.int by1)], [.long 1], w)) rfl).trans ?_
        exact val_r rfl
      · refine ((val_if_ne rfl).trans (if_neg hc40)).trans ?_
        show val (107, d, 18, [some (.long a), none, some (.int by1)], [], w) = _
        rw [if_neg hc40]
        refine (val_g (c2 := (107, d, 19, [some (.long a), none, some (.int by1)], [.long 0], w)) rfl).trans ?_
        refine (val_g (c2 := (107, d, 23, [some (.long a), none, some (.int by1)], [.long 0], w)) rfl).trans ?_
        exact val_r rfl
  · refine ((val_if_gt rfl).trans (if_neg hc37)).trans ?_
    show val (107, d, 4, [some (.long a), none, some (.int by1)], [], w) = _
    rw [if_neg hc37]
    refine (val_g (c2 := (107, d, 5, [some (.long a), none, some (.int by1)], [.long a], w)) rfl).trans ?_
    exact val_r rfl
/-- BelfryHouse$Shelf.isOfLines(I)Z -/
def fn_163 (sort : Int32) : Int32 := (if sort = 3 then 1 else (if ¬ sort = 4 then 0 else 1))
theorem ev_163 (d : Nat) (w : Wd) (sort : Int32) : val (163, d, 0, [some (.int sort)], [], w) = some (some (.int (fn_163 sort)), w) := by
  unfold fn_163
  refine (val_g (c2 := (163, d, 1, [some (.int sort)], [.int sort], w)) rfl).trans ?_
  refine (val_g (c2 := (163, d, 2, [some (.int sort)], [.int 3, .int sort], w)) rfl).trans ?_
  by_cases hc41 : sort = 3
  · refine ((val_ic_eq rfl).trans (if_pos hc41)).trans ?_
    show val (163, d, 10, [some (.int sort)], [], w) = _
    rw [if_pos hc41]
    refine (val_g (c2 := (163, d, 11, [some (.int sort)], [.int 1], w)) rfl).trans ?_
    refine (val_g (c2 := (163, d, 15, [some (.int sort)], [.int 1], w)) rfl).trans ?_
    exact val_r rfl
  · refine ((val_ic_eq rfl).trans (if_neg hc41)).trans ?_
    show val (163, d, 5, [some (.int sort)], [], w) = _
    rw [if_neg hc41]
    refine (val_g (c2 := (163, d, 6, [some (.int sort)], [.int sort], w)) rfl).trans ?_
    refine (val_g (c2 := (163, d, 7, [some (.int sort)], [.int 4, .int sort], w)) rfl).trans ?_
    by_cases hc42 : ¬ sort = 4
    · refine ((val_ic_ne rfl).trans (if_pos hc42)).trans ?_
      show val (163, d, 14, [some (.int sort)], [], w) = _
      rw [if_pos hc42]
      refine (val_g (c2 := (163, d, 15, [some (.int sort)], [.int 0], w)) rfl).trans ?_
      exact val_r rfl
    · refine ((val_ic_ne rfl).trans (if_neg hc42)).trans ?_
      show val (163, d, 10, [some (.int sort)], [], w) = _
      rw [if_neg hc42]
      refine (val_g (c2 := (163, d, 11, [some (.int sort)], [.int 1], w)) rfl).trans ?_
      refine (val_g (c2 := (163, d, 15, [some (.int sort)], [.int 1], w)) rfl).trans ?_
      exact val_r rfl
/-- BelfryHouse$Shelf.lineOf(IZ)J -/
def fn_164 (row : Int32) (called : Int32) : Int64 := (if called = 0 then ((shlL ((Int32.toInt64 row)) 1) ||| (Int32.toInt64 0)) else ((shlL ((Int32.toInt64 row)) 1) ||| (Int32.toInt64 1)))
theorem ev_164 (d : Nat) (w : Wd) (row : Int32) (called : Int32) : val (164, d, 0, [some (.int row), some (.int called)], [], w) = some (some (.long (fn_164 row called)), w) := by
  unfold fn_164
  refine (val_g (c2 := (164, d, 1, [some (.int row), some (.int called)], [.int row], w)) rfl).trans ?_
  refine (val_g (c2 := (164, d, 2, [some (.int row), some (.int called)], [.long (Int32.toInt64 row)], w)) rfl).trans ?_
  refine (val_g (c2 := (164, d, 3, [some (.int row), some (.int called)], [.int 1, .long (Int32.toInt64 row)], w)) rfl).trans ?_
  refine (val_g (c2 := (164, d, 4, [some (.int row), some (.int called)], [.long (shlL ((Int32.toInt64 row)) 1)], w)) rfl).trans ?_
  refine (val_g (c2 := (164, d, 5, [some (.int row), some (.int called)], [.int called, .long (shlL ((Int32.toInt64 row)) 1)], w)) rfl).trans ?_
  by_cases hc43 : called = 0
  · refine ((val_if_eq rfl).trans (if_pos hc43)).trans ?_
    show val (164, d, 12, [some (.int row), some (.int called)], [.long (shlL ((Int32.toInt64 row)) 1)], w) = _
    rw [if_pos hc43]
    refine (val_g (c2 := (164, d, 13, [some (.int row), some (.int called)], [.int 0, .long (shlL ((Int32.toInt64 row)) 1)], w)) rfl).trans ?_
    refine (val_g (c2 := (164, d, 14, [some (.int row), some (.int called)], [.long (Int32.toInt64 0), .long (shlL ((Int32.toInt64 row)) 1)], w)) rfl).trans ?_
    refine (val_g (c2 := (164, d, 15, [some (.int row), some (.int called)], [.long ((shlL ((Int32.toInt64 row)) 1) ||| (Int32.toInt64 0))], w)) rfl).trans ?_
    exact val_r rfl
  · refine ((val_if_eq rfl).trans (if_neg hc43)).trans ?_
    show val (164, d, 8, [some (.int row), some (.int called)], [.long (shlL ((Int32.toInt64 row)) 1)], w) = _
    rw [if_neg hc43]
    refine (val_g (c2 := (164, d, 9, [some (.int row), some (.int called)], [.int 1, .long (shlL ((Int32.toInt64 row)) 1)], w)) rfl).trans ?_
    refine (val_g (c2 := (164, d, 13, [some (.int row), some (.int called)], [.int 1, .long (shlL ((Int32.toInt64 row)) 1)], w)) rfl).trans ?_
    refine (val_g (c2 := (164, d, 14, [some (.int row), some (.int called)], [.long (Int32.toInt64 1), .long (shlL ((Int32.toInt64 row)) 1)], w)) rfl).trans ?_
    refine (val_g (c2 := (164, d, 15, [some (.int row), some (.int called)], [.long ((shlL ((Int32.toInt64 row)) 1) ||| (Int32.toInt64 1))], w)) rfl).trans ?_
    exact val_r rfl
/-- BelfryHouse$Shelf.rowOfLine(J)I -/
def fn_165 (line : Int64) : Int32 := (Int64.toInt32 ((ushL line 1)))
theorem ev_165 (d : Nat) (w : Wd) (line : Int64) : val (165, d, 0, [some (.long line), none], [], w) = some (some (.int (fn_165 line)), w) := by
  unfold fn_165
  refine (val_g (c2 := (165, d, 1, [some (.long line), none], [.long line], w)) rfl).trans ?_
  refine (val_g (c2 := (165, d, 2, [some (.long line), none], [.int 1, .long line], w)) rfl).trans ?_
  refine (val_g (c2 := (165, d, 3, [some (.long line), none], [.long (ushL line 1)], w)) rfl).trans ?_
  refine (val_g (c2 := (165, d, 4, [some (.long line), none], [.int (Int64.toInt32 ((ushL line 1)))], w)) rfl).trans ?_
  exact val_r rfl
/-- BelfryHouseModel.isBoard(I)Z -/
def fn_250 (b : Int32) : Int32 := (if b < 0 then 0 else (if 8 ≤ b then 0 else 1))
theorem ev_250 (d : Nat) (w : Wd) (b : Int32) : val (250, d, 0, [some (.int b)], [], w) = some (some (.int (fn_250 b)), w) := by
  unfold fn_250
  refine (val_g (c2 := (250, d, 1, [some (.int b)], [.int b], w)) rfl).trans ?_
  by_cases hc44 : b < 0
  · refine ((val_if_lt rfl).trans (if_pos hc44)).trans ?_
    show val (250, d, 14, [some (.int b)], [], w) = _
    rw [if_pos hc44]
    refine (val_g (c2 := (250, d, 15, [some (.int b)], [.int 0], w)) rfl).trans ?_
    exact val_r rfl
  · refine ((val_if_lt rfl).trans (if_neg hc44)).trans ?_
    show val (250, d, 4, [some (.int b)], [], w) = _
    rw [if_neg hc44]
    refine (val_g (c2 := (250, d, 5, [some (.int b)], [.int b], w)) rfl).trans ?_
    refine (val_g (c2 := (250, d, 7, [some (.int b)], [.int 8, .int b], w)) rfl).trans ?_
    by_cases hc45 : 8 ≤ b
    · refine ((val_ic_ge rfl).trans (if_pos hc45)).trans ?_
      show val (250, d, 14, [some (.int b)], [], w) = _
      rw [if_pos hc45]
      refine (val_g (c2 := (250, d, 15, [some (.int b)], [.int 0], w)) rfl).trans ?_
      exact val_r rfl
    · refine ((val_ic_ge rfl).trans (if_neg hc45)).trans ?_
      show val (250, d, 10, [some (.int b)], [], w) = _
      rw [if_neg hc45]
      refine (val_g (c2 := (250, d, 11, [some (.int b)], [.int 1], w)) rfl).trans ?_
      refine (val_g (c2 := (250, d, 15, [some (.int b)], [.int 1], w)) rfl).trans ?_
      exact val_r rfl
/-- java/lang/Integer.bitCount(I)I -/
def fn_257 (i : Int32) : Int32 := ((((((((i - ((ushI i 1) &&& 1431655765)) &&& 858993459) + ((ushI ((i - ((ushI i 1) &&& 1431655765))) 2) &&& 858993459)) + (ushI ((((i - ((ushI i 1) &&& 1431655765)) &&& 858993459) + ((ushI ((i - ((ushI i 1) &&& 1431655765))) 2) &&& 858993459))) 4)) &&& 252645135) + (ushI ((((((i - ((ushI i 1) &&& 1431655765)) &&& 858993459) + ((ushI ((i - ((ushI i 1) &&& 1431655765))) 2) &&& 858993459)) + (ushI ((((i - ((ushI i 1) &&& 1431655765)) &&& 858993459) + ((ushI ((i - ((ushI i 1) &&& 1431655765))) 2) &&& 858993459))) 4)) &&& 252645135)) 8)) + (ushI (((((((i - ((ushI i 1) &&& 1431655765)) &&& 858993459) + ((ushI ((i - ((ushI i 1) &&& 1431655765))) 2) &&& 858993459)) + (ushI ((((i - ((ushI i 1) &&& 1431655765)) &&& 858993459) + ((ushI ((i - ((ushI i 1) &&& 1431655765))) 2) &&& 858993459))) 4)) &&& 252645135) + (ushI ((((((i - ((ushI i 1) &&& 1431655765)) &&& 858993459) + ((ushI ((i - ((ushI i 1) &&& 1431655765))) 2) &&& 858993459)) + (ushI ((((i - ((ushI i 1) &&& 1431655765)) &&& 858993459) + ((ushI ((i - ((ushI i 1) &&& 1431655765))) 2) &&& 858993459))) 4)) &&& 252645135)) 8))) 16)) &&& 63)
theorem ev_257 (d : Nat) (w : Wd) (i : Int32) : val (257, d, 0, [some (.int i)], [], w) = some (some (.int (fn_257 i)), w) := by
  unfold fn_257
  refine (val_g (c2 := (257, d, 1, [some (.int i)], [.int i], w)) rfl).trans ?_
  refine (val_g (c2 := (257, d, 2, [some (.int i)], [.int i, .int i], w)) rfl).trans ?_
  refine (val_g (c2 := (257, d, 3, [some (.int i)], [.int 1, .int i, .int i], w)) rfl).trans ?_
  refine (val_g (c2 := (257, d, 4, [some (.int i)], [.int (ushI i 1), .int i], w)) rfl).trans ?_
  refine (val_g (c2 := (257, d, 7, [some (.int i)], [.int 1431655765, .int (ushI i 1), .int i], w)) rfl).trans ?_
  refine (val_g (c2 := (257, d, 8, [some (.int i)], [.int ((ushI i 1) &&& 1431655765), .int i], w)) rfl).trans ?_
  refine (val_g (c2 := (257, d, 9, [some (.int i)], [.int (i - ((ushI i 1) &&& 1431655765))], w)) rfl).trans ?_
  refine (val_g (c2 := (257, d, 10, [some (.int (i - ((ushI i 1) &&& 1431655765)))], [], w)) rfl).trans ?_
  refine (val_g (c2 := (257, d, 11, [some (.int (i - ((ushI i 1) &&& 1431655765)))], [.int (i - ((ushI i 1) &&& 1431655765))], w)) rfl).trans ?_
  refine (val_g (c2 := (257, d, 14, [some (.int (i - ((ushI i 1) &&& 1431655765)))], [.int 858993459, .int (i - ((ushI i 1) &&& 1431655765))], w)) rfl).trans ?_
  refine (val_g (c2 := (257, d, 15, [some (.int (i - ((ushI i 1) &&& 1431655765)))], [.int ((i - ((ushI i 1) &&& 1431655765)) &&& 858993459)], w)) rfl).trans ?_
  refine (val_g (c2 := (257, d, 16, [some (.int (i - ((ushI i 1) &&& 1431655765)))], [.int (i - ((ushI i 1) &&& 1431655765)), .int ((i - ((ushI i 1) &&& 1431655765)) &&& 858993459)], w)) rfl).trans ?_
  refine (val_g (c2 := (257, d, 17, [some (.int (i - ((ushI i 1) &&& 1431655765)))], [.int 2, .int (i - ((ushI i 1) &&& 1431655765)), .int ((i - ((ushI i 1) &&& 1431655765)) &&& 858993459)], w)) rfl).trans ?_
  refine (val_g (c2 := (257, d, 18, [some (.int (i - ((ushI i 1) &&& 1431655765)))], [.int (ushI ((i - ((ushI i 1) &&& 1431655765))) 2), .int ((i - ((ushI i 1) &&& 1431655765)) &&& 858993459)], w)) rfl).trans ?_
  refine (val_g (c2 := (257, d, 21, [some (.int (i - ((ushI i 1) &&& 1431655765)))], [.int 858993459, .int (ushI ((i - ((ushI i 1) &&& 1431655765))) 2), .int ((i - ((ushI i 1) &&& 1431655765)) &&& 858993459)], w)) rfl).trans ?_
  refine (val_g (c2 := (257, d, 22, [some (.int (i - ((ushI i 1) &&& 1431655765)))], [.int ((ushI ((i - ((ushI i 1) &&& 1431655765))) 2) &&& 858993459), .int ((i - ((ushI i 1) &&& 1431655765)) &&& 858993459)], w)) rfl).trans ?_
  refine (val_g (c2 := (257, d, 23, [some (.int (i - ((ushI i 1) &&& 1431655765)))], [.int (((i - ((ushI i 1) &&& 1431655765)) &&& 858993459) + ((ushI ((i - ((ushI i 1) &&& 1431655765))) 2) &&& 858993459))], w)) rfl).trans ?_
  refine (val_g (c2 := (257, d, 24, [some (.int (((i - ((ushI i 1) &&& 1431655765)) &&& 858993459) + ((ushI ((i - ((ushI i 1) &&& 1431655765))) 2) &&& 858993459)))], [], w)) rfl).trans ?_
  refine (val_g (c2 := (257, d, 25, [some (.int (((i - ((ushI i 1) &&& 1431655765)) &&& 858993459) + ((ushI ((i - ((ushI i 1) &&& 1431655765))) 2) &&& 858993459)))], [.int (((i - ((ushI i 1) &&& 1431655765)) &&& 858993459) + ((ushI ((i - ((ushI i 1) &&& 1431655765))) 2) &&& 858993459))], w)) rfl).trans ?_
  refine (val_g (c2 := (257, d, 26, [some (.int (((i - ((ushI i 1) &&& 1431655765)) &&& 858993459) + ((ushI ((i - ((ushI i 1) &&& 1431655765))) 2) &&& 858993459)))], [.int (((i - ((ushI i 1) &&& 1431655765)) &&& 858993459) + ((ushI ((i - ((ushI i 1) &&& 1431655765))) 2) &&& 858993459)), .int (((i - ((ushI i 1) &&& 1431655765)) &&& 858993459) + ((ushI ((i - ((ushI i 1) &&& 1431655765))) 2) &&& 858993459))], w)) rfl).trans ?_
  refine (val_g (c2 := (257, d, 27, [some (.int (((i - ((ushI i 1) &&& 1431655765)) &&& 858993459) + ((ushI ((i - ((ushI i 1) &&& 1431655765))) 2) &&& 858993459)))], [.int 4, .int (((i - ((ushI i 1) &&& 1431655765)) &&& 858993459) + ((ushI ((i - ((ushI i 1) &&& 1431655765))) 2) &&& 858993459)), .int (((i - ((ushI i 1) &&& 1431655765)) &&& 858993459) + ((ushI ((i - ((ushI i 1) &&& 1431655765))) 2) &&& 858993459))], w)) rfl).trans ?_
  refine (val_g (c2 := (257, d, 28, [some (.int (((i - ((ushI i 1) &&& 1431655765)) &&& 858993459) + ((ushI ((i - ((ushI i 1) &&& 1431655765))) 2) &&& 858993459)))], [.int (ushI ((((i - ((ushI i 1) &&& 1431655765)) &&& 858993459) + ((ushI ((i - ((ushI i 1) &&& 1431655765))) 2) &&& 858993459))) 4), .int (((i - ((ushI i 1) &&& 1431655765)) &&& 858993459) + ((ushI ((i - ((ushI i 1) &&& 1431655765))) 2) &&& 858993459))], w)) rfl).trans ?_
  refine (val_g (c2 := (257, d, 29, [some (.int (((i - ((ushI i 1) &&& 1431655765)) &&& 858993459) + ((ushI ((i - ((ushI i 1) &&& 1431655765))) 2) &&& 858993459)))], [.int ((((i - ((ushI i 1) &&& 1431655765)) &&& 858993459) + ((ushI ((i - ((ushI i 1) &&& 1431655765))) 2) &&& 858993459)) + (ushI ((((i - ((ushI i 1) &&& 1431655765)) &&& 858993459) + ((ushI ((i - ((ushI i 1) &&& 1431655765))) 2) &&& 858993459))) 4))], w)) rfl).trans ?_
  refine (val_g (c2 := (257, d, 32, [some (.int (((i - ((ushI i 1) &&& 1431655765)) &&& 858993459) + ((ushI ((i - ((ushI i 1) &&& 1431655765))) 2) &&& 858993459)))], [.int 252645135, .int ((((i - ((ushI i 1) &&& 1431655765)) &&& 858993459) + ((ushI ((i - ((ushI i 1) &&& 1431655765))) 2) &&& 858993459)) + (ushI ((((i - ((ushI i 1) &&& 1431655765)) &&& 858993459) + ((ushI ((i - ((ushI i 1) &&& 1431655765))) 2) &&& 858993459))) 4))], w)) rfl).trans ?_
  refine (val_g (c2 := (257, d, 33, [some (.int (((i - ((ushI i 1) &&& 1431655765)) &&& 858993459) + ((ushI ((i - ((ushI i 1) &&& 1431655765))) 2) &&& 858993459)))], [.int (((((i - ((ushI i 1) &&& 1431655765)) &&& 858993459) + ((ushI ((i - ((ushI i 1) &&& 1431655765))) 2) &&& 858993459)) + (ushI ((((i - ((ushI i 1) &&& 1431655765)) &&& 858993459) + ((ushI ((i - ((ushI i 1) &&& 1431655765))) 2) &&& 858993459))) 4)) &&& 252645135)], w)) rfl).trans ?_
  refine (val_g (c2 := (257, d, 34, [some (.int (((((i - ((ushI i 1) &&& 1431655765)) &&& 858993459) + ((ushI ((i - ((ushI i 1) &&& 1431655765))) 2) &&& 858993459)) + (ushI ((((i - ((ushI i 1) &&& 1431655765)) &&& 858993459) + ((ushI ((i - ((ushI i 1) &&& 1431655765))) 2) &&& 858993459))) 4)) &&& 252645135))], [], w)) rfl).trans ?_
  refine (val_g (c2 := (257, d, 35, [some (.int (((((i - ((ushI i 1) &&& 1431655765)) &&& 858993459) + ((ushI ((i - ((ushI i 1) &&& 1431655765))) 2) &&& 858993459)) + (ushI ((((i - ((ushI i 1) &&& 1431655765)) &&& 858993459) + ((ushI ((i - ((ushI i 1) &&& 1431655765))) 2) &&& 858993459))) 4)) &&& 252645135))], [.int (((((i - ((ushI i 1) &&& 1431655765)) &&& 858993459) + ((ushI ((i - ((ushI i 1) &&& 1431655765))) 2) &&& 858993459)) + (ushI ((((i - ((ushI i 1) &&& 1431655765)) &&& 858993459) + ((ushI ((i - ((ushI i 1) &&& 1431655765))) 2) &&& 858993459))) 4)) &&& 252645135)], w)) rfl).trans ?_
  refine (val_g (c2 := (257, d, 36, [some (.int (((((i - ((ushI i 1) &&& 1431655765)) &&& 858993459) + ((ushI ((i - ((ushI i 1) &&& 1431655765))) 2) &&& 858993459)) + (ushI ((((i - ((ushI i 1) &&& 1431655765)) &&& 858993459) + ((ushI ((i - ((ushI i 1) &&& 1431655765))) 2) &&& 858993459))) 4)) &&& 252645135))], [.int (((((i - ((ushI i 1) &&& 1431655765)) &&& 858993459) + ((ushI ((i - ((ushI i 1) &&& 1431655765))) 2) &&& 858993459)) + (ushI ((((i - ((ushI i 1) &&& 1431655765)) &&& 858993459) + ((ushI ((i - ((ushI i 1) &&& 1431655765))) 2) &&& 858993459))) 4)) &&& 252645135), .int (((((i - ((ushI i 1) &&& 1431655765)) &&& 858993459) + ((ushI ((i - ((ushI i 1) &&& 1431655765))) 2) &&& 858993459)) + (ushI ((((i - ((ushI i 1) &&& 1431655765)) &&& 858993459) + ((ushI ((i - ((ushI i 1) &&& 1431655765))) 2) &&& 858993459))) 4)) &&& 252645135)], w)) rfl).trans ?_
  refine (val_g (c2 := (257, d, 38, [some (.int (((((i - ((ushI i 1) &&& 1431655765)) &&& 858993459) + ((ushI ((i - ((ushI i 1) &&& 1431655765))) 2) &&& 858993459)) + (ushI ((((i - ((ushI i 1) &&& 1431655765)) &&& 858993459) + ((ushI ((i - ((ushI i 1) &&& 1431655765))) 2) &&& 858993459))) 4)) &&& 252645135))], [.int 8, .int (((((i - ((ushI i 1) &&& 1431655765)) &&& 858993459) + ((ushI ((i - ((ushI i 1) &&& 1431655765))) 2) &&& 858993459)) + (ushI ((((i - ((ushI i 1) &&& 1431655765)) &&& 858993459) + ((ushI ((i - ((ushI i 1) &&& 1431655765))) 2) &&& 858993459))) 4)) &&& 252645135), .int (((((i - ((ushI i 1) &&& 1431655765)) &&& 858993459) + ((ushI ((i - ((ushI i 1) &&& 1431655765))) 2) &&& 858993459)) + (ushI ((((i - ((ushI i 1) &&& 1431655765)) &&& 858993459) + ((ushI ((i - ((ushI i 1) &&& 1431655765))) 2) &&& 858993459))) 4)) &&& 252645135)], w)) rfl).trans ?_
  refine (val_g (c2 := (257, d, 39, [some (.int (((((i - ((ushI i 1) &&& 1431655765)) &&& 858993459) + ((ushI ((i - ((ushI i 1) &&& 1431655765))) 2) &&& 858993459)) + (ushI ((((i - ((ushI i 1) &&& 1431655765)) &&& 858993459) + ((ushI ((i - ((ushI i 1) &&& 1431655765))) 2) &&& 858993459))) 4)) &&& 252645135))], [.int (ushI ((((((i - ((ushI i 1) &&& 1431655765)) &&& 858993459) + ((ushI ((i - ((ushI i 1) &&& 1431655765))) 2) &&& 858993459)) + (ushI ((((i - ((ushI i 1) &&& 1431655765)) &&& 858993459) + ((ushI ((i - ((ushI i 1) &&& 1431655765))) 2) &&& 858993459))) 4)) &&& 252645135)) 8), .int (((((i - ((ushI i 1) &&& 1431655765)) &&& 858993459) + ((ushI ((i - ((ushI i 1) &&& 1431655765))) 2) &&& 858993459)) + (ushI ((((i - ((ushI i 1) &&& 1431655765)) &&& 858993459) + ((ushI ((i - ((ushI i 1) &&& 1431655765))) 2) &&& 858993459))) 4)) &&& 252645135)], w)) rfl).trans ?_
  refine (val_g (c2 := (257, d, 40, [some (.int (((((i - ((ushI i 1) &&& 1431655765)) &&& 858993459) + ((ushI ((i - ((ushI i 1) &&& 1431655765))) 2) &&& 858993459)) + (ushI ((((i - ((ushI i 1) &&& 1431655765)) &&& 858993459) + ((ushI ((i - ((ushI i 1) &&& 1431655765))) 2) &&& 858993459))) 4)) &&& 252645135))], [.int ((((((i - ((ushI i 1) &&& 1431655765)) &&& 858993459) + ((ushI ((i - ((ushI i 1) &&& 1431655765))) 2) &&& 858993459)) + (ushI ((((i - ((ushI i 1) &&& 1431655765)) &&& 858993459) + ((ushI ((i - ((ushI i 1) &&& 1431655765))) 2) &&& 858993459))) 4)) &&& 252645135) + (ushI ((((((i - ((ushI i 1) &&& 1431655765)) &&& 858993459) + ((ushI ((i - ((ushI i 1) &&& 1431655765))) 2) &&& 858993459)) + (ushI ((((i - ((ushI i 1) &&& 1431655765)) &&& 858993459) + ((ushI ((i - ((ushI i 1) &&& 1431655765))) 2) &&& 858993459))) 4)) &&& 252645135)) 8))], w)) rfl).trans ?_
  refine (val_g (c2 := (257, d, 41, [some (.int ((((((i - ((ushI i 1) &&& 1431655765)) &&& 858993459) + ((ushI ((i - ((ushI i 1) &&& 1431655765))) 2) &&& 858993459)) + (ushI ((((i - ((ushI i 1) &&& 1431655765)) &&& 858993459) + ((ushI ((i - ((ushI i 1) &&& 1431655765))) 2) &&& 858993459))) 4)) &&& 252645135) + (ushI ((((((i - ((ushI i 1) &&& 1431655765)) &&& 858993459) + ((ushI ((i - ((ushI i 1) &&& 1431655765))) 2) &&& 858993459)) + (ushI ((((i - ((ushI i 1) &&& 1431655765)) &&& 858993459) + ((ushI ((i - ((ushI i 1) &&& 1431655765))) 2) &&& 858993459))) 4)) &&& 252645135)) 8)))], [], w)) rfl).trans ?_
  refine (val_g (c2 := (257, d, 42, [some (.int ((((((i - ((ushI i 1) &&& 1431655765)) &&& 858993459) + ((ushI ((i - ((ushI i 1) &&& 1431655765))) 2) &&& 858993459)) + (ushI ((((i - ((ushI i 1) &&& 1431655765)) &&& 858993459) + ((ushI ((i - ((ushI i 1) &&& 1431655765))) 2) &&& 858993459))) 4)) &&& 252645135) + (ushI ((((((i - ((ushI i 1) &&& 1431655765)) &&& 858993459) + ((ushI ((i - ((ushI i 1) &&& 1431655765))) 2) &&& 858993459)) + (ushI ((((i - ((ushI i 1) &&& 1431655765)) &&& 858993459) + ((ushI ((i - ((ushI i 1) &&& 1431655765))) 2) &&& 858993459))) 4)) &&& 252645135)) 8)))], [.int ((((((i - ((ushI i 1) &&& 1431655765)) &&& 858993459) + ((ushI ((i - ((ushI i 1) &&& 1431655765))) 2) &&& 858993459)) + (ushI ((((i - ((ushI i 1) &&& 1431655765)) &&& 858993459) + ((ushI ((i - ((ushI i 1) &&& 1431655765))) 2) &&& 858993459))) 4)) &&& 252645135) + (ushI ((((((i - ((ushI i 1) &&& 1431655765)) &&& 858993459) + ((ushI ((i - ((ushI i 1) &&& 1431655765))) 2) &&& 858993459)) + (ushI ((((i - ((ushI i 1) &&& 1431655765)) &&& 858993459) + ((ushI ((i - ((ushI i 1) &&& 1431655765))) 2) &&& 858993459))) 4)) &&& 252645135)) 8))], w)) rfl).trans ?_
  refine (val_g (c2 := (257, d, 43, [some (.int ((((((i - ((ushI i 1) &&& 1431655765)) &&& 858993459) + ((ushI ((i - ((ushI i 1) &&& 1431655765))) 2) &&& 858993459)) + (ushI ((((i - ((ushI i 1) &&& 1431655765)) &&& 858993459) + ((ushI ((i - ((ushI i 1) &&& 1431655765))) 2) &&& 858993459))) 4)) &&& 252645135) + (ushI ((((((i - ((ushI i 1) &&& 1431655765)) &&& 858993459) + ((ushI ((i - ((ushI i 1) &&& 1431655765))) 2) &&& 858993459)) + (ushI ((((i - ((ushI i 1) &&& 1431655765)) &&& 858993459) + ((ushI ((i - ((ushI i 1) &&& 1431655765))) 2) &&& 858993459))) 4)) &&& 252645135)) 8)))], [.int ((((((i - ((ushI i 1) &&& 1431655765)) &&& 858993459) + ((ushI ((i - ((ushI i 1) &&& 1431655765))) 2) &&& 858993459)) + (ushI ((((i - ((ushI i 1) &&& 1431655765)) &&& 858993459) + ((ushI ((i - ((ushI i 1) &&& 1431655765))) 2) &&& 858993459))) 4)) &&& 252645135) + (ushI ((((((i - ((ushI i 1) &&& 1431655765)) &&& 858993459) + ((ushI ((i - ((ushI i 1) &&& 1431655765))) 2) &&& 858993459)) + (ushI ((((i - ((ushI i 1) &&& 1431655765)) &&& 858993459) + ((ushI ((i - ((ushI i 1) &&& 1431655765))) 2) &&& 858993459))) 4)) &&& 252645135)) 8)), .int ((((((i - ((ushI i 1) &&& 1431655765)) &&& 858993459) + ((ushI ((i - ((ushI i 1) &&& 1431655765))) 2) &&& 858993459)) + (ushI ((((i - ((ushI i 1) &&& 1431655765)) &&& 858993459) + ((ushI ((i - ((ushI i 1) &&& 1431655765))) 2) &&& 858993459))) 4)) &&& 252645135) + (ushI ((((((i - ((ushI i 1) &&& 1431655765)) &&& 858993459) + ((ushI ((i - ((ushI i 1) &&& 1431655765))) 2) &&& 858993459)) + (ushI ((((i - ((ushI i 1) &&& 1431655765)) &&& 858993459) + ((ushI ((i - ((ushI i 1) &&& 1431655765))) 2) &&& 858993459))) 4)) &&& 252645135)) 8))], w)) rfl).trans ?_
  refine (val_g (c2 := (257, d, 45, [some (.int ((((((i - ((ushI i 1) &&& 1431655765)) &&& 858993459) + ((ushI ((i - ((ushI i 1) &&& 1431655765))) 2) &&& 858993459)) + (ushI ((((i - ((ushI i 1) &&& 1431655765)) &&& 858993459) + ((ushI ((i - ((ushI i 1) &&& 1431655765))) 2) &&& 858993459))) 4)) &&& 252645135) + (ushI ((((((i - ((ushI i 1) &&& 1431655765)) &&& 858993459) + ((ushI ((i - ((ushI i 1) &&& 1431655765))) 2) &&& 858993459)) + (ushI ((((i - ((ushI i 1) &&& 1431655765)) &&& 858993459) + ((ushI ((i - ((ushI i 1) &&& 1431655765))) 2) &&& 858993459))) 4)) &&& 252645135)) 8)))], [.int 16, .int ((((((i - ((ushI i 1) &&& 1431655765)) &&& 858993459) + ((ushI ((i - ((ushI i 1) &&& 1431655765))) 2) &&& 858993459)) + (ushI ((((i - ((ushI i 1) &&& 1431655765)) &&& 858993459) + ((ushI ((i - ((ushI i 1) &&& 1431655765))) 2) &&& 858993459))) 4)) &&& 252645135) + (ushI ((((((i - ((ushI i 1) &&& 1431655765)) &&& 858993459) + ((ushI ((i - ((ushI i 1) &&& 1431655765))) 2) &&& 858993459)) + (ushI ((((i - ((ushI i 1) &&& 1431655765)) &&& 858993459) + ((ushI ((i - ((ushI i 1) &&& 1431655765))) 2) &&& 858993459))) 4)) &&& 252645135)) 8)), .int ((((((i - ((ushI i 1) &&& 1431655765)) &&& 858993459) + ((ushI ((i - ((ushI i 1) &&& 1431655765))) 2) &&& 858993459)) + (ushI ((((i - ((ushI i 1) &&& 1431655765)) &&& 858993459) + ((ushI ((i - ((ushI i 1) &&& 1431655765))) 2) &&& 858993459))) 4)) &&& 252645135) + (ushI ((((((i - ((ushI i 1) &&& 1431655765)) &&& 858993459) + ((ushI ((i - ((ushI i 1) &&& 1431655765))) 2) &&& 858993459)) + (ushI ((((i - ((ushI i 1) &&& 1431655765)) &&& 858993459) + ((ushI ((i - ((ushI i 1) &&& 1431655765))) 2) &&& 858993459))) 4)) &&& 252645135)) 8))], w)) rfl).trans ?_
  refine (val_g (c2 := (257, d, 46, [some (.int ((((((i - ((ushI i 1) &&& 1431655765)) &&& 858993459) + ((ushI ((i - ((ushI i 1) &&& 1431655765))) 2) &&& 858993459)) + (ushI ((((i - ((ushI i 1) &&& 1431655765)) &&& 858993459) + ((ushI ((i - ((ushI i 1) &&& 1431655765))) 2) &&& 858993459))) 4)) &&& 252645135) + (ushI ((((((i - ((ushI i 1) &&& 1431655765)) &&& 858993459) + ((ushI ((i - ((ushI i 1) &&& 1431655765))) 2) &&& 858993459)) + (ushI ((((i - ((ushI i 1) &&& 1431655765)) &&& 858993459) + ((ushI ((i - ((ushI i 1) &&& 1431655765))) 2) &&& 858993459))) 4)) &&& 252645135)) 8)))], [.int (ushI (((((((i - ((ushI i 1) &&& 1431655765)) &&& 858993459) + ((ushI ((i - ((ushI i 1) &&& 1431655765))) 2) &&& 858993459)) + (ushI ((((i - ((ushI i 1) &&& 1431655765)) &&& 858993459) + ((ushI ((i - ((ushI i 1) &&& 1431655765))) 2) &&& 858993459))) 4)) &&& 252645135) + (ushI ((((((i - ((ushI i 1) &&& 1431655765)) &&& 858993459) + ((ushI ((i - ((ushI i 1) &&& 1431655765))) 2) &&& 858993459)) + (ushI ((((i - ((ushI i 1) &&& 1431655765)) &&& 858993459) + ((ushI ((i - ((ushI i 1) &&& 1431655765))) 2) &&& 858993459))) 4)) &&& 252645135)) 8))) 16), .int ((((((i - ((ushI i 1) &&& 1431655765)) &&& 858993459) + ((ushI ((i - ((ushI i 1) &&& 1431655765))) 2) &&& 858993459)) + (ushI ((((i - ((ushI i 1) &&& 1431655765)) &&& 858993459) + ((ushI ((i - ((ushI i 1) &&& 1431655765))) 2) &&& 858993459))) 4)) &&& 252645135) + (ushI ((((((i - ((ushI i 1) &&& 1431655765)) &&& 858993459) + ((ushI ((i - ((ushI i 1) &&& 1431655765))) 2) &&& 858993459)) + (ushI ((((i - ((ushI i 1) &&& 1431655765)) &&& 858993459) + ((ushI ((i - ((ushI i 1) &&& 1431655765))) 2) &&& 858993459))) 4)) &&& 252645135)) 8))], w)) rfl).trans ?_
  refine (val_g (c2 := (257, d, 47, [some (.int ((((((i - ((ushI i 1) &&& 1431655765)) &&& 858993459) + ((ushI ((i - ((ushI i 1) &&& 1431655765))) 2) &&& 858993459)) + (ushI ((((i - ((ushI i 1) &&& 1431655765)) &&& 858993459) + ((ushI ((i - ((ushI i 1) &&& 1431655765))) 2) &&& 858993459))) 4)) &&& 252645135) + (ushI ((((((i - ((ushI i 1) &&& 1431655765)) &&& 858993459) + ((ushI ((i - ((ushI i 1) &&& 1431655765))) 2) &&& 858993459)) + (ushI ((((i - ((ushI i 1) &&& 1431655765)) &&& 858993459) + ((ushI ((i - ((ushI i 1) &&& 1431655765))) 2) &&& 858993459))) 4)) &&& 252645135)) 8)))], [.int (((((((i - ((ushI i 1) &&& 1431655765)) &&& 858993459) + ((ushI ((i - ((ushI i 1) &&& 1431655765))) 2) &&& 858993459)) + (ushI ((((i - ((ushI i 1) &&& 1431655765)) &&& 858993459) + ((ushI ((i - ((ushI i 1) &&& 1431655765))) 2) &&& 858993459))) 4)) &&& 252645135) + (ushI ((((((i - ((ushI i 1) &&& 1431655765)) &&& 858993459) + ((ushI ((i - ((ushI i 1) &&& 1431655765))) 2) &&& 858993459)) + (ushI ((((i - ((ushI i 1) &&& 1431655765)) &&& 858993459) + ((ushI ((i - ((ushI i 1) &&& 1431655765))) 2) &&& 858993459))) 4)) &&& 252645135)) 8)) + (ushI (((((((i - ((ushI i 1) &&& 1431655765)) &&& 858993459) + ((ushI ((i - ((ushI i 1) &&& 1431655765))) 2) &&& 858993459)) + (ushI ((((i - ((ushI i 1) &&& 1431655765)) &&& 858993459) + ((ushI ((i - ((ushI i 1) &&& 1431655765))) 2) &&& 858993459))) 4)) &&& 252645135) + (ushI ((((((i - ((ushI i 1) &&& 1431655765)) &&& 858993459) + ((ushI ((i - ((ushI i 1) &&& 1431655765))) 2) &&& 858993459)) + (ushI ((((i - ((ushI i 1) &&& 1431655765)) &&& 858993459) + ((ushI ((i - ((ushI i 1) &&& 1431655765))) 2) &&& 858993459))) 4)) &&& 252645135)) 8))) 16))], w)) rfl).trans ?_
  refine (val_g (c2 := (257, d, 48, [some (.int (((((((i - ((ushI i 1) &&& 1431655765)) &&& 858993459) + ((ushI ((i - ((ushI i 1) &&& 1431655765))) 2) &&& 858993459)) + (ushI ((((i - ((ushI i 1) &&& 1431655765)) &&& 858993459) + ((ushI ((i - ((ushI i 1) &&& 1431655765))) 2) &&& 858993459))) 4)) &&& 252645135) + (ushI ((((((i - ((ushI i 1) &&& 1431655765)) &&& 858993459) + ((ushI ((i - ((ushI i 1) &&& 1431655765))) 2) &&& 858993459)) + (ushI ((((i - ((ushI i 1) &&& 1431655765)) &&& 858993459) + ((ushI ((i - ((ushI i 1) &&& 1431655765))) 2) &&& 858993459))) 4)) &&& 252645135)) 8)) + (ushI (((((((i - ((ushI i 1) &&& 1431655765)) &&& 858993459) + ((ushI ((i - ((ushI i 1) &&& 1431655765))) 2) &&& 858993459)) + (ushI ((((i - ((ushI i 1) &&& 1431655765)) &&& 858993459) + ((ushI ((i - ((ushI i 1) &&& 1431655765))) 2) &&& 858993459))) 4)) &&& 252645135) + (ushI ((((((i - ((ushI i 1) &&& 1431655765)) &&& 858993459) + ((ushI ((i - ((ushI i 1) &&& 1431655765))) 2) &&& 858993459)) + (ushI ((((i - ((ushI i 1) &&& 1431655765)) &&& 858993459) + ((ushI ((i - ((ushI i 1) &&& 1431655765))) 2) &&& 858993459))) 4)) &&& 252645135)) 8))) 16)))], [], w)) rfl).trans ?_
  refine (val_g (c2 := (257, d, 49, [some (.int (((((((i - ((ushI i 1) &&& 1431655765)) &&& 858993459) + ((ushI ((i - ((ushI i 1) &&& 1431655765))) 2) &&& 858993459)) + (ushI ((((i - ((ushI i 1) &&& 1431655765)) &&& 858993459) + ((ushI ((i - ((ushI i 1) &&& 1431655765))) 2) &&& 858993459))) 4)) &&& 252645135) + (ushI ((((((i - ((ushI i 1) &&& 1431655765)) &&& 858993459) + ((ushI ((i - ((ushI i 1) &&& 1431655765))) 2) &&& 858993459)) + (ushI ((((i - ((ushI i 1) &&& 1431655765)) &&& 858993459) + ((ushI ((i - ((ushI i 1) &&& 1431655765))) 2) &&& 858993459))) 4)) &&& 252645135)) 8)) + (ushI (((((((i - ((ushI i 1) &&& 1431655765)) &&& 858993459) + ((ushI ((i - ((ushI i 1) &&& 1431655765))) 2) &&& 858993459)) + (ushI ((((i - ((ushI i 1) &&& 1431655765)) &&& 858993459) + ((ushI ((i - ((ushI i 1) &&& 1431655765))) 2) &&& 858993459))) 4)) &&& 252645135) + (ushI ((((((i - ((ushI i 1) &&& 1431655765)) &&& 858993459) + ((ushI ((i - ((ushI i 1) &&& 1431655765))) 2) &&& 858993459)) + (ushI ((((i - ((ushI i 1) &&& 1431655765)) &&& 858993459) + ((ushI ((i - ((ushI i 1) &&& 1431655765))) 2) &&& 858993459))) 4)) &&& 252645135)) 8))) 16)))], [.int (((((((i - ((ushI i 1) &&& 1431655765)) &&& 858993459) + ((ushI ((i - ((ushI i 1) &&& 1431655765))) 2) &&& 858993459)) + (ushI ((((i - ((ushI i 1) &&& 1431655765)) &&& 858993459) + ((ushI ((i - ((ushI i 1) &&& 1431655765))) 2) &&& 858993459))) 4)) &&& 252645135) + (ushI ((((((i - ((ushI i 1) &&& 1431655765)) &&& 858993459) + ((ushI ((i - ((ushI i 1) &&& 1431655765))) 2) &&& 858993459)) + (ushI ((((i - ((ushI i 1) &&& 1431655765)) &&& 858993459) + ((ushI ((i - ((ushI i 1) &&& 1431655765))) 2) &&& 858993459))) 4)) &&& 252645135)) 8)) + (ushI (((((((i - ((ushI i 1) &&& 1431655765)) &&& 858993459) + ((ushI ((i - ((ushI i 1) &&& 1431655765))) 2) &&& 858993459)) + (ushI ((((i - ((ushI i 1) &&& 1431655765)) &&& 858993459) + ((ushI ((i - ((ushI i 1) &&& 1431655765))) 2) &&& 858993459))) 4)) &&& 252645135) + (ushI ((((((i - ((ushI i 1) &&& 1431655765)) &&& 858993459) + ((ushI ((i - ((ushI i 1) &&& 1431655765))) 2) &&& 858993459)) + (ushI ((((i - ((ushI i 1) &&& 1431655765)) &&& 858993459) + ((ushI ((i - ((ushI i 1) &&& 1431655765))) 2) &&& 858993459))) 4)) &&& 252645135)) 8))) 16))], w)) rfl).trans ?_
  refine (val_g (c2 := (257, d, 51, [some (.int (((((((i - ((ushI i 1) &&& 1431655765)) &&& 858993459) + ((ushI ((i - ((ushI i 1) &&& 1431655765))) 2) &&& 858993459)) + (ushI ((((i - ((ushI i 1) &&& 1431655765)) &&& 858993459) + ((ushI ((i - ((ushI i 1) &&& 1431655765))) 2) &&& 858993459))) 4)) &&& 252645135) + (ushI ((((((i - ((ushI i 1) &&& 1431655765)) &&& 858993459) + ((ushI ((i - ((ushI i 1) &&& 1431655765))) 2) &&& 858993459)) + (ushI ((((i - ((ushI i 1) &&& 1431655765)) &&& 858993459) + ((ushI ((i - ((ushI i 1) &&& 1431655765))) 2) &&& 858993459))) 4)) &&& 252645135)) 8)) + (ushI (((((((i - ((ushI i 1) &&& 1431655765)) &&& 858993459) + ((ushI ((i - ((ushI i 1) &&& 1431655765))) 2) &&& 858993459)) + (ushI ((((i - ((ushI i 1) &&& 1431655765)) &&& 858993459) + ((ushI ((i - ((ushI i 1) &&& 1431655765))) 2) &&& 858993459))) 4)) &&& 252645135) + (ushI ((((((i - ((ushI i 1) &&& 1431655765)) &&& 858993459) + ((ushI ((i - ((ushI i 1) &&& 1431655765))) 2) &&& 858993459)) + (ushI ((((i - ((ushI i 1) &&& 1431655765)) &&& 858993459) + ((ushI ((i - ((ushI i 1) &&& 1431655765))) 2) &&& 858993459))) 4)) &&& 252645135)) 8))) 16)))], [.int 63, .int (((((((i - ((ushI i 1) &&& 1431655765)) &&& 858993459) + ((ushI ((i - ((ushI i 1) &&& 1431655765))) 2) &&& 858993459)) + (ushI ((((i - ((ushI i 1) &&& 1431655765)) &&& 858993459) + ((ushI ((i - ((ushI i 1) &&& 1431655765))) 2) &&& 858993459))) 4)) &&& 252645135) + (ushI ((((((i - ((ushI i 1) &&& 1431655765)) &&& 858993459) + ((ushI ((i - ((ushI i 1) &&& 1431655765))) 2) &&& 858993459)) + (ushI ((((i - ((ushI i 1) &&& 1431655765)) &&& 858993459) + ((ushI ((i - ((ushI i 1) &&& 1431655765))) 2) &&& 858993459))) 4)) &&& 252645135)) 8)) + (ushI (((((((i - ((ushI i 1) &&& 1431655765)) &&& 858993459) + ((ushI ((i - ((ushI i 1) &&& 1431655765))) 2) &&& 858993459)) + (ushI ((((i - ((ushI i 1) &&& 1431655765)) &&& 858993459) + ((ushI ((i - ((ushI i 1) &&& 1431655765))) 2) &&& 858993459))) 4)) &&& 252645135) + (ushI ((((((i - ((ushI i 1) &&& 1431655765)) &&& 858993459) + ((ushI ((i - ((ushI i 1) &&& 1431655765))) 2) &&& 858993459)) + (ushI ((((i - ((ushI i 1) &&& 1431655765)) &&& 858993459) + ((ushI ((i - ((ushI i 1) &&& 1431655765))) 2) &&& 858993459))) 4)) &&& 252645135)) 8))) 16))], w)) rfl).trans ?_
  refine (val_g (c2 := (257, d, 52, [some (.int (((((((i - ((ushI i 1) &&& 1431655765)) &&& 858993459) + ((ushI ((i - ((ushI i 1) &&& 1431655765))) 2) &&& 858993459)) + (ushI ((((i - ((ushI i 1) &&& 1431655765)) &&& 858993459) + ((ushI ((i - ((ushI i 1) &&& 1431655765))) 2) &&& 858993459))) 4)) &&& 252645135) + (ushI ((((((i - ((ushI i 1) &&& 1431655765)) &&& 858993459) + ((ushI ((i - ((ushI i 1) &&& 1431655765))) 2) &&& 858993459)) + (ushI ((((i - ((ushI i 1) &&& 1431655765)) &&& 858993459) + ((ushI ((i - ((ushI i 1) &&& 1431655765))) 2) &&& 858993459))) 4)) &&& 252645135)) 8)) + (ushI (((((((i - ((ushI i 1) &&& 1431655765)) &&& 858993459) + ((ushI ((i - ((ushI i 1) &&& 1431655765))) 2) &&& 858993459)) + (ushI ((((i - ((ushI i 1) &&& 1431655765)) &&& 858993459) + ((ushI ((i - ((ushI i 1) &&& 1431655765))) 2) &&& 858993459))) 4)) &&& 252645135) + (ushI ((((((i - ((ushI i 1) &&& 1431655765)) &&& 858993459) + ((ushI ((i - ((ushI i 1) &&& 1431655765))) 2) &&& 858993459)) + (ushI ((((i - ((ushI i 1) &&& 1431655765)) &&& 858993459) + ((ushI ((i - ((ushI i 1) &&& 1431655765))) 2) &&& 858993459))) 4)) &&& 252645135)) 8))) 16)))], [.int ((((((((i - ((ushI i 1) &&& 1431655765)) &&& 858993459) + ((ushI ((i - ((ushI i 1) &&& 1431655765))) 2) &&& 858993459)) + (ushI ((((i - ((ushI i 1) &&& 1431655765)) &&& 858993459) + ((ushI ((i - ((ushI i 1) &&& 1431655765))) 2) &&& 858993459))) 4)) &&& 252645135) + (ushI ((((((i - ((ushI i 1) &&& 1431655765)) &&& 858993459) + ((ushI ((i - ((ushI i 1) &&& 1431655765))) 2) &&& 858993459)) + (ushI ((((i - ((ushI i 1) &&& 1431655765)) &&& 858993459) + ((ushI ((i - ((ushI i 1) &&& 1431655765))) 2) &&& 858993459))) 4)) &&& 252645135)) 8)) + (ushI (((((((i - ((ushI i 1) &&& 1431655765)) &&& 858993459) + ((ushI ((i - ((ushI i 1) &&& 1431655765))) 2) &&& 858993459)) + (ushI ((((i - ((ushI i 1) &&& 1431655765)) &&& 858993459) + ((ushI ((i - ((ushI i 1) &&& 1431655765))) 2) &&& 858993459))) 4)) &&& 252645135) + (ushI ((((((i - ((ushI i 1) &&& 1431655765)) &&& 858993459) + ((ushI ((i - ((ushI i 1) &&& 1431655765))) 2) &&& 858993459)) + (ushI ((((i - ((ushI i 1) &&& 1431655765)) &&& 858993459) + ((ushI ((i - ((ushI i 1) &&& 1431655765))) 2) &&& 858993459))) 4)) &&& 252645135)) 8))) 16)) &&& 63)], w)) rfl).trans ?_
  exact val_r rfl
/-- BelfryHouse$Reals.highProduct(JJ)J -/
def fn_114 (x : Int64) (y : Int64) : Int64 := (if ¬ (cmpL (((((((ushL x 27) * (y &&& 134217727)) + ((x &&& 134217727) * (ushL y 27))) + (ushL (((x &&& 134217727) * (y &&& 134217727))) 27)) &&& 131071) ||| (((x &&& 134217727) * (y &&& 134217727)) &&& 134217727))) 0) = 0 then (((shlL ((((ushL x 27) * (ushL y 27)) + (ushL (((((ushL x 27) * (y &&& 134217727)) + ((x &&& 134217727) * (ushL y 27))) + (ushL (((x &&& 134217727) * (y &&& 134217727))) 27))) 27))) 10) ||| (ushL ((((((ushL x 27) * (y &&& 134217727)) + ((x &&& 134217727) * (ushL y 27))) + (ushL (((x &&& 134217727) * (y &&& 134217727))) 27)) &&& 134217727)) 17)) ||| (Int32.toInt64 1)) else (((shlL ((((ushL x 27) * (ushL y 27)) + (ushL (((((ushL x 27) * (y &&& 134217727)) + ((x &&& 134217727) * (ushL y 27))) + (ushL (((x &&& 134217727) * (y &&& 134217727))) 27))) 27))) 10) ||| (ushL ((((((ushL x 27) * (y &&& 134217727)) + ((x &&& 134217727) * (ushL y 27))) + (ushL (((x &&& 134217727) * (y &&& 134217727))) 27)) &&& 134217727)) 17)) ||| (Int32.toInt64 0)))
theorem ev_114 (d : Nat) (w : Wd) (x : Int64) (y : Int64) : val (114, d, 0, [some (.long x), none, some (.long y), none, none, none, none, none, none, none, none, none, none, none, none, none, none, none, none, none], [], w) = some (some (.long (fn_114 x y)), w) := by
  unfold fn_114
  refine (val_g (c2 := (114, d, 1, [some (.long x), none, some (.long y), none, none, none, none, none, none, none, none, none, none, none, none, none, none, none, none, none], [.long x], w)) rfl).trans ?_
  refine (val_g (c2 := (114, d, 3, [some (.long x), none, some (.long y), none, none, none, none, none, none, none, none, none, none, none, none, none, none, none, none, none], [.int 27, .long x], w)) rfl).trans ?_
  refine (val_g (c2 := (114, d, 4, [some (.long x), none, some (.long y), none, none, none, none, none, none, none, none, none, none, none, none, none, none, none, none, none], [.long (ushL x 27)], w)) rfl).trans ?_
  refine (val_g (c2 := (114, d, 6, [some (.long x), none, some (.long y), none, some (.long (ushL x 27)), none, none, none, none, none, none, none, none, none, none, none, none, none, none, none], [], w)) rfl).trans ?_
  refine (val_g (c2 := (114, d, 7, [some (.long x), none, some (.long y), none, some (.long (ushL x 27)), none, none, none, none, none, none, none, none, none, none, none, none, none, none, none], [.long x], w)) rfl).trans ?_
  refine (val_g (c2 := (114, d, 10, [some (.long x), none, some (.long y), none, some (.long (ushL x 27)), none, none, none, none, none, none, none, none, none, none, none, none, none, none, none], [.long 134217727, .long x], w)) rfl).trans ?_
  refine (val_g (c2 := (114, d, 11, [some (.long x), none, some (.long y), none, some (.long (ushL x 27)), none, none, none, none, none, none, none, none, none, none, none, none, none, none, none], [.long (x &&& 134217727)], w)) rfl).trans ?_
  refine (val_g (c2 := (114, d, 13, [some (.long x), none, some (.long y), none, some (.long (ushL x 27)), none, some (.long (x &&& 134217727)), none, none, none, none, none, none, none, none, none, none, none, none, none], [], w)) rfl).trans ?_
  refine (val_g (c2 := (114, d, 14, [some (.long x), none, some (.long y), none, some (.long (ushL x 27)), none, some (.long (x &&& 134217727)), none, none, none, none, none, none, none, none, none, none, none, none, none], [.long y], w)) rfl).trans ?_
  refine (val_g (c2 := (114, d, 16, [some (.long x), none, some (.long y), none, some (.long (ushL x 27)), none, some (.long (x &&& 134217727)), none, none, none, none, none, none, none, none, none, none, none, none, none], [.int 27, .long y], w)) rfl).trans ?_
  refine (val_g (c2 := (114, d, 17, [some (.long x), none, some (.long y), none, some (.long (ushL x 27)), none, some (.long (x &&& 134217727)), none, none, none, none, none, none, none, none, none, none, none, none, none], [.long (ushL y 27)], w)) rfl).trans ?_
  refine (val_g (c2 := (114, d, 19, [some (.long x), none, some (.long y), none, some (.long (ushL x 27)), none, some (.long (x &&& 134217727)), none, some (.long (ushL y 27)), none, none, none, none, none, none, none, none, none, none, none], [], w)) rfl).trans ?_
  refine (val_g (c2 := (114, d, 20, [some (.long x), none, some (.long y), none, some (.long (ushL x 27)), none, some (.long (x &&& 134217727)), none, some (.long (ushL y 27)), none, none, none, none, none, none, none, none, none, none, none], [.long y], w)) rfl).trans ?_
  refine (val_g (c2 := (114, d, 23, [some (.long x), none, some (.long y), none, some (.long (ushL x 27)), none, some (.long (x &&& 134217727)), none, some (.long (ushL y 27)), none, none, none, none, none, none, none, none, none, none, none], [.long 134217727, .long y], w)) rfl).trans ?_
  refine (val_g (c2 := (114, d, 24, [some (.long x), none, some (.long y), none, some (.long (ushL x 27)), none, some (.long (x &&& 134217727)), none, some (.long (ushL y 27)), none, none, none, none, none, none, none, none, none, none, none], [.long (y &&& 134217727)], w)) rfl).trans ?_
  refine (val_g (c2 := (114, d, 26, [some (.long x), none, some (.long y), none, some (.long (ushL x 27)), none, some (.long (x &&& 134217727)), none, some (.long (ushL y 27)), none, some (.long (y &&& 134217727)), none, none, none, none, none, none, none, none, none], [], w)) rfl).trans ?_
  refine (val_g (c2 := (114, d, 28, [some (.long x), none, some (.long y), none, some (.long (ushL x 27)), none, some (.long (x &&& 134217727)), none, some (.long (ushL y 27)), none, some (.long (y &&& 134217727)), none, none, none, none, none, none, none, none, none], [.long (x &&& 134217727)], w)) rfl).trans ?_
  refine (val_g (c2 := (114, d, 30, [some (.long x), none, some (.long y), none, some (.long (ushL x 27)), none, some (.long (x &&& 134217727)), none, some (.long (ushL y 27)), none, some (.long (y &&& 134217727)), none, none, none, none, none, none, none, none, none], [.long (y &&& 134217727), .long (x &&& 134217727)], w)) rfl).trans ?_
  refine (val_g (c2 := (114, d, 31, [some (.long x), none, some (.long y), none, some (.long (ushL x 27)), none, some (.long (x &&& 134217727)), none, some (.long (ushL y 27)), none, some (.long (y &&& 134217727)), none, none, none, none, none, none, none, none, none], [.long ((x &&& 134217727) * (y &&& 134217727))], w)) rfl).trans ?_
  refine (val_g (c2 := (114, d, 33, [some (.long x), none, some (.long y), none, some (.long (ushL x 27)), none, some (.long (x &&& 134217727)), none, some (.long (ushL y 27)), none, some (.long (y &&& 134217727)), none, some (.long ((x &&& 134217727) * (y &&& 134217727))), none, none, none, none, none, none, none], [], w)) rfl).trans ?_
  refine (val_g (c2 := (114, d, 35, [some (.long x), none, some (.long y), none, some (.long (ushL x 27)), none, some (.long (x &&& 134217727)), none, some (.long (ushL y 27)), none, some (.long (y &&& 134217727)), none, some (.long ((x &&& 134217727) * (y &&& 134217727))), none, none, none, none, none, none, none], [.long (ushL x 27)], w)) rfl).trans ?_
  refine (val_g (c2 := (114, d, 37, [some (.long x), none, some (.long y), none, some (.long (ushL x 27)), none, some (.long (x &&& 134217727)), none, some (.long (ushL y 27)), none, some (.long (y &&& 134217727)), none, some (.long ((x &&& 134217727) * (y &&& 134217727))), none, none, none, none, none, none, none], [.long (y &&& 134217727), .long (ushL x 27)], w)) rfl).trans ?_
  refine (val_g (c2 := (114, d, 38, [some (.long x), none, some (.long y), none, some (.long (ushL x 27)), none, some (.long (x &&& 134217727)), none, some (.long (ushL y 27)), none, some (.long (y &&& 134217727)), none, some (.long ((x &&& 134217727) * (y &&& 134217727))), none, none, none, none, none, none, none], [.long ((ushL x 27) * (y &&& 134217727))], w)) rfl).trans ?_
  refine (val_g (c2 := (114, d, 40, [some (.long x), none, some (.long y), none, some (.long (ushL x 27)), none, some (.long (x &&& 134217727)), none, some (.long (ushL y 27)), none, some (.long (y &&& 134217727)), none, some (.long ((x &&& 134217727) * (y &&& 134217727))), none, none, none, none, none, none, none], [.long (x &&& 134217727), .long ((ushL x 27) * (y &&& 134217727))], w)) rfl).trans ?_
  refine (val_g (c2 := (114, d, 42, [some (.long x), none, some (.long y), none, some (.long (ushL x 27)), none, some (.long (x &&& 134217727)), none, some (.long (ushL y 27)), none, some (.long (y &&& 134217727)), none, some (.long ((x &&& 134217727) * (y &&& 134217727))), none, none, none, none, none, none, none], [.long (ushL y 27), .long (x &&& 134217727), .long ((ushL x 27) * (y &&& 134217727))], w)) rfl).trans ?_
  refine (val_g (c2 := (114, d, 43, [some (.long x), none, some (.long y), none, some (.long (ushL x 27)), none, some (.long (x &&& 134217727)), none, some (.long (ushL y 27)), none, some (.long (y &&& 134217727)), none, some (.long ((x &&& 134217727) * (y &&& 134217727))), none, none, none, none, none, none, none], [.long ((x &&& 134217727) * (ushL y 27)), .long ((ushL x 27) * (y &&& 134217727))], w)) rfl).trans ?_
  refine (val_g (c2 := (114, d, 44, [some (.long x), none, some (.long y), none, some (.long (ushL x 27)), none, some (.long (x &&& 134217727)), none, some (.long (ushL y 27)), none, some (.long (y &&& 134217727)), none, some (.long ((x &&& 134217727) * (y &&& 134217727))), none, none, none, none, none, none, none], [.long (((ushL x 27) * (y &&& 134217727)) + ((x &&& 134217727) * (ushL y 27)))], w)) rfl).trans ?_
  refine (val_g (c2 := (114, d, 46, [some (.long x), none, some (.long y), none, some (.long (ushL x 27)), none, some (.long (x &&& 134217727)), none, some (.long (ushL y 27)), none, some (.long (y &&& 134217727)), none, some (.long ((x &&& 134217727) * (y &&& 134217727))), none, none, none, none, none, none, none], [.long ((x &&& 134217727) * (y &&& 134217727)), .long (((ushL x 27) * (y &&& 134217727)) + ((x &&& 134217727) * (ushL y 27)))], w)) rfl).trans ?_
  refine (val_g (c2 := (114, d, 48, [some (.long x), none, some (.long y), none, some (.long (ushL x 27)), none, some (.long (x &&& 134217727)), none, some (.long (ushL y 27)), none, some (.long (y &&& 134217727)), none, some (.long ((x &&& 134217727) * (y &&& 134217727))), none, none, none, none, none, none, none], [.int 27, .long ((x &&& 134217727) * (y &&& 134217727)), .long (((ushL x 27) * (y &&& 134217727)) + ((x &&& 134217727) * (ushL y 27)))], w)) rfl).trans ?_
  refine (val_g (c2 := (114, d, 49, [some (.long x), none, some (.long y), none, some (.long (ushL x 27)), none, some (.long (x &&& 134217727)), none, some (.long (ushL y 27)), none, some (.long (y &&& 134217727)), none, some (.long ((x &&& 134217727) * (y &&& 134217727))), none, none, none, none, none, none, none], [.long (ushL (((x &&& 134217727) * (y &&& 134217727))) 27), .long (((ushL x 27) * (y &&& 134217727)) + ((x &&& 134217727) * (ushL y 27)))], w)) rfl).trans ?_
  refine (val_g (c2 := (114, d, 50, [some (.long x), none, some (.long y), none, some (.long (ushL x 27)), none, some (.long (x &&& 134217727)), none, some (.long (ushL y 27)), none, some (.long (y &&& 134217727)), none, some (.long ((x &&& 134217727) * (y &&& 134217727))), none, none, none, none, none, none, none], [.long ((((ushL x 27) * (y &&& 134217727)) + ((x &&& 134217727) * (ushL y 27))) + (ushL (((x &&& 134217727) * (y &&& 134217727))) 27))], w)) rfl).trans ?_
  refine (val_g (c2 := (114, d, 52, [some (.long x), none, some (.long y), none, some (.long (ushL x 27)), none, some (.long (x &&& 134217727)), none, some (.long (ushL y 27)), none, some (.long (y &&& 134217727)), none, some (.long ((x &&& 134217727) * (y &&& 134217727))), none, some (.long ((((ushL x 27) * (y &&& 134217727)) + ((x &&& 134217727) * (ushL y 27))) + (ushL (((x &&& 134217727) * (y &&& 134217727))) 27))), none, none, none, none, none], [], w)) rfl).trans ?_
  refine (val_g (c2 := (114, d, 54, [some (.long x), none, some (.long y), none, some (.long (ushL x 27)), none, some (.long (x &&& 134217727)), none, some (.long (ushL y 27)), none, some (.long (y &&& 134217727)), none, some (.long ((x &&& 134217727) * (y &&& 134217727))), none, some (.long ((((ushL x 27) * (y &&& 134217727)) + ((x &&& 134217727) * (ushL y 27))) + (ushL (((x &&& 134217727) * (y &&& 134217727))) 27))), none, none, none, none, none], [.long (ushL x 27)], w)) rfl).trans ?_
  refine (val_g (c2 := (114, d, 56, [some (.long x), none, some (.long y), none, some (.long (ushL x 27)), none, some (.long (x &&& 134217727)), none, some (.long (ushL y 27)), none, some (.long (y &&& 134217727)), none, some (.long ((x &&& 134217727) * (y &&& 134217727))), none, some (.long ((((ushL x 27) * (y &&& 134217727)) + ((x &&& 134217727) * (ushL y 27))) + (ushL (((x &&& 134217727) * (y &&& 134217727))) 27))), none, none, none, none, none], [.long (ushL y 27), .long (ushL x 27)], w)) rfl).trans ?_
  refine (val_g (c2 := (114, d, 57, [some (.long x), none, some (.long y), none, some (.long (ushL x 27)), none, some (.long (x &&& 134217727)), none, some (.long (ushL y 27)), none, some (.long (y &&& 134217727)), none, some (.long ((x &&& 134217727) * (y &&& 134217727))), none, some (.long ((((ushL x 27) * (y &&& 134217727)) + ((x &&& 134217727) * (ushL y 27))) + (ushL (((x &&& 134217727) * (y &&& 134217727))) 27))), none, none, none, none, none], [.long ((ushL x 27) * (ushL y 27))], w)) rfl).trans ?_
  refine (val_g (c2 := (114, d, 59, [some (.long x), none, some (.long y), none, some (.long (ushL x 27)), none, some (.long (x &&& 134217727)), none, some (.long (ushL y 27)), none, some (.long (y &&& 134217727)), none, some (.long ((x &&& 134217727) * (y &&& 134217727))), none, some (.long ((((ushL x 27) * (y &&& 134217727)) + ((x &&& 134217727) * (ushL y 27))) + (ushL (((x &&& 134217727) * (y &&& 134217727))) 27))), none, none, none, none, none], [.long ((((ushL x 27) * (y &&& 134217727)) + ((x &&& 134217727) * (ushL y 27))) + (ushL (((x &&& 134217727) * (y &&& 134217727))) 27)), .long ((ushL x 27) * (ushL y 27))], w)) rfl).trans ?_
  refine (val_g (c2 := (114, d, 61, [some (.long x), none, some (.long y), none, some (.long (ushL x 27)), none, some (.long (x &&& 134217727)), none, some (.long (ushL y 27)), none, some (.long (y &&& 134217727)), none, some (.long ((x &&& 134217727) * (y &&& 134217727))), none, some (.long ((((ushL x 27) * (y &&& 134217727)) + ((x &&& 134217727) * (ushL y 27))) + (ushL (((x &&& 134217727) * (y &&& 134217727))) 27))), none, none, none, none, none], [.int 27, .long ((((ushL x 27) * (y &&& 134217727)) + ((x &&& 134217727) * (ushL y 27))) + (ushL (((x &&& 134217727) * (y &&& 134217727))) 27)), .long ((ushL x 27) * (ushL y 27))], w)) rfl).trans ?_
  refine (val_g (c2 := (114, d, 62, [some (.long x), none, some (.long y), none, some (.long (ushL x 27)), none, some (.long (x &&& 134217727)), none, some (.long (ushL y 27)), none, some (.long (y &&& 134217727)), none, some (.long ((x &&& 134217727) * (y &&& 134217727))), none, some (.long ((((ushL x 27) * (y &&& 134217727)) + ((x &&& 134217727) * (ushL y 27))) + (ushL (((x &&& 134217727) * (y &&& 134217727))) 27))), none, none, none, none, none], [.long (ushL (((((ushL x 27) * (y &&& 134217727)) + ((x &&& 134217727) * (ushL y 27))) + (ushL (((x &&& 134217727) * (y &&& 134217727))) 27))) 27), .long ((ushL x 27) * (ushL y 27))], w)) rfl).trans ?_
  refine (val_g (c2 := (114, d, 63, [some (.long x), none, some (.long y), none, some (.long (ushL x 27)), none, some (.long (x &&& 134217727)), none, some (.long (ushL y 27)), none, some (.long (y &&& 134217727)), none, some (.long ((x &&& 134217727) * (y &&& 134217727))), none, some (.long ((((ushL x 27) * (y &&& 134217727)) + ((x &&& 134217727) * (ushL y 27))) + (ushL (((x &&& 134217727) * (y &&& 134217727))) 27))), none, none, none, none, none], [.long (((ushL x 27) * (ushL y 27)) + (ushL (((((ushL x 27) * (y &&& 134217727)) + ((x &&& 134217727) * (ushL y 27))) + (ushL (((x &&& 134217727) * (y &&& 134217727))) 27))) 27))], w)) rfl).trans ?_
  refine (val_g (c2 := (114, d, 65, [some (.long x), none, some (.long y), none, some (.long (ushL x 27)), none, some (.long (x &&& 134217727)), none, some (.long (ushL y 27)), none, some (.long (y &&& 134217727)), none, some (.long ((x &&& 134217727) * (y &&& 134217727))), none, some (.long ((((ushL x 27) * (y &&& 134217727)) + ((x &&& 134217727) * (ushL y 27))) + (ushL (((x &&& 134217727) * (y &&& 134217727))) 27))), none, some (.long (((ushL x 27) * (ushL y 27)) + (ushL (((((ushL x 27) * (y &&& 134217727)) + ((x &&& 134217727) * (ushL y 27))) + (ushL (((x &&& 134217727) * (y &&& 134217727))) 27))) 27))), none, none, none], [], w)) rfl).trans ?_
  refine (val_g (c2 := (114, d, 67, [some (.long x), none, some (.long y), none, some (.long (ushL x 27)), none, some (.long (x &&& 134217727)), none, some (.long (ushL y 27)), none, some (.long (y &&& 134217727)), none, some (.long ((x &&& 134217727) * (y &&& 134217727))), none, some (.long ((((ushL x 27) * (y &&& 134217727)) + ((x &&& 134217727) * (ushL y 27))) + (ushL (((x &&& 134217727) * (y &&& 134217727))) 27))), none, some (.long (((ushL x 27) * (ushL y 27)) + (ushL (((((ushL x 27) * (y &&& 134217727)) + ((x &&& 134217727) * (ushL y 27))) + (ushL (((x &&& 134217727) * (y &&& 134217727))) 27))) 27))), none, none, none], [.long ((((ushL x 27) * (y &&& 134217727)) + ((x &&& 134217727) * (ushL y 27))) + (ushL (((x &&& 134217727) * (y &&& 134217727))) 27))], w)) rfl).trans ?_
  refine (val_g (c2 := (114, d, 70, [some (.long x), none, some (.long y), none, some (.long (ushL x 27)), none, some (.long (x &&& 134217727)), none, some (.long (ushL y 27)), none, some (.long (y &&& 134217727)), none, some (.long ((x &&& 134217727) * (y &&& 134217727))), none, some (.long ((((ushL x 27) * (y &&& 134217727)) + ((x &&& 134217727) * (ushL y 27))) + (ushL (((x &&& 134217727) * (y &&& 134217727))) 27))), none, some (.long (((ushL x 27) * (ushL y 27)) + (ushL (((((ushL x 27) * (y &&& 134217727)) + ((x &&& 134217727) * (ushL y 27))) + (ushL (((x &&& 134217727) * (y &&& 134217727))) 27))) 27))), none, none, none], [.long 131071, .long ((((ushL x 27) * (y &&& 134217727)) + ((x &&& 134217727) * (ushL y 27))) + (ushL (((x &&& 134217727) * (y &&& 134217727))) 27))], w)) rfl).trans ?_
  refine (val_g (c2 := (114, d, 71, [some (.long x), none, some (.long y), none, some (.long (ushL x 27)), none, some (.long (x &&& 134217727)), none, some (.long (ushL y 27)), none, some (.long (y &&& 134217727)), none, some (.long ((x &&& 134217727) * (y &&& 134217727))), none, some (.long ((((ushL x 27) * (y &&& 134217727)) + ((x &&& 134217727) * (ushL y 27))) + (ushL (((x &&& 134217727) * (y &&& 134217727))) 27))), none, some (.long (((ushL x 27) * (ushL y 27)) + (ushL (((((ushL x 27) * (y &&& 134217727)) + ((x &&& 134217727) * (ushL y 27))) + (ushL (((x &&& 134217727) * (y &&& 134217727))) 27))) 27))), none, none, none], [.long (((((ushL x 27) * (y &&& 134217727)) + ((x &&& 134217727) * (ushL y 27))) + (ushL (((x &&& 134217727) * (y &&& 134217727))) 27)) &&& 131071)], w)) rfl).trans ?_
  refine (val_g (c2 := (114, d, 73, [some (.long x), none, some (.long y), none, some (.long (ushL x 27)), none, some (.long (x &&& 134217727)), none, some (.long (ushL y 27)), none, some (.long (y &&& 134217727)), none, some (.long ((x &&& 134217727) * (y &&& 134217727))), none, some (.long ((((ushL x 27) * (y &&& 134217727)) + ((x &&& 134217727) * (ushL y 27))) + (ushL (((x &&& 134217727) * (y &&& 134217727))) 27))), none, some (.long (((ushL x 27) * (ushL y 27)) + (ushL (((((ushL x 27) * (y &&& 134217727)) + ((x &&& 134217727) * (ushL y 27))) + (ushL (((x &&& 134217727) * (y &&& 134217727))) 27))) 27))), none, none, none], [.long ((x &&& 134217727) * (y &&& 134217727)), .long (((((ushL x 27) * (y &&& 134217727)) + ((x &&& 134217727) * (ushL y 27))) + (ushL (((x &&& 134217727) * (y &&& 134217727))) 27)) &&& 131071)], w)) rfl).trans ?_
  refine (val_g (c2 := (114, d, 76, [some (.long x), none, some (.long y), none, some (.long (ushL x 27)), none, some (.long (x &&& 134217727)), none, some (.long (ushL y 27)), none, some (.long (y &&& 134217727)), none, some (.long ((x &&& 134217727) * (y &&& 134217727))), none, some (.long ((((ushL x 27) * (y &&& 134217727)) + ((x &&& 134217727) * (ushL y 27))) + (ushL (((x &&& 134217727) * (y &&& 134217727))) 27))), none, some (.long (((ushL x 27) * (ushL y 27)) + (ushL (((((ushL x 27) * (y &&& 134217727)) + ((x &&& 134217727) * (ushL y 27))) + (ushL (((x &&& 134217727) * (y &&& 134217727))) 27))) 27))), none, none, none], [.long 134217727, .long ((x &&& 134217727) * (y &&& 134217727)), .long (((((ushL x 27) * (y &&& 134217727)) + ((x &&& 134217727) * (ushL y 27))) + (ushL (((x &&& 134217727) * (y &&& 134217727))) 27)) &&& 131071)], w)) rfl).trans ?_
  refine (val_g (c2 := (114, d, 77, [some (.long x), none, some (.long y), none, some (.long (ushL x 27)), none, some (.long (x &&& 134217727)), none, some (.long (ushL y 27)), none, some (.long (y &&& 134217727)), none, some (.long ((x &&& 134217727) * (y &&& 134217727))), none, some (.long ((((ushL x 27) * (y &&& 134217727)) + ((x &&& 134217727) * (ushL y 27))) + (ushL (((x &&& 134217727) * (y &&& 134217727))) 27))), none, some (.long (((ushL x 27) * (ushL y 27)) + (ushL (((((ushL x 27) * (y &&& 134217727)) + ((x &&& 134217727) * (ushL y 27))) + (ushL (((x &&& 134217727) * (y &&& 134217727))) 27))) 27))), none, none, none], [.long (((x &&& 134217727) * (y &&& 134217727)) &&& 134217727), .long (((((ushL x 27) * (y &&& 134217727)) + ((x &&& 134217727) * (ushL y 27))) + (ushL (((x &&& 134217727) * (y &&& 134217727))) 27)) &&& 131071)], w)) rfl).trans ?_
  refine (val_g (c2 := (114, d, 78, [some (.long x), none, some (.long y), none, some (.long (ushL x 27)), none, some (.long (x &&& 134217727)), none, some (.long (ushL y 27)), none, some (.long (y &&& 134217727)), none, some (.long ((x &&& 134217727) * (y &&& 134217727))), none, some (.long ((((ushL x 27) * (y &&& 134217727)) + ((x &&& 134217727) * (ushL y 27))) + (ushL (((x &&& 134217727) * (y &&& 134217727))) 27))), none, some (.long (((ushL x 27) * (ushL y 27)) + (ushL (((((ushL x 27) * (y &&& 134217727)) + ((x &&& 134217727) * (ushL y 27))) + (ushL (((x &&& 134217727) * (y &&& 134217727))) 27))) 27))), none, none, none], [.long ((((((ushL x 27) * (y &&& 134217727)) + ((x &&& 134217727) * (ushL y 27))) + (ushL (((x &&& 134217727) * (y &&& 134217727))) 27)) &&& 131071) ||| (((x &&& 134217727) * (y &&& 134217727)) &&& 134217727))], w)) rfl).trans ?_
  refine (val_g (c2 := (114, d, 80, [some (.long x), none, some (.long y), none, some (.long (ushL x 27)), none, some (.long (x &&& 134217727)), none, some (.long (ushL y 27)), none, some (.long (y &&& 134217727)), none, some (.long ((x &&& 134217727) * (y &&& 134217727))), none, some (.long ((((ushL x 27) * (y &&& 134217727)) + ((x &&& 134217727) * (ushL y 27))) + (ushL (((x &&& 134217727) * (y &&& 134217727))) 27))), none, some (.long (((ushL x 27) * (ushL y 27)) + (ushL (((((ushL x 27) * (y &&& 134217727)) + ((x &&& 134217727) * (ushL y 27))) + (ushL (((x &&& 134217727) * (y &&& 134217727))) 27))) 27))), none, some (.long ((((((ushL x 27) * (y &&& 134217727)) + ((x &&& 134217727) * (ushL y 27))) + (ushL (((x &&& 134217727) * (y &&& 134217727))) 27)) &&& 131071) ||| (((x &&& 134217727) * (y &&& 134217727)) &&& 134217727))), none], [], w)) rfl).trans ?_
  refine (val_g (c2 := (114, d, 82, [some (.long x), none, some (.long y), none, some (.long (ushL x 27)), none, some (.long (x &&& 134217727)), none, some (.long (ushL y 27)), none, some (.long (y &&& 134217727)), none, some (.long ((x &&& 134217727) * (y &&& 134217727))), none, some (.long ((((ushL x 27) * (y &&& 134217727)) + ((x &&& 134217727) * (ushL y 27))) + (ushL (((x &&& 134217727) * (y &&& 134217727))) 27))), none, some (.long (((ushL x 27) * (ushL y 27)) + (ushL (((((ushL x 27) * (y &&& 134217727)) + ((x &&& 134217727) * (ushL y 27))) + (ushL (((x &&& 134217727) * (y &&& 134217727))) 27))) 27))), none, some (.long ((((((ushL x 27) * (y &&& 134217727)) + ((x &&& 134217727) * (ushL y 27))) + (ushL (((x &&& 134217727) * (y &&& 134217727))) 27)) &&& 131071) ||| (((x &&& 134217727) * (y &&& 134217727)) &&& 134217727))), none], [.long (((ushL x 27) * (ushL y 27)) + (ushL (((((ushL x 27) * (y &&& 134217727)) + ((x &&& 134217727) * (ushL y 27))) + (ushL (((x &&& 134217727) * (y &&& 134217727))) 27))) 27))], w)) rfl).trans ?_
  refine (val_g (c2 := (114, d, 84, [some (.long x), none, some (.long y), none, some (.long (ushL x 27)), none, some (.long (x &&& 134217727)), none, some (.long (ushL y 27)), none, some (.long (y &&& 134217727)), none, some (.long ((x &&& 134217727) * (y &&& 134217727))), none, some (.long ((((ushL x 27) * (y &&& 134217727)) + ((x &&& 134217727) * (ushL y 27))) + (ushL (((x &&& 134217727) * (y &&& 134217727))) 27))), none, some (.long (((ushL x 27) * (ushL y 27)) + (ushL (((((ushL x 27) * (y &&& 134217727)) + ((x &&& 134217727) * (ushL y 27))) + (ushL (((x &&& 134217727) * (y &&& 134217727))) 27))) 27))), none, some (.long ((((((ushL x 27) * (y &&& 134217727)) + ((x &&& 134217727) * (ushL y 27))) + (ushL (((x &&& 134217727) * (y &&& 134217727))) 27)) &&& 131071) ||| (((x &&& 134217727) * (y &&& 134217727)) &&& 134217727))), none], [.int 10, .long (((ushL x 27) * (ushL y 27)) + (ushL (((((ushL x 27) * (y &&& 134217727)) + ((x &&& 134217727) * (ushL y 27))) + (ushL (((x &&& 134217727) * (y &&& 134217727))) 27))) 27))], w)) rfl).trans ?_
  refine (val_g (c2 := (114, d, 85, [some (.long x), none, some (.long y), none, some (.long (ushL x 27)), none, some (.long (x &&& 134217727)), none, some (.long (ushL y 27)), none, some (.long (y &&& 134217727)), none, some (.long ((x &&& 134217727) * (y &&& 134217727))), none, some (.long ((((ushL x 27) * (y &&& 134217727)) + ((x &&& 134217727) * (ushL y 27))) + (ushL (((x &&& 134217727) * (y &&& 134217727))) 27))), none, some (.long (((ushL x 27) * (ushL y 27)) + (ushL (((((ushL x 27) * (y &&& 134217727)) + ((x &&& 134217727) * (ushL y 27))) + (ushL (((x &&& 134217727) * (y &&& 134217727))) 27))) 27))), none, some (.long ((((((ushL x 27) * (y &&& 134217727)) + ((x &&& 134217727) * (ushL y 27))) + (ushL (((x &&& 134217727) * (y &&& 134217727))) 27)) &&& 131071) ||| (((x &&& 134217727) * (y &&& 134217727)) &&& 134217727))), none], [.long (shlL ((((ushL x 27) * (ushL y 27)) + (ushL (((((ushL x 27) * (y &&& 134217727)) + ((x &&& 134217727) * (ushL y 27))) + (ushL (((x &&& 134217727) * (y &&& 134217727))) 27))) 27))) 10)], w)) rfl).trans ?_
  refine (val_g (c2 := (114, d, 87, [some (.long x), none, some (.long y), none, some (.long (ushL x 27)), none, some (.long (x &&& 134217727)), none, some (.long (ushL y 27)), none, some (.long (y &&& 134217727)), none, some (.long ((x &&& 134217727) * (y &&& 134217727))), none, some (.long ((((ushL x 27) * (y &&& 134217727)) + ((x &&& 134217727) * (ushL y 27))) + (ushL (((x &&& 134217727) * (y &&& 134217727))) 27))), none, some (.long (((ushL x 27) * (ushL y 27)) + (ushL (((((ushL x 27) * (y &&& 134217727)) + ((x &&& 134217727) * (ushL y 27))) + (ushL (((x &&& 134217727) * (y &&& 134217727))) 27))) 27))), none, some (.long ((((((ushL x 27) * (y &&& 134217727)) + ((x &&& 134217727) * (ushL y 27))) + (ushL (((x &&& 134217727) * (y &&& 134217727))) 27)) &&& 131071) ||| (((x &&& 134217727) * (y &&& 134217727)) &&& 134217727))), none], [.long ((((ushL x 27) * (y &&& 134217727)) + ((x &&& 134217727) * (ushL y 27))) + (ushL (((x &&& 134217727) * (y &&& 134217727))) 27)), .long (shlL ((((ushL x 27) * (ushL y 27)) + (ushL (((((ushL x 27) * (y &&& 134217727)) + ((x &&& 134217727) * (ushL y 27))) + (ushL (((x &&& 134217727) * (y &&& 134217727))) 27))) 27))) 10)], w)) rfl).trans ?_
  refine (val_g (c2 := (114, d, 90, [some (.long x), none, some (.long y), none, some (.long (ushL x 27)), none, some (.long (x &&& 134217727)), none, some (.long (ushL y 27)), none, some (.long (y &&& 134217727)), none, some (.long ((x &&& 134217727) * (y &&& 134217727))), none, some (.long ((((ushL x 27) * (y &&& 134217727)) + ((x &&& 134217727) * (ushL y 27))) + (ushL (((x &&& 134217727) * (y &&& 134217727))) 27))), none, some (.long (((ushL x 27) * (ushL y 27)) + (ushL (((((ushL x 27) * (y &&& 134217727)) + ((x &&& 134217727) * (ushL y 27))) + (ushL (((x &&& 134217727) * (y &&& 134217727))) 27))) 27))), none, some (.long ((((((ushL x 27) * (y &&& 134217727)) + ((x &&& 134217727) * (ushL y 27))) + (ushL (((x &&& 134217727) * (y &&& 134217727))) 27)) &&& 131071) ||| (((x &&& 134217727) * (y &&& 134217727)) &&& 134217727))), none], [.long 134217727, .long ((((ushL x 27) * (y &&& 134217727)) + ((x &&& 134217727) * (ushL y 27))) + (ushL (((x &&& 134217727) * (y &&& 134217727))) 27)), .long (shlL ((((ushL x 27) * (ushL y 27)) + (ushL (((((ushL x 27) * (y &&& 134217727)) + ((x &&& 134217727) * (ushL y 27))) + (ushL (((x &&& 134217727) * (y &&& 134217727))) 27))) 27))) 10)], w)) rfl).trans ?_
  refine (val_g (c2 := (114, d, 91, [some (.long x), none, some (.long y), none, some (.long (ushL x 27)), none, some (.long (x &&& 134217727)), none, some (.long (ushL y 27)), none, some (.long (y &&& 134217727)), none, some (.long ((x &&& 134217727) * (y &&& 134217727))), none, some (.long ((((ushL x 27) * (y &&& 134217727)) + ((x &&& 134217727) * (ushL y 27))) + (ushL (((x &&& 134217727) * (y &&& 134217727))) 27))), none, some (.long (((ushL x 27) * (ushL y 27)) + (ushL (((((ushL x 27) * (y &&& 134217727)) + ((x &&& 134217727) * (ushL y 27))) + (ushL (((x &&& 134217727) * (y &&& 134217727))) 27))) 27))), none, some (.long ((((((ushL x 27) * (y &&& 134217727)) + ((x &&& 134217727) * (ushL y 27))) + (ushL (((x &&& 134217727) * (y &&& 134217727))) 27)) &&& 131071) ||| (((x &&& 134217727) * (y &&& 134217727)) &&& 134217727))), none], [.long (((((ushL x 27) * (y &&& 134217727)) + ((x &&& 134217727) * (ushL y 27))) + (ushL (((x &&& 134217727) * (y &&& 134217727))) 27)) &&& 134217727), .long (shlL ((((ushL x 27) * (ushL y 27)) + (ushL (((((ushL x 27) * (y &&& 134217727)) + ((x &&& 134217727) * (ushL y 27))) + (ushL (((x &&& 134217727) * (y &&& 134217727))) 27))) 27))) 10)], w)) rfl).trans ?_
  refine (val_g (c2 := (114, d, 93, [some (.long x), none, some (.long y), none, some (.long (ushL x 27)), none, some (.long (x &&& 134217727)), none, some (.long (ushL y 27)), none, some (.long (y &&& 134217727)), none, some (.long ((x &&& 134217727) * (y &&& 134217727))), none, some (.long ((((ushL x 27) * (y &&& 134217727)) + ((x &&& 134217727) * (ushL y 27))) + (ushL (((x &&& 134217727) * (y &&& 134217727))) 27))), none, some (.long (((ushL x 27) * (ushL y 27)) + (ushL (((((ushL x 27) * (y &&& 134217727)) + ((x &&& 134217727) * (ushL y 27))) + (ushL (((x &&& 134217727) * (y &&& 134217727))) 27))) 27))), none, some (.long ((((((ushL x 27) * (y &&& 134217727)) + ((x &&& 134217727) * (ushL y 27))) + (ushL (((x &&& 134217727) * (y &&& 134217727))) 27)) &&& 131071) ||| (((x &&& 134217727) * (y &&& 134217727)) &&& 134217727))), none], [.int 17, .long (((((ushL x 27) * (y &&& 134217727)) + ((x &&& 134217727) * (ushL y 27))) + (ushL (((x &&& 134217727) * (y &&& 134217727))) 27)) &&& 134217727), .long (shlL ((((ushL x 27) * (ushL y 27)) + (ushL (((((ushL x 27) * (y &&& 134217727)) + ((x &&& 134217727) * (ushL y 27))) + (ushL (((x &&& 134217727) * (y &&& 134217727))) 27))) 27))) 10)], w)) rfl).trans ?_
  refine (val_g (c2 := (114, d, 94, [some (.long x), none, some (.long y), none, some (.long (ushL x 27)), none, some (.long (x &&& 134217727)), none, some (.long (ushL y 27)), none, some (.long (y &&& 134217727)), none, some (.long ((x &&& 134217727) * (y &&& 134217727))), none, some (.long ((((ushL x 27) * (y &&& 134217727)) + ((x &&& 134217727) * (ushL y 27))) + (ushL (((x &&& 134217727) * (y &&& 134217727))) 27))), none, some (.long (((ushL x 27) * (ushL y 27)) + (ushL (((((ushL x 27) * (y &&& 134217727)) + ((x &&& 134217727) * (ushL y 27))) + (ushL (((x &&& 134217727) * (y &&& 134217727))) 27))) 27))), none, some (.long ((((((ushL x 27) * (y &&& 134217727)) + ((x &&& 134217727) * (ushL y 27))) + (ushL (((x &&& 134217727) * (y &&& 134217727))) 27)) &&& 131071) ||| (((x &&& 134217727) * (y &&& 134217727)) &&& 134217727))), none], [.long (ushL ((((((ushL x 27) * (y &&& 134217727)) + ((x &&& 134217727) * (ushL y 27))) + (ushL (((x &&& 134217727) * (y &&& 134217727))) 27)) &&& 134217727)) 17), .long (shlL ((((ushL x 27) * (ushL y 27)) + (ushL (((((ushL x 27) * (y &&& 134217727)) + ((x &&& 134217727) * (ushL y 27))) + (ushL (((x &&& 134217727) * (y &&& 134217727))) 27))) 27))) 10)], w)) rfl).trans ?_
  refine (val_g (c2 := (114, d, 95, [some (.long x), none, some (.long y), none, some (.long (ushL x 27)), none, some (.long (x &&& 134217727)), none, some (.long (ushL y 27)), none, some (.long (y &&& 134217727)), none, some (.long ((x &&& 134217727) * (y &&& 134217727))), none, some (.long ((((ushL x 27) * (y &&& 134217727)) + ((x &&& 134217727) * (ushL y 27))) + (ushL (((x &&& 134217727) * (y &&& 134217727))) 27))), none, some (.long (((ushL x 27) * (ushL y 27)) + (ushL (((((ushL x 27) * (y &&& 134217727)) + ((x &&& 134217727) * (ushL y 27))) + (ushL (((x &&& 134217727) * (y &&& 134217727))) 27))) 27))), none, some (.long ((((((ushL x 27) * (y &&& 134217727)) + ((x &&& 134217727) * (ushL y 27))) + (ushL (((x &&& 134217727) * (y &&& 134217727))) 27)) &&& 131071) ||| (((x &&& 134217727) * (y &&& 134217727)) &&& 134217727))), none], [.long ((shlL ((((ushL x 27) * (ushL y 27)) + (ushL (((((ushL x 27) * (y &&& 134217727)) + ((x &&& 134217727) * (ushL y 27))) + (ushL (((x &&& 134217727) * (y &&& 134217727))) 27))) 27))) 10) ||| (ushL ((((((ushL x 27) * (y &&& 134217727)) + ((x &&& 134217727) * (ushL y 27))) + (ushL (((x &&& 134217727) * (y &&& 134217727))) 27)) &&& 134217727)) 17))], w)) rfl).trans ?_
  refine (val_g (c2 := (114, d, 97, [some (.long x), none, some (.long y), none, some (.long (ushL x 27)), none, some (.long (x &&& 134217727)), none, some (.long (ushL y 27)), none, some (.long (y &&& 134217727)), none, some (.long ((x &&& 134217727) * (y &&& 134217727))), none, some (.long ((((ushL x 27) * (y &&& 134217727)) + ((x &&& 134217727) * (ushL y 27))) + (ushL (((x &&& 134217727) * (y &&& 134217727))) 27))), none, some (.long (((ushL x 27) * (ushL y 27)) + (ushL (((((ushL x 27) * (y &&& 134217727)) + ((x &&& 134217727) * (ushL y 27))) + (ushL (((x &&& 134217727) * (y &&& 134217727))) 27))) 27))), none, some (.long ((((((ushL x 27) * (y &&& 134217727)) + ((x &&& 134217727) * (ushL y 27))) + (ushL (((x &&& 134217727) * (y &&& 134217727))) 27)) &&& 131071) ||| (((x &&& 134217727) * (y &&& 134217727)) &&& 134217727))), none], [.long ((((((ushL x 27) * (y &&& 134217727)) + ((x &&& 134217727) * (ushL y 27))) + (ushL (((x &&& 134217727) * (y &&& 134217727))) 27)) &&& 131071) ||| (((x &&& 134217727) * (y &&& 134217727)) &&& 134217727)), .long ((shlL ((((ushL x 27) * (ushL y 27)) + (ushL (((((ushL x 27) * (y &&& 134217727)) + ((x &&& 134217727) * (ushL y 27))) + (ushL (((x &&& 134217727) * (y &&& 134217727))) 27))) 27))) 10) ||| (ushL ((((((ushL x 27) * (y &&& 134217727)) + ((x &&& 134217727) * (ushL y 27))) + (ushL (((x &&& 134217727) * (y &&& 134217727))) 27)) &&& 134217727)) 17))], w)) rfl).trans ?_
  refine (val_g (c2 := (114, d, 98, [some (.long x), none, some (.long y), none, some (.long (ushL x 27)), none, some (.long (x &&& 134217727)), none, some (.long (ushL y 27)), none, some (.long (y &&& 134217727)), none, some (.long ((x &&& 134217727) * (y &&& 134217727))), none, some (.long ((((ushL x 27) * (y &&& 134217727)) + ((x &&& 134217727) * (ushL y 27))) + (ushL (((x &&& 134217727) * (y &&& 134217727))) 27))), none, some (.long (((ushL x 27) * (ushL y 27)) + (ushL (((((ushL x 27) * (y &&& 134217727)) + ((x &&& 134217727) * (ushL y 27))) + (ushL (((x &&& 134217727) * (y &&& 134217727))) 27))) 27))), none, some (.long ((((((ushL x 27) * (y &&& 134217727)) + ((x &&& 134217727) * (ushL y 27))) + (ushL (((x &&& 134217727) * (y &&& 134217727))) 27)) &&& 131071) ||| (((x &&& 134217727) * (y &&& 134217727)) &&& 134217727))), none], [.long 0, .long ((((((ushL x 27) * (y &&& 134217727)) + ((x &&& 134217727) * (ushL y 27))) + (ushL (((x &&& 134217727) * (y &&& 134217727))) 27)) &&& 131071) ||| (((x &&& 134217727) * (y &&& 134217727)) &&& 134217727)), .long ((shlL ((((ushL x 27) * (ushL y 27)) + (ushL (((((ushL x 27) * (y &&& 134217727)) + ((x &&& 134217727) * (ushL y 27))) + (ushL (((x &&& 134217727) * (y &&& 134217727))) 27))) 27))) 10) ||| (ushL ((((((ushL x 27) * (y &&& 134217727)) + ((x &&& 134217727) * (ushL y 27))) + (ushL (((x &&& 134217727) * (y &&& 134217727))) 27)) &&& 134217727)) 17))], w)) rfl).trans ?_
  refine (val_g (c2 := (114, d, 99, [some (.long x), none, some (.long y), none, some (.long (ushL x 27)), none, some (.long (x &&& 134217727)), none, some (.long (ushL y 27)), none, some (.long (y &&& 134217727)), none, some (.long ((x &&& 134217727) * (y &&& 134217727))), none, some (.long ((((ushL x 27) * (y &&& 134217727)) + ((x &&& 134217727) * (ushL y 27))) + (ushL (((x &&& 134217727) * (y &&& 134217727))) 27))), none, some (.long (((ushL x 27) * (ushL y 27)) + (ushL (((((ushL x 27) * (y &&& 134217727)) + ((x &&& 134217727) * (ushL y 27))) + (ushL (((x &&& 134217727) * (y &&& 134217727))) 27))) 27))), none, some (.long ((((((ushL x 27) * (y &&& 134217727)) + ((x &&& 134217727) * (ushL y 27))) + (ushL (((x &&& 134217727) * (y &&& 134217727))) 27)) &&& 131071) ||| (((x &&& 134217727) * (y &&& 134217727)) &&& 134217727))), none], [.int (cmpL (((((((ushL x 27) * (y &&& 134217727)) + ((x &&& 134217727) * (ushL y 27))) + (ushL (((x &&& 134217727) * (y &&& 134217727))) 27)) &&& 131071) ||| (((x &&& 134217727) * (y &&& 134217727)) &&& 134217727))) 0), .long ((shlL ((((ushL x 27) * (ushL y 27)) + (ushL (((((ushL x 27) * (y &&& 134217727)) + ((x &&& 134217727) * (ushL y 27))) + (ushL (((x &&& 134217727) * (y &&& 134217727))) 27))) 27))) 10) ||| (ushL ((((((ushL x 27) * (y &&& 134217727)) + ((x &&& 134217727) * (ushL y 27))) + (ushL (((x &&& 134217727) * (y &&& 134217727))) 27)) &&& 134217727)) 17))], w)) rfl).trans ?_
  by_cases hc46 : ¬ (cmpL (((((((ushL x 27) * (y &&& 134217727)) + ((x &&& 134217727) * (ushL y 27))) + (ushL (((x &&& 134217727) * (y &&& 134217727))) 27)) &&& 131071) ||| (((x &&& 134217727) * (y &&& 134217727)) &&& 134217727))) 0) = 0
  · refine ((val_if_ne rfl).trans (if_pos hc46)).trans ?_
    show val (114, d, 106, [some (.long x), none, some (.long y), none, some (.long (ushL x 27)), none, some (.long (x &&& 134217727)), none, some (.long (ushL y 27)), none, some (.long (y &&& 134217727)), none, some (.long ((x &&& 134217727) * (y &&& 134217727))), none, some (.long ((((ushL x 27) * (y &&& 134217727)) + ((x &&& 134217727) * (ushL y 27))) + (ushL (((x &&& 134217727) * (y &&& 134217727))) 27))), none, some (.long (((ushL x 27) * (ushL y 27)) + (ushL (((((ushL x 27) * (y &&& 134217727)) + ((x &&& 134217727) * (ushL y 27))) + (ushL (((x &&& 134217727) * (y &&& 134217727))) 27))) 27))), none, some (.long ((((((ushL x 27) * (y &&& 134217727)) + ((x &&& 134217727) * (ushL y 27))) + (ushL (((x &&& 134217727) * (y &&& 134217727))) 27)) &&& 131071) ||| (((x &&& 134217727) * (y &&& 134217727)) &&& 134217727))), none], [.long ((shlL ((((ushL x 27) * (ushL y 27)) + (ushL (((((ushL x 27) * (y &&& 134217727)) + ((x &&& 134217727) * (ushL y 27))) + (ushL (((x &&& 134217727) * (y &&& 134217727))) 27))) 27))) 10) ||| (ushL ((((((ushL x 27) * (y &&& 134217727)) + ((x &&& 134217727) * (ushL y 27))) + (ushL (((x &&& 134217727) * (y &&& 134217727))) 27)) &&& 134217727)) 17))], w) = _
    rw [if_pos hc46]
    refine (val_g (c2 := (114, d, 107, [some (.long x), none, some (.long y), none, some (.long (ushL x 27)), none, some (.long (x &&& 134217727)), none, some (.long (ushL y 27)), none, some (.long (y &&& 134217727)), none, some (.long ((x &&& 134217727) * (y &&& 134217727))), none, some (.long ((((ushL x 27) * (y &&& 134217727)) + ((x &&& 134217727) * (ushL y 27))) + (ushL (((x &&& 134217727) * (y &&& 134217727))) 27))), none, some (.long (((ushL x 27) * (ushL y 27)) + (ushL (((((ushL x 27) * (y &&& 134217727)) + ((x &&& 134217727) * (ushL y 27))) + (ushL (((x &&& 134217727) * (y &&& 134217727))) 27))) 27))), none, some (.long ((((((ushL x 27) * (y &&& 134217727)) + ((x &&& 134217727) * (ushL y 27))) + (ushL (((x &&& 134217727) * (y &&& 134217727))) 27)) &&& 131071) ||| (((x &&& 134217727) * (y &&& 134217727)) &&& 134217727))), none], [.int 1, .long ((shlL ((((ushL x 27) * (ushL y 27)) + (ushL (((((ushL x 27) * (y &&& 134217727)) + ((x &&& 134217727) * (ushL y 27))) + (ushL (((x &&& 134217727) * (y &&& 134217727))) 27))) 27))) 10) ||| (ushL ((((((ushL x 27) * (y &&& 134217727)) + ((x &&& 134217727) * (ushL y 27))) + (ushL (((x &&& 134217727) * (y &&& 134217727))) 27)) &&& 134217727)) 17))], w)) rfl).trans ?_
    refine (val_g (c2 := (114, d, 108, [some (.long x), none, some (.long y), none, some (.long (ushL x 27)), none, some (.long (x &&& 134217727)), none, some (.long (ushL y 27)), none, some (.long (y &&& 134217727)), none, some (.long ((x &&& 134217727) * (y &&& 134217727))), none, some (.long ((((ushL x 27) * (y &&& 134217727)) + ((x &&& 134217727) * (ushL y 27))) + (ushL (((x &&& 134217727) * (y &&& 134217727))) 27))), none, some (.long (((ushL x 27) * (ushL y 27)) + (ushL (((((ushL x 27) * (y &&& 134217727)) + ((x &&& 134217727) * (ushL y 27))) + (ushL (((x &&& 134217727) * (y &&& 134217727))) 27))) 27))), none, some (.long ((((((ushL x 27) * (y &&& 134217727)) + ((x &&& 134217727) * (ushL y 27))) + (ushL (((x &&& 134217727) * (y &&& 134217727))) 27)) &&& 131071) ||| (((x &&& 134217727) * (y &&& 134217727)) &&& 134217727))), none], [.long (Int32.toInt64 1), .long ((shlL ((((ushL x 27) * (ushL y 27)) + (ushL (((((ushL x 27) * (y &&& 134217727)) + ((x &&& 134217727) * (ushL y 27))) + (ushL (((x &&& 134217727) * (y &&& 134217727))) 27))) 27))) 10) ||| (ushL ((((((ushL x 27) * (y &&& 134217727)) + ((x &&& 134217727) * (ushL y 27))) + (ushL (((x &&& 134217727) * (y &&& 134217727))) 27)) &&& 134217727)) 17))], w)) rfl).trans ?_
    refine (val_g (c2 := (114, d, 109, [some (.long x), none, some (.long y), none, some (.long (ushL x 27)), none, some (.long (x &&& 134217727)), none, some (.long (ushL y 27)), none, some (.long (y &&& 134217727)), none, some (.long ((x &&& 134217727) * (y &&& 134217727))), none, some (.long ((((ushL x 27) * (y &&& 134217727)) + ((x &&& 134217727) * (ushL y 27))) + (ushL (((x &&& 134217727) * (y &&& 134217727))) 27))), none, some (.long (((ushL x 27) * (ushL y 27)) + (ushL (((((ushL x 27) * (y &&& 134217727)) + ((x &&& 134217727) * (ushL y 27))) + (ushL (((x &&& 134217727) * (y &&& 134217727))) 27))) 27))), none, some (.long ((((((ushL x 27) * (y &&& 134217727)) + ((x &&& 134217727) * (ushL y 27))) + (ushL (((x &&& 134217727) * (y &&& 134217727))) 27)) &&& 131071) ||| (((x &&& 134217727) * (y &&& 134217727)) &&& 134217727))), none], [.long (((shlL ((((ushL x 27) * (ushL y 27)) + (ushL (((((ushL x 27) * (y &&& 134217727)) + ((x &&& 134217727) * (ushL y 27))) + (ushL (((x &&& 134217727) * (y &&& 134217727))) 27))) 27))) 10) ||| (ushL ((((((ushL x 27) * (y &&& 134217727)) + ((x &&& 134217727) * (ushL y 27))) + (ushL (((x &&& 134217727) * (y &&& 134217727))) 27)) &&& 134217727)) 17)) ||| (Int32.toInt64 1))], w)) rfl).trans ?_
    exact val_r rfl
  · refine ((val_if_ne rfl).trans (if_neg hc46)).trans ?_
    show val (114, d, 102, [some (.long x), none, some (.long y), none, some (.long (ushL x 27)), none, some (.long (x &&& 134217727)), none, some (.long (ushL y 27)), none, some (.long (y &&& 134217727)), none, some (.long ((x &&& 134217727) * (y &&& 134217727))), none, some (.long ((((ushL x 27) * (y &&& 134217727)) + ((x &&& 134217727) * (ushL y 27))) + (ushL (((x &&& 134217727) * (y &&& 134217727))) 27))), none, some (.long (((ushL x 27) * (ushL y 27)) + (ushL (((((ushL x 27) * (y &&& 134217727)) + ((x &&& 134217727) * (ushL y 27))) + (ushL (((x &&& 134217727) * (y &&& 134217727))) 27))) 27))), none, some (.long ((((((ushL x 27) * (y &&& 134217727)) + ((x &&& 134217727) * (ushL y 27))) + (ushL (((x &&& 134217727) * (y &&& 134217727))) 27)) &&& 131071) ||| (((x &&& 134217727) * (y &&& 134217727)) &&& 134217727))), none], [.long ((shlL ((((ushL x 27) * (ushL y 27)) + (ushL (((((ushL x 27) * (y &&& 134217727)) + ((x &&& 134217727) * (ushL y 27))) + (ushL (((x &&& 134217727) * (y &&& 134217727))) 27))) 27))) 10) ||| (ushL ((((((ushL x 27) * (y &&& 134217727)) + ((x &&& 134217727) * (ushL y 27))) + (ushL (((x &&& 134217727) * (y &&& 134217727))) 27)) &&& 134217727)) 17))], w) = _
    rw [if_neg hc46]
    refine (val_g (c2 := (114, d, 103, [some (.long x), none, some (.long y), none, some (.long (ushL x 27)), none, some (.long (x &&& 134217727)), none, some (.long (ushL y 27)), none, some (.long (y &&& 134217727)), none, some (.long ((x &&& 134217727) * (y &&& 134217727))), none, some (.long ((((ushL x 27) * (y &&& 134217727)) + ((x &&& 134217727) * (ushL y 27))) + (ushL (((x &&& 134217727) * (y &&& 134217727))) 27))), none, some (.long (((ushL x 27) * (ushL y 27)) + (ushL (((((ushL x 27) * (y &&& 134217727)) + ((x &&& 134217727) * (ushL y 27))) + (ushL (((x &&& 134217727) * (y &&& 134217727))) 27))) 27))), none, some (.long ((((((ushL x 27) * (y &&& 134217727)) + ((x &&& 134217727) * (ushL y 27))) + (ushL (((x &&& 134217727) * (y &&& 134217727))) 27)) &&& 131071) ||| (((x &&& 134217727) * (y &&& 134217727)) &&& 134217727))), none], [.int 0, .long ((shlL ((((ushL x 27) * (ushL y 27)) + (ushL (((((ushL x 27) * (y &&& 134217727)) + ((x &&& 134217727) * (ushL y 27))) + (ushL (((x &&& 134217727) * (y &&& 134217727))) 27))) 27))) 10) ||| (ushL ((((((ushL x 27) * (y &&& 134217727)) + ((x &&& 134217727) * (ushL y 27))) + (ushL (((x &&& 134217727) * (y &&& 134217727))) 27)) &&& 134217727)) 17))], w)) rfl).trans ?_
    refine (val_g (c2 := (114, d, 107, [some (.long x), none, some (.long y), none, some (.long (ushL x 27)), none, some (.long (x &&& 134217727)), none, some (.long (ushL y 27)), none, some (.long (y &&& 134217727)), none, some (.long ((x &&& 134217727) * (y &&& 134217727))), none, some (.long ((((ushL x 27) * (y &&& 134217727)) + ((x &&& 134217727) * (ushL y 27))) + (ushL (((x &&& 134217727) * (y &&& 134217727))) 27))), none, some (.long (((ushL x 27) * (ushL y 27)) + (ushL (((((ushL x 27) * (y &&& 134217727)) + ((x &&& 134217727) * (ushL y 27))) + (ushL (((x &&& 134217727) * (y &&& 134217727))) 27))) 27))), none, some (.long ((((((ushL x 27) * (y &&& 134217727)) + ((x &&& 134217727) * (ushL y 27))) + (ushL (((x &&& 134217727) * (y &&& 134217727))) 27)) &&& 131071) ||| (((x &&& 134217727) * (y &&& 134217727)) &&& 134217727))), none], [.int 0, .long ((shlL ((((ushL x 27) * (ushL y 27)) + (ushL (((((ushL x 27) * (y &&& 134217727)) + ((x &&& 134217727) * (ushL y 27))) + (ushL (((x &&& 134217727) * (y &&& 134217727))) 27))) 27))) 10) ||| (ushL ((((((ushL x 27) * (y &&& 134217727)) + ((x &&& 134217727) * (ushL y 27))) + (ushL (((x &&& 134217727) * (y &&& 134217727))) 27)) &&& 134217727)) 17))], w)) rfl).trans ?_
    refine (val_g (c2 := (114, d, 108, [some (.long x), none, some (.long y), none, some (.long (ushL x 27)), none, some (.long (x &&& 134217727)), none, some (.long (ushL y 27)), none, some (.long (y &&& 134217727)), none, some (.long ((x &&& 134217727) * (y &&& 134217727))), none, some (.long ((((ushL x 27) * (y &&& 134217727)) + ((x &&& 134217727) * (ushL y 27))) + (ushL (((x &&& 134217727) * (y &&& 134217727))) 27))), none, some (.long (((ushL x 27) * (ushL y 27)) + (ushL (((((ushL x 27) * (y &&& 134217727)) + ((x &&& 134217727) * (ushL y 27))) + (ushL (((x &&& 134217727) * (y &&& 134217727))) 27))) 27))), none, some (.long ((((((ushL x 27) * (y &&& 134217727)) + ((x &&& 134217727) * (ushL y 27))) + (ushL (((x &&& 134217727) * (y &&& 134217727))) 27)) &&& 131071) ||| (((x &&& 134217727) * (y &&& 134217727)) &&& 134217727))), none], [.long (Int32.toInt64 0), .long ((shlL ((((ushL x 27) * (ushL y 27)) + (ushL (((((ushL x 27) * (y &&& 134217727)) + ((x &&& 134217727) * (ushL y 27))) + (ushL (((x &&& 134217727) * (y &&& 134217727))) 27))) 27))) 10) ||| (ushL ((((((ushL x 27) * (y &&& 134217727)) + ((x &&& 134217727) * (ushL y 27))) + (ushL (((x &&& 134217727) * (y &&& 134217727))) 27)) &&& 134217727)) 17))], w)) rfl).trans ?_
    refine (val_g (c2 := (114, d, 109, [some (.long x), none, some (.long y), none, some (.long (ushL x 27)), none, some (.long (x &&& 134217727)), none, some (.long (ushL y 27)), none, some (.long (y &&& 134217727)), none, some (.long ((x &&& 134217727) * (y &&& 134217727))), none, some (.long ((((ushL x 27) * (y &&& 134217727)) + ((x &&& 134217727) * (ushL y 27))) + (ushL (((x &&& 134217727) * (y &&& 134217727))) 27))), none, some (.long (((ushL x 27) * (ushL y 27)) + (ushL (((((ushL x 27) * (y &&& 134217727)) + ((x &&& 134217727) * (ushL y 27))) + (ushL (((x &&& 134217727) * (y &&& 134217727))) 27))) 27))), none, some (.long ((((((ushL x 27) * (y &&& 134217727)) + ((x &&& 134217727) * (ushL y 27))) + (ushL (((x &&& 134217727) * (y &&& 134217727))) 27)) &&& 131071) ||| (((x &&& 134217727) * (y &&& 134217727)) &&& 134217727))), none], [.long (((shlL ((((ushL x 27) * (ushL y 27)) + (ushL (((((ushL x 27) * (y &&& 134217727)) + ((x &&& 134217727) * (ushL y 27))) + (ushL (((x &&& 134217727) * (y &&& 134217727))) 27))) 27))) 10) ||| (ushL ((((((ushL x 27) * (y &&& 134217727)) + ((x &&& 134217727) * (ushL y 27))) + (ushL (((x &&& 134217727) * (y &&& 134217727))) 27)) &&& 134217727)) 17)) ||| (Int32.toInt64 0))], w)) rfl).trans ?_
    exact val_r rfl
