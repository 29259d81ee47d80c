/-! the law's loop, a case each; printed by program (wip/gen/p40.py) -/
theorem cmpL_self (r : Int64) : cmpL r r = 0 := by
  unfold cmpL lg_cmp
  rw [if_neg (by exact Int64.lt_irrefl), if_pos rfl]
/-- a switch, its key known -/
theorem val_tsw {y d pc n df : Nat} {ls : List (Option Value)} {r : List Value} {w : Wd} {av : Value} {sw : List (Int32 × Nat)} {dd lo hi : Int} {offs : Array Int} {x : Int32} {t : Nat} (h : mtab y pc = some (.tableswitch dd lo hi offs, n, [df], av, sw)) (hx : swk x df sw (fun t2 => gto y d t2 ls r w) = gto y d t ls r w) : val (y, d, pc, ls, .int x :: r, w) = val (y, d, t, ls, r, w) := by
  refine val_g ?_
  unfold plan
  simp only [h, pst, pln]
  exact hx
/-- BelfryHouse.stage(I)I -/
theorem law_0 (w w1 w2 : Wd) (i : Int32) (L : Nat) (r : Int32) (hS : wK w 0 = (30, L)) (hS1 : wK w1 0 = (30, L)) (hk1 : wK w 64 = (9, 11)) (hk2 : wK w1 108 = (10, 68)) (hy1 : inB ((i + 1)) L = true) (hx : val (3, 999, 0, [some (.ref 64), some (.int (gI w 0 ((i + 1)).toNatClampNeg)), none], [], w) = some (some (.int r), w1)) (hm : val (207, 999, 0, [some (.ref 108), some (.int (gI w1 0 ((i + 1)).toNatClampNeg)), none], [], w1) = some (some (.int r), w2)) : val (0, 1000, 204, [some (.ref 0), some (.ref 64), some (.ref 108), some (.int i)], [], w) = val (0, 1000, 18, [some (.ref 0), some (.ref 64), some (.ref 108), some (.int (i + 6))], [], w2) := by
  refine (val_g (c2 := (0, 1000, 205, [some (.ref 0), some (.ref 64), some (.ref 108), some (.int i)], [.ref 64], w)) rfl).trans ?_
  refine (val_g (c2 := (0, 1000, 206, [some (.ref 0), some (.ref 64), some (.ref 108), some (.int i)], [.ref 0, .ref 64], w)) rfl).trans ?_
  refine (val_g (c2 := (0, 1000, 207, [some (.ref 0), some (.ref 64), some (.ref 108), some (.int i)], [.int i, .ref 0, .ref 64], w)) rfl).trans ?_
  refine (val_g (c2 := (0, 1000, 208, [some (.ref 0), some (.ref 64), some (.ref 108), some (.int i)], [.int 1, .int i, .ref 0, .ref 64], w)) rfl).trans ?_
  refine (val_g (c2 := (0, 1000, 209, [some (.ref 0), some (.ref 64), some (.ref 108), some (.int i)], [.int (i + 1), .ref 0, .ref 64], w)) rfl).trans ?_
  refine (val_ial rfl hS rfl hy1).trans ?_
  show val (0, 1000, 210, [some (.ref 0), some (.ref 64), some (.ref 108), some (.int i)], [.int (gI w 0 ((i + 1)).toNatClampNeg), .ref 64], w) = _
  refine (val_call (d := 999) (w1 := w1) (pc2 := 213) rfl rfl rfl rfl (rcvO hk1 (by decide)) (Nat.le_of_ble_eq_true rfl) (Nat.le_of_ble_eq_true rfl) rfl hx rfl).trans ?_
  show val (0, 1000, 213, [some (.ref 0), some (.ref 64), some (.ref 108), some (.int i)], [.int r], w1) = _
  refine (val_g (c2 := (0, 1000, 214, [some (.ref 0), some (.ref 64), some (.ref 108), some (.int i)], [.ref 108, .int r], w1)) rfl).trans ?_
  refine (val_g (c2 := (0, 1000, 215, [some (.ref 0), some (.ref 64), some (.ref 108), some (.int i)], [.ref 0, .ref 108, .int r], w1)) rfl).trans ?_
  refine (val_g (c2 := (0, 1000, 216, [some (.ref 0), some (.ref 64), some (.ref 108), some (.int i)], [.int i, .ref 0, .ref 108, .int r], w1)) rfl).trans ?_
  refine (val_g (c2 := (0, 1000, 217, [some (.ref 0), some (.ref 64), some (.ref 108), some (.int i)], [.int 1, .int i, .ref 0, .ref 108, .int r], w1)) rfl).trans ?_
  refine (val_g (c2 := (0, 1000, 218, [some (.ref 0), some (.ref 64), some (.ref 108), some (.int i)], [.int (i + 1), .ref 0, .ref 108, .int r], w1)) rfl).trans ?_
  refine (val_ial rfl hS1 rfl hy1).trans ?_
  show val (0, 1000, 219, [some (.ref 0), some (.ref 64), some (.ref 108), some (.int i)], [.int (gI w1 0 ((i + 1)).toNatClampNeg), .ref 108, .int r], w1) = _
  refine (val_call (d := 999) (w1 := w2) (pc2 := 222) rfl rfl rfl rfl (rcvO hk2 (by decide)) (Nat.le_of_ble_eq_true rfl) (Nat.le_of_ble_eq_true rfl) rfl hm rfl).trans ?_
  show val (0, 1000, 222, [some (.ref 0), some (.ref 64), some (.ref 108), some (.int i)], [.int r, .int r], w2) = _
  refine ((val_ic_eq rfl).trans (if_pos rfl)).trans ?_
  show val (0, 1000, 1384, [some (.ref 0), some (.ref 64), some (.ref 108), some (.int i)], [], w2) = _
  refine (val_g (c2 := (0, 1000, 1387, [some (.ref 0), some (.ref 64), some (.ref 108), some (.int (i + 6))], [], w2)) rfl).trans ?_
  refine (val_g (c2 := (0, 1000, 18, [some (.ref 0), some (.ref 64), some (.ref 108), some (.int (i + 6))], [], w2)) rfl).trans ?_
  rfl
/-- BelfryHouse.product(II)I -/
theorem law_1 (w w1 w2 : Wd) (i : Int32) (L : Nat) (r : Int32) (hS : wK w 0 = (30, L)) (hS1 : wK w1 0 = (30, L)) (hk1 : wK w 64 = (9, 11)) (hk2 : wK w1 108 = (10, 68)) (hy1 : inB ((i + 1)) L = true) (hy2 : inB ((i + 2)) L = true) (hx : val (6, 999, 0, [some (.ref 64), some (.int (gI w 0 ((i + 1)).toNatClampNeg)), some (.int (gI w 0 ((i + 2)).toNatClampNeg)), none, none], [], w) = some (some (.int r), w1)) (hm : val (177, 999, 0, [some (.ref 108), some (.int (gI w1 0 ((i + 1)).toNatClampNeg)), some (.int (gI w1 0 ((i + 2)).toNatClampNeg))], [], w1) = some (some (.int r), w2)) : val (0, 1000, 227, [some (.ref 0), some (.ref 64), some (.ref 108), some (.int i)], [], w) = val (0, 1000, 18, [some (.ref 0), some (.ref 64), some (.ref 108), some (.int (i + 6))], [], w2) := by
  refine (val_g (c2 := (0, 1000, 228, [some (.ref 0), some (.ref 64), some (.ref 108), some (.int i)], [.ref 64], w)) rfl).trans ?_
  refine (val_g (c2 := (0, 1000, 229, [some (.ref 0), some (.ref 64), some (.ref 108), some (.int i)], [.ref 0, .ref 64], w)) rfl).trans ?_
  refine (val_g (c2 := (0, 1000, 230, [some (.ref 0), some (.ref 64), some (.ref 108), some (.int i)], [.int i, .ref 0, .ref 64], w)) rfl).trans ?_
  refine (val_g (c2 := (0, 1000, 231, [some (.ref 0), some (.ref 64), some (.ref 108), some (.int i)], [.int 1, .int i, .ref 0, .ref 64], w)) rfl).trans ?_
  refine (val_g (c2 := (0, 1000, 232, [some (.ref 0), some (.ref 64), some (.ref 108), some (.int i)], [.int (i + 1), .ref 0, .ref 64], w)) rfl).trans ?_
  refine (val_ial rfl hS rfl hy1).trans ?_
  show val (0, 1000, 233, [some (.ref 0), some (.ref 64), some (.ref 108), some (.int i)], [.int (gI w 0 ((i + 1)).toNatClampNeg), .ref 64], w) = _
  refine (val_g (c2 := (0, 1000, 234, [some (.ref 0), some (.ref 64), some (.ref 108), some (.int i)], [.ref 0, .int (gI w 0 ((i + 1)).toNatClampNeg), .ref 64], w)) rfl).trans ?_
  refine (val_g (c2 := (0, 1000, 235, [some (.ref 0), some (.ref 64), some (.ref 108), some (.int i)], [.int i, .ref 0, .int (gI w 0 ((i + 1)).toNatClampNeg), .ref 64], w)) rfl).trans ?_
  refine (val_g (c2 := (0, 1000, 236, [some (.ref 0), some (.ref 64), some (.ref 108), some (.int i)], [.int 2, .int i, .ref 0, .int (gI w 0 ((i + 1)).toNatClampNeg), .ref 64], w)) rfl).trans ?_
  refine (val_g (c2 := (0, 1000, 237, [some (.ref 0), some (.ref 64), some (.ref 108), some (.int i)], [.int (i + 2), .ref 0, .int (gI w 0 ((i + 1)).toNatClampNeg), .ref 64], w)) rfl).trans ?_
  refine (val_ial rfl hS rfl hy2).trans ?_
  show val (0, 1000, 238, [some (.ref 0), some (.ref 64), some (.ref 108), some (.int i)], [.int (gI w 0 ((i + 2)).toNatClampNeg), .int (gI w 0 ((i + 1)).toNatClampNeg), .ref 64], w) = _
  refine (val_call (d := 999) (w1 := w1) (pc2 := 241) rfl rfl rfl rfl (rcvO hk1 (by decide)) (Nat.le_of_ble_eq_true rfl) (Nat.le_of_ble_eq_true rfl) rfl hx rfl).trans ?_
  show val (0, 1000, 241, [some (.ref 0), some (.ref 64), some (.ref 108), some (.int i)], [.int r], w1) = _
  refine (val_g (c2 := (0, 1000, 242, [some (.ref 0), some (.ref 64), some (.ref 108), some (.int i)], [.ref 108, .int r], w1)) rfl).trans ?_
  refine (val_g (c2 := (0, 1000, 243, [some (.ref 0), some (.ref 64), some (.ref 108), some (.int i)], [.ref 0, .ref 108, .int r], w1)) rfl).trans ?_
  refine (val_g (c2 := (0, 1000, 244, [some (.ref 0), some (.ref 64), some (.ref 108), some (.int i)], [.int i, .ref 0, .ref 108, .int r], w1)) rfl).trans ?_
  refine (val_g (c2 := (0, 1000, 245, [some (.ref 0), some (.ref 64), some (.ref 108), some (.int i)], [.int 1, .int i, .ref 0, .ref 108, .int r], w1)) rfl).trans ?_
  refine (val_g (c2 := (0, 1000, 246, [some (.ref 0), some (.ref 64), some (.ref 108), some (.int i)], [.int (i + 1), .ref 0, .ref 108, .int r], w1)) rfl).trans ?_
  refine (val_ial rfl hS1 rfl hy1).trans ?_
  show val (0, 1000, 247, [some (.ref 0), some (.ref 64), some (.ref 108), some (.int i)], [.int (gI w1 0 ((i + 1)).toNatClampNeg), .ref 108, .int r], w1) = _
  refine (val_g (c2 := (0, 1000, 248, [some (.ref 0), some (.ref 64), some (.ref 108), some (.int i)], [.ref 0, .int (gI w1 0 ((i + 1)).toNatClampNeg), .ref 108, .int r], w1)) rfl).trans ?_
  refine (val_g (c2 := (0, 1000, 249, [some (.ref 0), some (.ref 64), some (.ref 108), some (.int i)], [.int i, .ref 0, .int (gI w1 0 ((i + 1)).toNatClampNeg), .ref 108, .int r], w1)) rfl).trans ?_
  refine (val_g (c2 := (0, 1000, 250, [some (.ref 0), some (.ref 64), some (.ref 108), some (.int i)], [.int 2, .int i, .ref 0, .int (gI w1 0 ((i + 1)).toNatClampNeg), .ref 108, .int r], w1)) rfl).trans ?_
  refine (val_g (c2 := (0, 1000, 251, [some (.ref 0), some (.ref 64), some (.ref 108), some (.int i)], [.int (i + 2), .ref 0, .int (gI w1 0 ((i + 1)).toNatClampNeg), .ref 108, .int r], w1)) rfl).trans ?_
  refine (val_ial rfl hS1 rfl hy2).trans ?_
  show val (0, 1000, 252, [some (.ref 0), some (.ref 64), some (.ref 108), some (.int i)], [.int (gI w1 0 ((i + 2)).toNatClampNeg), .int (gI w1 0 ((i + 1)).toNatClampNeg), .ref 108, .int r], w1) = _
  refine (val_call (d := 999) (w1 := w2) (pc2 := 255) rfl rfl rfl rfl (rcvO hk2 (by decide)) (Nat.le_of_ble_eq_true rfl) (Nat.le_of_ble_eq_true rfl) rfl hm rfl).trans ?_
  show val (0, 1000, 255, [some (.ref 0), some (.ref 64), some (.ref 108), some (.int i)], [.int r, .int r], w2) = _
  refine ((val_ic_eq rfl).trans (if_pos rfl)).trans ?_
  show val (0, 1000, 1384, [some (.ref 0), some (.ref 64), some (.ref 108), some (.int i)], [], w2) = _
  refine (val_g (c2 := (0, 1000, 1387, [some (.ref 0), some (.ref 64), some (.ref 108), some (.int (i + 6))], [], w2)) rfl).trans ?_
  refine (val_g (c2 := (0, 1000, 18, [some (.ref 0), some (.ref 64), some (.ref 108), some (.int (i + 6))], [], w2)) rfl).trans ?_
  rfl
/-- BelfryHouse.inverse(I)I -/
theorem law_2 (w w1 w2 : Wd) (i : Int32) (L : Nat) (r : Int32) (hS : wK w 0 = (30, L)) (hS1 : wK w1 0 = (30, L)) (hk1 : wK w 64 = (9, 11)) (hk2 : wK w1 108 = (10, 68)) (hy1 : inB ((i + 1)) L = true) (hx : val (7, 999, 0, [some (.ref 64), some (.int (gI w 0 ((i + 1)).toNatClampNeg)), none], [], w) = some (some (.int r), w1)) (hm : val (178, 999, 0, [some (.ref 108), some (.int (gI w1 0 ((i + 1)).toNatClampNeg))], [], w1) = some (some (.int r), w2)) : val (0, 1000, 260, [some (.ref 0), some (.ref 64), some (.ref 108), some (.int i)], [], w) = val (0, 1000, 18, [some (.ref 0), some (.ref 64), some (.ref 108), some (.int (i + 6))], [], w2) := by
  refine (val_g (c2 := (0, 1000, 261, [some (.ref 0), some (.ref 64), some (.ref 108), some (.int i)], [.ref 64], w)) rfl).trans ?_
  refine (val_g (c2 := (0, 1000, 262, [some (.ref 0), some (.ref 64), some (.ref 108), some (.int i)], [.ref 0, .ref 64], w)) rfl).trans ?_
  refine (val_g (c2 := (0, 1000, 263, [some (.ref 0), some (.ref 64), some (.ref 108), some (.int i)], [.int i, .ref 0, .ref 64], w)) rfl).trans ?_
  refine (val_g (c2 := (0, 1000, 264, [some (.ref 0), some (.ref 64), some (.ref 108), some (.int i)], [.int 1, .int i, .ref 0, .ref 64], w)) rfl).trans ?_
  refine (val_g (c2 := (0, 1000, 265, [some (.ref 0), some (.ref 64), some (.ref 108), some (.int i)], [.int (i + 1), .ref 0, .ref 64], w)) rfl).trans ?_
  refine (val_ial rfl hS rfl hy1).trans ?_
  show val (0, 1000, 266, [some (.ref 0), some (.ref 64), some (.ref 108), some (.int i)], [.int (gI w 0 ((i + 1)).toNatClampNeg), .ref 64], w) = _
  refine (val_call (d := 999) (w1 := w1) (pc2 := 269) rfl rfl rfl rfl (rcvO hk1 (by decide)) (Nat.le_of_ble_eq_true rfl) (Nat.le_of_ble_eq_true rfl) rfl hx rfl).trans ?_
  show val (0, 1000, 269, [some (.ref 0), some (.ref 64), some (.ref 108), some (.int i)], [.int r], w1) = _
  refine (val_g (c2 := (0, 1000, 270, [some (.ref 0), some (.ref 64), some (.ref 108), some (.int i)], [.ref 108, .int r], w1)) rfl).trans ?_
  refine (val_g (c2 := (0, 1000, 271, [some (.ref 0), some (.ref 64), some (.ref 108), some (.int i)], [.ref 0, .ref 108, .int r], w1)) rfl).trans ?_
  refine (val_g (c2 := (0, 1000, 272, [some (.ref 0), some (.ref 64), some (.ref 108), some (.int i)], [.int i, .ref 0, .ref 108, .int r], w1)) rfl).trans ?_
  refine (val_g (c2 := (0, 1000, 273, [some (.ref 0), some (.ref 64), some (.ref 108), some (.int i)], [.int 1, .int i, .ref 0, .ref 108, .int r], w1)) rfl).trans ?_
  refine (val_g (c2 := (0, 1000, 274, [some (.ref 0), some (.ref 64), some (.ref 108), some (.int i)], [.int (i + 1), .ref 0, .ref 108, .int r], w1)) rfl).trans ?_
  refine (val_ial rfl hS1 rfl hy1).trans ?_
  show val (0, 1000, 275, [some (.ref 0), some (.ref 64), some (.ref 108), some (.int i)], [.int (gI w1 0 ((i + 1)).toNatClampNeg), .ref 108, .int r], w1) = _
  refine (val_call (d := 999) (w1 := w2) (pc2 := 278) rfl rfl rfl rfl (rcvO hk2 (by decide)) (Nat.le_of_ble_eq_true rfl) (Nat.le_of_ble_eq_true rfl) rfl hm rfl).trans ?_
  show val (0, 1000, 278, [some (.ref 0), some (.ref 64), some (.ref 108), some (.int i)], [.int r, .int r], w2) = _
  refine ((val_ic_eq rfl).trans (if_pos rfl)).trans ?_
  show val (0, 1000, 1384, [some (.ref 0), some (.ref 64), some (.ref 108), some (.int i)], [], w2) = _
  refine (val_g (c2 := (0, 1000, 1387, [some (.ref 0), some (.ref 64), some (.ref 108), some (.int (i + 6))], [], w2)) rfl).trans ?_
  refine (val_g (c2 := (0, 1000, 18, [some (.ref 0), some (.ref 64), some (.ref 108), some (.int (i + 6))], [], w2)) rfl).trans ?_
  rfl
/-- BelfryHouse.told(II)I -/
theorem law_3 (w w1 w2 : Wd) (i : Int32) (L : Nat) (r : Int32) (hS : wK w 0 = (30, L)) (hS1 : wK w1 0 = (30, L)) (hk1 : wK w 64 = (9, 11)) (hk2 : wK w1 108 = (10, 68)) (hy1 : inB ((i + 1)) L = true) (hy2 : inB ((i + 2)) L = true) (hx : val (8, 999, 0, [some (.ref 64), some (.int (gI w 0 ((i + 1)).toNatClampNeg)), some (.int (gI w 0 ((i + 2)).toNatClampNeg)), none], [], w) = some (some (.int r), w1)) (hm : val (181, 999, 0, [some (.ref 108), some (.int (gI w1 0 ((i + 1)).toNatClampNeg)), some (.int (gI w1 0 ((i + 2)).toNatClampNeg)), none, none], [], w1) = some (some (.int r), w2)) : val (0, 1000, 283, [some (.ref 0), some (.ref 64), some (.ref 108), some (.int i)], [], w) = val (0, 1000, 18, [some (.ref 0), some (.ref 64), some (.ref 108), some (.int (i + 6))], [], w2) := by
  refine (val_g (c2 := (0, 1000, 284, [some (.ref 0), some (.ref 64), some (.ref 108), some (.int i)], [.ref 64], w)) rfl).trans ?_
  refine (val_g (c2 := (0, 1000, 285, [some (.ref 0), some (.ref 64), some (.ref 108), some (.int i)], [.ref 0, .ref 64], w)) rfl).trans ?_
  refine (val_g (c2 := (0, 1000, 286, [some (.ref 0), some (.ref 64), some (.ref 108), some (.int i)], [.int i, .ref 0, .ref 64], w)) rfl).trans ?_
  refine (val_g (c2 := (0, 1000, 287, [some (.ref 0), some (.ref 64), some (.ref 108), some (.int i)], [.int 1, .int i, .ref 0, .ref 64], w)) rfl).trans ?_
  refine (val_g (c2 := (0, 1000, 288, [some (.ref 0), some (.ref 64), some (.ref 108), some (.int i)], [.int (i + 1), .ref 0, .ref 64], w)) rfl).trans ?_
  refine (val_ial rfl hS rfl hy1).trans ?_
  show val (0, 1000, 289, [some (.ref 0), some (.ref 64), some (.ref 108), some (.int i)], [.int (gI w 0 ((i + 1)).toNatClampNeg), .ref 64], w) = _
  refine (val_g (c2 := (0, 1000, 290, [some (.ref 0), some (.ref 64), some (.ref 108), some (.int i)], [.ref 0, .int (gI w 0 ((i + 1)).toNatClampNeg), .ref 64], w)) rfl).trans ?_
  refine (val_g (c2 := (0, 1000, 291, [some (.ref 0), some (.ref 64), some (.ref 108), some (.int i)], [.int i, .ref 0, .int (gI w 0 ((i + 1)).toNatClampNeg), .ref 64], w)) rfl).trans ?_
  refine (val_g (c2 := (0, 1000, 292, [some (.ref 0), some (.ref 64), some (.ref 108), some (.int i)], [.int 2, .int i, .ref 0, .int (gI w 0 ((i + 1)).toNatClampNeg), .ref 64], w)) rfl).trans ?_
  refine (val_g (c2 := (0, 1000, 293, [some (.ref 0), some (.ref 64), some (.ref 108), some (.int i)], [.int (i + 2), .ref 0, .int (gI w 0 ((i + 1)).toNatClampNeg), .ref 64], w)) rfl).trans ?_
  refine (val_ial rfl hS rfl hy2).trans ?_
  show val (0, 1000, 294, [some (.ref 0), some (.ref 64), some (.ref 108), some (.int i)], [.int (gI w 0 ((i + 2)).toNatClampNeg), .int (gI w 0 ((i + 1)).toNatClampNeg), .ref 64], w) = _
  refine (val_call (d := 999) (w1 := w1) (pc2 := 297) rfl rfl rfl rfl (rcvO hk1 (by decide)) (Nat.le_of_ble_eq_true rfl) (Nat.le_of_ble_eq_true rfl) rfl hx rfl).trans ?_
  show val (0, 1000, 297, [some (.ref 0), some (.ref 64), some (.ref 108), some (.int i)], [.int r], w1) = _
  refine (val_g (c2 := (0, 1000, 298, [some (.ref 0), some (.ref 64), some (.ref 108), some (.int i)], [.ref 108, .int r], w1)) rfl).trans ?_
  refine (val_g (c2 := (0, 1000, 299, [some (.ref 0), some (.ref 64), some (.ref 108), some (.int i)], [.ref 0, .ref 108, .int r], w1)) rfl).trans ?_
  refine (val_g (c2 := (0, 1000, 300, [some (.ref 0), some (.ref 64), some (.ref 108), some (.int i)], [.int i, .ref 0, .ref 108, .int r], w1)) rfl).trans ?_
  refine (val_g (c2 := (0, 1000, 301, [some (.ref 0), some (.ref 64), some (.ref 108), some (.int i)], [.int 1, .int i, .ref 0, .ref 108, .int r], w1)) rfl).trans ?_
  refine (val_g (c2 := (0, 1000, 302, [some (.ref 0), some (.ref 64), some (.ref 108), some (.int i)], [.int (i + 1), .ref 0, .ref 108, .int r], w1)) rfl).trans ?_
  refine (val_ial rfl hS1 rfl hy1).trans ?_
  show val (0, 1000, 303, [some (.ref 0), some (.ref 64), some (.ref 108), some (.int i)], [.int (gI w1 0 ((i + 1)).toNatClampNeg), .ref 108, .int r], w1) = _
  refine (val_g (c2 := (0, 1000, 304, [some (.ref 0), some (.ref 64), some (.ref 108), some (.int i)], [.ref 0, .int (gI w1 0 ((i + 1)).toNatClampNeg), .ref 108, .int r], w1)) rfl).trans ?_
  refine (val_g (c2 := (0, 1000, 305, [some (.ref 0), some (.ref 64), some (.ref 108), some (.int i)], [.int i, .ref 0, .int (gI w1 0 ((i + 1)).toNatClampNeg), .ref 108, .int r], w1)) rfl).trans ?_
  refine (val_g (c2 := (0, 1000, 306, [some (.ref 0), some (.ref 64), some (.ref 108), some (.int i)], [.int 2, .int i, .ref 0, .int (gI w1 0 ((i + 1)).toNatClampNeg), .ref 108, .int r], w1)) rfl).trans ?_
  refine (val_g (c2 := (0, 1000, 307, [some (.ref 0), some (.ref 64), some (.ref 108), some (.int i)], [.int (i + 2), .ref 0, .int (gI w1 0 ((i + 1)).toNatClampNeg), .ref 108, .int r], w1)) rfl).trans ?_
  refine (val_ial rfl hS1 rfl hy2).trans ?_
  show val (0, 1000, 308, [some (.ref 0), some (.ref 64), some (.ref 108), some (.int i)], [.int (gI w1 0 ((i + 2)).toNatClampNeg), .int (gI w1 0 ((i + 1)).toNatClampNeg), .ref 108, .int r], w1) = _
  refine (val_call (d := 999) (w1 := w2) (pc2 := 311) rfl rfl rfl rfl (rcvO hk2 (by decide)) (Nat.le_of_ble_eq_true rfl) (Nat.le_of_ble_eq_true rfl) rfl hm rfl).trans ?_
  show val (0, 1000, 311, [some (.ref 0), some (.ref 64), some (.ref 108), some (.int i)], [.int r, .int r], w2) = _
  refine ((val_ic_eq rfl).trans (if_pos rfl)).trans ?_
  show val (0, 1000, 1384, [some (.ref 0), some (.ref 64), some (.ref 108), some (.int i)], [], w2) = _
  refine (val_g (c2 := (0, 1000, 1387, [some (.ref 0), some (.ref 64), some (.ref 108), some (.int (i + 6))], [], w2)) rfl).trans ?_
  refine (val_g (c2 := (0, 1000, 18, [some (.ref 0), some (.ref 64), some (.ref 108), some (.int (i + 6))], [], w2)) rfl).trans ?_
  rfl
/-- BelfryHouse.ranked(I)I -/
theorem law_4 (w w1 w2 : Wd) (i : Int32) (L : Nat) (r : Int32) (hS : wK w 0 = (30, L)) (hS1 : wK w1 0 = (30, L)) (hk1 : wK w 64 = (9, 11)) (hk2 : wK w1 108 = (10, 68)) (hy1 : inB ((i + 1)) L = true) (hx : val (9, 999, 0, [some (.ref 64), some (.int (gI w 0 ((i + 1)).toNatClampNeg))], [], w) = some (some (.int r), w1)) (hm : val (184, 999, 0, [some (.ref 108), some (.int (gI w1 0 ((i + 1)).toNatClampNeg))], [], w1) = some (some (.int r), w2)) : val (0, 1000, 316, [some (.ref 0), some (.ref 64), some (.ref 108), some (.int i)], [], w) = val (0, 1000, 18, [some (.ref 0), some (.ref 64), some (.ref 108), some (.int (i + 6))], [], w2) := by
  refine (val_g (c2 := (0, 1000, 317, [some (.ref 0), some (.ref 64), some (.ref 108), some (.int i)], [.ref 64], w)) rfl).trans ?_
  refine (val_g (c2 := (0, 1000, 318, [some (.ref 0), some (.ref 64), some (.ref 108), some (.int i)], [.ref 0, .ref 64], w)) rfl).trans ?_
  refine (val_g (c2 := (0, 1000, 319, [some (.ref 0), some (.ref 64), some (.ref 108), some (.int i)], [.int i, .ref 0, .ref 64], w)) rfl).trans ?_
  refine (val_g (c2 := (0, 1000, 320, [some (.ref 0), some (.ref 64), some (.ref 108), some (.int i)], [.int 1, .int i, .ref 0, .ref 64], w)) rfl).trans ?_
  refine (val_g (c2 := (0, 1000, 321, [some (.ref 0), some (.ref 64), some (.ref 108), some (.int i)], [.int (i + 1), .ref 0, .ref 64], w)) rfl).trans ?_
  refine (val_ial rfl hS rfl hy1).trans ?_
  show val (0, 1000, 322, [some (.ref 0), some (.ref 64), some (.ref 108), some (.int i)], [.int (gI w 0 ((i + 1)).toNatClampNeg), .ref 64], w) = _
  refine (val_call (d := 999) (w1 := w1) (pc2 := 325) rfl rfl rfl rfl (rcvO hk1 (by decide)) (Nat.le_of_ble_eq_true rfl) (Nat.le_of_ble_eq_true rfl) rfl hx rfl).trans ?_
  show val (0, 1000, 325, [some (.ref 0), some (.ref 64), some (.ref 108), some (.int i)], [.int r], w1) = _
  refine (val_g (c2 := (0, 1000, 326, [some (.ref 0), some (.ref 64), some (.ref 108), some (.int i)], [.ref 108, .int r], w1)) rfl).trans ?_
  refine (val_g (c2 := (0, 1000, 327, [some (.ref 0), some (.ref 64), some (.ref 108), some (.int i)], [.ref 0, .ref 108, .int r], w1)) rfl).trans ?_
  refine (val_g (c2 := (0, 1000, 328, [some (.ref 0), some (.ref 64), some (.ref 108), some (.int i)], [.int i, .ref 0, .ref 108, .int r], w1)) rfl).trans ?_
  refine (val_g (c2 := (0, 1000, 329, [some (.ref 0), some (.ref 64), some (.ref 108), some (.int i)], [.int 1, .int i, .ref 0, .ref 108, .int r], w1)) rfl).trans ?_
  refine (val_g (c2 := (0, 1000, 330, [some (.ref 0), some (.ref 64), some (.ref 108), some (.int i)], [.int (i + 1), .ref 0, .ref 108, .int r], w1)) rfl).trans ?_
  refine (val_ial rfl hS1 rfl hy1).trans ?_
  show val (0, 1000, 331, [some (.ref 0), some (.ref 64), some (.ref 108), some (.int i)], [.int (gI w1 0 ((i + 1)).toNatClampNeg), .ref 108, .int r], w1) = _
  refine (val_call (d := 999) (w1 := w2) (pc2 := 334) rfl rfl rfl rfl (rcvO hk2 (by decide)) (Nat.le_of_ble_eq_true rfl) (Nat.le_of_ble_eq_true rfl) rfl hm rfl).trans ?_
  show val (0, 1000, 334, [some (.ref 0), some (.ref 64), some (.ref 108), some (.int i)], [.int r, .int r], w2) = _
  refine ((val_ic_eq rfl).trans (if_pos rfl)).trans ?_
  show val (0, 1000, 1384, [some (.ref 0), some (.ref 64), some (.ref 108), some (.int i)], [], w2) = _
  refine (val_g (c2 := (0, 1000, 1387, [some (.ref 0), some (.ref 64), some (.ref 108), some (.int (i + 6))], [], w2)) rfl).trans ?_
  refine (val_g (c2 := (0, 1000, 18, [some (.ref 0), some (.ref 64), some (.ref 108), some (.int (i + 6))], [], w2)) rfl).trans ?_
  rfl
/-- BelfryHouse.feed(IJ)I -/
theorem law_5 (w w1 w2 : Wd) (i : Int32) (L : Nat) (r : Int32) (hS : wK w 0 = (30, L)) (hS1 : wK w1 0 = (30, L)) (hk1 : wK w 64 = (9, 11)) (hk2 : wK w1 108 = (10, 68)) (hy1 : inB ((i + 1)) L = true) (hy2 : inB ((i + 2)) L = true) (hy3 : inB ((i + 3)) L = true) (hx : val (10, 999, 0, [some (.ref 64), some (.int (gI w 0 ((i + 1)).toNatClampNeg)), some (.long ((shlL ((Int32.toInt64 ((gI w 0 ((i + 2)).toNatClampNeg)))) 32) ||| ((Int32.toInt64 ((gI w 0 ((i + 3)).toNatClampNeg))) &&& 4294967295))), none, none], [], w) = some (some (.int r), w1)) (hm : val (185, 999, 0, [some (.ref 108), some (.int (gI w1 0 ((i + 1)).toNatClampNeg)), some (.long ((shlL ((Int32.toInt64 ((gI w1 0 ((i + 2)).toNatClampNeg)))) 32) ||| ((Int32.toInt64 ((gI w1 0 ((i + 3)).toNatClampNeg))) &&& 4294967295))), none, none], [], w1) = some (some (.int r), w2)) : val (0, 1000, 339, [some (.ref 0), some (.ref 64), some (.ref 108), some (.int i)], [], w) = val (0, 1000, 18, [some (.ref 0), some (.ref 64), some (.ref 108), some (.int (i + 6))], [], w2) := by
  refine (val_g (c2 := (0, 1000, 340, [some (.ref 0), some (.ref 64), some (.ref 108), some (.int i)], [.ref 64], w)) rfl).trans ?_
  refine (val_g (c2 := (0, 1000, 341, [some (.ref 0), some (.ref 64), some (.ref 108), some (.int i)], [.ref 0, .ref 64], w)) rfl).trans ?_
  refine (val_g (c2 := (0, 1000, 342, [some (.ref 0), some (.ref 64), some (.ref 108), some (.int i)], [.int i, .ref 0, .ref 64], w)) rfl).trans ?_
  refine (val_g (c2 := (0, 1000, 343, [some (.ref 0), some (.ref 64), some (.ref 108), some (.int i)], [.int 1, .int i, .ref 0, .ref 64], w)) rfl).trans ?_
  refine (val_g (c2 := (0, 1000, 344, [some (.ref 0), some (.ref 64), some (.ref 108), some (.int i)], [.int (i + 1), .ref 0, .ref 64], w)) rfl).trans ?_
  refine (val_ial rfl hS rfl hy1).trans ?_
  show val (0, 1000, 345, [some (.ref 0), some (.ref 64), some (.ref 108), some (.int i)], [.int (gI w 0 ((i + 1)).toNatClampNeg), .ref 64], w) = _
  refine (val_g (c2 := (0, 1000, 346, [some (.ref 0), some (.ref 64), some (.ref 108), some (.int i)], [.ref 0, .int (gI w 0 ((i + 1)).toNatClampNeg), .ref 64], w)) rfl).trans ?_
  refine (val_g (c2 := (0, 1000, 347, [some (.ref 0), some (.ref 64), some (.ref 108), some (.int i)], [.int i, .ref 0, .int (gI w 0 ((i + 1)).toNatClampNeg), .ref 64], w)) rfl).trans ?_
  refine (val_g (c2 := (0, 1000, 348, [some (.ref 0), some (.ref 64), some (.ref 108), some (.int i)], [.int 2, .int i, .ref 0, .int (gI w 0 ((i + 1)).toNatClampNeg), .ref 64], w)) rfl).trans ?_
  refine (val_g (c2 := (0, 1000, 349, [some (.ref 0), some (.ref 64), some (.ref 108), some (.int i)], [.int (i + 2), .ref 0, .int (gI w 0 ((i + 1)).toNatClampNeg), .ref 64], w)) rfl).trans ?_
  refine (val_ial rfl hS rfl hy2).trans ?_
  show val (0, 1000, 350, [some (.ref 0), some (.ref 64), some (.ref 108), some (.int i)], [.int (gI w 0 ((i + 2)).toNatClampNeg), .int (gI w 0 ((i + 1)).toNatClampNeg), .ref 64], w) = _
  refine (val_g (c2 := (0, 1000, 351, [some (.ref 0), some (.ref 64), some (.ref 108), some (.int i)], [.long (Int32.toInt64 ((gI w 0 ((i + 2)).toNatClampNeg))), .int (gI w 0 ((i + 1)).toNatClampNeg), .ref 64], w)) rfl).trans ?_
  refine (val_g (c2 := (0, 1000, 353, [some (.ref 0), some (.ref 64), some (.ref 108), some (.int i)], [.int 32, .long (Int32.toInt64 ((gI w 0 ((i + 2)).toNatClampNeg))), .int (gI w 0 ((i + 1)).toNatClampNeg), .ref 64], w)) rfl).trans ?_
  refine (val_g (c2 := (0, 1000, 354, [some (.ref 0), some (.ref 64), some (.ref 108), some (.int i)], [.long (shlL ((Int32.toInt64 ((gI w 0 ((i + 2)).toNatClampNeg)))) 32), .int (gI w 0 ((i + 1)).toNatClampNeg), .ref 64], w)) rfl).trans ?_
  refine (val_g (c2 := (0, 1000, 355, [some (.ref 0), some (.ref 64), some (.ref 108), some (.int i)], [.ref 0, .long (shlL ((Int32.toInt64 ((gI w 0 ((i + 2)).toNatClampNeg)))) 32), .int (gI w 0 ((i + 1)).toNatClampNeg), .ref 64], w)) rfl).trans ?_
  refine (val_g (c2 := (0, 1000, 356, [some (.ref 0), some (.ref 64), some (.ref 108), some (.int i)], [.int i, .ref 0, .long (shlL ((Int32.toInt64 ((gI w 0 ((i + 2)).toNatClampNeg)))) 32), .int (gI w 0 ((i + 1)).toNatClampNeg), .ref 64], w)) rfl).trans ?_
  refine (val_g (c2 := (0, 1000, 357, [some (.ref 0), some (.ref 64), some (.ref 108), some (.int i)], [.int 3, .int i, .ref 0, .long (shlL ((Int32.toInt64 ((gI w 0 ((i + 2)).toNatClampNeg)))) 32), .int (gI w 0 ((i + 1)).toNatClampNeg), .ref 64], w)) rfl).trans ?_
  refine (val_g (c2 := (0, 1000, 358, [some (.ref 0), some (.ref 64), some (.ref 108), some (.int i)], [.int (i + 3), .ref 0, .long (shlL ((Int32.toInt64 ((gI w 0 ((i + 2)).toNatClampNeg)))) 32), .int (gI w 0 ((i + 1)).toNatClampNeg), .ref 64], w)) rfl).trans ?_
  refine (val_ial rfl hS rfl hy3).trans ?_
  show val (0, 1000, 359, [some (.ref 0), some (.ref 64), some (.ref 108), some (.int i)], [.int (gI w 0 ((i + 3)).toNatClampNeg), .long (shlL ((Int32.toInt64 ((gI w 0 ((i + 2)).toNatClampNeg)))) 32), .int (gI w 0 ((i + 1)).toNatClampNeg), .ref 64], w) = _
  refine (val_g (c2 := (0, 1000, 360, [some (.ref 0), some (.ref 64), some (.ref 108), some (.int i)], [.long (Int32.toInt64 ((gI w 0 ((i + 3)).toNatClampNeg))), .long (shlL ((Int32.toInt64 ((gI w 0 ((i + 2)).toNatClampNeg)))) 32), .int (gI w 0 ((i + 1)).toNatClampNeg), .ref 64], w)) rfl).trans ?_
  refine (val_g (c2 := (0, 1000, 363, [some (.ref 0), some (.ref 64), some (.ref 108), some (.int i)], [.long 4294967295, .long (Int32.toInt64 ((gI w 0 ((i + 3)).toNatClampNeg))), .long (shlL ((Int32.toInt64 ((gI w 0 ((i + 2)).toNatClampNeg)))) 32), .int (gI w 0 ((i + 1)).toNatClampNeg), .ref 64], w)) rfl).trans ?_
  refine (val_g (c2 := (0, 1000, 364, [some (.ref 0), some (.ref 64), some (.ref 108), some (.int i)], [.long ((Int32.toInt64 ((gI w 0 ((i + 3)).toNatClampNeg))) &&& 4294967295), .long (shlL ((Int32.toInt64 ((gI w 0 ((i + 2)).toNatClampNeg)))) 32), .int (gI w 0 ((i + 1)).toNatClampNeg), .ref 64], w)) rfl).trans ?_
  refine (val_g (c2 := (0, 1000, 365, [some (.ref 0), some (.ref 64), some (.ref 108), some (.int i)], [.long ((shlL ((Int32.toInt64 ((gI w 0 ((i + 2)).toNatClampNeg)))) 32) ||| ((Int32.toInt64 ((gI w 0 ((i + 3)).toNatClampNeg))) &&& 4294967295)), .int (gI w 0 ((i + 1)).toNatClampNeg), .ref 64], w)) rfl).trans ?_
  refine (val_call (d := 999) (w1 := w1) (pc2 := 368) rfl rfl rfl rfl (rcvO hk1 (by decide)) (Nat.le_of_ble_eq_true rfl) (Nat.le_of_ble_eq_true rfl) rfl hx rfl).trans ?_
  show val (0, 1000, 368, [some (.ref 0), some (.ref 64), some (.ref 108), some (.int i)], [.int r], w1) = _
  refine (val_g (c2 := (0, 1000, 369, [some (.ref 0), some (.ref 64), some (.ref 108), some (.int i)], [.ref 108, .int r], w1)) rfl).trans ?_
  refine (val_g (c2 := (0, 1000, 370, [some (.ref 0), some (.ref 64), some (.ref 108), some (.int i)], [.ref 0, .ref 108, .int r], w1)) rfl).trans ?_
  refine (val_g (c2 := (0, 1000, 371, [some (.ref 0), some (.ref 64), some (.ref 108), some (.int i)], [.int i, .ref 0, .ref 108, .int r], w1)) rfl).trans ?_
  refine (val_g (c2 := (0, 1000, 372, [some (.ref 0), some (.ref 64), some (.ref 108), some (.int i)], [.int 1, .int i, .ref 0, .ref 108, .int r], w1)) rfl).trans ?_
  refine (val_g (c2 := (0, 1000, 373, [some (.ref 0), some (.ref 64), some (.ref 108), some (.int i)], [.int (i + 1), .ref 0, .ref 108, .int r], w1)) rfl).trans ?_
  refine (val_ial rfl hS1 rfl hy1).trans ?_
  show val (0, 1000, 374, [some (.ref 0), some (.ref 64), some (.ref 108), some (.int i)], [.int (gI w1 0 ((i + 1)).toNatClampNeg), .ref 108, .int r], w1) = _
  refine (val_g (c2 := (0, 1000, 375, [some (.ref 0), some (.ref 64), some (.ref 108), some (.int i)], [.ref 0, .int (gI w1 0 ((i + 1)).toNatClampNeg), .ref 108, .int r], w1)) rfl).trans ?_
  refine (val_g (c2 := (0, 1000, 376, [some (.ref 0), some (.ref 64), some (.ref 108), some (.int i)], [.int i, .ref 0, .int (gI w1 0 ((i + 1)).toNatClampNeg), .ref 108, .int r], w1)) rfl).trans ?_
  refine (val_g (c2 := (0, 1000, 377, [some (.ref 0), some (.ref 64), some (.ref 108), some (.int i)], [.int 2, .int i, .ref 0, .int (gI w1 0 ((i + 1)).toNatClampNeg), .ref 108, .int r], w1)) rfl).trans ?_
  refine (val_g (c2 := (0, 1000, 378, [some (.ref 0), some (.ref 64), some (.ref 108), some (.int i)], [.int (i + 2), .ref 0, .int (gI w1 0 ((i + 1)).toNatClampNeg), .ref 108, .int r], w1)) rfl).trans ?_
  refine (val_ial rfl hS1 rfl hy2).trans ?_
  show val (0, 1000, 379, [some (.ref 0), some (.ref 64), some (.ref 108), some (.int i)], [.int (gI w1 0 ((i + 2)).toNatClampNeg), .int (gI w1 0 ((i + 1)).toNatClampNeg), .ref 108, .int r], w1) = _
  refine (val_g (c2 := (0, 1000, 380, [some (.ref 0), some (.ref 64), some (.ref 108), some (.int i)], [.long (Int32.toInt64 ((gI w1 0 ((i + 2)).toNatClampNeg))), .int (gI w1 0 ((i + 1)).toNatClampNeg), .ref 108, .int r], w1)) rfl).trans ?_
  refine (val_g (c2 := (0, 1000, 382, [some (.ref 0), some (.ref 64), some (.ref 108), some (.int i)], [.int 32, .long (Int32.toInt64 ((gI w1 0 ((i + 2)).toNatClampNeg))), .int (gI w1 0 ((i + 1)).toNatClampNeg), .ref 108, .int r], w1)) rfl).trans ?_
  refine (val_g (c2 := (0, 1000, 383, [some (.ref 0), some (.ref 64), some (.ref 108), some (.int i)], [.long (shlL ((Int32.toInt64 ((gI w1 0 ((i + 2)).toNatClampNeg)))) 32), .int (gI w1 0 ((i + 1)).toNatClampNeg), .ref 108, .int r], w1)) rfl).trans ?_
  refine (val_g (c2 := (0, 1000, 384, [some (.ref 0), some (.ref 64), some (.ref 108), some (.int i)], [.ref 0, .long (shlL ((Int32.toInt64 ((gI w1 0 ((i + 2)).toNatClampNeg)))) 32), .int (gI w1 0 ((i + 1)).toNatClampNeg), .ref 108, .int r], w1)) rfl).trans ?_
  refine (val_g (c2 := (0, 1000, 385, [some (.ref 0), some (.ref 64), some (.ref 108), some (.int i)], [.int i, .ref 0, .long (shlL ((Int32.toInt64 ((gI w1 0 ((i + 2)).toNatClampNeg)))) 32), .int (gI w1 0 ((i + 1)).toNatClampNeg), .ref 108, .int r], w1)) rfl).trans ?_
  refine (val_g (c2 := (0, 1000, 386, [some (.ref 0), some (.ref 64), some (.ref 108), some (.int i)], [.int 3, .int i, .ref 0, .long (shlL ((Int32.toInt64 ((gI w1 0 ((i + 2)).toNatClampNeg)))) 32), .int (gI w1 0 ((i + 1)).toNatClampNeg), .ref 108, .int r], w1)) rfl).trans ?_
  refine (val_g (c2 := (0, 1000, 387, [some (.ref 0), some (.ref 64), some (.ref 108), some (.int i)], [.int (i + 3), .ref 0, .long (shlL ((Int32.toInt64 ((gI w1 0 ((i + 2)).toNatClampNeg)))) 32), .int (gI w1 0 ((i + 1)).toNatClampNeg), .ref 108, .int r], w1)) rfl).trans ?_
  refine (val_ial rfl hS1 rfl hy3).trans ?_
  show val (0, 1000, 388, [some (.ref 0), some (.ref 64), some (.ref 108), some (.int i)], [.int (gI w1 0 ((i + 3)).toNatClampNeg), .long (shlL ((Int32.toInt64 ((gI w1 0 ((i + 2)).toNatClampNeg)))) 32), .int (gI w1 0 ((i + 1)).toNatClampNeg), .ref 108, .int r], w1) = _
  refine (val_g (c2 := (0, 1000, 389, [some (.ref 0), some (.ref 64), some (.ref 108), some (.int i)], [.long (Int32.toInt64 ((gI w1 0 ((i + 3)).toNatClampNeg))), .long (shlL ((Int32.toInt64 ((gI w1 0 ((i + 2)).toNatClampNeg)))) 32), .int (gI w1 0 ((i + 1)).toNatClampNeg), .ref 108, .int r], w1)) rfl).trans ?_
  refine (val_g (c2 := (0, 1000, 392, [some (.ref 0), some (.ref 64), some (.ref 108), some (.int i)], [.long 4294967295, .long (Int32.toInt64 ((gI w1 0 ((i + 3)).toNatClampNeg))), .long (shlL ((Int32.toInt64 ((gI w1 0 ((i + 2)).toNatClampNeg)))) 32), .int (gI w1 0 ((i + 1)).toNatClampNeg), .ref 108, .int r], w1)) rfl).trans ?_
  refine (val_g (c2 := (0, 1000, 393, [some (.ref 0), some (.ref 64), some (.ref 108), some (.int i)], [.long ((Int32.toInt64 ((gI w1 0 ((i + 3)).toNatClampNeg))) &&& 4294967295), .long (shlL ((Int32.toInt64 ((gI w1 0 ((i + 2)).toNatClampNeg)))) 32), .int (gI w1 0 ((i + 1)).toNatClampNeg), .ref 108, .int r], w1)) rfl).trans ?_
  refine (val_g (c2 := (0, 1000, 394, [some (.ref 0), some (.ref 64), some (.ref 108), some (.int i)], [.long ((shlL ((Int32.toInt64 ((gI w1 0 ((i + 2)).toNatClampNeg)))) 32) ||| ((Int32.toInt64 ((gI w1 0 ((i + 3)).toNatClampNeg))) &&& 4294967295)), .int (gI w1 0 ((i + 1)).toNatClampNeg), .ref 108, .int r], w1)) rfl).trans ?_
  refine (val_call (d := 999) (w1 := w2) (pc2 := 397) rfl rfl rfl rfl (rcvO hk2 (by decide)) (Nat.le_of_ble_eq_true rfl) (Nat.le_of_ble_eq_true rfl) rfl hm rfl).trans ?_
  show val (0, 1000, 397, [some (.ref 0), some (.ref 64), some (.ref 108), some (.int i)], [.int r, .int r], w2) = _
  refine ((val_ic_eq rfl).trans (if_pos rfl)).trans ?_
  show val (0, 1000, 1384, [some (.ref 0), some (.ref 64), some (.ref 108), some (.int i)], [], w2) = _
  refine (val_g (c2 := (0, 1000, 1387, [some (.ref 0), some (.ref 64), some (.ref 108), some (.int (i + 6))], [], w2)) rfl).trans ?_
  refine (val_g (c2 := (0, 1000, 18, [some (.ref 0), some (.ref 64), some (.ref 108), some (.int (i + 6))], [], w2)) rfl).trans ?_
  rfl
/-- BelfryHouse.method()I -/
theorem law_6 (w w1 w2 : Wd) (i : Int32) (L : Nat) (r : Int32) (hS : wK w 0 = (30, L)) (hS1 : wK w1 0 = (30, L)) (hk1 : wK w 64 = (9, 11)) (hk2 : wK w1 108 = (10, 68)) (hx : val (11, 999, 0, [some (.ref 64), none, none], [], w) = some (some (.int r), w1)) (hm : val (197, 999, 0, [some (.ref 108)], [], w1) = some (some (.int r), w2)) : val (0, 1000, 402, [some (.ref 0), some (.ref 64), some (.ref 108), some (.int i)], [], w) = val (0, 1000, 18, [some (.ref 0), some (.ref 64), some (.ref 108), some (.int (i + 6))], [], w2) := by
  refine (val_g (c2 := (0, 1000, 403, [some (.ref 0), some (.ref 64), some (.ref 108), some (.int i)], [.ref 64], w)) rfl).trans ?_
  refine (val_call (d := 999) (w1 := w1) (pc2 := 406) rfl rfl rfl rfl (rcvO hk1 (by decide)) (Nat.le_of_ble_eq_true rfl) (Nat.le_of_ble_eq_true rfl) rfl hx rfl).trans ?_
  show val (0, 1000, 406, [some (.ref 0), some (.ref 64), some (.ref 108), some (.int i)], [.int r], w1) = _
  refine (val_g (c2 := (0, 1000, 407, [some (.ref 0), some (.ref 64), some (.ref 108), some (.int i)], [.ref 108, .int r], w1)) rfl).trans ?_
  refine (val_call (d := 999) (w1 := w2) (pc2 := 410) rfl rfl rfl rfl (rcvO hk2 (by decide)) (Nat.le_of_ble_eq_true rfl) (Nat.le_of_ble_eq_true rfl) rfl hm rfl).trans ?_
  show val (0, 1000, 410, [some (.ref 0), some (.ref 64), some (.ref 108), some (.int i)], [.int r, .int r], w2) = _
  refine ((val_ic_eq rfl).trans (if_pos rfl)).trans ?_
  show val (0, 1000, 1384, [some (.ref 0), some (.ref 64), some (.ref 108), some (.int i)], [], w2) = _
  refine (val_g (c2 := (0, 1000, 1387, [some (.ref 0), some (.ref 64), some (.ref 108), some (.int (i + 6))], [], w2)) rfl).trans ?_
  refine (val_g (c2 := (0, 1000, 18, [some (.ref 0), some (.ref 64), some (.ref 108), some (.int (i + 6))], [], w2)) rfl).trans ?_
  rfl
/-- BelfryHouse.about(II)I -/
theorem law_7 (w w1 w2 : Wd) (i : Int32) (L : Nat) (r : Int32) (hS : wK w 0 = (30, L)) (hS1 : wK w1 0 = (30, L)) (hk1 : wK w 64 = (9, 11)) (hk2 : wK w1 108 = (10, 68)) (hy1 : inB ((i + 1)) L = true) (hy2 : inB ((i + 2)) L = true) (hx : val (13, 999, 0, [some (.ref 64), some (.int (gI w 0 ((i + 1)).toNatClampNeg)), some (.int (gI w 0 ((i + 2)).toNatClampNeg))], [], w) = some (some (.int r), w1)) (hm : val (198, 999, 0, [some (.ref 108), some (.int (gI w1 0 ((i + 1)).toNatClampNeg)), some (.int (gI w1 0 ((i + 2)).toNatClampNeg))], [], w1) = some (some (.int r), w2)) : val (0, 1000, 415, [some (.ref 0), some (.ref 64), some (.ref 108), some (.int i)], [], w) = val (0, 1000, 18, [some (.ref 0), some (.ref 64), some (.ref 108), some (.int (i + 6))], [], w2) := by
  refine (val_g (c2 := (0, 1000, 416, [some (.ref 0), some (.ref 64), some (.ref 108), some (.int i)], [.ref 64], w)) rfl).trans ?_
  refine (val_g (c2 := (0, 1000, 417, [some (.ref 0), some (.ref 64), some (.ref 108), some (.int i)], [.ref 0, .ref 64], w)) rfl).trans ?_
  refine (val_g (c2 := (0, 1000, 418, [some (.ref 0), some (.ref 64), some (.ref 108), some (.int i)], [.int i, .ref 0, .ref 64], w)) rfl).trans ?_
  refine (val_g (c2 := (0, 1000, 419, [some (.ref 0), some (.ref 64), some (.ref 108), some (.int i)], [.int 1, .int i, .ref 0, .ref 64], w)) rfl).trans ?_
  refine (val_g (c2 := (0, 1000, 420, [some (.ref 0), some (.ref 64), some (.ref 108), some (.int i)], [.int (i + 1), .ref 0, .ref 64], w)) rfl).trans ?_
  refine (val_ial rfl hS rfl hy1).trans ?_
  show val (0, 1000, 421, [some (.ref 0), some (.ref 64), some (.ref 108), some (.int i)], [.int (gI w 0 ((i + 1)).toNatClampNeg), .ref 64], w) = _
  refine (val_g (c2 := (0, 1000, 422, [some (.ref 0), some (.ref 64), some (.ref 108), some (.int i)], [.ref 0, .int (gI w 0 ((i + 1)).toNatClampNeg), .ref 64], w)) rfl).trans ?_
  refine (val_g (c2 := (0, 1000, 423, [some (.ref 0), some (.ref 64), some (.ref 108), some (.int i)], [.int i, .ref 0, .int (gI w 0 ((i + 1)).toNatClampNeg), .ref 64], w)) rfl).trans ?_
  refine (val_g (c2 := (0, 1000, 424, [some (.ref 0), some (.ref 64), some (.ref 108), some (.int i)], [.int 2, .int i, .ref 0, .int (gI w 0 ((i + 1)).toNatClampNeg), .ref 64], w)) rfl).trans ?_
  refine (val_g (c2 := (0, 1000, 425, [some (.ref 0), some (.ref 64), some (.ref 108), some (.int i)], [.int (i + 2), .ref 0, .int (gI w 0 ((i + 1)).toNatClampNeg), .ref 64], w)) rfl).trans ?_
  refine (val_ial rfl hS rfl hy2).trans ?_
  show val (0, 1000, 426, [some (.ref 0), some (.ref 64), some (.ref 108), some (.int i)], [.int (gI w 0 ((i + 2)).toNatClampNeg), .int (gI w 0 ((i + 1)).toNatClampNeg), .ref 64], w) = _
  refine (val_call (d := 999) (w1 := w1) (pc2 := 429) rfl rfl rfl rfl (rcvO hk1 (by decide)) (Nat.le_of_ble_eq_true rfl) (Nat.le_of_ble_eq_true rfl) rfl hx rfl).trans ?_
  show val (0, 1000, 429, [some (.ref 0), some (.ref 64), some (.ref 108), some (.int i)], [.int r], w1) = _
  refine (val_g (c2 := (0, 1000, 430, [some (.ref 0), some (.ref 64), some (.ref 108), some (.int i)], [.ref 108, .int r], w1)) rfl).trans ?_
  refine (val_g (c2 := (0, 1000, 431, [some (.ref 0), some (.ref 64), some (.ref 108), some (.int i)], [.ref 0, .ref 108, .int r], w1)) rfl).trans ?_
  refine (val_g (c2 := (0, 1000, 432, [some (.ref 0), some (.ref 64), some (.ref 108), some (.int i)], [.int i, .ref 0, .ref 108, .int r], w1)) rfl).trans ?_
  refine (val_g (c2 := (0, 1000, 433, [some (.ref 0), some (.ref 64), some (.ref 108), some (.int i)], [.int 1, .int i, .ref 0, .ref 108, .int r], w1)) rfl).trans ?_
  refine (val_g (c2 := (0, 1000, 434, [some (.ref 0), some (.ref 64), some (.ref 108), some (.int i)], [.int (i + 1), .ref 0, .ref 108, .int r], w1)) rfl).trans ?_
  refine (val_ial rfl hS1 rfl hy1).trans ?_
  show val (0, 1000, 435, [some (.ref 0), some (.ref 64), some (.ref 108), some (.int i)], [.int (gI w1 0 ((i + 1)).toNatClampNeg), .ref 108, .int r], w1) = _
  refine (val_g (c2 := (0, 1000, 436, [some (.ref 0), some (.ref 64), some (.ref 108), some (.int i)], [.ref 0, .int (gI w1 0 ((i + 1)).toNatClampNeg), .ref 108, .int r], w1)) rfl).trans ?_
  refine (val_g (c2 := (0, 1000, 437, [some (.ref 0), some (.ref 64), some (.ref 108), some (.int i)], [.int i, .ref 0, .int (gI w1 0 ((i + 1)).toNatClampNeg), .ref 108, .int r], w1)) rfl).trans ?_
  refine (val_g (c2 := (0, 1000, 438, [some (.ref 0), some (.ref 64), some (.ref 108), some (.int i)], [.int 2, .int i, .ref 0, .int (gI w1 0 ((i + 1)).toNatClampNeg), .ref 108, .int r], w1)) rfl).trans ?_
  refine (val_g (c2 := (0, 1000, 439, [some (.ref 0), some (.ref 64), some (.ref 108), some (.int i)], [.int (i + 2), .ref 0, .int (gI w1 0 ((i + 1)).toNatClampNeg), .ref 108, .int r], w1)) rfl).trans ?_
  refine (val_ial rfl hS1 rfl hy2).trans ?_
  show val (0, 1000, 440, [some (.ref 0), some (.ref 64), some (.ref 108), some (.int i)], [.int (gI w1 0 ((i + 2)).toNatClampNeg), .int (gI w1 0 ((i + 1)).toNatClampNeg), .ref 108, .int r], w1) = _
  refine (val_call (d := 999) (w1 := w2) (pc2 := 443) rfl rfl rfl rfl (rcvO hk2 (by decide)) (Nat.le_of_ble_eq_true rfl) (Nat.le_of_ble_eq_true rfl) rfl hm rfl).trans ?_
  show val (0, 1000, 443, [some (.ref 0), some (.ref 64), some (.ref 108), some (.int i)], [.int r, .int r], w2) = _
  refine ((val_ic_eq rfl).trans (if_pos rfl)).trans ?_
  show val (0, 1000, 1384, [some (.ref 0), some (.ref 64), some (.ref 108), some (.int i)], [], w2) = _
  refine (val_g (c2 := (0, 1000, 1387, [some (.ref 0), some (.ref 64), some (.ref 108), some (.int (i + 6))], [], w2)) rfl).trans ?_
  refine (val_g (c2 := (0, 1000, 18, [some (.ref 0), some (.ref 64), some (.ref 108), some (.int (i + 6))], [], w2)) rfl).trans ?_
  rfl
/-- BelfryHouse.change(III)I -/
theorem law_8 (w w1 w2 : Wd) (i : Int32) (L : Nat) (r : Int32) (hS : wK w 0 = (30, L)) (hS1 : wK w1 0 = (30, L)) (hk1 : wK w 64 = (9, 11)) (hk2 : wK w1 108 = (10, 68)) (hy1 : inB ((i + 1)) L = true) (hy2 : inB ((i + 2)) L = true) (hy3 : inB ((i + 3)) L = true) (hx : val (14, 999, 0, [some (.ref 64), some (.int (gI w 0 ((i + 1)).toNatClampNeg)), some (.int (gI w 0 ((i + 2)).toNatClampNeg)), some (.int (gI w 0 ((i + 3)).toNatClampNeg)), none], [], w) = some (some (.int r), w1)) (hm : val (205, 999, 0, [some (.ref 108), some (.int (gI w1 0 ((i + 1)).toNatClampNeg)), some (.int (gI w1 0 ((i + 2)).toNatClampNeg)), some (.int (gI w1 0 ((i + 3)).toNatClampNeg))], [], w1) = some (some (.int r), w2)) : val (0, 1000, 448, [some (.ref 0), some (.ref 64), some (.ref 108), some (.int i)], [], w) = val (0, 1000, 18, [some (.ref 0), some (.ref 64), some (.ref 108), some (.int (i + 6))], [], w2) := by
  refine (val_g (c2 := (0, 1000, 449, [some (.ref 0), some (.ref 64), some (.ref 108), some (.int i)], [.ref 64], w)) rfl).trans ?_
  refine (val_g (c2 := (0, 1000, 450, [some (.ref 0), some (.ref 64), some (.ref 108), some (.int i)], [.ref 0, .ref 64], w)) rfl).trans ?_
  refine (val_g (c2 := (0, 1000, 451, [some (.ref 0), some (.ref 64), some (.ref 108), some (.int i)], [.int i, .ref 0, .ref 64], w)) rfl).trans ?_
  refine (val_g (c2 := (0, 1000, 452, [some (.ref 0), some (.ref 64), some (.ref 108), some (.int i)], [.int 1, .int i, .ref 0, .ref 64], w)) rfl).trans ?_
  refine (val_g (c2 := (0, 1000, 453, [some (.ref 0), some (.ref 64), some (.ref 108), some (.int i)], [.int (i + 1), .ref 0, .ref 64], w)) rfl).trans ?_
  refine (val_ial rfl hS rfl hy1).trans ?_
  show val (0, 1000, 454, [some (.ref 0), some (.ref 64), some (.ref 108), some (.int i)], [.int (gI w 0 ((i + 1)).toNatClampNeg), .ref 64], w) = _
  refine (val_g (c2 := (0, 1000, 455, [some (.ref 0), some (.ref 64), some (.ref 108), some (.int i)], [.ref 0, .int (gI w 0 ((i + 1)).toNatClampNeg), .ref 64], w)) rfl).trans ?_
  refine (val_g (c2 := (0, 1000, 456, [some (.ref 0), some (.ref 64), some (.ref 108), some (.int i)], [.int i, .ref 0, .int (gI w 0 ((i + 1)).toNatClampNeg), .ref 64], w)) rfl).trans ?_
  refine (val_g (c2 := (0, 1000, 457, [some (.ref 0), some (.ref 64), some (.ref 108), some (.int i)], [.int 2, .int i, .ref 0, .int (gI w 0 ((i + 1)).toNatClampNeg), .ref 64], w)) rfl).trans ?_
  refine (val_g (c2 := (0, 1000, 458, [some (.ref 0), some (.ref 64), some (.ref 108), some (.int i)], [.int (i + 2), .ref 0, .int (gI w 0 ((i + 1)).toNatClampNeg), .ref 64], w)) rfl).trans ?_
  refine (val_ial rfl hS rfl hy2).trans ?_
  show val (0, 1000, 459, [some (.ref 0), some (.ref 64), some (.ref 108), some (.int i)], [.int (gI w 0 ((i + 2)).toNatClampNeg), .int (gI w 0 ((i + 1)).toNatClampNeg), .ref 64], w) = _
  refine (val_g (c2 := (0, 1000, 460, [some (.ref 0), some (.ref 64), some (.ref 108), some (.int i)], [.ref 0, .int (gI w 0 ((i + 2)).toNatClampNeg), .int (gI w 0 ((i + 1)).toNatClampNeg), .ref 64], w)) rfl).trans ?_
  refine (val_g (c2 := (0, 1000, 461, [some (.ref 0), some (.ref 64), some (.ref 108), some (.int i)], [.int i, .ref 0, .int (gI w 0 ((i + 2)).toNatClampNeg), .int (gI w 0 ((i + 1)).toNatClampNeg), .ref 64], w)) rfl).trans ?_
  refine (val_g (c2 := (0, 1000, 462, [some (.ref 0), some (.ref 64), some (.ref 108), some (.int i)], [.int 3, .int i, .ref 0, .int (gI w 0 ((i + 2)).toNatClampNeg), .int (gI w 0 ((i + 1)).toNatClampNeg), .ref 64], w)) rfl).trans ?_
  refine (val_g (c2 := (0, 1000, 463, [some (.ref 0), some (.ref 64), some (.ref 108), some (.int i)], [.int (i + 3), .ref 0, .int (gI w 0 ((i + 2)).toNatClampNeg), .int (gI w 0 ((i + 1)).toNatClampNeg), .ref 64], w)) rfl).trans ?_
  refine (val_ial rfl hS rfl hy3).trans ?_
  show val (0, 1000, 464, [some (.ref 0), some (.ref 64), some (.ref 108), some (.int i)], [.int (gI w 0 ((i + 3)).toNatClampNeg), .int (gI w 0 ((i + 2)).toNatClampNeg), .int (gI w 0 ((i + 1)).toNatClampNeg), .ref 64], w) = _
  refine (val_call (d := 999) (w1 := w1) (pc2 := 467) rfl rfl rfl rfl (rcvO hk1 (by decide)) (Nat.le_of_ble_eq_true rfl) (Nat.le_of_ble_eq_true rfl) rfl hx rfl).trans ?_
  show val (0, 1000, 467, [some (.ref 0), some (.ref 64), some (.ref 108), some (.int i)], [.int r], w1) = _
  refine (val_g (c2 := (0, 1000, 468, [some (.ref 0), some (.ref 64), some (.ref 108), some (.int i)], [.ref 108, .int r], w1)) rfl).trans ?_
  refine (val_g (c2 := (0, 1000, 469, [some (.ref 0), some (.ref 64), some (.ref 108), some (.int i)], [.ref 0, .ref 108, .int r], w1)) rfl).trans ?_
  refine (val_g (c2 := (0, 1000, 470, [some (.ref 0), some (.ref 64), some (.ref 108), some (.int i)], [.int i, .ref 0, .ref 108, .int r], w1)) rfl).trans ?_
  refine (val_g (c2 := (0, 1000, 471, [some (.ref 0), some (.ref 64), some (.ref 108), some (.int i)], [.int 1, .int i, .ref 0, .ref 108, .int r], w1)) rfl).trans ?_
  refine (val_g (c2 := (0, 1000, 472, [some (.ref 0), some (.ref 64), some (.ref 108), some (.int i)], [.int (i + 1), .ref 0, .ref 108, .int r], w1)) rfl).trans ?_
  refine (val_ial rfl hS1 rfl hy1).trans ?_
  show val (0, 1000, 473, [some (.ref 0), some (.ref 64), some (.ref 108), some (.int i)], [.int (gI w1 0 ((i + 1)).toNatClampNeg), .ref 108, .int r], w1) = _
  refine (val_g (c2 := (0, 1000, 474, [some (.ref 0), some (.ref 64), some (.ref 108), some (.int i)], [.ref 0, .int (gI w1 0 ((i + 1)).toNatClampNeg), .ref 108, .int r], w1)) rfl).trans ?_
  refine (val_g (c2 := (0, 1000, 475, [some (.ref 0), some (.ref 64), some (.ref 108), some (.int i)], [.int i, .ref 0, .int (gI w1 0 ((i + 1)).toNatClampNeg), .ref 108, .int r], w1)) rfl).trans ?_
  refine (val_g (c2 := (0, 1000, 476, [some (.ref 0), some (.ref 64), some (.ref 108), some (.int i)], [.int 2, .int i, .ref 0, .int (gI w1 0 ((i + 1)).toNatClampNeg), .ref 108, .int r], w1)) rfl).trans ?_
  refine (val_g (c2 := (0, 1000, 477, [some (.ref 0), some (.ref 64), some (.ref 108), some (.int i)], [.int (i + 2), .ref 0, .int (gI w1 0 ((i + 1)).toNatClampNeg), .ref 108, .int r], w1)) rfl).trans ?_
  refine (val_ial rfl hS1 rfl hy2).trans ?_
  show val (0, 1000, 478, [some (.ref 0), some (.ref 64), some (.ref 108), some (.int i)], [.int (gI w1 0 ((i + 2)).toNatClampNeg), .int (gI w1 0 ((i + 1)).toNatClampNeg), .ref 108, .int r], w1) = _
  refine (val_g (c2 := (0, 1000, 479, [some (.ref 0), some (.ref 64), some (.ref 108), some (.int i)], [.ref 0, .int (gI w1 0 ((i + 2)).toNatClampNeg), .int (gI w1 0 ((i + 1)).toNatClampNeg), .ref 108, .int r], w1)) rfl).trans ?_
  refine (val_g (c2 := (0, 1000, 480, [some (.ref 0), some (.ref 64), some (.ref 108), some (.int i)], [.int i, .ref 0, .int (gI w1 0 ((i + 2)).toNatClampNeg), .int (gI w1 0 ((i + 1)).toNatClampNeg), .ref 108, .int r], w1)) rfl).trans ?_
  refine (val_g (c2 := (0, 1000, 481, [some (.ref 0), some (.ref 64), some (.ref 108), some (.int i)], [.int 3, .int i, .ref 0, .int (gI w1 0 ((i + 2)).toNatClampNeg), .int (gI w1 0 ((i + 1)).toNatClampNeg), .ref 108, .int r], w1)) rfl).trans ?_
  refine (val_g (c2 := (0, 1000, 482, [some (.ref 0), some (.ref 64), some (.ref 108), some (.int i)], [.int (i + 3), .ref 0, .int (gI w1 0 ((i + 2)).toNatClampNeg), .int (gI w1 0 ((i + 1)).toNatClampNeg), .ref 108, .int r], w1)) rfl).trans ?_
  refine (val_ial rfl hS1 rfl hy3).trans ?_
  show val (0, 1000, 483, [some (.ref 0), some (.ref 64), some (.ref 108), some (.int i)], [.int (gI w1 0 ((i + 3)).toNatClampNeg), .int (gI w1 0 ((i + 2)).toNatClampNeg), .int (gI w1 0 ((i + 1)).toNatClampNeg), .ref 108, .int r], w1) = _
  refine (val_call (d := 999) (w1 := w2) (pc2 := 486) rfl rfl rfl rfl (rcvO hk2 (by decide)) (Nat.le_of_ble_eq_true rfl) (Nat.le_of_ble_eq_true rfl) rfl hm rfl).trans ?_
  show val (0, 1000, 486, [some (.ref 0), some (.ref 64), some (.ref 108), some (.int i)], [.int r, .int r], w2) = _
  refine ((val_ic_eq rfl).trans (if_pos rfl)).trans ?_
  show val (0, 1000, 1384, [some (.ref 0), some (.ref 64), some (.ref 108), some (.int i)], [], w2) = _
  refine (val_g (c2 := (0, 1000, 1387, [some (.ref 0), some (.ref 64), some (.ref 108), some (.int (i + 6))], [], w2)) rfl).trans ?_
  refine (val_g (c2 := (0, 1000, 18, [some (.ref 0), some (.ref 64), some (.ref 108), some (.int (i + 6))], [], w2)) rfl).trans ?_
  rfl
/-- BelfryHouse.ring(I)I -/
theorem law_9 (w w1 w2 : Wd) (i : Int32) (L : Nat) (r : Int32) (hS : wK w 0 = (30, L)) (hS1 : wK w1 0 = (30, L)) (hk1 : wK w 64 = (9, 11)) (hk2 : wK w1 108 = (10, 68)) (hy1 : inB ((i + 1)) L = true) (hx : val (15, 999, 0, [some (.ref 64), some (.int (gI w 0 ((i + 1)).toNatClampNeg))], [], w) = some (some (.int r), w1)) (hm : val (208, 999, 0, [some (.ref 108), some (.int (gI w1 0 ((i + 1)).toNatClampNeg)), none], [], w1) = some (some (.int r), w2)) : val (0, 1000, 491, [some (.ref 0), some (.ref 64), some (.ref 108), some (.int i)], [], w) = val (0, 1000, 18, [some (.ref 0), some (.ref 64), some (.ref 108), some (.int (i + 6))], [], w2) := by
  refine (val_g (c2 := (0, 1000, 492, [some (.ref 0), some (.ref 64), some (.ref 108), some (.int i)], [.ref 64], w)) rfl).trans ?_
  refine (val_g (c2 := (0, 1000, 493, [some (.ref 0), some (.ref 64), some (.ref 108), some (.int i)], [.ref 0, .ref 64], w)) rfl).trans ?_
  refine (val_g (c2 := (0, 1000, 494, [some (.ref 0), some (.ref 64), some (.ref 108), some (.int i)], [.int i, .ref 0, .ref 64], w)) rfl).trans ?_
  refine (val_g (c2 := (0, 1000, 495, [some (.ref 0), some (.ref 64), some (.ref 108), some (.int i)], [.int 1, .int i, .ref 0, .ref 64], w)) rfl).trans ?_
  refine (val_g (c2 := (0, 1000, 496, [some (.ref 0), some (.ref 64), some (.ref 108), some (.int i)], [.int (i + 1), .ref 0, .ref 64], w)) rfl).trans ?_
  refine (val_ial rfl hS rfl hy1).trans ?_
  show val (0, 1000, 497, [some (.ref 0), some (.ref 64), some (.ref 108), some (.int i)], [.int (gI w 0 ((i + 1)).toNatClampNeg), .ref 64], w) = _
  refine (val_call (d := 999) (w1 := w1) (pc2 := 500) rfl rfl rfl rfl (rcvO hk1 (by decide)) (Nat.le_of_ble_eq_true rfl) (Nat.le_of_ble_eq_true rfl) rfl hx rfl).trans ?_
  show val (0, 1000, 500, [some (.ref 0), some (.ref 64), some (.ref 108), some (.int i)], [.int r], w1) = _
  refine (val_g (c2 := (0, 1000, 501, [some (.ref 0), some (.ref 64), some (.ref 108), some (.int i)], [.ref 108, .int r], w1)) rfl).trans ?_
  refine (val_g (c2 := (0, 1000, 502, [some (.ref 0), some (.ref 64), some (.ref 108), some (.int i)], [.ref 0, .ref 108, .int r], w1)) rfl).trans ?_
  refine (val_g (c2 := (0, 1000, 503, [some (.ref 0), some (.ref 64), some (.ref 108), some (.int i)], [.int i, .ref 0, .ref 108, .int r], w1)) rfl).trans ?_
  refine (val_g (c2 := (0, 1000, 504, [some (.ref 0), some (.ref 64), some (.ref 108), some (.int i)], [.int 1, .int i, .ref 0, .ref 108, .int r], w1)) rfl).trans ?_
  refine (val_g (c2 := (0, 1000, 505, [some (.ref 0), some (.ref 64), some (.ref 108), some (.int i)], [.int (i + 1), .ref 0, .ref 108, .int r], w1)) rfl).trans ?_
  refine (val_ial rfl hS1 rfl hy1).trans ?_
  show val (0, 1000, 506, [some (.ref 0), some (.ref 64), some (.ref 108), some (.int i)], [.int (gI w1 0 ((i + 1)).toNatClampNeg), .ref 108, .int r], w1) = _
  refine (val_call (d := 999) (w1 := w2) (pc2 := 509) rfl rfl rfl rfl (rcvO hk2 (by decide)) (Nat.le_of_ble_eq_true rfl) (Nat.le_of_ble_eq_true rfl) rfl hm rfl).trans ?_
  show val (0, 1000, 509, [some (.ref 0), some (.ref 64), some (.ref 108), some (.int i)], [.int r, .int r], w2) = _
  refine ((val_ic_eq rfl).trans (if_pos rfl)).trans ?_
  show val (0, 1000, 1384, [some (.ref 0), some (.ref 64), some (.ref 108), some (.int i)], [], w2) = _
  refine (val_g (c2 := (0, 1000, 1387, [some (.ref 0), some (.ref 64), some (.ref 108), some (.int (i + 6))], [], w2)) rfl).trans ?_
  refine (val_g (c2 := (0, 1000, 18, [some (.ref 0), some (.ref 64), some (.ref 108), some (.int (i + 6))], [], w2)) rfl).trans ?_
  rfl
/-- BelfryHouse.call(II)I -/
theorem law_10 (w w1 w2 : Wd) (i : Int32) (L : Nat) (r : Int32) (hS : wK w 0 = (30, L)) (hS1 : wK w1 0 = (30, L)) (hk1 : wK w 64 = (9, 11)) (hk2 : wK w1 108 = (10, 68)) (hy1 : inB ((i + 1)) L = true) (hy2 : inB ((i + 2)) L = true) (hx : val (16, 999, 0, [some (.ref 64), some (.int (gI w 0 ((i + 1)).toNatClampNeg)), some (.int (gI w 0 ((i + 2)).toNatClampNeg))], [], w) = some (some (.int r), w1)) (hm : val (209, 999, 0, [some (.ref 108), some (.int (gI w1 0 ((i + 1)).toNatClampNeg)), some (.int (gI w1 0 ((i + 2)).toNatClampNeg))], [], w1) = some (some (.int r), w2)) : val (0, 1000, 514, [some (.ref 0), some (.ref 64), some (.ref 108), some (.int i)], [], w) = val (0, 1000, 18, [some (.ref 0), some (.ref 64), some (.ref 108), some (.int (i + 6))], [], w2) := by
  refine (val_g (c2 := (0, 1000, 515, [some (.ref 0), some (.ref 64), some (.ref 108), some (.int i)], [.ref 64], w)) rfl).trans ?_
  refine (val_g (c2 := (0, 1000, 516, [some (.ref 0), some (.ref 64), some (.ref 108), some (.int i)], [.ref 0, .ref 64], w)) rfl).trans ?_
  refine (val_g (c2 := (0, 1000, 517, [some (.ref 0), some (.ref 64), some (.ref 108), some (.int i)], [.int i, .ref 0, .ref 64], w)) rfl).trans ?_
  refine (val_g (c2 := (0, 1000, 518, [some (.ref 0), some (.ref 64), some (.ref 108), some (.int i)], [.int 1, .int i, .ref 0, .ref 64], w)) rfl).trans ?_
  refine (val_g (c2 := (0, 1000, 519, [some (.ref 0), some (.ref 64), some (.ref 108), some (.int i)], [.int (i + 1), .ref 0, .ref 64], w)) rfl).trans ?_
  refine (val_ial rfl hS rfl hy1).trans ?_
  show val (0, 1000, 520, [some (.ref 0), some (.ref 64), some (.ref 108), some (.int i)], [.int (gI w 0 ((i + 1)).toNatClampNeg), .ref 64], w) = _
  refine (val_g (c2 := (0, 1000, 521, [some (.ref 0), some (.ref 64), some (.ref 108), some (.int i)], [.ref 0, .int (gI w 0 ((i + 1)).toNatClampNeg), .ref 64], w)) rfl).trans ?_
  refine (val_g (c2 := (0, 1000, 522, [some (.ref 0), some (.ref 64), some (.ref 108), some (.int i)], [.int i, .ref 0, .int (gI w 0 ((i + 1)).toNatClampNeg), .ref 64], w)) rfl).trans ?_
  refine (val_g (c2 := (0, 1000, 523, [some (.ref 0), some (.ref 64), some (.ref 108), some (.int i)], [.int 2, .int i, .ref 0, .int (gI w 0 ((i + 1)).toNatClampNeg), .ref 64], w)) rfl).trans ?_
  refine (val_g (c2 := (0, 1000, 524, [some (.ref 0), some (.ref 64), some (.ref 108), some (.int i)], [.int (i + 2), .ref 0, .int (gI w 0 ((i + 1)).toNatClampNeg), .ref 64], w)) rfl).trans ?_
  refine (val_ial rfl hS rfl hy2).trans ?_
  show val (0, 1000, 525, [some (.ref 0), some (.ref 64), some (.ref 108), some (.int i)], [.int (gI w 0 ((i + 2)).toNatClampNeg), .int (gI w 0 ((i + 1)).toNatClampNeg), .ref 64], w) = _
  refine (val_call (d := 999) (w1 := w1) (pc2 := 528) rfl rfl rfl rfl (rcvO hk1 (by decide)) (Nat.le_of_ble_eq_true rfl) (Nat.le_of_ble_eq_true rfl) rfl hx rfl).trans ?_
  show val (0, 1000, 528, [some (.ref 0), some (.ref 64), some (.ref 108), some (.int i)], [.int r], w1) = _
  refine (val_g (c2 := (0, 1000, 529, [some (.ref 0), some (.ref 64), some (.ref 108), some (.int i)], [.ref 108, .int r], w1)) rfl).trans ?_
  refine (val_g (c2 := (0, 1000, 530, [some (.ref 0), some (.ref 64), some (.ref 108), some (.int i)], [.ref 0, .ref 108, .int r], w1)) rfl).trans ?_
  refine (val_g (c2 := (0, 1000, 531, [some (.ref 0), some (.ref 64), some (.ref 108), some (.int i)], [.int i, .ref 0, .ref 108, .int r], w1)) rfl).trans ?_
  refine (val_g (c2 := (0, 1000, 532, [some (.ref 0), some (.ref 64), some (.ref 108), some (.int i)], [.int 1, .int i, .ref 0, .ref 108, .int r], w1)) rfl).trans ?_
  refine (val_g (c2 := (0, 1000, 533, [some (.ref 0), some (.ref 64), some (.ref 108), some (.int i)], [.int (i + 1), .ref 0, .ref 108, .int r], w1)) rfl).trans ?_
  refine (val_ial rfl hS1 rfl hy1).trans ?_
  show val (0, 1000, 534, [some (.ref 0), some (.ref 64), some (.ref 108), some (.int i)], [.int (gI w1 0 ((i + 1)).toNatClampNeg), .ref 108, .int r], w1) = _
  refine (val_g (c2 := (0, 1000, 535, [some (.ref 0), some (.ref 64), some (.ref 108), some (.int i)], [.ref 0, .int (gI w1 0 ((i + 1)).toNatClampNeg), .ref 108, .int r], w1)) rfl).trans ?_
  refine (val_g (c2 := (0, 1000, 536, [some (.ref 0), some (.ref 64), some (.ref 108), some (.int i)], [.int i, .ref 0, .int (gI w1 0 ((i + 1)).toNatClampNeg), .ref 108, .int r], w1)) rfl).trans ?_
  refine (val_g (c2 := (0, 1000, 537, [some (.ref 0), some (.ref 64), some (.ref 108), some (.int i)], [.int 2, .int i, .ref 0, .int (gI w1 0 ((i + 1)).toNatClampNeg), .ref 108, .int r], w1)) rfl).trans ?_
  refine (val_g (c2 := (0, 1000, 538, [some (.ref 0), some (.ref 64), some (.ref 108), some (.int i)], [.int (i + 2), .ref 0, .int (gI w1 0 ((i + 1)).toNatClampNeg), .ref 108, .int r], w1)) rfl).trans ?_
  refine (val_ial rfl hS1 rfl hy2).trans ?_
  show val (0, 1000, 539, [some (.ref 0), some (.ref 64), some (.ref 108), some (.int i)], [.int (gI w1 0 ((i + 2)).toNatClampNeg), .int (gI w1 0 ((i + 1)).toNatClampNeg), .ref 108, .int r], w1) = _
  refine (val_call (d := 999) (w1 := w2) (pc2 := 542) rfl rfl rfl rfl (rcvO hk2 (by decide)) (Nat.le_of_ble_eq_true rfl) (Nat.le_of_ble_eq_true rfl) rfl hm rfl).trans ?_
  show val (0, 1000, 542, [some (.ref 0), some (.ref 64), some (.ref 108), some (.int i)], [.int r, .int r], w2) = _
  refine ((val_ic_eq rfl).trans (if_pos rfl)).trans ?_
  show val (0, 1000, 1384, [some (.ref 0), some (.ref 64), some (.ref 108), some (.int i)], [], w2) = _
  refine (val_g (c2 := (0, 1000, 1387, [some (.ref 0), some (.ref 64), some (.ref 108), some (.int (i + 6))], [], w2)) rfl).trans ?_
  refine (val_g (c2 := (0, 1000, 18, [some (.ref 0), some (.ref 64), some (.ref 108), some (.int (i + 6))], [], w2)) rfl).trans ?_
  rfl
/-- BelfryHouse.go(I)I -/
theorem law_11 (w w1 w2 : Wd) (i : Int32) (L : Nat) (r : Int32) (hS : wK w 0 = (30, L)) (hS1 : wK w1 0 = (30, L)) (hk1 : wK w 64 = (9, 11)) (hk2 : wK w1 108 = (10, 68)) (hy1 : inB ((i + 1)) L = true) (hx : val (17, 999, 0, [some (.ref 64), some (.int (gI w 0 ((i + 1)).toNatClampNeg))], [], w) = some (some (.int r), w1)) (hm : val (213, 999, 0, [some (.ref 108), some (.int (gI w1 0 ((i + 1)).toNatClampNeg)), none, none, none], [], w1) = some (some (.int r), w2)) : val (0, 1000, 547, [some (.ref 0), some (.ref 64), some (.ref 108), some (.int i)], [], w) = val (0, 1000, 18, [some (.ref 0), some (.ref 64), some (.ref 108), some (.int (i + 6))], [], w2) := by
  refine (val_g (c2 := (0, 1000, 548, [some (.ref 0), some (.ref 64), some (.ref 108), some (.int i)], [.ref 64], w)) rfl).trans ?_
  refine (val_g (c2 := (0, 1000, 549, [some (.ref 0), some (.ref 64), some (.ref 108), some (.int i)], [.ref 0, .ref 64], w)) rfl).trans ?_
  refine (val_g (c2 := (0, 1000, 550, [some (.ref 0), some (.ref 64), some (.ref 108), some (.int i)], [.int i, .ref 0, .ref 64], w)) rfl).trans ?_
  refine (val_g (c2 := (0, 1000, 551, [some (.ref 0), some (.ref 64), some (.ref 108), some (.int i)], [.int 1, .int i, .ref 0, .ref 64], w)) rfl).trans ?_
  refine (val_g (c2 := (0, 1000, 552, [some (.ref 0), some (.ref 64), some (.ref 108), some (.int i)], [.int (i + 1), .ref 0, .ref 64], w)) rfl).trans ?_
  refine (val_ial rfl hS rfl hy1).trans ?_
  show val (0, 1000, 553, [some (.ref 0), some (.ref 64), some (.ref 108), some (.int i)], [.int (gI w 0 ((i + 1)).toNatClampNeg), .ref 64], w) = _
  refine (val_call (d := 999) (w1 := w1) (pc2 := 556) rfl rfl rfl rfl (rcvO hk1 (by decide)) (Nat.le_of_ble_eq_true rfl) (Nat.le_of_ble_eq_true rfl) rfl hx rfl).trans ?_
  show val (0, 1000, 556, [some (.ref 0), some (.ref 64), some (.ref 108), some (.int i)], [.int r], w1) = _
  refine (val_g (c2 := (0, 1000, 557, [some (.ref 0), some (.ref 64), some (.ref 108), some (.int i)], [.ref 108, .int r], w1)) rfl).trans ?_
  refine (val_g (c2 := (0, 1000, 558, [some (.ref 0), some (.ref 64), some (.ref 108), some (.int i)], [.ref 0, .ref 108, .int r], w1)) rfl).trans ?_
  refine (val_g (c2 := (0, 1000, 559, [some (.ref 0), some (.ref 64), some (.ref 108), some (.int i)], [.int i, .ref 0, .ref 108, .int r], w1)) rfl).trans ?_
  refine (val_g (c2 := (0, 1000, 560, [some (.ref 0), some (.ref 64), some (.ref 108), some (.int i)], [.int 1, .int i, .ref 0, .ref 108, .int r], w1)) rfl).trans ?_
  refine (val_g (c2 := (0, 1000, 561, [some (.ref 0), some (.ref 64), some (.ref 108), some (.int i)], [.int (i + 1), .ref 0, .ref 108, .int r], w1)) rfl).trans ?_
  refine (val_ial rfl hS1 rfl hy1).trans ?_
  show val (0, 1000, 562, [some (.ref 0), some (.ref 64), some (.ref 108), some (.int i)], [.int (gI w1 0 ((i + 1)).toNatClampNeg), .ref 108, .int r], w1) = _
  refine (val_call (d := 999) (w1 := w2) (pc2 := 565) rfl rfl rfl rfl (rcvO hk2 (by decide)) (Nat.le_of_ble_eq_true rfl) (Nat.le_of_ble_eq_true rfl) rfl hm rfl).trans ?_
  show val (0, 1000, 565, [some (.ref 0), some (.ref 64), some (.ref 108), some (.int i)], [.int r, .int r], w2) = _
  refine ((val_ic_eq rfl).trans (if_pos rfl)).trans ?_
  show val (0, 1000, 1384, [some (.ref 0), some (.ref 64), some (.ref 108), some (.int i)], [], w2) = _
  refine (val_g (c2 := (0, 1000, 1387, [some (.ref 0), some (.ref 64), some (.ref 108), some (.int (i + 6))], [], w2)) rfl).trans ?_
  refine (val_g (c2 := (0, 1000, 18, [some (.ref 0), some (.ref 64), some (.ref 108), some (.int (i + 6))], [], w2)) rfl).trans ?_
  rfl
/-- BelfryHouse.rowAt(I)I -/
theorem law_12 (w w1 w2 : Wd) (i : Int32) (L : Nat) (r : Int32) (hS : wK w 0 = (30, L)) (hS1 : wK w1 0 = (30, L)) (hk1 : wK w 64 = (9, 11)) (hk2 : wK w1 108 = (10, 68)) (hy1 : inB ((i + 1)) L = true) (hx : val (18, 999, 0, [some (.ref 64), some (.int (gI w 0 ((i + 1)).toNatClampNeg))], [], w) = some (some (.int r), w1)) (hm : val (215, 999, 0, [some (.ref 108), some (.int (gI w1 0 ((i + 1)).toNatClampNeg))], [], w1) = some (some (.int r), w2)) : val (0, 1000, 570, [some (.ref 0), some (.ref 64), some (.ref 108), some (.int i)], [], w) = val (0, 1000, 18, [some (.ref 0), some (.ref 64), some (.ref 108), some (.int (i + 6))], [], w2) := by
  refine (val_g (c2 := (0, 1000, 571, [some (.ref 0), some (.ref 64), some (.ref 108), some (.int i)], [.ref 64], w)) rfl).trans ?_
  refine (val_g (c2 := (0, 1000, 572, [some (.ref 0), some (.ref 64), some (.ref 108), some (.int i)], [.ref 0, .ref 64], w)) rfl).trans ?_
  refine (val_g (c2 := (0, 1000, 573, [some (.ref 0), some (.ref 64), some (.ref 108), some (.int i)], [.int i, .ref 0, .ref 64], w)) rfl).trans ?_
  refine (val_g (c2 := (0, 1000, 574, [some (.ref 0), some (.ref 64), some (.ref 108), some (.int i)], [.int 1, .int i, .ref 0, .ref 64], w)) rfl).trans ?_
  refine (val_g (c2 := (0, 1000, 575, [some (.ref 0), some (.ref 64), some (.ref 108), some (.int i)], [.int (i + 1), .ref 0, .ref 64], w)) rfl).trans ?_
  refine (val_ial rfl hS rfl hy1).trans ?_
  show val (0, 1000, 576, [some (.ref 0), some (.ref 64), some (.ref 108), some (.int i)], [.int (gI w 0 ((i + 1)).toNatClampNeg), .ref 64], w) = _
  refine (val_call (d := 999) (w1 := w1) (pc2 := 579) rfl rfl rfl rfl (rcvO hk1 (by decide)) (Nat.le_of_ble_eq_true rfl) (Nat.le_of_ble_eq_true rfl) rfl hx rfl).trans ?_
  show val (0, 1000, 579, [some (.ref 0), some (.ref 64), some (.ref 108), some (.int i)], [.int r], w1) = _
  refine (val_g (c2 := (0, 1000, 580, [some (.ref 0), some (.ref 64), some (.ref 108), some (.int i)], [.ref 108, .int r], w1)) rfl).trans ?_
  refine (val_g (c2 := (0, 1000, 581, [some (.ref 0), some (.ref 64), some (.ref 108), some (.int i)], [.ref 0, .ref 108, .int r], w1)) rfl).trans ?_
  refine (val_g (c2 := (0, 1000, 582, [some (.ref 0), some (.ref 64), some (.ref 108), some (.int i)], [.int i, .ref 0, .ref 108, .int r], w1)) rfl).trans ?_
  refine (val_g (c2 := (0, 1000, 583, [some (.ref 0), some (.ref 64), some (.ref 108), some (.int i)], [.int 1, .int i, .ref 0, .ref 108, .int r], w1)) rfl).trans ?_
  refine (val_g (c2 := (0, 1000, 584, [some (.ref 0), some (.ref 64), some (.ref 108), some (.int i)], [.int (i + 1), .ref 0, .ref 108, .int r], w1)) rfl).trans ?_
  refine (val_ial rfl hS1 rfl hy1).trans ?_
  show val (0, 1000, 585, [some (.ref 0), some (.ref 64), some (.ref 108), some (.int i)], [.int (gI w1 0 ((i + 1)).toNatClampNeg), .ref 108, .int r], w1) = _
  refine (val_call (d := 999) (w1 := w2) (pc2 := 588) rfl rfl rfl rfl (rcvO hk2 (by decide)) (Nat.le_of_ble_eq_true rfl) (Nat.le_of_ble_eq_true rfl) rfl hm rfl).trans ?_
  show val (0, 1000, 588, [some (.ref 0), some (.ref 64), some (.ref 108), some (.int i)], [.int r, .int r], w2) = _
  refine ((val_ic_eq rfl).trans (if_pos rfl)).trans ?_
  show val (0, 1000, 1384, [some (.ref 0), some (.ref 64), some (.ref 108), some (.int i)], [], w2) = _
  refine (val_g (c2 := (0, 1000, 1387, [some (.ref 0), some (.ref 64), some (.ref 108), some (.int (i + 6))], [], w2)) rfl).trans ?_
  refine (val_g (c2 := (0, 1000, 18, [some (.ref 0), some (.ref 64), some (.ref 108), some (.int (i + 6))], [], w2)) rfl).trans ?_
  rfl
/-- BelfryHouse.run(I)I -/
theorem law_13 (w w1 w2 : Wd) (i : Int32) (L : Nat) (r : Int32) (hS : wK w 0 = (30, L)) (hS1 : wK w1 0 = (30, L)) (hk1 : wK w 64 = (9, 11)) (hk2 : wK w1 108 = (10, 68)) (hy1 : inB ((i + 1)) L = true) (hx : val (19, 999, 0, [some (.ref 64), some (.int (gI w 0 ((i + 1)).toNatClampNeg))], [], w) = some (some (.int r), w1)) (hm : val (216, 999, 0, [some (.ref 108), some (.int (gI w1 0 ((i + 1)).toNatClampNeg)), none, none, none, none], [], w1) = some (some (.int r), w2)) : val (0, 1000, 593, [some (.ref 0), some (.ref 64), some (.ref 108), some (.int i)], [], w) = val (0, 1000, 18, [some (.ref 0), some (.ref 64), some (.ref 108), some (.int (i + 6))], [], w2) := by
  refine (val_g (c2 := (0, 1000, 594, [some (.ref 0), some (.ref 64), some (.ref 108), some (.int i)], [.ref 64], w)) rfl).trans ?_
  refine (val_g (c2 := (0, 1000, 595, [some (.ref 0), some (.ref 64), some (.ref 108), some (.int i)], [.ref 0, .ref 64], w)) rfl).trans ?_
  refine (val_g (c2 := (0, 1000, 596, [some (.ref 0), some (.ref 64), some (.ref 108), some (.int i)], [.int i, .ref 0, .ref 64], w)) rfl).trans ?_
  refine (val_g (c2 := (0, 1000, 597, [some (.ref 0), some (.ref 64), some (.ref 108), some (.int i)], [.int 1, .int i, .ref 0, .ref 64], w)) rfl).trans ?_
  refine (val_g (c2 := (0, 1000, 598, [some (.ref 0), some (.ref 64), some (.ref 108), some (.int i)], [.int (i + 1), .ref 0, .ref 64], w)) rfl).trans ?_
  refine (val_ial rfl hS rfl hy1).trans ?_
  show val (0, 1000, 599, [some (.ref 0), some (.ref 64), some (.ref 108), some (.int i)], [.int (gI w 0 ((i + 1)).toNatClampNeg), .ref 64], w) = _
  refine (val_call (d := 999) (w1 := w1) (pc2 := 602) rfl rfl rfl rfl (rcvO hk1 (by decide)) (Nat.le_of_ble_eq_true rfl) (Nat.le_of_ble_eq_true rfl) rfl hx rfl).trans ?_
  show val (0, 1000, 602, [some (.ref 0), some (.ref 64), some (.ref 108), some (.int i)], [.int r], w1) = _
  refine (val_g (c2 := (0, 1000, 603, [some (.ref 0), some (.ref 64), some (.ref 108), some (.int i)], [.ref 108, .int r], w1)) rfl).trans ?_
  refine (val_g (c2 := (0, 1000, 604, [some (.ref 0), some (.ref 64), some (.ref 108), some (.int i)], [.ref 0, .ref 108, .int r], w1)) rfl).trans ?_
  refine (val_g (c2 := (0, 1000, 605, [some (.ref 0), some (.ref 64), some (.ref 108), some (.int i)], [.int i, .ref 0, .ref 108, .int r], w1)) rfl).trans ?_
  refine (val_g (c2 := (0, 1000, 606, [some (.ref 0), some (.ref 64), some (.ref 108), some (.int i)], [.int 1, .int i, .ref 0, .ref 108, .int r], w1)) rfl).trans ?_
  refine (val_g (c2 := (0, 1000, 607, [some (.ref 0), some (.ref 64), some (.ref 108), some (.int i)], [.int (i + 1), .ref 0, .ref 108, .int r], w1)) rfl).trans ?_
  refine (val_ial rfl hS1 rfl hy1).trans ?_
  show val (0, 1000, 608, [some (.ref 0), some (.ref 64), some (.ref 108), some (.int i)], [.int (gI w1 0 ((i + 1)).toNatClampNeg), .ref 108, .int r], w1) = _
  refine (val_call (d := 999) (w1 := w2) (pc2 := 611) rfl rfl rfl rfl (rcvO hk2 (by decide)) (Nat.le_of_ble_eq_true rfl) (Nat.le_of_ble_eq_true rfl) rfl hm rfl).trans ?_
  show val (0, 1000, 611, [some (.ref 0), some (.ref 64), some (.ref 108), some (.int i)], [.int r, .int r], w2) = _
  refine ((val_ic_eq rfl).trans (if_pos rfl)).trans ?_
  show val (0, 1000, 1384, [some (.ref 0), some (.ref 64), some (.ref 108), some (.int i)], [], w2) = _
  refine (val_g (c2 := (0, 1000, 1387, [some (.ref 0), some (.ref 64), some (.ref 108), some (.int (i + 6))], [], w2)) rfl).trans ?_
  refine (val_g (c2 := (0, 1000, 18, [some (.ref 0), some (.ref 64), some (.ref 108), some (.int (i + 6))], [], w2)) rfl).trans ?_
  rfl
/-- BelfryHouse.truth(II)I -/
theorem law_14 (w w1 w2 : Wd) (i : Int32) (L : Nat) (r : Int32) (hS : wK w 0 = (30, L)) (hS1 : wK w1 0 = (30, L)) (hk1 : wK w 64 = (9, 11)) (hk2 : wK w1 108 = (10, 68)) (hy1 : inB ((i + 1)) L = true) (hy2 : inB ((i + 2)) L = true) (hx : val (20, 999, 0, [some (.ref 64), some (.int (gI w 0 ((i + 1)).toNatClampNeg)), some (.int (gI w 0 ((i + 2)).toNatClampNeg)), none], [], w) = some (some (.int r), w1)) (hm : val (217, 999, 0, [some (.ref 108), some (.int (gI w1 0 ((i + 1)).toNatClampNeg)), some (.int (gI w1 0 ((i + 2)).toNatClampNeg)), none, none], [], w1) = some (some (.int r), w2)) : val (0, 1000, 616, [some (.ref 0), some (.ref 64), some (.ref 108), some (.int i)], [], w) = val (0, 1000, 18, [some (.ref 0), some (.ref 64), some (.ref 108), some (.int (i + 6))], [], w2) := by
  refine (val_g (c2 := (0, 1000, 617, [some (.ref 0), some (.ref 64), some (.ref 108), some (.int i)], [.ref 64], w)) rfl).trans ?_
  refine (val_g (c2 := (0, 1000, 618, [some (.ref 0), some (.ref 64), some (.ref 108), some (.int i)], [.ref 0, .ref 64], w)) rfl).trans ?_
  refine (val_g (c2 := (0, 1000, 619, [some (.ref 0), some (.ref 64), some (.ref 108), some (.int i)], [.int i, .ref 0, .ref 64], w)) rfl).trans ?_
  refine (val_g (c2 := (0, 1000, 620, [some (.ref 0), some (.ref 64), some (.ref 108), some (.int i)], [.int 1, .int i, .ref 0, .ref 64], w)) rfl).trans ?_
  refine (val_g (c2 := (0, 1000, 621, [some (.ref 0), some (.ref 64), some (.ref 108), some (.int i)], [.int (i + 1), .ref 0, .ref 64], w)) rfl).trans ?_
  refine (val_ial rfl hS rfl hy1).trans ?_
  show val (0, 1000, 622, [some (.ref 0), some (.ref 64), some (.ref 108), some (.int i)], [.int (gI w 0 ((i + 1)).toNatClampNeg), .ref 64], w) = _
  refine (val_g (c2 := (0, 1000, 623, [some (.ref 0), some (.ref 64), some (.ref 108), some (.int i)], [.ref 0, .int (gI w 0 ((i + 1)).toNatClampNeg), .ref 64], w)) rfl).trans ?_
  refine (val_g (c2 := (0, 1000, 624, [some (.ref 0), some (.ref 64), some (.ref 108), some (.int i)], [.int i, .ref 0, .int (gI w 0 ((i + 1)).toNatClampNeg), .ref 64], w)) rfl).trans ?_
  refine (val_g (c2 := (0, 1000, 625, [some (.ref 0), some (.ref 64), some (.ref 108), some (.int i)], [.int 2, .int i, .ref 0, .int (gI w 0 ((i + 1)).toNatClampNeg), .ref 64], w)) rfl).trans ?_
  refine (val_g (c2 := (0, 1000, 626, [some (.ref 0), some (.ref 64), some (.ref 108), some (.int i)], [.int (i + 2), .ref 0, .int (gI w 0 ((i + 1)).toNatClampNeg), .ref 64], w)) rfl).trans ?_
  refine (val_ial rfl hS rfl hy2).trans ?_
  show val (0, 1000, 627, [some (.ref 0), some (.ref 64), some (.ref 108), some (.int i)], [.int (gI w 0 ((i + 2)).toNatClampNeg), .int (gI w 0 ((i + 1)).toNatClampNeg), .ref 64], w) = _
  refine (val_call (d := 999) (w1 := w1) (pc2 := 630) rfl rfl rfl rfl (rcvO hk1 (by decide)) (Nat.le_of_ble_eq_true rfl) (Nat.le_of_ble_eq_true rfl) rfl hx rfl).trans ?_
  show val (0, 1000, 630, [some (.ref 0), some (.ref 64), some (.ref 108), some (.int i)], [.int r], w1) = _
  refine (val_g (c2 := (0, 1000, 631, [some (.ref 0), some (.ref 64), some (.ref 108), some (.int i)], [.ref 108, .int r], w1)) rfl).trans ?_
  refine (val_g (c2 := (0, 1000, 632, [some (.ref 0), some (.ref 64), some (.ref 108), some (.int i)], [.ref 0, .ref 108, .int r], w1)) rfl).trans ?_
  refine (val_g (c2 := (0, 1000, 633, [some (.ref 0), some (.ref 64), some (.ref 108), some (.int i)], [.int i, .ref 0, .ref 108, .int r], w1)) rfl).trans ?_
  refine (val_g (c2 := (0, 1000, 634, [some (.ref 0), some (.ref 64), some (.ref 108), some (.int i)], [.int 1, .int i, .ref 0, .ref 108, .int r], w1)) rfl).trans ?_
  refine (val_g (c2 := (0, 1000, 635, [some (.ref 0), some (.ref 64), some (.ref 108), some (.int i)], [.int (i + 1), .ref 0, .ref 108, .int r], w1)) rfl).trans ?_
  refine (val_ial rfl hS1 rfl hy1).trans ?_
  show val (0, 1000, 636, [some (.ref 0), some (.ref 64), some (.ref 108), some (.int i)], [.int (gI w1 0 ((i + 1)).toNatClampNeg), .ref 108, .int r], w1) = _
  refine (val_g (c2 := (0, 1000, 637, [some (.ref 0), some (.ref 64), some (.ref 108), some (.int i)], [.ref 0, .int (gI w1 0 ((i + 1)).toNatClampNeg), .ref 108, .int r], w1)) rfl).trans ?_
  refine (val_g (c2 := (0, 1000, 638, [some (.ref 0), some (.ref 64), some (.ref 108), some (.int i)], [.int i, .ref 0, .int (gI w1 0 ((i + 1)).toNatClampNeg), .ref 108, .int r], w1)) rfl).trans ?_
  refine (val_g (c2 := (0, 1000, 639, [some (.ref 0), some (.ref 64), some (.ref 108), some (.int i)], [.int 2, .int i, .ref 0, .int (gI w1 0 ((i + 1)).toNatClampNeg), .ref 108, .int r], w1)) rfl).trans ?_
  refine (val_g (c2 := (0, 1000, 640, [some (.ref 0), some (.ref 64), some (.ref 108), some (.int i)], [.int (i + 2), .ref 0, .int (gI w1 0 ((i + 1)).toNatClampNeg), .ref 108, .int r], w1)) rfl).trans ?_
  refine (val_ial rfl hS1 rfl hy2).trans ?_
  show val (0, 1000, 641, [some (.ref 0), some (.ref 64), some (.ref 108), some (.int i)], [.int (gI w1 0 ((i + 2)).toNatClampNeg), .int (gI w1 0 ((i + 1)).toNatClampNeg), .ref 108, .int r], w1) = _
  refine (val_call (d := 999) (w1 := w2) (pc2 := 644) rfl rfl rfl rfl (rcvO hk2 (by decide)) (Nat.le_of_ble_eq_true rfl) (Nat.le_of_ble_eq_true rfl) rfl hm rfl).trans ?_
  show val (0, 1000, 644, [some (.ref 0), some (.ref 64), some (.ref 108), some (.int i)], [.int r, .int r], w2) = _
  refine ((val_ic_eq rfl).trans (if_pos rfl)).trans ?_
  show val (0, 1000, 1384, [some (.ref 0), some (.ref 64), some (.ref 108), some (.int i)], [], w2) = _
  refine (val_g (c2 := (0, 1000, 1387, [some (.ref 0), some (.ref 64), some (.ref 108), some (.int (i + 6))], [], w2)) rfl).trans ?_
  refine (val_g (c2 := (0, 1000, 18, [some (.ref 0), some (.ref 64), some (.ref 108), some (.int (i + 6))], [], w2)) rfl).trans ?_
  rfl
/-- BelfryHouse.generator(I)I -/
theorem law_15 (w w1 w2 : Wd) (i : Int32) (L : Nat) (r : Int32) (hS : wK w 0 = (30, L)) (hS1 : wK w1 0 = (30, L)) (hk1 : wK w 64 = (9, 11)) (hk2 : wK w1 108 = (10, 68)) (hy1 : inB ((i + 1)) L = true) (hx : val (21, 999, 0, [some (.ref 64), some (.int (gI w 0 ((i + 1)).toNatClampNeg)), none], [], w) = some (some (.int r), w1)) (hm : val (218, 999, 0, [some (.ref 108), some (.int (gI w1 0 ((i + 1)).toNatClampNeg))], [], w1) = some (some (.int r), w2)) : val (0, 1000, 649, [some (.ref 0), some (.ref 64), some (.ref 108), some (.int i)], [], w) = val (0, 1000, 18, [some (.ref 0), some (.ref 64), some (.ref 108), some (.int (i + 6))], [], w2) := by
  refine (val_g (c2 := (0, 1000, 650, [some (.ref 0), some (.ref 64), some (.ref 108), some (.int i)], [.ref 64], w)) rfl).trans ?_
  refine (val_g (c2 := (0, 1000, 651, [some (.ref 0), some (.ref 64), some (.ref 108), some (.int i)], [.ref 0, .ref 64], w)) rfl).trans ?_
  refine (val_g (c2 := (0, 1000, 652, [some (.ref 0), some (.ref 64), some (.ref 108), some (.int i)], [.int i, .ref 0, .ref 64], w)) rfl).trans ?_
  refine (val_g (c2 := (0, 1000, 653, [some (.ref 0), some (.ref 64), some (.ref 108), some (.int i)], [.int 1, .int i, .ref 0, .ref 64], w)) rfl).trans ?_
  refine (val_g (c2 := (0, 1000, 654, [some (.ref 0), some (.ref 64), some (.ref 108), some (.int i)], [.int (i + 1), .ref 0, .ref 64], w)) rfl).trans ?_
  refine (val_ial rfl hS rfl hy1).trans ?_
  show val (0, 1000, 655, [some (.ref 0), some (.ref 64), some (.ref 108), some (.int i)], [.int (gI w 0 ((i + 1)).toNatClampNeg), .ref 64], w) = _
  refine (val_call (d := 999) (w1 := w1) (pc2 := 658) rfl rfl rfl rfl (rcvO hk1 (by decide)) (Nat.le_of_ble_eq_true rfl) (Nat.le_of_ble_eq_true rfl) rfl hx rfl).trans ?_
  show val (0, 1000, 658, [some (.ref 0), some (.ref 64), some (.ref 108), some (.int i)], [.int r], w1) = _
  refine (val_g (c2 := (0, 1000, 659, [some (.ref 0), some (.ref 64), some (.ref 108), some (.int i)], [.ref 108, .int r], w1)) rfl).trans ?_
  refine (val_g (c2 := (0, 1000, 660, [some (.ref 0), some (.ref 64), some (.ref 108), some (.int i)], [.ref 0, .ref 108, .int r], w1)) rfl).trans ?_
  refine (val_g (c2 := (0, 1000, 661, [some (.ref 0), some (.ref 64), some (.ref 108), some (.int i)], [.int i, .ref 0, .ref 108, .int r], w1)) rfl).trans ?_
  refine (val_g (c2 := (0, 1000, 662, [some (.ref 0), some (.ref 64), some (.ref 108), some (.int i)], [.int 1, .int i, .ref 0, .ref 108, .int r], w1)) rfl).trans ?_
  refine (val_g (c2 := (0, 1000, 663, [some (.ref 0), some (.ref 64), some (.ref 108), some (.int i)], [.int (i + 1), .ref 0, .ref 108, .int r], w1)) rfl).trans ?_
  refine (val_ial rfl hS1 rfl hy1).trans ?_
  show val (0, 1000, 664, [some (.ref 0), some (.ref 64), some (.ref 108), some (.int i)], [.int (gI w1 0 ((i + 1)).toNatClampNeg), .ref 108, .int r], w1) = _
  refine (val_call (d := 999) (w1 := w2) (pc2 := 667) rfl rfl rfl rfl (rcvO hk2 (by decide)) (Nat.le_of_ble_eq_true rfl) (Nat.le_of_ble_eq_true rfl) rfl hm rfl).trans ?_
  show val (0, 1000, 667, [some (.ref 0), some (.ref 64), some (.ref 108), some (.int i)], [.int r, .int r], w2) = _
  refine ((val_ic_eq rfl).trans (if_pos rfl)).trans ?_
  show val (0, 1000, 1384, [some (.ref 0), some (.ref 64), some (.ref 108), some (.int i)], [], w2) = _
  refine (val_g (c2 := (0, 1000, 1387, [some (.ref 0), some (.ref 64), some (.ref 108), some (.int (i + 6))], [], w2)) rfl).trans ?_
  refine (val_g (c2 := (0, 1000, 18, [some (.ref 0), some (.ref 64), some (.ref 108), some (.int (i + 6))], [], w2)) rfl).trans ?_
  rfl
/-- BelfryHouse.free()I -/
theorem law_16 (w w1 w2 : Wd) (i : Int32) (L : Nat) (r : Int32) (hS : wK w 0 = (30, L)) (hS1 : wK w1 0 = (30, L)) (hk1 : wK w 64 = (9, 11)) (hk2 : wK w1 108 = (10, 68)) (hx : val (22, 999, 0, [some (.ref 64), none], [], w) = some (some (.int r), w1)) (hm : val (219, 999, 0, [some (.ref 108), none], [], w1) = some (some (.int r), w2)) : val (0, 1000, 672, [some (.ref 0), some (.ref 64), some (.ref 108), some (.int i)], [], w) = val (0, 1000, 18, [some (.ref 0), some (.ref 64), some (.ref 108), some (.int (i + 6))], [], w2) := by
  refine (val_g (c2 := (0, 1000, 673, [some (.ref 0), some (.ref 64), some (.ref 108), some (.int i)], [.ref 64], w)) rfl).trans ?_
  refine (val_call (d := 999) (w1 := w1) (pc2 := 676) rfl rfl rfl rfl (rcvO hk1 (by decide)) (Nat.le_of_ble_eq_true rfl) (Nat.le_of_ble_eq_true rfl) rfl hx rfl).trans ?_
  show val (0, 1000, 676, [some (.ref 0), some (.ref 64), some (.ref 108), some (.int i)], [.int r], w1) = _
  refine (val_g (c2 := (0, 1000, 677, [some (.ref 0), some (.ref 64), some (.ref 108), some (.int i)], [.ref 108, .int r], w1)) rfl).trans ?_
  refine (val_call (d := 999) (w1 := w2) (pc2 := 680) rfl rfl rfl rfl (rcvO hk2 (by decide)) (Nat.le_of_ble_eq_true rfl) (Nat.le_of_ble_eq_true rfl) rfl hm rfl).trans ?_
  show val (0, 1000, 680, [some (.ref 0), some (.ref 64), some (.ref 108), some (.int i)], [.int r, .int r], w2) = _
  refine ((val_ic_eq rfl).trans (if_pos rfl)).trans ?_
  show val (0, 1000, 1384, [some (.ref 0), some (.ref 64), some (.ref 108), some (.int i)], [], w2) = _
  refine (val_g (c2 := (0, 1000, 1387, [some (.ref 0), some (.ref 64), some (.ref 108), some (.int (i + 6))], [], w2)) rfl).trans ?_
  refine (val_g (c2 := (0, 1000, 18, [some (.ref 0), some (.ref 64), some (.ref 108), some (.int (i + 6))], [], w2)) rfl).trans ?_
  rfl
/-- BelfryHouse.group()I -/
theorem law_17 (w w1 w2 : Wd) (i : Int32) (L : Nat) (r : Int32) (hS : wK w 0 = (30, L)) (hS1 : wK w1 0 = (30, L)) (hk1 : wK w 64 = (9, 11)) (hk2 : wK w1 108 = (10, 68)) (hx : val (23, 999, 0, [some (.ref 64)], [], w) = some (some (.int r), w1)) (hm : val (221, 999, 0, [some (.ref 108)], [], w1) = some (some (.int r), w2)) : val (0, 1000, 685, [some (.ref 0), some (.ref 64), some (.ref 108), some (.int i)], [], w) = val (0, 1000, 18, [some (.ref 0), some (.ref 64), some (.ref 108), some (.int (i + 6))], [], w2) := by
  refine (val_g (c2 := (0, 1000, 686, [some (.ref 0), some (.ref 64), some (.ref 108), some (.int i)], [.ref 64], w)) rfl).trans ?_
  refine (val_call (d := 999) (w1 := w1) (pc2 := 689) rfl rfl rfl rfl (rcvO hk1 (by decide)) (Nat.le_of_ble_eq_true rfl) (Nat.le_of_ble_eq_true rfl) rfl hx rfl).trans ?_
  show val (0, 1000, 689, [some (.ref 0), some (.ref 64), some (.ref 108), some (.int i)], [.int r], w1) = _
  refine (val_g (c2 := (0, 1000, 690, [some (.ref 0), some (.ref 64), some (.ref 108), some (.int i)], [.ref 108, .int r], w1)) rfl).trans ?_
  refine (val_call (d := 999) (w1 := w2) (pc2 := 693) rfl rfl rfl rfl (rcvO hk2 (by decide)) (Nat.le_of_ble_eq_true rfl) (Nat.le_of_ble_eq_true rfl) rfl hm rfl).trans ?_
  show val (0, 1000, 693, [some (.ref 0), some (.ref 64), some (.ref 108), some (.int i)], [.int r, .int r], w2) = _
  refine ((val_ic_eq rfl).trans (if_pos rfl)).trans ?_
  show val (0, 1000, 1384, [some (.ref 0), some (.ref 64), some (.ref 108), some (.int i)], [], w2) = _
  refine (val_g (c2 := (0, 1000, 1387, [some (.ref 0), some (.ref 64), some (.ref 108), some (.int (i + 6))], [], w2)) rfl).trans ?_
  refine (val_g (c2 := (0, 1000, 18, [some (.ref 0), some (.ref 64), some (.ref 108), some (.int (i + 6))], [], w2)) rfl).trans ?_
  rfl
/-- BelfryHouse.coset(I)I -/
theorem law_18 (w w1 w2 : Wd) (i : Int32) (L : Nat) (r : Int32) (hS : wK w 0 = (30, L)) (hS1 : wK w1 0 = (30, L)) (hk1 : wK w 64 = (9, 11)) (hk2 : wK w1 108 = (10, 68)) (hy1 : inB ((i + 1)) L = true) (hx : val (24, 999, 0, [some (.ref 64), some (.int (gI w 0 ((i + 1)).toNatClampNeg)), none], [], w) = some (some (.int r), w1)) (hm : val (222, 999, 0, [some (.ref 108), some (.int (gI w1 0 ((i + 1)).toNatClampNeg)), none, none, none], [], w1) = some (some (.int r), w2)) : val (0, 1000, 698, [some (.ref 0), some (.ref 64), some (.ref 108), some (.int i)], [], w) = val (0, 1000, 18, [some (.ref 0), some (.ref 64), some (.ref 108), some (.int (i + 6))], [], w2) := by
  refine (val_g (c2 := (0, 1000, 699, [some (.ref 0), some (.ref 64), some (.ref 108), some (.int i)], [.ref 64], w)) rfl).trans ?_
  refine (val_g (c2 := (0, 1000, 700, [some (.ref 0), some (.ref 64), some (.ref 108), some (.int i)], [.ref 0, .ref 64], w)) rfl).trans ?_
  refine (val_g (c2 := (0, 1000, 701, [some (.ref 0), some (.ref 64), some (.ref 108), some (.int i)], [.int i, .ref 0, .ref 64], w)) rfl).trans ?_
  refine (val_g (c2 := (0, 1000, 702, [some (.ref 0), some (.ref 64), some (.ref 108), some (.int i)], [.int 1, .int i, .ref 0, .ref 64], w)) rfl).trans ?_
  refine (val_g (c2 := (0, 1000, 703, [some (.ref 0), some (.ref 64), some (.ref 108), some (.int i)], [.int (i + 1), .ref 0, .ref 64], w)) rfl).trans ?_
  refine (val_ial rfl hS rfl hy1).trans ?_
  show val (0, 1000, 704, [some (.ref 0), some (.ref 64), some (.ref 108), some (.int i)], [.int (gI w 0 ((i + 1)).toNatClampNeg), .ref 64], w) = _
  refine (val_call (d := 999) (w1 := w1) (pc2 := 707) rfl rfl rfl rfl (rcvO hk1 (by decide)) (Nat.le_of_ble_eq_true rfl) (Nat.le_of_ble_eq_true rfl) rfl hx rfl).trans ?_
  show val (0, 1000, 707, [some (.ref 0), some (.ref 64), some (.ref 108), some (.int i)], [.int r], w1) = _
  refine (val_g (c2 := (0, 1000, 708, [some (.ref 0), some (.ref 64), some (.ref 108), some (.int i)], [.ref 108, .int r], w1)) rfl).trans ?_
  refine (val_g (c2 := (0, 1000, 709, [some (.ref 0), some (.ref 64), some (.ref 108), some (.int i)], [.ref 0, .ref 108, .int r], w1)) rfl).trans ?_
  refine (val_g (c2 := (0, 1000, 710, [some (.ref 0), some (.ref 64), some (.ref 108), some (.int i)], [.int i, .ref 0, .ref 108, .int r], w1)) rfl).trans ?_
  refine (val_g (c2 := (0, 1000, 711, [some (.ref 0), some (.ref 64), some (.ref 108), some (.int i)], [.int 1, .int i, .ref 0, .ref 108, .int r], w1)) rfl).trans ?_
  refine (val_g (c2 := (0, 1000, 712, [some (.ref 0), some (.ref 64), some (.ref 108), some (.int i)], [.int (i + 1), .ref 0, .ref 108, .int r], w1)) rfl).trans ?_
  refine (val_ial rfl hS1 rfl hy1).trans ?_
  show val (0, 1000, 713, [some (.ref 0), some (.ref 64), some (.ref 108), some (.int i)], [.int (gI w1 0 ((i + 1)).toNatClampNeg), .ref 108, .int r], w1) = _
  refine (val_call (d := 999) (w1 := w2) (pc2 := 716) rfl rfl rfl rfl (rcvO hk2 (by decide)) (Nat.le_of_ble_eq_true rfl) (Nat.le_of_ble_eq_true rfl) rfl hm rfl).trans ?_
  show val (0, 1000, 716, [some (.ref 0), some (.ref 64), some (.ref 108), some (.int i)], [.int r, .int r], w2) = _
  refine ((val_ic_eq rfl).trans (if_pos rfl)).trans ?_
  show val (0, 1000, 1384, [some (.ref 0), some (.ref 64), some (.ref 108), some (.int i)], [], w2) = _
  refine (val_g (c2 := (0, 1000, 1387, [some (.ref 0), some (.ref 64), some (.ref 108), some (.int (i + 6))], [], w2)) rfl).trans ?_
  refine (val_g (c2 := (0, 1000, 18, [some (.ref 0), some (.ref 64), some (.ref 108), some (.int (i + 6))], [], w2)) rfl).trans ?_
  rfl
/-- BelfryHouse.heads(II)I -/
theorem law_19 (w w1 w2 : Wd) (i : Int32) (L : Nat) (r : Int32) (hS : wK w 0 = (30, L)) (hS1 : wK w1 0 = (30, L)) (hk1 : wK w 64 = (9, 11)) (hk2 : wK w1 108 = (10, 68)) (hy1 : inB ((i + 1)) L = true) (hy2 : inB ((i + 2)) L = true) (hx : val (25, 999, 0, [some (.ref 64), some (.int (gI w 0 ((i + 1)).toNatClampNeg)), some (.int (gI w 0 ((i + 2)).toNatClampNeg))], [], w) = some (some (.int r), w1)) (hm : val (223, 999, 0, [some (.ref 108), some (.int (gI w1 0 ((i + 1)).toNatClampNeg)), some (.int (gI w1 0 ((i + 2)).toNatClampNeg)), none, none], [], w1) = some (some (.int r), w2)) : val (0, 1000, 721, [some (.ref 0), some (.ref 64), some (.ref 108), some (.int i)], [], w) = val (0, 1000, 18, [some (.ref 0), some (.ref 64), some (.ref 108), some (.int (i + 6))], [], w2) := by
  refine (val_g (c2 := (0, 1000, 722, [some (.ref 0), some (.ref 64), some (.ref 108), some (.int i)], [.ref 64], w)) rfl).trans ?_
  refine (val_g (c2 := (0, 1000, 723, [some (.ref 0), some (.ref 64), some (.ref 108), some (.int i)], [.ref 0, .ref 64], w)) rfl).trans ?_
  refine (val_g (c2 := (0, 1000, 724, [some (.ref 0), some (.ref 64), some (.ref 108), some (.int i)], [.int i, .ref 0, .ref 64], w)) rfl).trans ?_
  refine (val_g (c2 := (0, 1000, 725, [some (.ref 0), some (.ref 64), some (.ref 108), some (.int i)], [.int 1, .int i, .ref 0, .ref 64], w)) rfl).trans ?_
  refine (val_g (c2 := (0, 1000, 726, [some (.ref 0), some (.ref 64), some (.ref 108), some (.int i)], [.int (i + 1), .ref 0, .ref 64], w)) rfl).trans ?_
  refine (val_ial rfl hS rfl hy1).trans ?_
  show val (0, 1000, 727, [some (.ref 0), some (.ref 64), some (.ref 108), some (.int i)], [.int (gI w 0 ((i + 1)).toNatClampNeg), .ref 64], w) = _
  refine (val_g (c2 := (0, 1000, 728, [some (.ref 0), some (.ref 64), some (.ref 108), some (.int i)], [.ref 0, .int (gI w 0 ((i + 1)).toNatClampNeg), .ref 64], w)) rfl).trans ?_
  refine (val_g (c2 := (0, 1000, 729, [some (.ref 0), some (.ref 64), some (.ref 108), some (.int i)], [.int i, .ref 0, .int (gI w 0 ((i + 1)).toNatClampNeg), .ref 64], w)) rfl).trans ?_
  refine (val_g (c2 := (0, 1000, 730, [some (.ref 0), some (.ref 64), some (.ref 108), some (.int i)], [.int 2, .int i, .ref 0, .int (gI w 0 ((i + 1)).toNatClampNeg), .ref 64], w)) rfl).trans ?_
  refine (val_g (c2 := (0, 1000, 731, [some (.ref 0), some (.ref 64), some (.ref 108), some (.int i)], [.int (i + 2), .ref 0, .int (gI w 0 ((i + 1)).toNatClampNeg), .ref 64], w)) rfl).trans ?_
  refine (val_ial rfl hS rfl hy2).trans ?_
  show val (0, 1000, 732, [some (.ref 0), some (.ref 64), some (.ref 108), some (.int i)], [.int (gI w 0 ((i + 2)).toNatClampNeg), .int (gI w 0 ((i + 1)).toNatClampNeg), .ref 64], w) = _
  refine (val_call (d := 999) (w1 := w1) (pc2 := 735) rfl rfl rfl rfl (rcvO hk1 (by decide)) (Nat.le_of_ble_eq_true rfl) (Nat.le_of_ble_eq_true rfl) rfl hx rfl).trans ?_
  show val (0, 1000, 735, [some (.ref 0), some (.ref 64), some (.ref 108), some (.int i)], [.int r], w1) = _
  refine (val_g (c2 := (0, 1000, 736, [some (.ref 0), some (.ref 64), some (.ref 108), some (.int i)], [.ref 108, .int r], w1)) rfl).trans ?_
  refine (val_g (c2 := (0, 1000, 737, [some (.ref 0), some (.ref 64), some (.ref 108), some (.int i)], [.ref 0, .ref 108, .int r], w1)) rfl).trans ?_
  refine (val_g (c2 := (0, 1000, 738, [some (.ref 0), some (.ref 64), some (.ref 108), some (.int i)], [.int i, .ref 0, .ref 108, .int r], w1)) rfl).trans ?_
  refine (val_g (c2 := (0, 1000, 739, [some (.ref 0), some (.ref 64), some (.ref 108), some (.int i)], [.int 1, .int i, .ref 0, .ref 108, .int r], w1)) rfl).trans ?_
  refine (val_g (c2 := (0, 1000, 740, [some (.ref 0), some (.ref 64), some (.ref 108), some (.int i)], [.int (i + 1), .ref 0, .ref 108, .int r], w1)) rfl).trans ?_
  refine (val_ial rfl hS1 rfl hy1).trans ?_
  show val (0, 1000, 741, [some (.ref 0), some (.ref 64), some (.ref 108), some (.int i)], [.int (gI w1 0 ((i + 1)).toNatClampNeg), .ref 108, .int r], w1) = _
  refine (val_g (c2 := (0, 1000, 742, [some (.ref 0), some (.ref 64), some (.ref 108), some (.int i)], [.ref 0, .int (gI w1 0 ((i + 1)).toNatClampNeg), .ref 108, .int r], w1)) rfl).trans ?_
  refine (val_g (c2 := (0, 1000, 743, [some (.ref 0), some (.ref 64), some (.ref 108), some (.int i)], [.int i, .ref 0, .int (gI w1 0 ((i + 1)).toNatClampNeg), .ref 108, .int r], w1)) rfl).trans ?_
  refine (val_g (c2 := (0, 1000, 744, [some (.ref 0), some (.ref 64), some (.ref 108), some (.int i)], [.int 2, .int i, .ref 0, .int (gI w1 0 ((i + 1)).toNatClampNeg), .ref 108, .int r], w1)) rfl).trans ?_
  refine (val_g (c2 := (0, 1000, 745, [some (.ref 0), some (.ref 64), some (.ref 108), some (.int i)], [.int (i + 2), .ref 0, .int (gI w1 0 ((i + 1)).toNatClampNeg), .ref 108, .int r], w1)) rfl).trans ?_
  refine (val_ial rfl hS1 rfl hy2).trans ?_
  show val (0, 1000, 746, [some (.ref 0), some (.ref 64), some (.ref 108), some (.int i)], [.int (gI w1 0 ((i + 2)).toNatClampNeg), .int (gI w1 0 ((i + 1)).toNatClampNeg), .ref 108, .int r], w1) = _
  refine (val_call (d := 999) (w1 := w2) (pc2 := 749) rfl rfl rfl rfl (rcvO hk2 (by decide)) (Nat.le_of_ble_eq_true rfl) (Nat.le_of_ble_eq_true rfl) rfl hm rfl).trans ?_
  show val (0, 1000, 749, [some (.ref 0), some (.ref 64), some (.ref 108), some (.int i)], [.int r, .int r], w2) = _
  refine ((val_ic_eq rfl).trans (if_pos rfl)).trans ?_
  show val (0, 1000, 1384, [some (.ref 0), some (.ref 64), some (.ref 108), some (.int i)], [], w2) = _
  refine (val_g (c2 := (0, 1000, 1387, [some (.ref 0), some (.ref 64), some (.ref 108), some (.int (i + 6))], [], w2)) rfl).trans ?_
  refine (val_g (c2 := (0, 1000, 18, [some (.ref 0), some (.ref 64), some (.ref 108), some (.int (i + 6))], [], w2)) rfl).trans ?_
  rfl
/-- BelfryHouse.head(I)I -/
theorem law_20 (w w1 w2 : Wd) (i : Int32) (L : Nat) (r : Int32) (hS : wK w 0 = (30, L)) (hS1 : wK w1 0 = (30, L)) (hk1 : wK w 64 = (9, 11)) (hk2 : wK w1 108 = (10, 68)) (hy1 : inB ((i + 1)) L = true) (hx : val (26, 999, 0, [some (.ref 64), some (.int (gI w 0 ((i + 1)).toNatClampNeg))], [], w) = some (some (.int r), w1)) (hm : val (224, 999, 0, [some (.ref 108), some (.int (gI w1 0 ((i + 1)).toNatClampNeg))], [], w1) = some (some (.int r), w2)) : val (0, 1000, 754, [some (.ref 0), some (.ref 64), some (.ref 108), some (.int i)], [], w) = val (0, 1000, 18, [some (.ref 0), some (.ref 64), some (.ref 108), some (.int (i + 6))], [], w2) := by
  refine (val_g (c2 := (0, 1000, 755, [some (.ref 0), some (.ref 64), some (.ref 108), some (.int i)], [.ref 64], w)) rfl).trans ?_
  refine (val_g (c2 := (0, 1000, 756, [some (.ref 0), some (.ref 64), some (.ref 108), some (.int i)], [.ref 0, .ref 64], w)) rfl).trans ?_
  refine (val_g (c2 := (0, 1000, 757, [some (.ref 0), some (.ref 64), some (.ref 108), some (.int i)], [.int i, .ref 0, .ref 64], w)) rfl).trans ?_
  refine (val_g (c2 := (0, 1000, 758, [some (.ref 0), some (.ref 64), some (.ref 108), some (.int i)], [.int 1, .int i, .ref 0, .ref 64], w)) rfl).trans ?_
  refine (val_g (c2 := (0, 1000, 759, [some (.ref 0), some (.ref 64), some (.ref 108), some (.int i)], [.int (i + 1), .ref 0, .ref 64], w)) rfl).trans ?_
  refine (val_ial rfl hS rfl hy1).trans ?_
  show val (0, 1000, 760, [some (.ref 0), some (.ref 64), some (.ref 108), some (.int i)], [.int (gI w 0 ((i + 1)).toNatClampNeg), .ref 64], w) = _
  refine (val_call (d := 999) (w1 := w1) (pc2 := 763) rfl rfl rfl rfl (rcvO hk1 (by decide)) (Nat.le_of_ble_eq_true rfl) (Nat.le_of_ble_eq_true rfl) rfl hx rfl).trans ?_
  show val (0, 1000, 763, [some (.ref 0), some (.ref 64), some (.ref 108), some (.int i)], [.int r], w1) = _
  refine (val_g (c2 := (0, 1000, 764, [some (.ref 0), some (.ref 64), some (.ref 108), some (.int i)], [.ref 108, .int r], w1)) rfl).trans ?_
  refine (val_g (c2 := (0, 1000, 765, [some (.ref 0), some (.ref 64), some (.ref 108), some (.int i)], [.ref 0, .ref 108, .int r], w1)) rfl).trans ?_
  refine (val_g (c2 := (0, 1000, 766, [some (.ref 0), some (.ref 64), some (.ref 108), some (.int i)], [.int i, .ref 0, .ref 108, .int r], w1)) rfl).trans ?_
  refine (val_g (c2 := (0, 1000, 767, [some (.ref 0), some (.ref 64), some (.ref 108), some (.int i)], [.int 1, .int i, .ref 0, .ref 108, .int r], w1)) rfl).trans ?_
  refine (val_g (c2 := (0, 1000, 768, [some (.ref 0), some (.ref 64), some (.ref 108), some (.int i)], [.int (i + 1), .ref 0, .ref 108, .int r], w1)) rfl).trans ?_
  refine (val_ial rfl hS1 rfl hy1).trans ?_
  show val (0, 1000, 769, [some (.ref 0), some (.ref 64), some (.ref 108), some (.int i)], [.int (gI w1 0 ((i + 1)).toNatClampNeg), .ref 108, .int r], w1) = _
  refine (val_call (d := 999) (w1 := w2) (pc2 := 772) rfl rfl rfl rfl (rcvO hk2 (by decide)) (Nat.le_of_ble_eq_true rfl) (Nat.le_of_ble_eq_true rfl) rfl hm rfl).trans ?_
  show val (0, 1000, 772, [some (.ref 0), some (.ref 64), some (.ref 108), some (.int i)], [.int r, .int r], w2) = _
  refine ((val_ic_eq rfl).trans (if_pos rfl)).trans ?_
  show val (0, 1000, 1384, [some (.ref 0), some (.ref 64), some (.ref 108), some (.int i)], [], w2) = _
  refine (val_g (c2 := (0, 1000, 1387, [some (.ref 0), some (.ref 64), some (.ref 108), some (.int (i + 6))], [], w2)) rfl).trans ?_
  refine (val_g (c2 := (0, 1000, 18, [some (.ref 0), some (.ref 64), some (.ref 108), some (.int (i + 6))], [], w2)) rfl).trans ?_
  rfl
/-- BelfryHouse.ringer(III)I -/
theorem law_21 (w w1 w2 : Wd) (i : Int32) (L : Nat) (r : Int32) (hS : wK w 0 = (30, L)) (hS1 : wK w1 0 = (30, L)) (hk1 : wK w 64 = (9, 11)) (hk2 : wK w1 108 = (10, 68)) (hy1 : inB ((i + 1)) L = true) (hy2 : inB ((i + 2)) L = true) (hy3 : inB ((i + 3)) L = true) (hx : val (27, 999, 0, [some (.ref 64), some (.int (gI w 0 ((i + 1)).toNatClampNeg)), some (.int (gI w 0 ((i + 2)).toNatClampNeg)), some (.int (gI w 0 ((i + 3)).toNatClampNeg))], [], w) = some (some (.int r), w1)) (hm : val (225, 999, 0, [some (.ref 108), some (.int (gI w1 0 ((i + 1)).toNatClampNeg)), some (.int (gI w1 0 ((i + 2)).toNatClampNeg)), some (.int (gI w1 0 ((i + 3)).toNatClampNeg))], [], w1) = some (some (.int r), w2)) : val (0, 1000, 777, [some (.ref 0), some (.ref 64), some (.ref 108), some (.int i)], [], w) = val (0, 1000, 18, [some (.ref 0), some (.ref 64), some (.ref 108), some (.int (i + 6))], [], w2) := by
  refine (val_g (c2 := (0, 1000, 778, [some (.ref 0), some (.ref 64), some (.ref 108), some (.int i)], [.ref 64], w)) rfl).trans ?_
  refine (val_g (c2 := (0, 1000, 779, [some (.ref 0), some (.ref 64), some (.ref 108), some (.int i)], [.ref 0, .ref 64], w)) rfl).trans ?_
  refine (val_g (c2 := (0, 1000, 780, [some (.ref 0), some (.ref 64), some (.ref 108), some (.int i)], [.int i, .ref 0, .ref 64], w)) rfl).trans ?_
  refine (val_g (c2 := (0, 1000, 781, [some (.ref 0), some (.ref 64), some (.ref 108), some (.int i)], [.int 1, .int i, .ref 0, .ref 64], w)) rfl).trans ?_
  refine (val_g (c2 := (0, 1000, 782, [some (.ref 0), some (.ref 64), some (.ref 108), some (.int i)], [.int (i + 1), .ref 0, .ref 64], w)) rfl).trans ?_
  refine (val_ial rfl hS rfl hy1).trans ?_
  show val (0, 1000, 783, [some (.ref 0), some (.ref 64), some (.ref 108), some (.int i)], [.int (gI w 0 ((i + 1)).toNatClampNeg), .ref 64], w) = _
  refine (val_g (c2 := (0, 1000, 784, [some (.ref 0), some (.ref 64), some (.ref 108), some (.int i)], [.ref 0, .int (gI w 0 ((i + 1)).toNatClampNeg), .ref 64], w)) rfl).trans ?_
  refine (val_g (c2 := (0, 1000, 785, [some (.ref 0), some (.ref 64), some (.ref 108), some (.int i)], [.int i, .ref 0, .int (gI w 0 ((i + 1)).toNatClampNeg), .ref 64], w)) rfl).trans ?_
  refine (val_g (c2 := (0, 1000, 786, [some (.ref 0), some (.ref 64), some (.ref 108), some (.int i)], [.int 2, .int i, .ref 0, .int (gI w 0 ((i + 1)).toNatClampNeg), .ref 64], w)) rfl).trans ?_
  refine (val_g (c2 := (0, 1000, 787, [some (.ref 0), some (.ref 64), some (.ref 108), some (.int i)], [.int (i + 2), .ref 0, .int (gI w 0 ((i + 1)).toNatClampNeg), .ref 64], w)) rfl).trans ?_
  refine (val_ial rfl hS rfl hy2).trans ?_
  show val (0, 1000, 788, [some (.ref 0), some (.ref 64), some (.ref 108), some (.int i)], [.int (gI w 0 ((i + 2)).toNatClampNeg), .int (gI w 0 ((i + 1)).toNatClampNeg), .ref 64], w) = _
  refine (val_g (c2 := (0, 1000, 789, [some (.ref 0), some (.ref 64), some (.ref 108), some (.int i)], [.ref 0, .int (gI w 0 ((i + 2)).toNatClampNeg), .int (gI w 0 ((i + 1)).toNatClampNeg), .ref 64], w)) rfl).trans ?_
  refine (val_g (c2 := (0, 1000, 790, [some (.ref 0), some (.ref 64), some (.ref 108), some (.int i)], [.int i, .ref 0, .int (gI w 0 ((i + 2)).toNatClampNeg), .int (gI w 0 ((i + 1)).toNatClampNeg), .ref 64], w)) rfl).trans ?_
  refine (val_g (c2 := (0, 1000, 791, [some (.ref 0), some (.ref 64), some (.ref 108), some (.int i)], [.int 3, .int i, .ref 0, .int (gI w 0 ((i + 2)).toNatClampNeg), .int (gI w 0 ((i + 1)).toNatClampNeg), .ref 64], w)) rfl).trans ?_
  refine (val_g (c2 := (0, 1000, 792, [some (.ref 0), some (.ref 64), some (.ref 108), some (.int i)], [.int (i + 3), .ref 0, .int (gI w 0 ((i + 2)).toNatClampNeg), .int (gI w 0 ((i + 1)).toNatClampNeg), .ref 64], w)) rfl).trans ?_
  refine (val_ial rfl hS rfl hy3).trans ?_
  show val (0, 1000, 793, [some (.ref 0), some (.ref 64), some (.ref 108), some (.int i)], [.int (gI w 0 ((i + 3)).toNatClampNeg), .int (gI w 0 ((i + 2)).toNatClampNeg), .int (gI w 0 ((i + 1)).toNatClampNeg), .ref 64], w) = _
  refine (val_call (d := 999) (w1 := w1) (pc2 := 796) rfl rfl rfl rfl (rcvO hk1 (by decide)) (Nat.le_of_ble_eq_true rfl) (Nat.le_of_ble_eq_true rfl) rfl hx rfl).trans ?_
  show val (0, 1000, 796, [some (.ref 0), some (.ref 64), some (.ref 108), some (.int i)], [.int r], w1) = _
  refine (val_g (c2 := (0, 1000, 797, [some (.ref 0), some (.ref 64), some (.ref 108), some (.int i)], [.ref 108, .int r], w1)) rfl).trans ?_
  refine (val_g (c2 := (0, 1000, 798, [some (.ref 0), some (.ref 64), some (.ref 108), some (.int i)], [.ref 0, .ref 108, .int r], w1)) rfl).trans ?_
  refine (val_g (c2 := (0, 1000, 799, [some (.ref 0), some (.ref 64), some (.ref 108), some (.int i)], [.int i, .ref 0, .ref 108, .int r], w1)) rfl).trans ?_
  refine (val_g (c2 := (0, 1000, 800, [some (.ref 0), some (.ref 64), some (.ref 108), some (.int i)], [.int 1, .int i, .ref 0, .ref 108, .int r], w1)) rfl).trans ?_
  refine (val_g (c2 := (0, 1000, 801, [some (.ref 0), some (.ref 64), some (.ref 108), some (.int i)], [.int (i + 1), .ref 0, .ref 108, .int r], w1)) rfl).trans ?_
  refine (val_ial rfl hS1 rfl hy1).trans ?_
  show val (0, 1000, 802, [some (.ref 0), some (.ref 64), some (.ref 108), some (.int i)], [.int (gI w1 0 ((i + 1)).toNatClampNeg), .ref 108, .int r], w1) = _
  refine (val_g (c2 := (0, 1000, 803, [some (.ref 0), some (.ref 64), some (.ref 108), some (.int i)], [.ref 0, .int (gI w1 0 ((i + 1)).toNatClampNeg), .ref 108, .int r], w1)) rfl).trans ?_
  refine (val_g (c2 := (0, 1000, 804, [some (.ref 0), some (.ref 64), some (.ref 108), some (.int i)], [.int i, .ref 0, .int (gI w1 0 ((i + 1)).toNatClampNeg), .ref 108, .int r], w1)) rfl).trans ?_
  refine (val_g (c2 := (0, 1000, 805, [some (.ref 0), some (.ref 64), some (.ref 108), some (.int i)], [.int 2, .int i, .ref 0, .int (gI w1 0 ((i + 1)).toNatClampNeg), .ref 108, .int r], w1)) rfl).trans ?_
  refine (val_g (c2 := (0, 1000, 806, [some (.ref 0), some (.ref 64), some (.ref 108), some (.int i)], [.int (i + 2), .ref 0, .int (gI w1 0 ((i + 1)).toNatClampNeg), .ref 108, .int r], w1)) rfl).trans ?_
  refine (val_ial rfl hS1 rfl hy2).trans ?_
  show val (0, 1000, 807, [some (.ref 0), some (.ref 64), some (.ref 108), some (.int i)], [.int (gI w1 0 ((i + 2)).toNatClampNeg), .int (gI w1 0 ((i + 1)).toNatClampNeg), .ref 108, .int r], w1) = _
  refine (val_g (c2 := (0, 1000, 808, [some (.ref 0), some (.ref 64), some (.ref 108), some (.int i)], [.ref 0, .int (gI w1 0 ((i + 2)).toNatClampNeg), .int (gI w1 0 ((i + 1)).toNatClampNeg), .ref 108, .int r], w1)) rfl).trans ?_
  refine (val_g (c2 := (0, 1000, 809, [some (.ref 0), some (.ref 64), some (.ref 108), some (.int i)], [.int i, .ref 0, .int (gI w1 0 ((i + 2)).toNatClampNeg), .int (gI w1 0 ((i + 1)).toNatClampNeg), .ref 108, .int r], w1)) rfl).trans ?_
  refine (val_g (c2 := (0, 1000, 810, [some (.ref 0), some (.ref 64), some (.ref 108), some (.int i)], [.int 3, .int i, .ref 0, .int (gI w1 0 ((i + 2)).toNatClampNeg), .int (gI w1 0 ((i + 1)).toNatClampNeg), .ref 108, .int r], w1)) rfl).trans ?_
  refine (val_g (c2 := (0, 1000, 811, [some (.ref 0), some (.ref 64), some (.ref 108), some (.int i)], [.int (i + 3), .ref 0, .int (gI w1 0 ((i + 2)).toNatClampNeg), .int (gI w1 0 ((i + 1)).toNatClampNeg), .ref 108, .int r], w1)) rfl).trans ?_
  refine (val_ial rfl hS1 rfl hy3).trans ?_
  show val (0, 1000, 812, [some (.ref 0), some (.ref 64), some (.ref 108), some (.int i)], [.int (gI w1 0 ((i + 3)).toNatClampNeg), .int (gI w1 0 ((i + 2)).toNatClampNeg), .int (gI w1 0 ((i + 1)).toNatClampNeg), .ref 108, .int r], w1) = _
  refine (val_call (d := 999) (w1 := w2) (pc2 := 815) rfl rfl rfl rfl (rcvO hk2 (by decide)) (Nat.le_of_ble_eq_true rfl) (Nat.le_of_ble_eq_true rfl) rfl hm rfl).trans ?_
  show val (0, 1000, 815, [some (.ref 0), some (.ref 64), some (.ref 108), some (.int i)], [.int r, .int r], w2) = _
  refine ((val_ic_eq rfl).trans (if_pos rfl)).trans ?_
  show val (0, 1000, 1384, [some (.ref 0), some (.ref 64), some (.ref 108), some (.int i)], [], w2) = _
  refine (val_g (c2 := (0, 1000, 1387, [some (.ref 0), some (.ref 64), some (.ref 108), some (.int (i + 6))], [], w2)) rfl).trans ?_
  refine (val_g (c2 := (0, 1000, 18, [some (.ref 0), some (.ref 64), some (.ref 108), some (.int (i + 6))], [], w2)) rfl).trans ?_
  rfl
/-- BelfryHouse.band(III)I -/
theorem law_22 (w w1 w2 : Wd) (i : Int32) (L : Nat) (r : Int32) (hS : wK w 0 = (30, L)) (hS1 : wK w1 0 = (30, L)) (hk1 : wK w 64 = (9, 11)) (hk2 : wK w1 108 = (10, 68)) (hy1 : inB ((i + 1)) L = true) (hy2 : inB ((i + 2)) L = true) (hy3 : inB ((i + 3)) L = true) (hx : val (28, 999, 0, [some (.ref 64), some (.int (gI w 0 ((i + 1)).toNatClampNeg)), some (.int (gI w 0 ((i + 2)).toNatClampNeg)), some (.int (gI w 0 ((i + 3)).toNatClampNeg)), none, none], [], w) = some (some (.int r), w1)) (hm : val (227, 999, 0, [some (.ref 108), some (.int (gI w1 0 ((i + 1)).toNatClampNeg)), some (.int (gI w1 0 ((i + 2)).toNatClampNeg)), some (.int (gI w1 0 ((i + 3)).toNatClampNeg)), none, none, none, none, none, none, none, none, none], [], w1) = some (some (.int r), w2)) : val (0, 1000, 820, [some (.ref 0), some (.ref 64), some (.ref 108), some (.int i)], [], w) = val (0, 1000, 18, [some (.ref 0), some (.ref 64), some (.ref 108), some (.int (i + 6))], [], w2) := by
  refine (val_g (c2 := (0, 1000, 821, [some (.ref 0), some (.ref 64), some (.ref 108), some (.int i)], [.ref 64], w)) rfl).trans ?_
  refine (val_g (c2 := (0, 1000, 822, [some (.ref 0), some (.ref 64), some (.ref 108), some (.int i)], [.ref 0, .ref 64], w)) rfl).trans ?_
  refine (val_g (c2 := (0, 1000, 823, [some (.ref 0), some (.ref 64), some (.ref 108), some (.int i)], [.int i, .ref 0, .ref 64], w)) rfl).trans ?_
  refine (val_g (c2 := (0, 1000, 824, [some (.ref 0), some (.ref 64), some (.ref 108), some (.int i)], [.int 1, .int i, .ref 0, .ref 64], w)) rfl).trans ?_
  refine (val_g (c2 := (0, 1000, 825, [some (.ref 0), some (.ref 64), some (.ref 108), some (.int i)], [.int (i + 1), .ref 0, .ref 64], w)) rfl).trans ?_
  refine (val_ial rfl hS rfl hy1).trans ?_
  show val (0, 1000, 826, [some (.ref 0), some (.ref 64), some (.ref 108), some (.int i)], [.int (gI w 0 ((i + 1)).toNatClampNeg), .ref 64], w) = _
  refine (val_g (c2 := (0, 1000, 827, [some (.ref 0), some (.ref 64), some (.ref 108), some (.int i)], [.ref 0, .int (gI w 0 ((i + 1)).toNatClampNeg), .ref 64], w)) rfl).trans ?_
  refine (val_g (c2 := (0, 1000, 828, [some (.ref 0), some (.ref 64), some (.ref 108), some (.int i)], [.int i, .ref 0, .int (gI w 0 ((i + 1)).toNatClampNeg), .ref 64], w)) rfl).trans ?_
  refine (val_g (c2 := (0, 1000, 829, [some (.ref 0), some (.ref 64), some (.ref 108), some (.int i)], [.int 2, .int i, .ref 0, .int (gI w 0 ((i + 1)).toNatClampNeg), .ref 64], w)) rfl).trans ?_
  refine (val_g (c2 := (0, 1000, 830, [some (.ref 0), some (.ref 64), some (.ref 108), some (.int i)], [.int (i + 2), .ref 0, .int (gI w 0 ((i + 1)).toNatClampNeg), .ref 64], w)) rfl).trans ?_
  refine (val_ial rfl hS rfl hy2).trans ?_
  show val (0, 1000, 831, [some (.ref 0), some (.ref 64), some (.ref 108), some (.int i)], [.int (gI w 0 ((i + 2)).toNatClampNeg), .int (gI w 0 ((i + 1)).toNatClampNeg), .ref 64], w) = _
  refine (val_g (c2 := (0, 1000, 832, [some (.ref 0), some (.ref 64), some (.ref 108), some (.int i)], [.ref 0, .int (gI w 0 ((i + 2)).toNatClampNeg), .int (gI w 0 ((i + 1)).toNatClampNeg), .ref 64], w)) rfl).trans ?_
  refine (val_g (c2 := (0, 1000, 833, [some (.ref 0), some (.ref 64), some (.ref 108), some (.int i)], [.int i, .ref 0, .int (gI w 0 ((i + 2)).toNatClampNeg), .int (gI w 0 ((i + 1)).toNatClampNeg), .ref 64], w)) rfl).trans ?_
  refine (val_g (c2 := (0, 1000, 834, [some (.ref 0), some (.ref 64), some (.ref 108), some (.int i)], [.int 3, .int i, .ref 0, .int (gI w 0 ((i + 2)).toNatClampNeg), .int (gI w 0 ((i + 1)).toNatClampNeg), .ref 64], w)) rfl).trans ?_
  refine (val_g (c2 := (0, 1000, 835, [some (.ref 0), some (.ref 64), some (.ref 108), some (.int i)], [.int (i + 3), .ref 0, .int (gI w 0 ((i + 2)).toNatClampNeg), .int (gI w 0 ((i + 1)).toNatClampNeg), .ref 64], w)) rfl).trans ?_
  refine (val_ial rfl hS rfl hy3).trans ?_
  show val (0, 1000, 836, [some (.ref 0), some (.ref 64), some (.ref 108), some (.int i)], [.int (gI w 0 ((i + 3)).toNatClampNeg), .int (gI w 0 ((i + 2)).toNatClampNeg), .int (gI w 0 ((i + 1)).toNatClampNeg), .ref 64], w) = _
  refine (val_call (d := 999) (w1 := w1) (pc2 := 839) rfl rfl rfl rfl (rcvO hk1 (by decide)) (Nat.le_of_ble_eq_true rfl) (Nat.le_of_ble_eq_true rfl) rfl hx rfl).trans ?_
  show val (0, 1000, 839, [some (.ref 0), some (.ref 64), some (.ref 108), some (.int i)], [.int r], w1) = _
  refine (val_g (c2 := (0, 1000, 840, [some (.ref 0), some (.ref 64), some (.ref 108), some (.int i)], [.ref 108, .int r], w1)) rfl).trans ?_
  refine (val_g (c2 := (0, 1000, 841, [some (.ref 0), some (.ref 64), some (.ref 108), some (.int i)], [.ref 0, .ref 108, .int r], w1)) rfl).trans ?_
  refine (val_g (c2 := (0, 1000, 842, [some (.ref 0), some (.ref 64), some (.ref 108), some (.int i)], [.int i, .ref 0, .ref 108, .int r], w1)) rfl).trans ?_
  refine (val_g (c2 := (0, 1000, 843, [some (.ref 0), some (.ref 64), some (.ref 108), some (.int i)], [.int 1, .int i, .ref 0, .ref 108, .int r], w1)) rfl).trans ?_
  refine (val_g (c2 := (0, 1000, 844, [some (.ref 0), some (.ref 64), some (.ref 108), some (.int i)], [.int (i + 1), .ref 0, .ref 108, .int r], w1)) rfl).trans ?_
  refine (val_ial rfl hS1 rfl hy1).trans ?_
  show val (0, 1000, 845, [some (.ref 0), some (.ref 64), some (.ref 108), some (.int i)], [.int (gI w1 0 ((i + 1)).toNatClampNeg), .ref 108, .int r], w1) = _
  refine (val_g (c2 := (0, 1000, 846, [some (.ref 0), some (.ref 64), some (.ref 108), some (.int i)], [.ref 0, .int (gI w1 0 ((i + 1)).toNatClampNeg), .ref 108, .int r], w1)) rfl).trans ?_
  refine (val_g (c2 := (0, 1000, 847, [some (.ref 0), some (.ref 64), some (.ref 108), some (.int i)], [.int i, .ref 0, .int (gI w1 0 ((i + 1)).toNatClampNeg), .ref 108, .int r], w1)) rfl).trans ?_
  refine (val_g (c2 := (0, 1000, 848, [some (.ref 0), some (.ref 64), some (.ref 108), some (.int i)], [.int 2, .int i, .ref 0, .int (gI w1 0 ((i + 1)).toNatClampNeg), .ref 108, .int r], w1)) rfl).trans ?_
  refine (val_g (c2 := (0, 1000, 849, [some (.ref 0), some (.ref 64), some (.ref 108), some (.int i)], [.int (i + 2), .ref 0, .int (gI w1 0 ((i + 1)).toNatClampNeg), .ref 108, .int r], w1)) rfl).trans ?_
  refine (val_ial rfl hS1 rfl hy2).trans ?_
  show val (0, 1000, 850, [some (.ref 0), some (.ref 64), some (.ref 108), some (.int i)], [.int (gI w1 0 ((i + 2)).toNatClampNeg), .int (gI w1 0 ((i + 1)).toNatClampNeg), .ref 108, .int r], w1) = _
  refine (val_g (c2 := (0, 1000, 851, [some (.ref 0), some (.ref 64), some (.ref 108), some (.int i)], [.ref 0, .int (gI w1 0 ((i + 2)).toNatClampNeg), .int (gI w1 0 ((i + 1)).toNatClampNeg), .ref 108, .int r], w1)) rfl).trans ?_
  refine (val_g (c2 := (0, 1000, 852, [some (.ref 0), some (.ref 64), some (.ref 108), some (.int i)], [.int i, .ref 0, .int (gI w1 0 ((i + 2)).toNatClampNeg), .int (gI w1 0 ((i + 1)).toNatClampNeg), .ref 108, .int r], w1)) rfl).trans ?_
  refine (val_g (c2 := (0, 1000, 853, [some (.ref 0), some (.ref 64), some (.ref 108), some (.int i)], [.int 3, .int i, .ref 0, .int (gI w1 0 ((i + 2)).toNatClampNeg), .int (gI w1 0 ((i + 1)).toNatClampNeg), .ref 108, .int r], w1)) rfl).trans ?_
  refine (val_g (c2 := (0, 1000, 854, [some (.ref 0), some (.ref 64), some (.ref 108), some (.int i)], [.int (i + 3), .ref 0, .int (gI w1 0 ((i + 2)).toNatClampNeg), .int (gI w1 0 ((i + 1)).toNatClampNeg), .ref 108, .int r], w1)) rfl).trans ?_
  refine (val_ial rfl hS1 rfl hy3).trans ?_
  show val (0, 1000, 855, [some (.ref 0), some (.ref 64), some (.ref 108), some (.int i)], [.int (gI w1 0 ((i + 3)).toNatClampNeg), .int (gI w1 0 ((i + 2)).toNatClampNeg), .int (gI w1 0 ((i + 1)).toNatClampNeg), .ref 108, .int r], w1) = _
  refine (val_call (d := 999) (w1 := w2) (pc2 := 858) rfl rfl rfl rfl (rcvO hk2 (by decide)) (Nat.le_of_ble_eq_true rfl) (Nat.le_of_ble_eq_true rfl) rfl hm rfl).trans ?_
  show val (0, 1000, 858, [some (.ref 0), some (.ref 64), some (.ref 108), some (.int i)], [.int r, .int r], w2) = _
  refine ((val_ic_eq rfl).trans (if_pos rfl)).trans ?_
  show val (0, 1000, 1384, [some (.ref 0), some (.ref 64), some (.ref 108), some (.int i)], [], w2) = _
  refine (val_g (c2 := (0, 1000, 1387, [some (.ref 0), some (.ref 64), some (.ref 108), some (.int (i + 6))], [], w2)) rfl).trans ?_
  refine (val_g (c2 := (0, 1000, 18, [some (.ref 0), some (.ref 64), some (.ref 108), some (.int (i + 6))], [], w2)) rfl).trans ?_
  rfl
/-- BelfryHouse.blow(II)I -/
theorem law_23 (w w1 w2 : Wd) (i : Int32) (L : Nat) (r : Int32) (hS : wK w 0 = (30, L)) (hS1 : wK w1 0 = (30, L)) (hk1 : wK w 64 = (9, 11)) (hk2 : wK w1 108 = (10, 68)) (hy1 : inB ((i + 1)) L = true) (hy2 : inB ((i + 2)) L = true) (hx : val (29, 999, 0, [some (.ref 64), some (.int (gI w 0 ((i + 1)).toNatClampNeg)), some (.int (gI w 0 ((i + 2)).toNatClampNeg))], [], w) = some (some (.int r), w1)) (hm : val (228, 999, 0, [some (.ref 108), some (.int (gI w1 0 ((i + 1)).toNatClampNeg)), some (.int (gI w1 0 ((i + 2)).toNatClampNeg))], [], w1) = some (some (.int r), w2)) : val (0, 1000, 863, [some (.ref 0), some (.ref 64), some (.ref 108), some (.int i)], [], w) = val (0, 1000, 18, [some (.ref 0), some (.ref 64), some (.ref 108), some (.int (i + 6))], [], w2) := by
  refine (val_g (c2 := (0, 1000, 864, [some (.ref 0), some (.ref 64), some (.ref 108), some (.int i)], [.ref 64], w)) rfl).trans ?_
  refine (val_g (c2 := (0, 1000, 865, [some (.ref 0), some (.ref 64), some (.ref 108), some (.int i)], [.ref 0, .ref 64], w)) rfl).trans ?_
  refine (val_g (c2 := (0, 1000, 866, [some (.ref 0), some (.ref 64), some (.ref 108), some (.int i)], [.int i, .ref 0, .ref 64], w)) rfl).trans ?_
  refine (val_g (c2 := (0, 1000, 867, [some (.ref 0), some (.ref 64), some (.ref 108), some (.int i)], [.int 1, .int i, .ref 0, .ref 64], w)) rfl).trans ?_
  refine (val_g (c2 := (0, 1000, 868, [some (.ref 0), some (.ref 64), some (.ref 108), some (.int i)], [.int (i + 1), .ref 0, .ref 64], w)) rfl).trans ?_
  refine (val_ial rfl hS rfl hy1).trans ?_
  show val (0, 1000, 869, [some (.ref 0), some (.ref 64), some (.ref 108), some (.int i)], [.int (gI w 0 ((i + 1)).toNatClampNeg), .ref 64], w) = _
  refine (val_g (c2 := (0, 1000, 870, [some (.ref 0), some (.ref 64), some (.ref 108), some (.int i)], [.ref 0, .int (gI w 0 ((i + 1)).toNatClampNeg), .ref 64], w)) rfl).trans ?_
  refine (val_g (c2 := (0, 1000, 871, [some (.ref 0), some (.ref 64), some (.ref 108), some (.int i)], [.int i, .ref 0, .int (gI w 0 ((i + 1)).toNatClampNeg), .ref 64], w)) rfl).trans ?_
  refine (val_g (c2 := (0, 1000, 872, [some (.ref 0), some (.ref 64), some (.ref 108), some (.int i)], [.int 2, .int i, .ref 0, .int (gI w 0 ((i + 1)).toNatClampNeg), .ref 64], w)) rfl).trans ?_
  refine (val_g (c2 := (0, 1000, 873, [some (.ref 0), some (.ref 64), some (.ref 108), some (.int i)], [.int (i + 2), .ref 0, .int (gI w 0 ((i + 1)).toNatClampNeg), .ref 64], w)) rfl).trans ?_
  refine (val_ial rfl hS rfl hy2).trans ?_
  show val (0, 1000, 874, [some (.ref 0), some (.ref 64), some (.ref 108), some (.int i)], [.int (gI w 0 ((i + 2)).toNatClampNeg), .int (gI w 0 ((i + 1)).toNatClampNeg), .ref 64], w) = _
  refine (val_call (d := 999) (w1 := w1) (pc2 := 877) rfl rfl rfl rfl (rcvO hk1 (by decide)) (Nat.le_of_ble_eq_true rfl) (Nat.le_of_ble_eq_true rfl) rfl hx rfl).trans ?_
  show val (0, 1000, 877, [some (.ref 0), some (.ref 64), some (.ref 108), some (.int i)], [.int r], w1) = _
  refine (val_g (c2 := (0, 1000, 878, [some (.ref 0), some (.ref 64), some (.ref 108), some (.int i)], [.ref 108, .int r], w1)) rfl).trans ?_
  refine (val_g (c2 := (0, 1000, 879, [some (.ref 0), some (.ref 64), some (.ref 108), some (.int i)], [.ref 0, .ref 108, .int r], w1)) rfl).trans ?_
  refine (val_g (c2 := (0, 1000, 880, [some (.ref 0), some (.ref 64), some (.ref 108), some (.int i)], [.int i, .ref 0, .ref 108, .int r], w1)) rfl).trans ?_
  refine (val_g (c2 := (0, 1000, 881, [some (.ref 0), some (.ref 64), some (.ref 108), some (.int i)], [.int 1, .int i, .ref 0, .ref 108, .int r], w1)) rfl).trans ?_
  refine (val_g (c2 := (0, 1000, 882, [some (.ref 0), some (.ref 64), some (.ref 108), some (.int i)], [.int (i + 1), .ref 0, .ref 108, .int r], w1)) rfl).trans ?_
  refine (val_ial rfl hS1 rfl hy1).trans ?_
  show val (0, 1000, 883, [some (.ref 0), some (.ref 64), some (.ref 108), some (.int i)], [.int (gI w1 0 ((i + 1)).toNatClampNeg), .ref 108, .int r], w1) = _
  refine (val_g (c2 := (0, 1000, 884, [some (.ref 0), some (.ref 64), some (.ref 108), some (.int i)], [.ref 0, .int (gI w1 0 ((i + 1)).toNatClampNeg), .ref 108, .int r], w1)) rfl).trans ?_
  refine (val_g (c2 := (0, 1000, 885, [some (.ref 0), some (.ref 64), some (.ref 108), some (.int i)], [.int i, .ref 0, .int (gI w1 0 ((i + 1)).toNatClampNeg), .ref 108, .int r], w1)) rfl).trans ?_
  refine (val_g (c2 := (0, 1000, 886, [some (.ref 0), some (.ref 64), some (.ref 108), some (.int i)], [.int 2, .int i, .ref 0, .int (gI w1 0 ((i + 1)).toNatClampNeg), .ref 108, .int r], w1)) rfl).trans ?_
  refine (val_g (c2 := (0, 1000, 887, [some (.ref 0), some (.ref 64), some (.ref 108), some (.int i)], [.int (i + 2), .ref 0, .int (gI w1 0 ((i + 1)).toNatClampNeg), .ref 108, .int r], w1)) rfl).trans ?_
  refine (val_ial rfl hS1 rfl hy2).trans ?_
  show val (0, 1000, 888, [some (.ref 0), some (.ref 64), some (.ref 108), some (.int i)], [.int (gI w1 0 ((i + 2)).toNatClampNeg), .int (gI w1 0 ((i + 1)).toNatClampNeg), .ref 108, .int r], w1) = _
  refine (val_call (d := 999) (w1 := w2) (pc2 := 891) rfl rfl rfl rfl (rcvO hk2 (by decide)) (Nat.le_of_ble_eq_true rfl) (Nat.le_of_ble_eq_true rfl) rfl hm rfl).trans ?_
  show val (0, 1000, 891, [some (.ref 0), some (.ref 64), some (.ref 108), some (.int i)], [.int r, .int r], w2) = _
  refine ((val_ic_eq rfl).trans (if_pos rfl)).trans ?_
  show val (0, 1000, 1384, [some (.ref 0), some (.ref 64), some (.ref 108), some (.int i)], [], w2) = _
  refine (val_g (c2 := (0, 1000, 1387, [some (.ref 0), some (.ref 64), some (.ref 108), some (.int (i + 6))], [], w2)) rfl).trans ?_
  refine (val_g (c2 := (0, 1000, 18, [some (.ref 0), some (.ref 64), some (.ref 108), some (.int (i + 6))], [], w2)) rfl).trans ?_
  rfl
/-- BelfryHouse.ringing(I)I -/
theorem law_24 (w w1 w2 : Wd) (i : Int32) (L : Nat) (r : Int32) (hS : wK w 0 = (30, L)) (hS1 : wK w1 0 = (30, L)) (hk1 : wK w 64 = (9, 11)) (hk2 : wK w1 108 = (10, 68)) (hy1 : inB ((i + 1)) L = true) (hx : val (30, 999, 0, [some (.ref 64), some (.int (gI w 0 ((i + 1)).toNatClampNeg))], [], w) = some (some (.int r), w1)) (hm : val (229, 999, 0, [some (.ref 108), some (.int (gI w1 0 ((i + 1)).toNatClampNeg))], [], w1) = some (some (.int r), w2)) : val (0, 1000, 896, [some (.ref 0), some (.ref 64), some (.ref 108), some (.int i)], [], w) = val (0, 1000, 18, [some (.ref 0), some (.ref 64), some (.ref 108), some (.int (i + 6))], [], w2) := by
  refine (val_g (c2 := (0, 1000, 897, [some (.ref 0), some (.ref 64), some (.ref 108), some (.int i)], [.ref 64], w)) rfl).trans ?_
  refine (val_g (c2 := (0, 1000, 898, [some (.ref 0), some (.ref 64), some (.ref 108), some (.int i)], [.ref 0, .ref 64], w)) rfl).trans ?_
  refine (val_g (c2 := (0, 1000, 899, [some (.ref 0), some (.ref 64), some (.ref 108), some (.int i)], [.int i, .ref 0, .ref 64], w)) rfl).trans ?_
  refine (val_g (c2 := (0, 1000, 900, [some (.ref 0), some (.ref 64), some (.ref 108), some (.int i)], [.int 1, .int i, .ref 0, .ref 64], w)) rfl).trans ?_
  refine (val_g (c2 := (0, 1000, 901, [some (.ref 0), some (.ref 64), some (.ref 108), some (.int i)], [.int (i + 1), .ref 0, .ref 64], w)) rfl).trans ?_
  refine (val_ial rfl hS rfl hy1).trans ?_
  show val (0, 1000, 902, [some (.ref 0), some (.ref 64), some (.ref 108), some (.int i)], [.int (gI w 0 ((i + 1)).toNatClampNeg), .ref 64], w) = _
  refine (val_call (d := 999) (w1 := w1) (pc2 := 905) rfl rfl rfl rfl (rcvO hk1 (by decide)) (Nat.le_of_ble_eq_true rfl) (Nat.le_of_ble_eq_true rfl) rfl hx rfl).trans ?_
  show val (0, 1000, 905, [some (.ref 0), some (.ref 64), some (.ref 108), some (.int i)], [.int r], w1) = _
  refine (val_g (c2 := (0, 1000, 906, [some (.ref 0), some (.ref 64), some (.ref 108), some (.int i)], [.ref 108, .int r], w1)) rfl).trans ?_
  refine (val_g (c2 := (0, 1000, 907, [some (.ref 0), some (.ref 64), some (.ref 108), some (.int i)], [.ref 0, .ref 108, .int r], w1)) rfl).trans ?_
  refine (val_g (c2 := (0, 1000, 908, [some (.ref 0), some (.ref 64), some (.ref 108), some (.int i)], [.int i, .ref 0, .ref 108, .int r], w1)) rfl).trans ?_
  refine (val_g (c2 := (0, 1000, 909, [some (.ref 0), some (.ref 64), some (.ref 108), some (.int i)], [.int 1, .int i, .ref 0, .ref 108, .int r], w1)) rfl).trans ?_
  refine (val_g (c2 := (0, 1000, 910, [some (.ref 0), some (.ref 64), some (.ref 108), some (.int i)], [.int (i + 1), .ref 0, .ref 108, .int r], w1)) rfl).trans ?_
  refine (val_ial rfl hS1 rfl hy1).trans ?_
  show val (0, 1000, 911, [some (.ref 0), some (.ref 64), some (.ref 108), some (.int i)], [.int (gI w1 0 ((i + 1)).toNatClampNeg), .ref 108, .int r], w1) = _
  refine (val_call (d := 999) (w1 := w2) (pc2 := 914) rfl rfl rfl rfl (rcvO hk2 (by decide)) (Nat.le_of_ble_eq_true rfl) (Nat.le_of_ble_eq_true rfl) rfl hm rfl).trans ?_
  show val (0, 1000, 914, [some (.ref 0), some (.ref 64), some (.ref 108), some (.int i)], [.int r, .int r], w2) = _
  refine ((val_ic_eq rfl).trans (if_pos rfl)).trans ?_
  show val (0, 1000, 1384, [some (.ref 0), some (.ref 64), some (.ref 108), some (.int i)], [], w2) = _
  refine (val_g (c2 := (0, 1000, 1387, [some (.ref 0), some (.ref 64), some (.ref 108), some (.int (i + 6))], [], w2)) rfl).trans ?_
  refine (val_g (c2 := (0, 1000, 18, [some (.ref 0), some (.ref 64), some (.ref 108), some (.int (i + 6))], [], w2)) rfl).trans ?_
  rfl
/-- BelfryHouse.slips(I)I -/
theorem law_25 (w w1 w2 : Wd) (i : Int32) (L : Nat) (r : Int32) (hS : wK w 0 = (30, L)) (hS1 : wK w1 0 = (30, L)) (hk1 : wK w 64 = (9, 11)) (hk2 : wK w1 108 = (10, 68)) (hy1 : inB ((i + 1)) L = true) (hx : val (31, 999, 0, [some (.ref 64), some (.int (gI w 0 ((i + 1)).toNatClampNeg))], [], w) = some (some (.int r), w1)) (hm : val (230, 999, 0, [some (.ref 108), some (.int (gI w1 0 ((i + 1)).toNatClampNeg))], [], w1) = some (some (.int r), w2)) : val (0, 1000, 919, [some (.ref 0), some (.ref 64), some (.ref 108), some (.int i)], [], w) = val (0, 1000, 18, [some (.ref 0), some (.ref 64), some (.ref 108), some (.int (i + 6))], [], w2) := by
  refine (val_g (c2 := (0, 1000, 920, [some (.ref 0), some (.ref 64), some (.ref 108), some (.int i)], [.ref 64], w)) rfl).trans ?_
  refine (val_g (c2 := (0, 1000, 921, [some (.ref 0), some (.ref 64), some (.ref 108), some (.int i)], [.ref 0, .ref 64], w)) rfl).trans ?_
  refine (val_g (c2 := (0, 1000, 922, [some (.ref 0), some (.ref 64), some (.ref 108), some (.int i)], [.int i, .ref 0, .ref 64], w)) rfl).trans ?_
  refine (val_g (c2 := (0, 1000, 923, [some (.ref 0), some (.ref 64), some (.ref 108), some (.int i)], [.int 1, .int i, .ref 0, .ref 64], w)) rfl).trans ?_
  refine (val_g (c2 := (0, 1000, 924, [some (.ref 0), some (.ref 64), some (.ref 108), some (.int i)], [.int (i + 1), .ref 0, .ref 64], w)) rfl).trans ?_
  refine (val_ial rfl hS rfl hy1).trans ?_
  show val (0, 1000, 925, [some (.ref 0), some (.ref 64), some (.ref 108), some (.int i)], [.int (gI w 0 ((i + 1)).toNatClampNeg), .ref 64], w) = _
  refine (val_call (d := 999) (w1 := w1) (pc2 := 928) rfl rfl rfl rfl (rcvO hk1 (by decide)) (Nat.le_of_ble_eq_true rfl) (Nat.le_of_ble_eq_true rfl) rfl hx rfl).trans ?_
  show val (0, 1000, 928, [some (.ref 0), some (.ref 64), some (.ref 108), some (.int i)], [.int r], w1) = _
  refine (val_g (c2 := (0, 1000, 929, [some (.ref 0), some (.ref 64), some (.ref 108), some (.int i)], [.ref 108, .int r], w1)) rfl).trans ?_
  refine (val_g (c2 := (0, 1000, 930, [some (.ref 0), some (.ref 64), some (.ref 108), some (.int i)], [.ref 0, .ref 108, .int r], w1)) rfl).trans ?_
  refine (val_g (c2 := (0, 1000, 931, [some (.ref 0), some (.ref 64), some (.ref 108), some (.int i)], [.int i, .ref 0, .ref 108, .int r], w1)) rfl).trans ?_
  refine (val_g (c2 := (0, 1000, 932, [some (.ref 0), some (.ref 64), some (.ref 108), some (.int i)], [.int 1, .int i, .ref 0, .ref 108, .int r], w1)) rfl).trans ?_
  refine (val_g (c2 := (0, 1000, 933, [some (.ref 0), some (.ref 64), some (.ref 108), some (.int i)], [.int (i + 1), .ref 0, .ref 108, .int r], w1)) rfl).trans ?_
  refine (val_ial rfl hS1 rfl hy1).trans ?_
  show val (0, 1000, 934, [some (.ref 0), some (.ref 64), some (.ref 108), some (.int i)], [.int (gI w1 0 ((i + 1)).toNatClampNeg), .ref 108, .int r], w1) = _
  refine (val_call (d := 999) (w1 := w2) (pc2 := 937) rfl rfl rfl rfl (rcvO hk2 (by decide)) (Nat.le_of_ble_eq_true rfl) (Nat.le_of_ble_eq_true rfl) rfl hm rfl).trans ?_
  show val (0, 1000, 937, [some (.ref 0), some (.ref 64), some (.ref 108), some (.int i)], [.int r, .int r], w2) = _
  refine ((val_ic_eq rfl).trans (if_pos rfl)).trans ?_
  show val (0, 1000, 1384, [some (.ref 0), some (.ref 64), some (.ref 108), some (.int i)], [], w2) = _
  refine (val_g (c2 := (0, 1000, 1387, [some (.ref 0), some (.ref 64), some (.ref 108), some (.int (i + 6))], [], w2)) rfl).trans ?_
  refine (val_g (c2 := (0, 1000, 18, [some (.ref 0), some (.ref 64), some (.ref 108), some (.int (i + 6))], [], w2)) rfl).trans ?_
  rfl
/-- BelfryHouse.note(IJ)I -/
theorem law_26 (w w1 w2 : Wd) (i : Int32) (L : Nat) (r : Int32) (hS : wK w 0 = (30, L)) (hS1 : wK w1 0 = (30, L)) (hk1 : wK w 64 = (9, 11)) (hk2 : wK w1 108 = (10, 68)) (hy1 : inB ((i + 1)) L = true) (hy2 : inB ((i + 2)) L = true) (hy3 : inB ((i + 3)) L = true) (hx : val (32, 999, 0, [some (.ref 64), some (.int (gI w 0 ((i + 1)).toNatClampNeg)), some (.long ((shlL ((Int32.toInt64 ((gI w 0 ((i + 2)).toNatClampNeg)))) 32) ||| ((Int32.toInt64 ((gI w 0 ((i + 3)).toNatClampNeg))) &&& 4294967295))), none], [], w) = some (some (.int r), w1)) (hm : val (231, 999, 0, [some (.ref 108), some (.int (gI w1 0 ((i + 1)).toNatClampNeg)), some (.long ((shlL ((Int32.toInt64 ((gI w1 0 ((i + 2)).toNatClampNeg)))) 32) ||| ((Int32.toInt64 ((gI w1 0 ((i + 3)).toNatClampNeg))) &&& 4294967295))), none], [], w1) = some (some (.int r), w2)) : val (0, 1000, 942, [some (.ref 0), some (.ref 64), some (.ref 108), some (.int i)], [], w) = val (0, 1000, 18, [some (.ref 0), some (.ref 64), some (.ref 108), some (.int (i + 6))], [], w2) := by
  refine (val_g (c2 := (0, 1000, 943, [some (.ref 0), some (.ref 64), some (.ref 108), some (.int i)], [.ref 64], w)) rfl).trans ?_
  refine (val_g (c2 := (0, 1000, 944, [some (.ref 0), some (.ref 64), some (.ref 108), some (.int i)], [.ref 0, .ref 64], w)) rfl).trans ?_
  refine (val_g (c2 := (0, 1000, 945, [some (.ref 0), some (.ref 64), some (.ref 108), some (.int i)], [.int i, .ref 0, .ref 64], w)) rfl).trans ?_
  refine (val_g (c2 := (0, 1000, 946, [some (.ref 0), some (.ref 64), some (.ref 108), some (.int i)], [.int 1, .int i, .ref 0, .ref 64], w)) rfl).trans ?_
  refine (val_g (c2 := (0, 1000, 947, [some (.ref 0), some (.ref 64), some (.ref 108), some (.int i)], [.int (i + 1), .ref 0, .ref 64], w)) rfl).trans ?_
  refine (val_ial rfl hS rfl hy1).trans ?_
  show val (0, 1000, 948, [some (.ref 0), some (.ref 64), some (.ref 108), some (.int i)], [.int (gI w 0 ((i + 1)).toNatClampNeg), .ref 64], w) = _
  refine (val_g (c2 := (0, 1000, 949, [some (.ref 0), some (.ref 64), some (.ref 108), some (.int i)], [.ref 0, .int (gI w 0 ((i + 1)).toNatClampNeg), .ref 64], w)) rfl).trans ?_
  refine (val_g (c2 := (0, 1000, 950, [some (.ref 0), some (.ref 64), some (.ref 108), some (.int i)], [.int i, .ref 0, .int (gI w 0 ((i + 1)).toNatClampNeg), .ref 64], w)) rfl).trans ?_
  refine (val_g (c2 := (0, 1000, 951, [some (.ref 0), some (.ref 64), some (.ref 108), some (.int i)], [.int 2, .int i, .ref 0, .int (gI w 0 ((i + 1)).toNatClampNeg), .ref 64], w)) rfl).trans ?_
  refine (val_g (c2 := (0, 1000, 952, [some (.ref 0), some (.ref 64), some (.ref 108), some (.int i)], [.int (i + 2), .ref 0, .int (gI w 0 ((i + 1)).toNatClampNeg), .ref 64], w)) rfl).trans ?_
  refine (val_ial rfl hS rfl hy2).trans ?_
  show val (0, 1000, 953, [some (.ref 0), some (.ref 64), some (.ref 108), some (.int i)], [.int (gI w 0 ((i + 2)).toNatClampNeg), .int (gI w 0 ((i + 1)).toNatClampNeg), .ref 64], w) = _
  refine (val_g (c2 := (0, 1000, 954, [some (.ref 0), some (.ref 64), some (.ref 108), some (.int i)], [.long (Int32.toInt64 ((gI w 0 ((i + 2)).toNatClampNeg))), .int (gI w 0 ((i + 1)).toNatClampNeg), .ref 64], w)) rfl).trans ?_
  refine (val_g (c2 := (0, 1000, 956, [some (.ref 0), some (.ref 64), some (.ref 108), some (.int i)], [.int 32, .long (Int32.toInt64 ((gI w 0 ((i + 2)).toNatClampNeg))), .int (gI w 0 ((i + 1)).toNatClampNeg), .ref 64], w)) rfl).trans ?_
  refine (val_g (c2 := (0, 1000, 957, [some (.ref 0), some (.ref 64), some (.ref 108), some (.int i)], [.long (shlL ((Int32.toInt64 ((gI w 0 ((i + 2)).toNatClampNeg)))) 32), .int (gI w 0 ((i + 1)).toNatClampNeg), .ref 64], w)) rfl).trans ?_
  refine (val_g (c2 := (0, 1000, 958, [some (.ref 0), some (.ref 64), some (.ref 108), some (.int i)], [.ref 0, .long (shlL ((Int32.toInt64 ((gI w 0 ((i + 2)).toNatClampNeg)))) 32), .int (gI w 0 ((i + 1)).toNatClampNeg), .ref 64], w)) rfl).trans ?_
  refine (val_g (c2 := (0, 1000, 959, [some (.ref 0), some (.ref 64), some (.ref 108), some (.int i)], [.int i, .ref 0, .long (shlL ((Int32.toInt64 ((gI w 0 ((i + 2)).toNatClampNeg)))) 32), .int (gI w 0 ((i + 1)).toNatClampNeg), .ref 64], w)) rfl).trans ?_
  refine (val_g (c2 := (0, 1000, 960, [some (.ref 0), some (.ref 64), some (.ref 108), some (.int i)], [.int 3, .int i, .ref 0, .long (shlL ((Int32.toInt64 ((gI w 0 ((i + 2)).toNatClampNeg)))) 32), .int (gI w 0 ((i + 1)).toNatClampNeg), .ref 64], w)) rfl).trans ?_
  refine (val_g (c2 := (0, 1000, 961, [some (.ref 0), some (.ref 64), some (.ref 108), some (.int i)], [.int (i + 3), .ref 0, .long (shlL ((Int32.toInt64 ((gI w 0 ((i + 2)).toNatClampNeg)))) 32), .int (gI w 0 ((i + 1)).toNatClampNeg), .ref 64], w)) rfl).trans ?_
  refine (val_ial rfl hS rfl hy3).trans ?_
  show val (0, 1000, 962, [some (.ref 0), some (.ref 64), some (.ref 108), some (.int i)], [.int (gI w 0 ((i + 3)).toNatClampNeg), .long (shlL ((Int32.toInt64 ((gI w 0 ((i + 2)).toNatClampNeg)))) 32), .int (gI w 0 ((i + 1)).toNatClampNeg), .ref 64], w) = _
  refine (val_g (c2 := (0, 1000, 963, [some (.ref 0), some (.ref 64), some (.ref 108), some (.int i)], [.long (Int32.toInt64 ((gI w 0 ((i + 3)).toNatClampNeg))), .long (shlL ((Int32.toInt64 ((gI w 0 ((i + 2)).toNatClampNeg)))) 32), .int (gI w 0 ((i + 1)).toNatClampNeg), .ref 64], w)) rfl).trans ?_
  refine (val_g (c2 := (0, 1000, 966, [some (.ref 0), some (.ref 64), some (.ref 108), some (.int i)], [.long 4294967295, .long (Int32.toInt64 ((gI w 0 ((i + 3)).toNatClampNeg))), .long (shlL ((Int32.toInt64 ((gI w 0 ((i + 2)).toNatClampNeg)))) 32), .int (gI w 0 ((i + 1)).toNatClampNeg), .ref 64], w)) rfl).trans ?_
  refine (val_g (c2 := (0, 1000, 967, [some (.ref 0), some (.ref 64), some (.ref 108), some (.int i)], [.long ((Int32.toInt64 ((gI w 0 ((i + 3)).toNatClampNeg))) &&& 4294967295), .long (shlL ((Int32.toInt64 ((gI w 0 ((i + 2)).toNatClampNeg)))) 32), .int (gI w 0 ((i + 1)).toNatClampNeg), .ref 64], w)) rfl).trans ?_
  refine (val_g (c2 := (0, 1000, 968, [some (.ref 0), some (.ref 64), some (.ref 108), some (.int i)], [.long ((shlL ((Int32.toInt64 ((gI w 0 ((i + 2)).toNatClampNeg)))) 32) ||| ((Int32.toInt64 ((gI w 0 ((i + 3)).toNatClampNeg))) &&& 4294967295)), .int (gI w 0 ((i + 1)).toNatClampNeg), .ref 64], w)) rfl).trans ?_
  refine (val_call (d := 999) (w1 := w1) (pc2 := 971) rfl rfl rfl rfl (rcvO hk1 (by decide)) (Nat.le_of_ble_eq_true rfl) (Nat.le_of_ble_eq_true rfl) rfl hx rfl).trans ?_
  show val (0, 1000, 971, [some (.ref 0), some (.ref 64), some (.ref 108), some (.int i)], [.int r], w1) = _
  refine (val_g (c2 := (0, 1000, 972, [some (.ref 0), some (.ref 64), some (.ref 108), some (.int i)], [.ref 108, .int r], w1)) rfl).trans ?_
  refine (val_g (c2 := (0, 1000, 973, [some (.ref 0), some (.ref 64), some (.ref 108), some (.int i)], [.ref 0, .ref 108, .int r], w1)) rfl).trans ?_
  refine (val_g (c2 := (0, 1000, 974, [some (.ref 0), some (.ref 64), some (.ref 108), some (.int i)], [.int i, .ref 0, .ref 108, .int r], w1)) rfl).trans ?_
  refine (val_g (c2 := (0, 1000, 975, [some (.ref 0), some (.ref 64), some (.ref 108), some (.int i)], [.int 1, .int i, .ref 0, .ref 108, .int r], w1)) rfl).trans ?_
  refine (val_g (c2 := (0, 1000, 976, [some (.ref 0), some (.ref 64), some (.ref 108), some (.int i)], [.int (i + 1), .ref 0, .ref 108, .int r], w1)) rfl).trans ?_
  refine (val_ial rfl hS1 rfl hy1).trans ?_
  show val (0, 1000, 977, [some (.ref 0), some (.ref 64), some (.ref 108), some (.int i)], [.int (gI w1 0 ((i + 1)).toNatClampNeg), .ref 108, .int r], w1) = _
  refine (val_g (c2 := (0, 1000, 978, [some (.ref 0), some (.ref 64), some (.ref 108), some (.int i)], [.ref 0, .int (gI w1 0 ((i + 1)).toNatClampNeg), .ref 108, .int r], w1)) rfl).trans ?_
  refine (val_g (c2 := (0, 1000, 979, [some (.ref 0), some (.ref 64), some (.ref 108), some (.int i)], [.int i, .ref 0, .int (gI w1 0 ((i + 1)).toNatClampNeg), .ref 108, .int r], w1)) rfl).trans ?_
  refine (val_g (c2 := (0, 1000, 980, [some (.ref 0), some (.ref 64), some (.ref 108), some (.int i)], [.int 2, .int i, .ref 0, .int (gI w1 0 ((i + 1)).toNatClampNeg), .ref 108, .int r], w1)) rfl).trans ?_
  refine (val_g (c2 := (0, 1000, 981, [some (.ref 0), some (.ref 64), some (.ref 108), some (.int i)], [.int (i + 2), .ref 0, .int (gI w1 0 ((i + 1)).toNatClampNeg), .ref 108, .int r], w1)) rfl).trans ?_
  refine (val_ial rfl hS1 rfl hy2).trans ?_
  show val (0, 1000, 982, [some (.ref 0), some (.ref 64), some (.ref 108), some (.int i)], [.int (gI w1 0 ((i + 2)).toNatClampNeg), .int (gI w1 0 ((i + 1)).toNatClampNeg), .ref 108, .int r], w1) = _
  refine (val_g (c2 := (0, 1000, 983, [some (.ref 0), some (.ref 64), some (.ref 108), some (.int i)], [.long (Int32.toInt64 ((gI w1 0 ((i + 2)).toNatClampNeg))), .int (gI w1 0 ((i + 1)).toNatClampNeg), .ref 108, .int r], w1)) rfl).trans ?_
  refine (val_g (c2 := (0, 1000, 985, [some (.ref 0), some (.ref 64), some (.ref 108), some (.int i)], [.int 32, .long (Int32.toInt64 ((gI w1 0 ((i + 2)).toNatClampNeg))), .int (gI w1 0 ((i + 1)).toNatClampNeg), .ref 108, .int r], w1)) rfl).trans ?_
  refine (val_g (c2 := (0, 1000, 986, [some (.ref 0), some (.ref 64), some (.ref 108), some (.int i)], [.long (shlL ((Int32.toInt64 ((gI w1 0 ((i + 2)).toNatClampNeg)))) 32), .int (gI w1 0 ((i + 1)).toNatClampNeg), .ref 108, .int r], w1)) rfl).trans ?_
  refine (val_g (c2 := (0, 1000, 987, [some (.ref 0), some (.ref 64), some (.ref 108), some (.int i)], [.ref 0, .long (shlL ((Int32.toInt64 ((gI w1 0 ((i + 2)).toNatClampNeg)))) 32), .int (gI w1 0 ((i + 1)).toNatClampNeg), .ref 108, .int r], w1)) rfl).trans ?_
  refine (val_g (c2 := (0, 1000, 988, [some (.ref 0), some (.ref 64), some (.ref 108), some (.int i)], [.int i, .ref 0, .long (shlL ((Int32.toInt64 ((gI w1 0 ((i + 2)).toNatClampNeg)))) 32), .int (gI w1 0 ((i + 1)).toNatClampNeg), .ref 108, .int r], w1)) rfl).trans ?_
  refine (val_g (c2 := (0, 1000, 989, [some (.ref 0), some (.ref 64), some (.ref 108), some (.int i)], [.int 3, .int i, .ref 0, .long (shlL ((Int32.toInt64 ((gI w1 0 ((i + 2)).toNatClampNeg)))) 32), .int (gI w1 0 ((i + 1)).toNatClampNeg), .ref 108, .int r], w1)) rfl).trans ?_
  refine (val_g (c2 := (0, 1000, 990, [some (.ref 0), some (.ref 64), some (.ref 108), some (.int i)], [.int (i + 3), .ref 0, .long (shlL ((Int32.toInt64 ((gI w1 0 ((i + 2)).toNatClampNeg)))) 32), .int (gI w1 0 ((i + 1)).toNatClampNeg), .ref 108, .int r], w1)) rfl).trans ?_
  refine (val_ial rfl hS1 rfl hy3).trans ?_
  show val (0, 1000, 991, [some (.ref 0), some (.ref 64), some (.ref 108), some (.int i)], [.int (gI w1 0 ((i + 3)).toNatClampNeg), .long (shlL ((Int32.toInt64 ((gI w1 0 ((i + 2)).toNatClampNeg)))) 32), .int (gI w1 0 ((i + 1)).toNatClampNeg), .ref 108, .int r], w1) = _
  refine (val_g (c2 := (0, 1000, 992, [some (.ref 0), some (.ref 64), some (.ref 108), some (.int i)], [.long (Int32.toInt64 ((gI w1 0 ((i + 3)).toNatClampNeg))), .long (shlL ((Int32.toInt64 ((gI w1 0 ((i + 2)).toNatClampNeg)))) 32), .int (gI w1 0 ((i + 1)).toNatClampNeg), .ref 108, .int r], w1)) rfl).trans ?_
  refine (val_g (c2 := (0, 1000, 995, [some (.ref 0), some (.ref 64), some (.ref 108), some (.int i)], [.long 4294967295, .long (Int32.toInt64 ((gI w1 0 ((i + 3)).toNatClampNeg))), .long (shlL ((Int32.toInt64 ((gI w1 0 ((i + 2)).toNatClampNeg)))) 32), .int (gI w1 0 ((i + 1)).toNatClampNeg), .ref 108, .int r], w1)) rfl).trans ?_
  refine (val_g (c2 := (0, 1000, 996, [some (.ref 0), some (.ref 64), some (.ref 108), some (.int i)], [.long ((Int32.toInt64 ((gI w1 0 ((i + 3)).toNatClampNeg))) &&& 4294967295), .long (shlL ((Int32.toInt64 ((gI w1 0 ((i + 2)).toNatClampNeg)))) 32), .int (gI w1 0 ((i + 1)).toNatClampNeg), .ref 108, .int r], w1)) rfl).trans ?_
  refine (val_g (c2 := (0, 1000, 997, [some (.ref 0), some (.ref 64), some (.ref 108), some (.int i)], [.long ((shlL ((Int32.toInt64 ((gI w1 0 ((i + 2)).toNatClampNeg)))) 32) ||| ((Int32.toInt64 ((gI w1 0 ((i + 3)).toNatClampNeg))) &&& 4294967295)), .int (gI w1 0 ((i + 1)).toNatClampNeg), .ref 108, .int r], w1)) rfl).trans ?_
  refine (val_call (d := 999) (w1 := w2) (pc2 := 1000) rfl rfl rfl rfl (rcvO hk2 (by decide)) (Nat.le_of_ble_eq_true rfl) (Nat.le_of_ble_eq_true rfl) rfl hm rfl).trans ?_
  show val (0, 1000, 1000, [some (.ref 0), some (.ref 64), some (.ref 108), some (.int i)], [.int r, .int r], w2) = _
  refine ((val_ic_eq rfl).trans (if_pos rfl)).trans ?_
  show val (0, 1000, 1384, [some (.ref 0), some (.ref 64), some (.ref 108), some (.int i)], [], w2) = _
  refine (val_g (c2 := (0, 1000, 1387, [some (.ref 0), some (.ref 64), some (.ref 108), some (.int (i + 6))], [], w2)) rfl).trans ?_
  refine (val_g (c2 := (0, 1000, 18, [some (.ref 0), some (.ref 64), some (.ref 108), some (.int (i + 6))], [], w2)) rfl).trans ?_
  rfl
/-- BelfryHouse.wipe()I -/
theorem law_27 (w w1 w2 : Wd) (i : Int32) (L : Nat) (r : Int32) (hS : wK w 0 = (30, L)) (hS1 : wK w1 0 = (30, L)) (hk1 : wK w 64 = (9, 11)) (hk2 : wK w1 108 = (10, 68)) (hx : val (33, 999, 0, [some (.ref 64), none], [], w) = some (some (.int r), w1)) (hm : val (232, 999, 0, [some (.ref 108), none], [], w1) = some (some (.int r), w2)) : val (0, 1000, 1005, [some (.ref 0), some (.ref 64), some (.ref 108), some (.int i)], [], w) = val (0, 1000, 18, [some (.ref 0), some (.ref 64), some (.ref 108), some (.int (i + 6))], [], w2) := by
  refine (val_g (c2 := (0, 1000, 1006, [some (.ref 0), some (.ref 64), some (.ref 108), some (.int i)], [.ref 64], w)) rfl).trans ?_
  refine (val_call (d := 999) (w1 := w1) (pc2 := 1009) rfl rfl rfl rfl (rcvO hk1 (by decide)) (Nat.le_of_ble_eq_true rfl) (Nat.le_of_ble_eq_true rfl) rfl hx rfl).trans ?_
  show val (0, 1000, 1009, [some (.ref 0), some (.ref 64), some (.ref 108), some (.int i)], [.int r], w1) = _
  refine (val_g (c2 := (0, 1000, 1010, [some (.ref 0), some (.ref 64), some (.ref 108), some (.int i)], [.ref 108, .int r], w1)) rfl).trans ?_
  refine (val_call (d := 999) (w1 := w2) (pc2 := 1013) rfl rfl rfl rfl (rcvO hk2 (by decide)) (Nat.le_of_ble_eq_true rfl) (Nat.le_of_ble_eq_true rfl) rfl hm rfl).trans ?_
  show val (0, 1000, 1013, [some (.ref 0), some (.ref 64), some (.ref 108), some (.int i)], [.int r, .int r], w2) = _
  refine ((val_ic_eq rfl).trans (if_pos rfl)).trans ?_
  show val (0, 1000, 1384, [some (.ref 0), some (.ref 64), some (.ref 108), some (.int i)], [], w2) = _
  refine (val_g (c2 := (0, 1000, 1387, [some (.ref 0), some (.ref 64), some (.ref 108), some (.int (i + 6))], [], w2)) rfl).trans ?_
  refine (val_g (c2 := (0, 1000, 18, [some (.ref 0), some (.ref 64), some (.ref 108), some (.int (i + 6))], [], w2)) rfl).trans ?_
  rfl
/-- BelfryHouse.listen()I -/
theorem law_28 (w w1 w2 : Wd) (i : Int32) (L : Nat) (r : Int32) (hS : wK w 0 = (30, L)) (hS1 : wK w1 0 = (30, L)) (hk1 : wK w 64 = (9, 11)) (hk2 : wK w1 108 = (10, 68)) (hx : val (34, 999, 0, [some (.ref 64), none, none, none, none, none, none], [], w) = some (some (.int r), w1)) (hm : val (233, 999, 0, [some (.ref 108), none, none, none, none], [], w1) = some (some (.int r), w2)) : val (0, 1000, 1018, [some (.ref 0), some (.ref 64), some (.ref 108), some (.int i)], [], w) = val (0, 1000, 18, [some (.ref 0), some (.ref 64), some (.ref 108), some (.int (i + 6))], [], w2) := by
  refine (val_g (c2 := (0, 1000, 1019, [some (.ref 0), some (.ref 64), some (.ref 108), some (.int i)], [.ref 64], w)) rfl).trans ?_
  refine (val_call (d := 999) (w1 := w1) (pc2 := 1022) rfl rfl rfl rfl (rcvO hk1 (by decide)) (Nat.le_of_ble_eq_true rfl) (Nat.le_of_ble_eq_true rfl) rfl hx rfl).trans ?_
  show val (0, 1000, 1022, [some (.ref 0), some (.ref 64), some (.ref 108), some (.int i)], [.int r], w1) = _
  refine (val_g (c2 := (0, 1000, 1023, [some (.ref 0), some (.ref 64), some (.ref 108), some (.int i)], [.ref 108, .int r], w1)) rfl).trans ?_
  refine (val_call (d := 999) (w1 := w2) (pc2 := 1026) rfl rfl rfl rfl (rcvO hk2 (by decide)) (Nat.le_of_ble_eq_true rfl) (Nat.le_of_ble_eq_true rfl) rfl hm rfl).trans ?_
  show val (0, 1000, 1026, [some (.ref 0), some (.ref 64), some (.ref 108), some (.int i)], [.int r, .int r], w2) = _
  refine ((val_ic_eq rfl).trans (if_pos rfl)).trans ?_
  show val (0, 1000, 1384, [some (.ref 0), some (.ref 64), some (.ref 108), some (.int i)], [], w2) = _
  refine (val_g (c2 := (0, 1000, 1387, [some (.ref 0), some (.ref 64), some (.ref 108), some (.int (i + 6))], [], w2)) rfl).trans ?_
  refine (val_g (c2 := (0, 1000, 18, [some (.ref 0), some (.ref 64), some (.ref 108), some (.int (i + 6))], [], w2)) rfl).trans ?_
  rfl
/-- BelfryHouse.inOrder(II)I -/
theorem law_29 (w w1 w2 : Wd) (i : Int32) (L : Nat) (r : Int32) (hS : wK w 0 = (30, L)) (hS1 : wK w1 0 = (30, L)) (hk1 : wK w 64 = (9, 11)) (hk2 : wK w1 108 = (10, 68)) (hy1 : inB ((i + 1)) L = true) (hy2 : inB ((i + 2)) L = true) (hx : val (35, 999, 0, [some (.ref 64), some (.int (gI w 0 ((i + 1)).toNatClampNeg)), some (.int (gI w 0 ((i + 2)).toNatClampNeg)), none], [], w) = some (some (.int r), w1)) (hm : val (235, 999, 0, [some (.ref 108), some (.int (gI w1 0 ((i + 1)).toNatClampNeg)), some (.int (gI w1 0 ((i + 2)).toNatClampNeg))], [], w1) = some (some (.int r), w2)) : val (0, 1000, 1031, [some (.ref 0), some (.ref 64), some (.ref 108), some (.int i)], [], w) = val (0, 1000, 18, [some (.ref 0), some (.ref 64), some (.ref 108), some (.int (i + 6))], [], w2) := by
  refine (val_g (c2 := (0, 1000, 1032, [some (.ref 0), some (.ref 64), some (.ref 108), some (.int i)], [.ref 64], w)) rfl).trans ?_
  refine (val_g (c2 := (0, 1000, 1033, [some (.ref 0), some (.ref 64), some (.ref 108), some (.int i)], [.ref 0, .ref 64], w)) rfl).trans ?_
  refine (val_g (c2 := (0, 1000, 1034, [some (.ref 0), some (.ref 64), some (.ref 108), some (.int i)], [.int i, .ref 0, .ref 64], w)) rfl).trans ?_
  refine (val_g (c2 := (0, 1000, 1035, [some (.ref 0), some (.ref 64), some (.ref 108), some (.int i)], [.int 1, .int i, .ref 0, .ref 64], w)) rfl).trans ?_
  refine (val_g (c2 := (0, 1000, 1036, [some (.ref 0), some (.ref 64), some (.ref 108), some (.int i)], [.int (i + 1), .ref 0, .ref 64], w)) rfl).trans ?_
  refine (val_ial rfl hS rfl hy1).trans ?_
  show val (0, 1000, 1037, [some (.ref 0), some (.ref 64), some (.ref 108), some (.int i)], [.int (gI w 0 ((i + 1)).toNatClampNeg), .ref 64], w) = _
  refine (val_g (c2 := (0, 1000, 1038, [some (.ref 0), some (.ref 64), some (.ref 108), some (.int i)], [.ref 0, .int (gI w 0 ((i + 1)).toNatClampNeg), .ref 64], w)) rfl).trans ?_
  refine (val_g (c2 := (0, 1000, 1039, [some (.ref 0), some (.ref 64), some (.ref 108), some (.int i)], [.int i, .ref 0, .int (gI w 0 ((i + 1)).toNatClampNeg), .ref 64], w)) rfl).trans ?_
  refine (val_g (c2 := (0, 1000, 1040, [some (.ref 0), some (.ref 64), some (.ref 108), some (.int i)], [.int 2, .int i, .ref 0, .int (gI w 0 ((i + 1)).toNatClampNeg), .ref 64], w)) rfl).trans ?_
  refine (val_g (c2 := (0, 1000, 1041, [some (.ref 0), some (.ref 64), some (.ref 108), some (.int i)], [.int (i + 2), .ref 0, .int (gI w 0 ((i + 1)).toNatClampNeg), .ref 64], w)) rfl).trans ?_
  refine (val_ial rfl hS rfl hy2).trans ?_
  show val (0, 1000, 1042, [some (.ref 0), some (.ref 64), some (.ref 108), some (.int i)], [.int (gI w 0 ((i + 2)).toNatClampNeg), .int (gI w 0 ((i + 1)).toNatClampNeg), .ref 64], w) = _
  refine (val_call (d := 999) (w1 := w1) (pc2 := 1045) rfl rfl rfl rfl (rcvO hk1 (by decide)) (Nat.le_of_ble_eq_true rfl) (Nat.le_of_ble_eq_true rfl) rfl hx rfl).trans ?_
  show val (0, 1000, 1045, [some (.ref 0), some (.ref 64), some (.ref 108), some (.int i)], [.int r], w1) = _
  refine (val_g (c2 := (0, 1000, 1046, [some (.ref 0), some (.ref 64), some (.ref 108), some (.int i)], [.ref 108, .int r], w1)) rfl).trans ?_
  refine (val_g (c2 := (0, 1000, 1047, [some (.ref 0), some (.ref 64), some (.ref 108), some (.int i)], [.ref 0, .ref 108, .int r], w1)) rfl).trans ?_
  refine (val_g (c2 := (0, 1000, 1048, [some (.ref 0), some (.ref 64), some (.ref 108), some (.int i)], [.int i, .ref 0, .ref 108, .int r], w1)) rfl).trans ?_
  refine (val_g (c2 := (0, 1000, 1049, [some (.ref 0), some (.ref 64), some (.ref 108), some (.int i)], [.int 1, .int i, .ref 0, .ref 108, .int r], w1)) rfl).trans ?_
  refine (val_g (c2 := (0, 1000, 1050, [some (.ref 0), some (.ref 64), some (.ref 108), some (.int i)], [.int (i + 1), .ref 0, .ref 108, .int r], w1)) rfl).trans ?_
  refine (val_ial rfl hS1 rfl hy1).trans ?_
  show val (0, 1000, 1051, [some (.ref 0), some (.ref 64), some (.ref 108), some (.int i)], [.int (gI w1 0 ((i + 1)).toNatClampNeg), .ref 108, .int r], w1) = _
  refine (val_g (c2 := (0, 1000, 1052, [some (.ref 0), some (.ref 64), some (.ref 108), some (.int i)], [.ref 0, .int (gI w1 0 ((i + 1)).toNatClampNeg), .ref 108, .int r], w1)) rfl).trans ?_
  refine (val_g (c2 := (0, 1000, 1053, [some (.ref 0), some (.ref 64), some (.ref 108), some (.int i)], [.int i, .ref 0, .int (gI w1 0 ((i + 1)).toNatClampNeg), .ref 108, .int r], w1)) rfl).trans ?_
  refine (val_g (c2 := (0, 1000, 1054, [some (.ref 0), some (.ref 64), some (.ref 108), some (.int i)], [.int 2, .int i, .ref 0, .int (gI w1 0 ((i + 1)).toNatClampNeg), .ref 108, .int r], w1)) rfl).trans ?_
  refine (val_g (c2 := (0, 1000, 1055, [some (.ref 0), some (.ref 64), some (.ref 108), some (.int i)], [.int (i + 2), .ref 0, .int (gI w1 0 ((i + 1)).toNatClampNeg), .ref 108, .int r], w1)) rfl).trans ?_
  refine (val_ial rfl hS1 rfl hy2).trans ?_
  show val (0, 1000, 1056, [some (.ref 0), some (.ref 64), some (.ref 108), some (.int i)], [.int (gI w1 0 ((i + 2)).toNatClampNeg), .int (gI w1 0 ((i + 1)).toNatClampNeg), .ref 108, .int r], w1) = _
  refine (val_call (d := 999) (w1 := w2) (pc2 := 1059) rfl rfl rfl rfl (rcvO hk2 (by decide)) (Nat.le_of_ble_eq_true rfl) (Nat.le_of_ble_eq_true rfl) rfl hm rfl).trans ?_
  show val (0, 1000, 1059, [some (.ref 0), some (.ref 64), some (.ref 108), some (.int i)], [.int r, .int r], w2) = _
  refine ((val_ic_eq rfl).trans (if_pos rfl)).trans ?_
  show val (0, 1000, 1384, [some (.ref 0), some (.ref 64), some (.ref 108), some (.int i)], [], w2) = _
  refine (val_g (c2 := (0, 1000, 1387, [some (.ref 0), some (.ref 64), some (.ref 108), some (.int (i + 6))], [], w2)) rfl).trans ?_
  refine (val_g (c2 := (0, 1000, 18, [some (.ref 0), some (.ref 64), some (.ref 108), some (.int (i + 6))], [], w2)) rfl).trans ?_
  rfl
/-- BelfryHouse.heard(I)I -/
theorem law_30 (w w1 w2 : Wd) (i : Int32) (L : Nat) (r : Int32) (hS : wK w 0 = (30, L)) (hS1 : wK w1 0 = (30, L)) (hk1 : wK w 64 = (9, 11)) (hk2 : wK w1 108 = (10, 68)) (hy1 : inB ((i + 1)) L = true) (hx : val (36, 999, 0, [some (.ref 64), some (.int (gI w 0 ((i + 1)).toNatClampNeg))], [], w) = some (some (.int r), w1)) (hm : val (236, 999, 0, [some (.ref 108), some (.int (gI w1 0 ((i + 1)).toNatClampNeg)), none, none, none, none], [], w1) = some (some (.int r), w2)) : val (0, 1000, 1064, [some (.ref 0), some (.ref 64), some (.ref 108), some (.int i)], [], w) = val (0, 1000, 18, [some (.ref 0), some (.ref 64), some (.ref 108), some (.int (i + 6))], [], w2) := by
  refine (val_g (c2 := (0, 1000, 1065, [some (.ref 0), some (.ref 64), some (.ref 108), some (.int i)], [.ref 64], w)) rfl).trans ?_
  refine (val_g (c2 := (0, 1000, 1066, [some (.ref 0), some (.ref 64), some (.ref 108), some (.int i)], [.ref 0, .ref 64], w)) rfl).trans ?_
  refine (val_g (c2 := (0, 1000, 1067, [some (.ref 0), some (.ref 64), some (.ref 108), some (.int i)], [.int i, .ref 0, .ref 64], w)) rfl).trans ?_
  refine (val_g (c2 := (0, 1000, 1068, [some (.ref 0), some (.ref 64), some (.ref 108), some (.int i)], [.int 1, .int i, .ref 0, .ref 64], w)) rfl).trans ?_
  refine (val_g (c2 := (0, 1000, 1069, [some (.ref 0), some (.ref 64), some (.ref 108), some (.int i)], [.int (i + 1), .ref 0, .ref 64], w)) rfl).trans ?_
  refine (val_ial rfl hS rfl hy1).trans ?_
  show val (0, 1000, 1070, [some (.ref 0), some (.ref 64), some (.ref 108), some (.int i)], [.int (gI w 0 ((i + 1)).toNatClampNeg), .ref 64], w) = _
  refine (val_call (d := 999) (w1 := w1) (pc2 := 1073) rfl rfl rfl rfl (rcvO hk1 (by decide)) (Nat.le_of_ble_eq_true rfl) (Nat.le_of_ble_eq_true rfl) rfl hx rfl).trans ?_
  show val (0, 1000, 1073, [some (.ref 0), some (.ref 64), some (.ref 108), some (.int i)], [.int r], w1) = _
  refine (val_g (c2 := (0, 1000, 1074, [some (.ref 0), some (.ref 64), some (.ref 108), some (.int i)], [.ref 108, .int r], w1)) rfl).trans ?_
  refine (val_g (c2 := (0, 1000, 1075, [some (.ref 0), some (.ref 64), some (.ref 108), some (.int i)], [.ref 0, .ref 108, .int r], w1)) rfl).trans ?_
  refine (val_g (c2 := (0, 1000, 1076, [some (.ref 0), some (.ref 64), some (.ref 108), some (.int i)], [.int i, .ref 0, .ref 108, .int r], w1)) rfl).trans ?_
  refine (val_g (c2 := (0, 1000, 1077, [some (.ref 0), some (.ref 64), some (.ref 108), some (.int i)], [.int 1, .int i, .ref 0, .ref 108, .int r], w1)) rfl).trans ?_
  refine (val_g (c2 := (0, 1000, 1078, [some (.ref 0), some (.ref 64), some (.ref 108), some (.int i)], [.int (i + 1), .ref 0, .ref 108, .int r], w1)) rfl).trans ?_
  refine (val_ial rfl hS1 rfl hy1).trans ?_
  show val (0, 1000, 1079, [some (.ref 0), some (.ref 64), some (.ref 108), some (.int i)], [.int (gI w1 0 ((i + 1)).toNatClampNeg), .ref 108, .int r], w1) = _
  refine (val_call (d := 999) (w1 := w2) (pc2 := 1082) rfl rfl rfl rfl (rcvO hk2 (by decide)) (Nat.le_of_ble_eq_true rfl) (Nat.le_of_ble_eq_true rfl) rfl hm rfl).trans ?_
  show val (0, 1000, 1082, [some (.ref 0), some (.ref 64), some (.ref 108), some (.int i)], [.int r, .int r], w2) = _
  refine ((val_ic_eq rfl).trans (if_pos rfl)).trans ?_
  show val (0, 1000, 1384, [some (.ref 0), some (.ref 64), some (.ref 108), some (.int i)], [], w2) = _
  refine (val_g (c2 := (0, 1000, 1387, [some (.ref 0), some (.ref 64), some (.ref 108), some (.int (i + 6))], [], w2)) rfl).trans ?_
  refine (val_g (c2 := (0, 1000, 18, [some (.ref 0), some (.ref 64), some (.ref 108), some (.int (i + 6))], [], w2)) rfl).trans ?_
  rfl
/-- BelfryHouse.line(I)J -/
theorem law_31 (w w1 w2 : Wd) (i : Int32) (L : Nat) (r : Int64) (hS : wK w 0 = (30, L)) (hS1 : wK w1 0 = (30, L)) (hk1 : wK w 64 = (9, 11)) (hk2 : wK w1 108 = (10, 68)) (hy1 : inB ((i + 1)) L = true) (hx : val (37, 999, 0, [some (.ref 64), some (.int (gI w 0 ((i + 1)).toNatClampNeg))], [], w) = some (some (.long r), w1)) (hm : val (248, 999, 0, [some (.ref 108), some (.int (gI w1 0 ((i + 1)).toNatClampNeg)), none, none, none, none, none], [], w1) = some (some (.long r), w2)) : val (0, 1000, 1087, [some (.ref 0), some (.ref 64), some (.ref 108), some (.int i)], [], w) = val (0, 1000, 18, [some (.ref 0), some (.ref 64), some (.ref 108), some (.int (i + 6))], [], w2) := by
  refine (val_g (c2 := (0, 1000, 1088, [some (.ref 0), some (.ref 64), some (.ref 108), some (.int i)], [.ref 64], w)) rfl).trans ?_
  refine (val_g (c2 := (0, 1000, 1089, [some (.ref 0), some (.ref 64), some (.ref 108), some (.int i)], [.ref 0, .ref 64], w)) rfl).trans ?_
  refine (val_g (c2 := (0, 1000, 1090, [some (.ref 0), some (.ref 64), some (.ref 108), some (.int i)], [.int i, .ref 0, .ref 64], w)) rfl).trans ?_
  refine (val_g (c2 := (0, 1000, 1091, [some (.ref 0), some (.ref 64), some (.ref 108), some (.int i)], [.int 1, .int i, .ref 0, .ref 64], w)) rfl).trans ?_
  refine (val_g (c2 := (0, 1000, 1092, [some (.ref 0), some (.ref 64), some (.ref 108), some (.int i)], [.int (i + 1), .ref 0, .ref 64], w)) rfl).trans ?_
  refine (val_ial rfl hS rfl hy1).trans ?_
  show val (0, 1000, 1093, [some (.ref 0), some (.ref 64), some (.ref 108), some (.int i)], [.int (gI w 0 ((i + 1)).toNatClampNeg), .ref 64], w) = _
  refine (val_call (d := 999) (w1 := w1) (pc2 := 1096) rfl rfl rfl rfl (rcvO hk1 (by decide)) (Nat.le_of_ble_eq_true rfl) (Nat.le_of_ble_eq_true rfl) rfl hx rfl).trans ?_
  show val (0, 1000, 1096, [some (.ref 0), some (.ref 64), some (.ref 108), some (.int i)], [.long r], w1) = _
  refine (val_g (c2 := (0, 1000, 1097, [some (.ref 0), some (.ref 64), some (.ref 108), some (.int i)], [.ref 108, .long r], w1)) rfl).trans ?_
  refine (val_g (c2 := (0, 1000, 1098, [some (.ref 0), some (.ref 64), some (.ref 108), some (.int i)], [.ref 0, .ref 108, .long r], w1)) rfl).trans ?_
  refine (val_g (c2 := (0, 1000, 1099, [some (.ref 0), some (.ref 64), some (.ref 108), some (.int i)], [.int i, .ref 0, .ref 108, .long r], w1)) rfl).trans ?_
  refine (val_g (c2 := (0, 1000, 1100, [some (.ref 0), some (.ref 64), some (.ref 108), some (.int i)], [.int 1, .int i, .ref 0, .ref 108, .long r], w1)) rfl).trans ?_
  refine (val_g (c2 := (0, 1000, 1101, [some (.ref 0), some (.ref 64), some (.ref 108), some (.int i)], [.int (i + 1), .ref 0, .ref 108, .long r], w1)) rfl).trans ?_
  refine (val_ial rfl hS1 rfl hy1).trans ?_
  show val (0, 1000, 1102, [some (.ref 0), some (.ref 64), some (.ref 108), some (.int i)], [.int (gI w1 0 ((i + 1)).toNatClampNeg), .ref 108, .long r], w1) = _
  refine (val_call (d := 999) (w1 := w2) (pc2 := 1105) rfl rfl rfl rfl (rcvO hk2 (by decide)) (Nat.le_of_ble_eq_true rfl) (Nat.le_of_ble_eq_true rfl) rfl hm rfl).trans ?_
  show val (0, 1000, 1105, [some (.ref 0), some (.ref 64), some (.ref 108), some (.int i)], [.long r, .long r], w2) = _
  refine (val_g (c2 := (0, 1000, 1106, [some (.ref 0), some (.ref 64), some (.ref 108), some (.int i)], [.int (cmpL r r)], w2)) rfl).trans ?_
  refine ((val_if_eq rfl).trans (if_pos (cmpL_self r))).trans ?_
  show val (0, 1000, 1384, [some (.ref 0), some (.ref 64), some (.ref 108), some (.int i)], [], w2) = _
  refine (val_g (c2 := (0, 1000, 1387, [some (.ref 0), some (.ref 64), some (.ref 108), some (.int (i + 6))], [], w2)) rfl).trans ?_
  refine (val_g (c2 := (0, 1000, 18, [some (.ref 0), some (.ref 64), some (.ref 108), some (.int (i + 6))], [], w2)) rfl).trans ?_
  rfl
/-- BelfryHouse.along(II)J -/
theorem law_32 (w w1 w2 : Wd) (i : Int32) (L : Nat) (r : Int64) (hS : wK w 0 = (30, L)) (hS1 : wK w1 0 = (30, L)) (hk1 : wK w 64 = (9, 11)) (hk2 : wK w1 108 = (10, 68)) (hy1 : inB ((i + 1)) L = true) (hy2 : inB ((i + 2)) L = true) (hx : val (38, 999, 0, [some (.ref 64), some (.int (gI w 0 ((i + 1)).toNatClampNeg)), some (.int (gI w 0 ((i + 2)).toNatClampNeg))], [], w) = some (some (.long r), w1)) (hm : val (249, 999, 0, [some (.ref 108), some (.int (gI w1 0 ((i + 1)).toNatClampNeg)), some (.int (gI w1 0 ((i + 2)).toNatClampNeg)), none, none], [], w1) = some (some (.long r), w2)) : val (0, 1000, 1111, [some (.ref 0), some (.ref 64), some (.ref 108), some (.int i)], [], w) = val (0, 1000, 18, [some (.ref 0), some (.ref 64), some (.ref 108), some (.int (i + 6))], [], w2) := by
  refine (val_g (c2 := (0, 1000, 1112, [some (.ref 0), some (.ref 64), some (.ref 108), some (.int i)], [.ref 64], w)) rfl).trans ?_
  refine (val_g (c2 := (0, 1000, 1113, [some (.ref 0), some (.ref 64), some (.ref 108), some (.int i)], [.ref 0, .ref 64], w)) rfl).trans ?_
  refine (val_g (c2 := (0, 1000, 1114, [some (.ref 0), some (.ref 64), some (.ref 108), some (.int i)], [.int i, .ref 0, .ref 64], w)) rfl).trans ?_
  refine (val_g (c2 := (0, 1000, 1115, [some (.ref 0), some (.ref 64), some (.ref 108), some (.int i)], [.int 1, .int i, .ref 0, .ref 64], w)) rfl).trans ?_
  refine (val_g (c2 := (0, 1000, 1116, [some (.ref 0), some (.ref 64), some (.ref 108), some (.int i)], [.int (i + 1), .ref 0, .ref 64], w)) rfl).trans ?_
  refine (val_ial rfl hS rfl hy1).trans ?_
  show val (0, 1000, 1117, [some (.ref 0), some (.ref 64), some (.ref 108), some (.int i)], [.int (gI w 0 ((i + 1)).toNatClampNeg), .ref 64], w) = _
  refine (val_g (c2 := (0, 1000, 1118, [some (.ref 0), some (.ref 64), some (.ref 108), some (.int i)], [.ref 0, .int (gI w 0 ((i + 1)).toNatClampNeg), .ref 64], w)) rfl).trans ?_
  refine (val_g (c2 := (0, 1000, 1119, [some (.ref 0), some (.ref 64), some (.ref 108), some (.int i)], [.int i, .ref 0, .int (gI w 0 ((i + 1)).toNatClampNeg), .ref 64], w)) rfl).trans ?_
  refine (val_g (c2 := (0, 1000, 1120, [some (.ref 0), some (.ref 64), some (.ref 108), some (.int i)], [.int 2, .int i, .ref 0, .int (gI w 0 ((i + 1)).toNatClampNeg), .ref 64], w)) rfl).trans ?_
  refine (val_g (c2 := (0, 1000, 1121, [some (.ref 0), some (.ref 64), some (.ref 108), some (.int i)], [.int (i + 2), .ref 0, .int (gI w 0 ((i + 1)).toNatClampNeg), .ref 64], w)) rfl).trans ?_
  refine (val_ial rfl hS rfl hy2).trans ?_
  show val (0, 1000, 1122, [some (.ref 0), some (.ref 64), some (.ref 108), some (.int i)], [.int (gI w 0 ((i + 2)).toNatClampNeg), .int (gI w 0 ((i + 1)).toNatClampNeg), .ref 64], w) = _
  refine (val_call (d := 999) (w1 := w1) (pc2 := 1125) rfl rfl rfl rfl (rcvO hk1 (by decide)) (Nat.le_of_ble_eq_true rfl) (Nat.le_of_ble_eq_true rfl) rfl hx rfl).trans ?_
  show val (0, 1000, 1125, [some (.ref 0), some (.ref 64), some (.ref 108), some (.int i)], [.long r], w1) = _
  refine (val_g (c2 := (0, 1000, 1126, [some (.ref 0), some (.ref 64), some (.ref 108), some (.int i)], [.ref 108, .long r], w1)) rfl).trans ?_
  refine (val_g (c2 := (0, 1000, 1127, [some (.ref 0), some (.ref 64), some (.ref 108), some (.int i)], [.ref 0, .ref 108, .long r], w1)) rfl).trans ?_
  refine (val_g (c2 := (0, 1000, 1128, [some (.ref 0), some (.ref 64), some (.ref 108), some (.int i)], [.int i, .ref 0, .ref 108, .long r], w1)) rfl).trans ?_
  refine (val_g (c2 := (0, 1000, 1129, [some (.ref 0), some (.ref 64), some (.ref 108), some (.int i)], [.int 1, .int i, .ref 0, .ref 108, .long r], w1)) rfl).trans ?_
  refine (val_g (c2 := (0, 1000, 1130, [some (.ref 0), some (.ref 64), some (.ref 108), some (.int i)], [.int (i + 1), .ref 0, .ref 108, .long r], w1)) rfl).trans ?_
  refine (val_ial rfl hS1 rfl hy1).trans ?_
  show val (0, 1000, 1131, [some (.ref 0), some (.ref 64), some (.ref 108), some (.int i)], [.int (gI w1 0 ((i + 1)).toNatClampNeg), .ref 108, .long r], w1) = _
  refine (val_g (c2 := (0, 1000, 1132, [some (.ref 0), some (.ref 64), some (.ref 108), some (.int i)], [.ref 0, .int (gI w1 0 ((i + 1)).toNatClampNeg), .ref 108, .long r], w1)) rfl).trans ?_
  refine (val_g (c2 := (0, 1000, 1133, [some (.ref 0), some (.ref 64), some (.ref 108), some (.int i)], [.int i, .ref 0, .int (gI w1 0 ((i + 1)).toNatClampNeg), .ref 108, .long r], w1)) rfl).trans ?_
  refine (val_g (c2 := (0, 1000, 1134, [some (.ref 0), some (.ref 64), some (.ref 108), some (.int i)], [.int 2, .int i, .ref 0, .int (gI w1 0 ((i + 1)).toNatClampNeg), .ref 108, .long r], w1)) rfl).trans ?_
  refine (val_g (c2 := (0, 1000, 1135, [some (.ref 0), some (.ref 64), some (.ref 108), some (.int i)], [.int (i + 2), .ref 0, .int (gI w1 0 ((i + 1)).toNatClampNeg), .ref 108, .long r], w1)) rfl).trans ?_
  refine (val_ial rfl hS1 rfl hy2).trans ?_
  show val (0, 1000, 1136, [some (.ref 0), some (.ref 64), some (.ref 108), some (.int i)], [.int (gI w1 0 ((i + 2)).toNatClampNeg), .int (gI w1 0 ((i + 1)).toNatClampNeg), .ref 108, .long r], w1) = _
  refine (val_call (d := 999) (w1 := w2) (pc2 := 1139) rfl rfl rfl rfl (rcvO hk2 (by decide)) (Nat.le_of_ble_eq_true rfl) (Nat.le_of_ble_eq_true rfl) rfl hm rfl).trans ?_
  show val (0, 1000, 1139, [some (.ref 0), some (.ref 64), some (.ref 108), some (.int i)], [.long r, .long r], w2) = _
  refine (val_g (c2 := (0, 1000, 1140, [some (.ref 0), some (.ref 64), some (.ref 108), some (.int i)], [.int (cmpL r r)], w2)) rfl).trans ?_
  refine ((val_if_eq rfl).trans (if_pos (cmpL_self r))).trans ?_
  show val (0, 1000, 1384, [some (.ref 0), some (.ref 64), some (.ref 108), some (.int i)], [], w2) = _
  refine (val_g (c2 := (0, 1000, 1387, [some (.ref 0), some (.ref 64), some (.ref 108), some (.int (i + 6))], [], w2)) rfl).trans ?_
  refine (val_g (c2 := (0, 1000, 18, [some (.ref 0), some (.ref 64), some (.ref 108), some (.int (i + 6))], [], w2)) rfl).trans ?_
  rfl
/-- BelfryHouse.board(III)I -/
theorem law_33 (w w1 w2 : Wd) (i : Int32) (L : Nat) (r : Int32) (hS : wK w 0 = (30, L)) (hS1 : wK w1 0 = (30, L)) (hk1 : wK w 64 = (9, 11)) (hk2 : wK w1 108 = (10, 68)) (hy1 : inB ((i + 1)) L = true) (hy2 : inB ((i + 2)) L = true) (hy3 : inB ((i + 3)) L = true) (hx : val (41, 999, 0, [some (.ref 64), some (.int (gI w 0 ((i + 1)).toNatClampNeg)), some (.int (gI w 0 ((i + 2)).toNatClampNeg)), some (.int (gI w 0 ((i + 3)).toNatClampNeg))], [], w) = some (some (.int r), w1)) (hm : val (251, 999, 0, [some (.ref 108), some (.int (gI w1 0 ((i + 1)).toNatClampNeg)), some (.int (gI w1 0 ((i + 2)).toNatClampNeg)), some (.int (gI w1 0 ((i + 3)).toNatClampNeg)), none], [], w1) = some (some (.int r), w2)) : val (0, 1000, 1145, [some (.ref 0), some (.ref 64), some (.ref 108), some (.int i)], [], w) = val (0, 1000, 18, [some (.ref 0), some (.ref 64), some (.ref 108), some (.int (i + 6))], [], w2) := by
  refine (val_g (c2 := (0, 1000, 1146, [some (.ref 0), some (.ref 64), some (.ref 108), some (.int i)], [.ref 64], w)) rfl).trans ?_
  refine (val_g (c2 := (0, 1000, 1147, [some (.ref 0), some (.ref 64), some (.ref 108), some (.int i)], [.ref 0, .ref 64], w)) rfl).trans ?_
  refine (val_g (c2 := (0, 1000, 1148, [some (.ref 0), some (.ref 64), some (.ref 108), some (.int i)], [.int i, .ref 0, .ref 64], w)) rfl).trans ?_
  refine (val_g (c2 := (0, 1000, 1149, [some (.ref 0), some (.ref 64), some (.ref 108), some (.int i)], [.int 1, .int i, .ref 0, .ref 64], w)) rfl).trans ?_
  refine (val_g (c2 := (0, 1000, 1150, [some (.ref 0), some (.ref 64), some (.ref 108), some (.int i)], [.int (i + 1), .ref 0, .ref 64], w)) rfl).trans ?_
  refine (val_ial rfl hS rfl hy1).trans ?_
  show val (0, 1000, 1151, [some (.ref 0), some (.ref 64), some (.ref 108), some (.int i)], [.int (gI w 0 ((i + 1)).toNatClampNeg), .ref 64], w) = _
  refine (val_g (c2 := (0, 1000, 1152, [some (.ref 0), some (.ref 64), some (.ref 108), some (.int i)], [.ref 0, .int (gI w 0 ((i + 1)).toNatClampNeg), .ref 64], w)) rfl).trans ?_
  refine (val_g (c2 := (0, 1000, 1153, [some (.ref 0), some (.ref 64), some (.ref 108), some (.int i)], [.int i, .ref 0, .int (gI w 0 ((i + 1)).toNatClampNeg), .ref 64], w)) rfl).trans ?_
  refine (val_g (c2 := (0, 1000, 1154, [some (.ref 0), some (.ref 64), some (.ref 108), some (.int i)], [.int 2, .int i, .ref 0, .int (gI w 0 ((i + 1)).toNatClampNeg), .ref 64], w)) rfl).trans ?_
  refine (val_g (c2 := (0, 1000, 1155, [some (.ref 0), some (.ref 64), some (.ref 108), some (.int i)], [.int (i + 2), .ref 0, .int (gI w 0 ((i + 1)).toNatClampNeg), .ref 64], w)) rfl).trans ?_
  refine (val_ial rfl hS rfl hy2).trans ?_
  show val (0, 1000, 1156, [some (.ref 0), some (.ref 64), some (.ref 108), some (.int i)], [.int (gI w 0 ((i + 2)).toNatClampNeg), .int (gI w 0 ((i + 1)).toNatClampNeg), .ref 64], w) = _
  refine (val_g (c2 := (0, 1000, 1157, [some (.ref 0), some (.ref 64), some (.ref 108), some (.int i)], [.ref 0, .int (gI w 0 ((i + 2)).toNatClampNeg), .int (gI w 0 ((i + 1)).toNatClampNeg), .ref 64], w)) rfl).trans ?_
  refine (val_g (c2 := (0, 1000, 1158, [some (.ref 0), some (.ref 64), some (.ref 108), some (.int i)], [.int i, .ref 0, .int (gI w 0 ((i + 2)).toNatClampNeg), .int (gI w 0 ((i + 1)).toNatClampNeg), .ref 64], w)) rfl).trans ?_
  refine (val_g (c2 := (0, 1000, 1159, [some (.ref 0), some (.ref 64), some (.ref 108), some (.int i)], [.int 3, .int i, .ref 0, .int (gI w 0 ((i + 2)).toNatClampNeg), .int (gI w 0 ((i + 1)).toNatClampNeg), .ref 64], w)) rfl).trans ?_
  refine (val_g (c2 := (0, 1000, 1160, [some (.ref 0), some (.ref 64), some (.ref 108), some (.int i)], [.int (i + 3), .ref 0, .int (gI w 0 ((i + 2)).toNatClampNeg), .int (gI w 0 ((i + 1)).toNatClampNeg), .ref 64], w)) rfl).trans ?_
  refine (val_ial rfl hS rfl hy3).trans ?_
  show val (0, 1000, 1161, [some (.ref 0), some (.ref 64), some (.ref 108), some (.int i)], [.int (gI w 0 ((i + 3)).toNatClampNeg), .int (gI w 0 ((i + 2)).toNatClampNeg), .int (gI w 0 ((i + 1)).toNatClampNeg), .ref 64], w) = _
  refine (val_call (d := 999) (w1 := w1) (pc2 := 1164) rfl rfl rfl rfl (rcvO hk1 (by decide)) (Nat.le_of_ble_eq_true rfl) (Nat.le_of_ble_eq_true rfl) rfl hx rfl).trans ?_
  show val (0, 1000, 1164, [some (.ref 0), some (.ref 64), some (.ref 108), some (.int i)], [.int r], w1) = _
  refine (val_g (c2 := (0, 1000, 1165, [some (.ref 0), some (.ref 64), some (.ref 108), some (.int i)], [.ref 108, .int r], w1)) rfl).trans ?_
  refine (val_g (c2 := (0, 1000, 1166, [some (.ref 0), some (.ref 64), some (.ref 108), some (.int i)], [.ref 0, .ref 108, .int r], w1)) rfl).trans ?_
  refine (val_g (c2 := (0, 1000, 1167, [some (.ref 0), some (.ref 64), some (.ref 108), some (.int i)], [.int i, .ref 0, .ref 108, .int r], w1)) rfl).trans ?_
  refine (val_g (c2 := (0, 1000, 1168, [some (.ref 0), some (.ref 64), some (.ref 108), some (.int i)], [.int 1, .int i, .ref 0, .ref 108, .int r], w1)) rfl).trans ?_
  refine (val_g (c2 := (0, 1000, 1169, [some (.ref 0), some (.ref 64), some (.ref 108), some (.int i)], [.int (i + 1), .ref 0, .ref 108, .int r], w1)) rfl).trans ?_
  refine (val_ial rfl hS1 rfl hy1).trans ?_
  show val (0, 1000, 1170, [some (.ref 0), some (.ref 64), some (.ref 108), some (.int i)], [.int (gI w1 0 ((i + 1)).toNatClampNeg), .ref 108, .int r], w1) = _
  refine (val_g (c2 := (0, 1000, 1171, [some (.ref 0), some (.ref 64), some (.ref 108), some (.int i)], [.ref 0, .int (gI w1 0 ((i + 1)).toNatClampNeg), .ref 108, .int r], w1)) rfl).trans ?_
  refine (val_g (c2 := (0, 1000, 1172, [some (.ref 0), some (.ref 64), some (.ref 108), some (.int i)], [.int i, .ref 0, .int (gI w1 0 ((i + 1)).toNatClampNeg), .ref 108, .int r], w1)) rfl).trans ?_
  refine (val_g (c2 := (0, 1000, 1173, [some (.ref 0), some (.ref 64), some (.ref 108), some (.int i)], [.int 2, .int i, .ref 0, .int (gI w1 0 ((i + 1)).toNatClampNeg), .ref 108, .int r], w1)) rfl).trans ?_
  refine (val_g (c2 := (0, 1000, 1174, [some (.ref 0), some (.ref 64), some (.ref 108), some (.int i)], [.int (i + 2), .ref 0, .int (gI w1 0 ((i + 1)).toNatClampNeg), .ref 108, .int r], w1)) rfl).trans ?_
  refine (val_ial rfl hS1 rfl hy2).trans ?_
  show val (0, 1000, 1175, [some (.ref 0), some (.ref 64), some (.ref 108), some (.int i)], [.int (gI w1 0 ((i + 2)).toNatClampNeg), .int (gI w1 0 ((i + 1)).toNatClampNeg), .ref 108, .int r], w1) = _
  refine (val_g (c2 := (0, 1000, 1176, [some (.ref 0), some (.ref 64), some (.ref 108), some (.int i)], [.ref 0, .int (gI w1 0 ((i + 2)).toNatClampNeg), .int (gI w1 0 ((i + 1)).toNatClampNeg), .ref 108, .int r], w1)) rfl).trans ?_
  refine (val_g (c2 := (0, 1000, 1177, [some (.ref 0), some (.ref 64), some (.ref 108), some (.int i)], [.int i, .ref 0, .int (gI w1 0 ((i + 2)).toNatClampNeg), .int (gI w1 0 ((i + 1)).toNatClampNeg), .ref 108, .int r], w1)) rfl).trans ?_
  refine (val_g (c2 := (0, 1000, 1178, [some (.ref 0), some (.ref 64), some (.ref 108), some (.int i)], [.int 3, .int i, .ref 0, .int (gI w1 0 ((i + 2)).toNatClampNeg), .int (gI w1 0 ((i + 1)).toNatClampNeg), .ref 108, .int r], w1)) rfl).trans ?_
  refine (val_g (c2 := (0, 1000, 1179, [some (.ref 0), some (.ref 64), some (.ref 108), some (.int i)], [.int (i + 3), .ref 0, .int (gI w1 0 ((i + 2)).toNatClampNeg), .int (gI w1 0 ((i + 1)).toNatClampNeg), .ref 108, .int r], w1)) rfl).trans ?_
  refine (val_ial rfl hS1 rfl hy3).trans ?_
  show val (0, 1000, 1180, [some (.ref 0), some (.ref 64), some (.ref 108), some (.int i)], [.int (gI w1 0 ((i + 3)).toNatClampNeg), .int (gI w1 0 ((i + 2)).toNatClampNeg), .int (gI w1 0 ((i + 1)).toNatClampNeg), .ref 108, .int r], w1) = _
  refine (val_call (d := 999) (w1 := w2) (pc2 := 1183) rfl rfl rfl rfl (rcvO hk2 (by decide)) (Nat.le_of_ble_eq_true rfl) (Nat.le_of_ble_eq_true rfl) rfl hm rfl).trans ?_
  show val (0, 1000, 1183, [some (.ref 0), some (.ref 64), some (.ref 108), some (.int i)], [.int r, .int r], w2) = _
  refine ((val_ic_eq rfl).trans (if_pos rfl)).trans ?_
  show val (0, 1000, 1384, [some (.ref 0), some (.ref 64), some (.ref 108), some (.int i)], [], w2) = _
  refine (val_g (c2 := (0, 1000, 1387, [some (.ref 0), some (.ref 64), some (.ref 108), some (.int (i + 6))], [], w2)) rfl).trans ?_
  refine (val_g (c2 := (0, 1000, 18, [some (.ref 0), some (.ref 64), some (.ref 108), some (.int (i + 6))], [], w2)) rfl).trans ?_
  rfl
/-- BelfryHouse.clear(I)I -/
theorem law_34 (w w1 w2 : Wd) (i : Int32) (L : Nat) (r : Int32) (hS : wK w 0 = (30, L)) (hS1 : wK w1 0 = (30, L)) (hk1 : wK w 64 = (9, 11)) (hk2 : wK w1 108 = (10, 68)) (hy1 : inB ((i + 1)) L = true) (hx : val (42, 999, 0, [some (.ref 64), some (.int (gI w 0 ((i + 1)).toNatClampNeg))], [], w) = some (some (.int r), w1)) (hm : val (252, 999, 0, [some (.ref 108), some (.int (gI w1 0 ((i + 1)).toNatClampNeg))], [], w1) = some (some (.int r), w2)) : val (0, 1000, 1188, [some (.ref 0), some (.ref 64), some (.ref 108), some (.int i)], [], w) = val (0, 1000, 18, [some (.ref 0), some (.ref 64), some (.ref 108), some (.int (i + 6))], [], w2) := by
  refine (val_g (c2 := (0, 1000, 1189, [some (.ref 0), some (.ref 64), some (.ref 108), some (.int i)], [.ref 64], w)) rfl).trans ?_
  refine (val_g (c2 := (0, 1000, 1190, [some (.ref 0), some (.ref 64), some (.ref 108), some (.int i)], [.ref 0, .ref 64], w)) rfl).trans ?_
  refine (val_g (c2 := (0, 1000, 1191, [some (.ref 0), some (.ref 64), some (.ref 108), some (.int i)], [.int i, .ref 0, .ref 64], w)) rfl).trans ?_
  refine (val_g (c2 := (0, 1000, 1192, [some (.ref 0), some (.ref 64), some (.ref 108), some (.int i)], [.int 1, .int i, .ref 0, .ref 64], w)) rfl).trans ?_
  refine (val_g (c2 := (0, 1000, 1193, [some (.ref 0), some (.ref 64), some (.ref 108), some (.int i)], [.int (i + 1), .ref 0, .ref 64], w)) rfl).trans ?_
  refine (val_ial rfl hS rfl hy1).trans ?_
  show val (0, 1000, 1194, [some (.ref 0), some (.ref 64), some (.ref 108), some (.int i)], [.int (gI w 0 ((i + 1)).toNatClampNeg), .ref 64], w) = _
  refine (val_call (d := 999) (w1 := w1) (pc2 := 1197) rfl rfl rfl rfl (rcvO hk1 (by decide)) (Nat.le_of_ble_eq_true rfl) (Nat.le_of_ble_eq_true rfl) rfl hx rfl).trans ?_
  show val (0, 1000, 1197, [some (.ref 0), some (.ref 64), some (.ref 108), some (.int i)], [.int r], w1) = _
  refine (val_g (c2 := (0, 1000, 1198, [some (.ref 0), some (.ref 64), some (.ref 108), some (.int i)], [.ref 108, .int r], w1)) rfl).trans ?_
  refine (val_g (c2 := (0, 1000, 1199, [some (.ref 0), some (.ref 64), some (.ref 108), some (.int i)], [.ref 0, .ref 108, .int r], w1)) rfl).trans ?_
  refine (val_g (c2 := (0, 1000, 1200, [some (.ref 0), some (.ref 64), some (.ref 108), some (.int i)], [.int i, .ref 0, .ref 108, .int r], w1)) rfl).trans ?_
  refine (val_g (c2 := (0, 1000, 1201, [some (.ref 0), some (.ref 64), some (.ref 108), some (.int i)], [.int 1, .int i, .ref 0, .ref 108, .int r], w1)) rfl).trans ?_
  refine (val_g (c2 := (0, 1000, 1202, [some (.ref 0), some (.ref 64), some (.ref 108), some (.int i)], [.int (i + 1), .ref 0, .ref 108, .int r], w1)) rfl).trans ?_
  refine (val_ial rfl hS1 rfl hy1).trans ?_
  show val (0, 1000, 1203, [some (.ref 0), some (.ref 64), some (.ref 108), some (.int i)], [.int (gI w1 0 ((i + 1)).toNatClampNeg), .ref 108, .int r], w1) = _
  refine (val_call (d := 999) (w1 := w2) (pc2 := 1206) rfl rfl rfl rfl (rcvO hk2 (by decide)) (Nat.le_of_ble_eq_true rfl) (Nat.le_of_ble_eq_true rfl) rfl hm rfl).trans ?_
  show val (0, 1000, 1206, [some (.ref 0), some (.ref 64), some (.ref 108), some (.int i)], [.int r, .int r], w2) = _
  refine ((val_ic_eq rfl).trans (if_pos rfl)).trans ?_
  show val (0, 1000, 1384, [some (.ref 0), some (.ref 64), some (.ref 108), some (.int i)], [], w2) = _
  refine (val_g (c2 := (0, 1000, 1387, [some (.ref 0), some (.ref 64), some (.ref 108), some (.int (i + 6))], [], w2)) rfl).trans ?_
  refine (val_g (c2 := (0, 1000, 18, [some (.ref 0), some (.ref 64), some (.ref 108), some (.int (i + 6))], [], w2)) rfl).trans ?_
  rfl
/-- BelfryHouse.items(I)I -/
theorem law_35 (w w1 w2 : Wd) (i : Int32) (L : Nat) (r : Int32) (hS : wK w 0 = (30, L)) (hS1 : wK w1 0 = (30, L)) (hk1 : wK w 64 = (9, 11)) (hk2 : wK w1 108 = (10, 68)) (hy1 : inB ((i + 1)) L = true) (hx : val (43, 999, 0, [some (.ref 64), some (.int (gI w 0 ((i + 1)).toNatClampNeg))], [], w) = some (some (.int r), w1)) (hm : val (253, 999, 0, [some (.ref 108), some (.int (gI w1 0 ((i + 1)).toNatClampNeg))], [], w1) = some (some (.int r), w2)) : val (0, 1000, 1211, [some (.ref 0), some (.ref 64), some (.ref 108), some (.int i)], [], w) = val (0, 1000, 18, [some (.ref 0), some (.ref 64), some (.ref 108), some (.int (i + 6))], [], w2) := by
  refine (val_g (c2 := (0, 1000, 1212, [some (.ref 0), some (.ref 64), some (.ref 108), some (.int i)], [.ref 64], w)) rfl).trans ?_
  refine (val_g (c2 := (0, 1000, 1213, [some (.ref 0), some (.ref 64), some (.ref 108), some (.int i)], [.ref 0, .ref 64], w)) rfl).trans ?_
  refine (val_g (c2 := (0, 1000, 1214, [some (.ref 0), some (.ref 64), some (.ref 108), some (.int i)], [.int i, .ref 0, .ref 64], w)) rfl).trans ?_
  refine (val_g (c2 := (0, 1000, 1215, [some (.ref 0), some (.ref 64), some (.ref 108), some (.int i)], [.int 1, .int i, .ref 0, .ref 64], w)) rfl).trans ?_
  refine (val_g (c2 := (0, 1000, 1216, [some (.ref 0), some (.ref 64), some (.ref 108), some (.int i)], [.int (i + 1), .ref 0, .ref 64], w)) rfl).trans ?_
  refine (val_ial rfl hS rfl hy1).trans ?_
  show val (0, 1000, 1217, [some (.ref 0), some (.ref 64), some (.ref 108), some (.int i)], [.int (gI w 0 ((i + 1)).toNatClampNeg), .ref 64], w) = _
  refine (val_call (d := 999) (w1 := w1) (pc2 := 1220) rfl rfl rfl rfl (rcvO hk1 (by decide)) (Nat.le_of_ble_eq_true rfl) (Nat.le_of_ble_eq_true rfl) rfl hx rfl).trans ?_
  show val (0, 1000, 1220, [some (.ref 0), some (.ref 64), some (.ref 108), some (.int i)], [.int r], w1) = _
  refine (val_g (c2 := (0, 1000, 1221, [some (.ref 0), some (.ref 64), some (.ref 108), some (.int i)], [.ref 108, .int r], w1)) rfl).trans ?_
  refine (val_g (c2 := (0, 1000, 1222, [some (.ref 0), some (.ref 64), some (.ref 108), some (.int i)], [.ref 0, .ref 108, .int r], w1)) rfl).trans ?_
  refine (val_g (c2 := (0, 1000, 1223, [some (.ref 0), some (.ref 64), some (.ref 108), some (.int i)], [.int i, .ref 0, .ref 108, .int r], w1)) rfl).trans ?_
  refine (val_g (c2 := (0, 1000, 1224, [some (.ref 0), some (.ref 64), some (.ref 108), some (.int i)], [.int 1, .int i, .ref 0, .ref 108, .int r], w1)) rfl).trans ?_
  refine (val_g (c2 := (0, 1000, 1225, [some (.ref 0), some (.ref 64), some (.ref 108), some (.int i)], [.int (i + 1), .ref 0, .ref 108, .int r], w1)) rfl).trans ?_
  refine (val_ial rfl hS1 rfl hy1).trans ?_
  show val (0, 1000, 1226, [some (.ref 0), some (.ref 64), some (.ref 108), some (.int i)], [.int (gI w1 0 ((i + 1)).toNatClampNeg), .ref 108, .int r], w1) = _
  refine (val_call (d := 999) (w1 := w2) (pc2 := 1229) rfl rfl rfl rfl (rcvO hk2 (by decide)) (Nat.le_of_ble_eq_true rfl) (Nat.le_of_ble_eq_true rfl) rfl hm rfl).trans ?_
  show val (0, 1000, 1229, [some (.ref 0), some (.ref 64), some (.ref 108), some (.int i)], [.int r, .int r], w2) = _
  refine ((val_ic_eq rfl).trans (if_pos rfl)).trans ?_
  show val (0, 1000, 1384, [some (.ref 0), some (.ref 64), some (.ref 108), some (.int i)], [], w2) = _
  refine (val_g (c2 := (0, 1000, 1387, [some (.ref 0), some (.ref 64), some (.ref 108), some (.int (i + 6))], [], w2)) rfl).trans ?_
  refine (val_g (c2 := (0, 1000, 18, [some (.ref 0), some (.ref 64), some (.ref 108), some (.int (i + 6))], [], w2)) rfl).trans ?_
  rfl
/-- BelfryHouse.fill(III)I -/
theorem law_36 (w w1 w2 : Wd) (i : Int32) (L : Nat) (r : Int32) (hS : wK w 0 = (30, L)) (hS1 : wK w1 0 = (30, L)) (hk1 : wK w 64 = (9, 11)) (hk2 : wK w1 108 = (10, 68)) (hy1 : inB ((i + 1)) L = true) (hy2 : inB ((i + 2)) L = true) (hy3 : inB ((i + 3)) L = true) (hx : val (44, 999, 0, [some (.ref 64), some (.int (gI w 0 ((i + 1)).toNatClampNeg)), some (.int (gI w 0 ((i + 2)).toNatClampNeg)), some (.int (gI w 0 ((i + 3)).toNatClampNeg)), none, none, none], [], w) = some (some (.int r), w1)) (hm : val (254, 999, 0, [some (.ref 108), some (.int (gI w1 0 ((i + 1)).toNatClampNeg)), some (.int (gI w1 0 ((i + 2)).toNatClampNeg)), some (.int (gI w1 0 ((i + 3)).toNatClampNeg)), none, none, none, none], [], w1) = some (some (.int r), w2)) : val (0, 1000, 1234, [some (.ref 0), some (.ref 64), some (.ref 108), some (.int i)], [], w) = val (0, 1000, 18, [some (.ref 0), some (.ref 64), some (.ref 108), some (.int (i + 6))], [], w2) := by
  refine (val_g (c2 := (0, 1000, 1235, [some (.ref 0), some (.ref 64), some (.ref 108), some (.int i)], [.ref 64], w)) rfl).trans ?_
  refine (val_g (c2 := (0, 1000, 1236, [some (.ref 0), some (.ref 64), some (.ref 108), some (.int i)], [.ref 0, .ref 64], w)) rfl).trans ?_
  refine (val_g (c2 := (0, 1000, 1237, [some (.ref 0), some (.ref 64), some (.ref 108), some (.int i)], [.int i, .ref 0, .ref 64], w)) rfl).trans ?_
  refine (val_g (c2 := (0, 1000, 1238, [some (.ref 0), some (.ref 64), some (.ref 108), some (.int i)], [.int 1, .int i, .ref 0, .ref 64], w)) rfl).trans ?_
  refine (val_g (c2 := (0, 1000, 1239, [some (.ref 0), some (.ref 64), some (.ref 108), some (.int i)], [.int (i + 1), .ref 0, .ref 64], w)) rfl).trans ?_
  refine (val_ial rfl hS rfl hy1).trans ?_
  show val (0, 1000, 1240, [some (.ref 0), some (.ref 64), some (.ref 108), some (.int i)], [.int (gI w 0 ((i + 1)).toNatClampNeg), .ref 64], w) = _
  refine (val_g (c2 := (0, 1000, 1241, [some (.ref 0), some (.ref 64), some (.ref 108), some (.int i)], [.ref 0, .int (gI w 0 ((i + 1)).toNatClampNeg), .ref 64], w)) rfl).trans ?_
  refine (val_g (c2 := (0, 1000, 1242, [some (.ref 0), some (.ref 64), some (.ref 108), some (.int i)], [.int i, .ref 0, .int (gI w 0 ((i + 1)).toNatClampNeg), .ref 64], w)) rfl).trans ?_
  refine (val_g (c2 := (0, 1000, 1243, [some (.ref 0), some (.ref 64), some (.ref 108), some (.int i)], [.int 2, .int i, .ref 0, .int (gI w 0 ((i + 1)).toNatClampNeg), .ref 64], w)) rfl).trans ?_
  refine (val_g (c2 := (0, 1000, 1244, [some (.ref 0), some (.ref 64), some (.ref 108), some (.int i)], [.int (i + 2), .ref 0, .int (gI w 0 ((i + 1)).toNatClampNeg), .ref 64], w)) rfl).trans ?_
  refine (val_ial rfl hS rfl hy2).trans ?_
  show val (0, 1000, 1245, [some (.ref 0), some (.ref 64), some (.ref 108), some (.int i)], [.int (gI w 0 ((i + 2)).toNatClampNeg), .int (gI w 0 ((i + 1)).toNatClampNeg), .ref 64], w) = _
  refine (val_g (c2 := (0, 1000, 1246, [some (.ref 0), some (.ref 64), some (.ref 108), some (.int i)], [.ref 0, .int (gI w 0 ((i + 2)).toNatClampNeg), .int (gI w 0 ((i + 1)).toNatClampNeg), .ref 64], w)) rfl).trans ?_
  refine (val_g (c2 := (0, 1000, 1247, [some (.ref 0), some (.ref 64), some (.ref 108), some (.int i)], [.int i, .ref 0, .int (gI w 0 ((i + 2)).toNatClampNeg), .int (gI w 0 ((i + 1)).toNatClampNeg), .ref 64], w)) rfl).trans ?_
  refine (val_g (c2 := (0, 1000, 1248, [some (.ref 0), some (.ref 64), some (.ref 108), some (.int i)], [.int 3, .int i, .ref 0, .int (gI w 0 ((i + 2)).toNatClampNeg), .int (gI w 0 ((i + 1)).toNatClampNeg), .ref 64], w)) rfl).trans ?_
  refine (val_g (c2 := (0, 1000, 1249, [some (.ref 0), some (.ref 64), some (.ref 108), some (.int i)], [.int (i + 3), .ref 0, .int (gI w 0 ((i + 2)).toNatClampNeg), .int (gI w 0 ((i + 1)).toNatClampNeg), .ref 64], w)) rfl).trans ?_
  refine (val_ial rfl hS rfl hy3).trans ?_
  show val (0, 1000, 1250, [some (.ref 0), some (.ref 64), some (.ref 108), some (.int i)], [.int (gI w 0 ((i + 3)).toNatClampNeg), .int (gI w 0 ((i + 2)).toNatClampNeg), .int (gI w 0 ((i + 1)).toNatClampNeg), .ref 64], w) = _
  refine (val_call (d := 999) (w1 := w1) (pc2 := 1253) rfl rfl rfl rfl (rcvO hk1 (by decide)) (Nat.le_of_ble_eq_true rfl) (Nat.le_of_ble_eq_true rfl) rfl hx rfl).trans ?_
  show val (0, 1000, 1253, [some (.ref 0), some (.ref 64), some (.ref 108), some (.int i)], [.int r], w1) = _
  refine (val_g (c2 := (0, 1000, 1254, [some (.ref 0), some (.ref 64), some (.ref 108), some (.int i)], [.ref 108, .int r], w1)) rfl).trans ?_
  refine (val_g (c2 := (0, 1000, 1255, [some (.ref 0), some (.ref 64), some (.ref 108), some (.int i)], [.ref 0, .ref 108, .int r], w1)) rfl).trans ?_
  refine (val_g (c2 := (0, 1000, 1256, [some (.ref 0), some (.ref 64), some (.ref 108), some (.int i)], [.int i, .ref 0, .ref 108, .int r], w1)) rfl).trans ?_
  refine (val_g (c2 := (0, 1000, 1257, [some (.ref 0), some (.ref 64), some (.ref 108), some (.int i)], [.int 1, .int i, .ref 0, .ref 108, .int r], w1)) rfl).trans ?_
  refine (val_g (c2 := (0, 1000, 1258, [some (.ref 0), some (.ref 64), some (.ref 108), some (.int i)], [.int (i + 1), .ref 0, .ref 108, .int r], w1)) rfl).trans ?_
  refine (val_ial rfl hS1 rfl hy1).trans ?_
  show val (0, 1000, 1259, [some (.ref 0), some (.ref 64), some (.ref 108), some (.int i)], [.int (gI w1 0 ((i + 1)).toNatClampNeg), .ref 108, .int r], w1) = _
  refine (val_g (c2 := (0, 1000, 1260, [some (.ref 0), some (.ref 64), some (.ref 108), some (.int i)], [.ref 0, .int (gI w1 0 ((i + 1)).toNatClampNeg), .ref 108, .int r], w1)) rfl).trans ?_
  refine (val_g (c2 := (0, 1000, 1261, [some (.ref 0), some (.ref 64), some (.ref 108), some (.int i)], [.int i, .ref 0, .int (gI w1 0 ((i + 1)).toNatClampNeg), .ref 108, .int r], w1)) rfl).trans ?_
  refine (val_g (c2 := (0, 1000, 1262, [some (.ref 0), some (.ref 64), some (.ref 108), some (.int i)], [.int 2, .int i, .ref 0, .int (gI w1 0 ((i + 1)).toNatClampNeg), .ref 108, .int r], w1)) rfl).trans ?_
  refine (val_g (c2 := (0, 1000, 1263, [some (.ref 0), some (.ref 64), some (.ref 108), some (.int i)], [.int (i + 2), .ref 0, .int (gI w1 0 ((i + 1)).toNatClampNeg), .ref 108, .int r], w1)) rfl).trans ?_
  refine (val_ial rfl hS1 rfl hy2).trans ?_
  show val (0, 1000, 1264, [some (.ref 0), some (.ref 64), some (.ref 108), some (.int i)], [.int (gI w1 0 ((i + 2)).toNatClampNeg), .int (gI w1 0 ((i + 1)).toNatClampNeg), .ref 108, .int r], w1) = _
  refine (val_g (c2 := (0, 1000, 1265, [some (.ref 0), some (.ref 64), some (.ref 108), some (.int i)], [.ref 0, .int (gI w1 0 ((i + 2)).toNatClampNeg), .int (gI w1 0 ((i + 1)).toNatClampNeg), .ref 108, .int r], w1)) rfl).trans ?_
  refine (val_g (c2 := (0, 1000, 1266, [some (.ref 0), some (.ref 64), some (.ref 108), some (.int i)], [.int i, .ref 0, .int (gI w1 0 ((i + 2)).toNatClampNeg), .int (gI w1 0 ((i + 1)).toNatClampNeg), .ref 108, .int r], w1)) rfl).trans ?_
  refine (val_g (c2 := (0, 1000, 1267, [some (.ref 0), some (.ref 64), some (.ref 108), some (.int i)], [.int 3, .int i, .ref 0, .int (gI w1 0 ((i + 2)).toNatClampNeg), .int (gI w1 0 ((i + 1)).toNatClampNeg), .ref 108, .int r], w1)) rfl).trans ?_
  refine (val_g (c2 := (0, 1000, 1268, [some (.ref 0), some (.ref 64), some (.ref 108), some (.int i)], [.int (i + 3), .ref 0, .int (gI w1 0 ((i + 2)).toNatClampNeg), .int (gI w1 0 ((i + 1)).toNatClampNeg), .ref 108, .int r], w1)) rfl).trans ?_
  refine (val_ial rfl hS1 rfl hy3).trans ?_
  show val (0, 1000, 1269, [some (.ref 0), some (.ref 64), some (.ref 108), some (.int i)], [.int (gI w1 0 ((i + 3)).toNatClampNeg), .int (gI w1 0 ((i + 2)).toNatClampNeg), .int (gI w1 0 ((i + 1)).toNatClampNeg), .ref 108, .int r], w1) = _
  refine (val_call (d := 999) (w1 := w2) (pc2 := 1272) rfl rfl rfl rfl (rcvO hk2 (by decide)) (Nat.le_of_ble_eq_true rfl) (Nat.le_of_ble_eq_true rfl) rfl hm rfl).trans ?_
  show val (0, 1000, 1272, [some (.ref 0), some (.ref 64), some (.ref 108), some (.int i)], [.int r, .int r], w2) = _
  refine ((val_ic_eq rfl).trans (if_pos rfl)).trans ?_
  show val (0, 1000, 1384, [some (.ref 0), some (.ref 64), some (.ref 108), some (.int i)], [], w2) = _
  refine (val_g (c2 := (0, 1000, 1387, [some (.ref 0), some (.ref 64), some (.ref 108), some (.int (i + 6))], [], w2)) rfl).trans ?_
  refine (val_g (c2 := (0, 1000, 18, [some (.ref 0), some (.ref 64), some (.ref 108), some (.int (i + 6))], [], w2)) rfl).trans ?_
  rfl
/-- BelfryHouse.copy(IIIII)I -/
theorem law_37 (w w1 w2 : Wd) (i : Int32) (L : Nat) (r : Int32) (hS : wK w 0 = (30, L)) (hS1 : wK w1 0 = (30, L)) (hk1 : wK w 64 = (9, 11)) (hk2 : wK w1 108 = (10, 68)) (hy1 : inB ((i + 1)) L = true) (hy2 : inB ((i + 2)) L = true) (hy3 : inB ((i + 3)) L = true) (hy4 : inB ((i + 4)) L = true) (hy5 : inB ((i + 5)) L = true) (hx : val (46, 999, 0, [some (.ref 64), some (.int (gI w 0 ((i + 1)).toNatClampNeg)), some (.int (gI w 0 ((i + 2)).toNatClampNeg)), some (.int (gI w 0 ((i + 3)).toNatClampNeg)), some (.int (gI w 0 ((i + 4)).toNatClampNeg)), some (.int (gI w 0 ((i + 5)).toNatClampNeg))], [], w) = some (some (.int r), w1)) (hm : val (255, 999, 0, [some (.ref 108), some (.int (gI w1 0 ((i + 1)).toNatClampNeg)), some (.int (gI w1 0 ((i + 2)).toNatClampNeg)), some (.int (gI w1 0 ((i + 3)).toNatClampNeg)), some (.int (gI w1 0 ((i + 4)).toNatClampNeg)), some (.int (gI w1 0 ((i + 5)).toNatClampNeg)), none], [], w1) = some (some (.int r), w2)) : val (0, 1000, 1277, [some (.ref 0), some (.ref 64), some (.ref 108), some (.int i)], [], w) = val (0, 1000, 18, [some (.ref 0), some (.ref 64), some (.ref 108), some (.int (i + 6))], [], w2) := by
  refine (val_g (c2 := (0, 1000, 1278, [some (.ref 0), some (.ref 64), some (.ref 108), some (.int i)], [.ref 64], w)) rfl).trans ?_
  refine (val_g (c2 := (0, 1000, 1279, [some (.ref 0), some (.ref 64), some (.ref 108), some (.int i)], [.ref 0, .ref 64], w)) rfl).trans ?_
  refine (val_g (c2 := (0, 1000, 1280, [some (.ref 0), some (.ref 64), some (.ref 108), some (.int i)], [.int i, .ref 0, .ref 64], w)) rfl).trans ?_
  refine (val_g (c2 := (0, 1000, 1281, [some (.ref 0), some (.ref 64), some (.ref 108), some (.int i)], [.int 1, .int i, .ref 0, .ref 64], w)) rfl).trans ?_
  refine (val_g (c2 := (0, 1000, 1282, [some (.ref 0), some (.ref 64), some (.ref 108), some (.int i)], [.int (i + 1), .ref 0, .ref 64], w)) rfl).trans ?_
  refine (val_ial rfl hS rfl hy1).trans ?_
  show val (0, 1000, 1283, [some (.ref 0), some (.ref 64), some (.ref 108), some (.int i)], [.int (gI w 0 ((i + 1)).toNatClampNeg), .ref 64], w) = _
  refine (val_g (c2 := (0, 1000, 1284, [some (.ref 0), some (.ref 64), some (.ref 108), some (.int i)], [.ref 0, .int (gI w 0 ((i + 1)).toNatClampNeg), .ref 64], w)) rfl).trans ?_
  refine (val_g (c2 := (0, 1000, 1285, [some (.ref 0), some (.ref 64), some (.ref 108), some (.int i)], [.int i, .ref 0, .int (gI w 0 ((i + 1)).toNatClampNeg), .ref 64], w)) rfl).trans ?_
  refine (val_g (c2 := (0, 1000, 1286, [some (.ref 0), some (.ref 64), some (.ref 108), some (.int i)], [.int 2, .int i, .ref 0, .int (gI w 0 ((i + 1)).toNatClampNeg), .ref 64], w)) rfl).trans ?_
  refine (val_g (c2 := (0, 1000, 1287, [some (.ref 0), some (.ref 64), some (.ref 108), some (.int i)], [.int (i + 2), .ref 0, .int (gI w 0 ((i + 1)).toNatClampNeg), .ref 64], w)) rfl).trans ?_
  refine (val_ial rfl hS rfl hy2).trans ?_
  show val (0, 1000, 1288, [some (.ref 0), some (.ref 64), some (.ref 108), some (.int i)], [.int (gI w 0 ((i + 2)).toNatClampNeg), .int (gI w 0 ((i + 1)).toNatClampNeg), .ref 64], w) = _
  refine (val_g (c2 := (0, 1000, 1289, [some (.ref 0), some (.ref 64), some (.ref 108), some (.int i)], [.ref 0, .int (gI w 0 ((i + 2)).toNatClampNeg), .int (gI w 0 ((i + 1)).toNatClampNeg), .ref 64], w)) rfl).trans ?_
  refine (val_g (c2 := (0, 1000, 1290, [some (.ref 0), some (.ref 64), some (.ref 108), some (.int i)], [.int i, .ref 0, .int (gI w 0 ((i + 2)).toNatClampNeg), .int (gI w 0 ((i + 1)).toNatClampNeg), .ref 64], w)) rfl).trans ?_
  refine (val_g (c2 := (0, 1000, 1291, [some (.ref 0), some (.ref 64), some (.ref 108), some (.int i)], [.int 3, .int i, .ref 0, .int (gI w 0 ((i + 2)).toNatClampNeg), .int (gI w 0 ((i + 1)).toNatClampNeg), .ref 64], w)) rfl).trans ?_
  refine (val_g (c2 := (0, 1000, 1292, [some (.ref 0), some (.ref 64), some (.ref 108), some (.int i)], [.int (i + 3), .ref 0, .int (gI w 0 ((i + 2)).toNatClampNeg), .int (gI w 0 ((i + 1)).toNatClampNeg), .ref 64], w)) rfl).trans ?_
  refine (val_ial rfl hS rfl hy3).trans ?_
  show val (0, 1000, 1293, [some (.ref 0), some (.ref 64), some (.ref 108), some (.int i)], [.int (gI w 0 ((i + 3)).toNatClampNeg), .int (gI w 0 ((i + 2)).toNatClampNeg), .int (gI w 0 ((i + 1)).toNatClampNeg), .ref 64], w) = _
  refine (val_g (c2 := (0, 1000, 1294, [some (.ref 0), some (.ref 64), some (.ref 108), some (.int i)], [.ref 0, .int (gI w 0 ((i + 3)).toNatClampNeg), .int (gI w 0 ((i + 2)).toNatClampNeg), .int (gI w 0 ((i + 1)).toNatClampNeg), .ref 64], w)) rfl).trans ?_
  refine (val_g (c2 := (0, 1000, 1295, [some (.ref 0), some (.ref 64), some (.ref 108), some (.int i)], [.int i, .ref 0, .int (gI w 0 ((i + 3)).toNatClampNeg), .int (gI w 0 ((i + 2)).toNatClampNeg), .int (gI w 0 ((i + 1)).toNatClampNeg), .ref 64], w)) rfl).trans ?_
  refine (val_g (c2 := (0, 1000, 1296, [some (.ref 0), some (.ref 64), some (.ref 108), some (.int i)], [.int 4, .int i, .ref 0, .int (gI w 0 ((i + 3)).toNatClampNeg), .int (gI w 0 ((i + 2)).toNatClampNeg), .int (gI w 0 ((i + 1)).toNatClampNeg), .ref 64], w)) rfl).trans ?_
  refine (val_g (c2 := (0, 1000, 1297, [some (.ref 0), some (.ref 64), some (.ref 108), some (.int i)], [.int (i + 4), .ref 0, .int (gI w 0 ((i + 3)).toNatClampNeg), .int (gI w 0 ((i + 2)).toNatClampNeg), .int (gI w 0 ((i + 1)).toNatClampNeg), .ref 64], w)) rfl).trans ?_
  refine (val_ial rfl hS rfl hy4).trans ?_
  show val (0, 1000, 1298, [some (.ref 0), some (.ref 64), some (.ref 108), some (.int i)], [.int (gI w 0 ((i + 4)).toNatClampNeg), .int (gI w 0 ((i + 3)).toNatClampNeg), .int (gI w 0 ((i + 2)).toNatClampNeg), .int (gI w 0 ((i + 1)).toNatClampNeg), .ref 64], w) = _
  refine (val_g (c2 := (0, 1000, 1299, [some (.ref 0), some (.ref 64), some (.ref 108), some (.int i)], [.ref 0, .int (gI w 0 ((i + 4)).toNatClampNeg), .int (gI w 0 ((i + 3)).toNatClampNeg), .int (gI w 0 ((i + 2)).toNatClampNeg), .int (gI w 0 ((i + 1)).toNatClampNeg), .ref 64], w)) rfl).trans ?_
  refine (val_g (c2 := (0, 1000, 1300, [some (.ref 0), some (.ref 64), some (.ref 108), some (.int i)], [.int i, .ref 0, .int (gI w 0 ((i + 4)).toNatClampNeg), .int (gI w 0 ((i + 3)).toNatClampNeg), .int (gI w 0 ((i + 2)).toNatClampNeg), .int (gI w 0 ((i + 1)).toNatClampNeg), .ref 64], w)) rfl).trans ?_
  refine (val_g (c2 := (0, 1000, 1301, [some (.ref 0), some (.ref 64), some (.ref 108), some (.int i)], [.int 5, .int i, .ref 0, .int (gI w 0 ((i + 4)).toNatClampNeg), .int (gI w 0 ((i + 3)).toNatClampNeg), .int (gI w 0 ((i + 2)).toNatClampNeg), .int (gI w 0 ((i + 1)).toNatClampNeg), .ref 64], w)) rfl).trans ?_
  refine (val_g (c2 := (0, 1000, 1302, [some (.ref 0), some (.ref 64), some (.ref 108), some (.int i)], [.int (i + 5), .ref 0, .int (gI w 0 ((i + 4)).toNatClampNeg), .int (gI w 0 ((i + 3)).toNatClampNeg), .int (gI w 0 ((i + 2)).toNatClampNeg), .int (gI w 0 ((i + 1)).toNatClampNeg), .ref 64], w)) rfl).trans ?_
  refine (val_ial rfl hS rfl hy5).trans ?_
  show val (0, 1000, 1303, [some (.ref 0), some (.ref 64), some (.ref 108), some (.int i)], [.int (gI w 0 ((i + 5)).toNatClampNeg), .int (gI w 0 ((i + 4)).toNatClampNeg), .int (gI w 0 ((i + 3)).toNatClampNeg), .int (gI w 0 ((i + 2)).toNatClampNeg), .int (gI w 0 ((i + 1)).toNatClampNeg), .ref 64], w) = _
  refine (val_call (d := 999) (w1 := w1) (pc2 := 1306) rfl rfl rfl rfl (rcvO hk1 (by decide)) (Nat.le_of_ble_eq_true rfl) (Nat.le_of_ble_eq_true rfl) rfl hx rfl).trans ?_
  show val (0, 1000, 1306, [some (.ref 0), some (.ref 64), some (.ref 108), some (.int i)], [.int r], w1) = _
  refine (val_g (c2 := (0, 1000, 1307, [some (.ref 0), some (.ref 64), some (.ref 108), some (.int i)], [.ref 108, .int r], w1)) rfl).trans ?_
  refine (val_g (c2 := (0, 1000, 1308, [some (.ref 0), some (.ref 64), some (.ref 108), some (.int i)], [.ref 0, .ref 108, .int r], w1)) rfl).trans ?_
  refine (val_g (c2 := (0, 1000, 1309, [some (.ref 0), some (.ref 64), some (.ref 108), some (.int i)], [.int i, .ref 0, .ref 108, .int r], w1)) rfl).trans ?_
  refine (val_g (c2 := (0, 1000, 1310, [some (.ref 0), some (.ref 64), some (.ref 108), some (.int i)], [.int 1, .int i, .ref 0, .ref 108, .int r], w1)) rfl).trans ?_
  refine (val_g (c2 := (0, 1000, 1311, [some (.ref 0), some (.ref 64), some (.ref 108), some (.int i)], [.int (i + 1), .ref 0, .ref 108, .int r], w1)) rfl).trans ?_
  refine (val_ial rfl hS1 rfl hy1).trans ?_
  show val (0, 1000, 1312, [some (.ref 0), some (.ref 64), some (.ref 108), some (.int i)], [.int (gI w1 0 ((i + 1)).toNatClampNeg), .ref 108, .int r], w1) = _
  refine (val_g (c2 := (0, 1000, 1313, [some (.ref 0), some (.ref 64), some (.ref 108), some (.int i)], [.ref 0, .int (gI w1 0 ((i + 1)).toNatClampNeg), .ref 108, .int r], w1)) rfl).trans ?_
  refine (val_g (c2 := (0, 1000, 1314, [some (.ref 0), some (.ref 64), some (.ref 108), some (.int i)], [.int i, .ref 0, .int (gI w1 0 ((i + 1)).toNatClampNeg), .ref 108, .int r], w1)) rfl).trans ?_
  refine (val_g (c2 := (0, 1000, 1315, [some (.ref 0), some (.ref 64), some (.ref 108), some (.int i)], [.int 2, .int i, .ref 0, .int (gI w1 0 ((i + 1)).toNatClampNeg), .ref 108, .int r], w1)) rfl).trans ?_
  refine (val_g (c2 := (0, 1000, 1316, [some (.ref 0), some (.ref 64), some (.ref 108), some (.int i)], [.int (i + 2), .ref 0, .int (gI w1 0 ((i + 1)).toNatClampNeg), .ref 108, .int r], w1)) rfl).trans ?_
  refine (val_ial rfl hS1 rfl hy2).trans ?_
  show val (0, 1000, 1317, [some (.ref 0), some (.ref 64), some (.ref 108), some (.int i)], [.int (gI w1 0 ((i + 2)).toNatClampNeg), .int (gI w1 0 ((i + 1)).toNatClampNeg), .ref 108, .int r], w1) = _
  refine (val_g (c2 := (0, 1000, 1318, [some (.ref 0), some (.ref 64), some (.ref 108), some (.int i)], [.ref 0, .int (gI w1 0 ((i + 2)).toNatClampNeg), .int (gI w1 0 ((i + 1)).toNatClampNeg), .ref 108, .int r], w1)) rfl).trans ?_
  refine (val_g (c2 := (0, 1000, 1319, [some (.ref 0), some (.ref 64), some (.ref 108), some (.int i)], [.int i, .ref 0, .int (gI w1 0 ((i + 2)).toNatClampNeg), .int (gI w1 0 ((i + 1)).toNatClampNeg), .ref 108, .int r], w1)) rfl).trans ?_
  refine (val_g (c2 := (0, 1000, 1320, [some (.ref 0), some (.ref 64), some (.ref 108), some (.int i)], [.int 3, .int i, .ref 0, .int (gI w1 0 ((i + 2)).toNatClampNeg), .int (gI w1 0 ((i + 1)).toNatClampNeg), .ref 108, .int r], w1)) rfl).trans ?_
  refine (val_g (c2 := (0, 1000, 1321, [some (.ref 0), some (.ref 64), some (.ref 108), some (.int i)], [.int (i + 3), .ref 0, .int (gI w1 0 ((i + 2)).toNatClampNeg), .int (gI w1 0 ((i + 1)).toNatClampNeg), .ref 108, .int r], w1)) rfl).trans ?_
  refine (val_ial rfl hS1 rfl hy3).trans ?_
  show val (0, 1000, 1322, [some (.ref 0), some (.ref 64), some (.ref 108), some (.int i)], [.int (gI w1 0 ((i + 3)).toNatClampNeg), .int (gI w1 0 ((i + 2)).toNatClampNeg), .int (gI w1 0 ((i + 1)).toNatClampNeg), .ref 108, .int r], w1) = _
  refine (val_g (c2 := (0, 1000, 1323, [some (.ref 0), some (.ref 64), some (.ref 108), some (.int i)], [.ref 0, .int (gI w1 0 ((i + 3)).toNatClampNeg), .int (gI w1 0 ((i + 2)).toNatClampNeg), .int (gI w1 0 ((i + 1)).toNatClampNeg), .ref 108, .int r], w1)) rfl).trans ?_
  refine (val_g (c2 := (0, 1000, 1324, [some (.ref 0), some (.ref 64), some (.ref 108), some (.int i)], [.int i, .ref 0, .int (gI w1 0 ((i + 3)).toNatClampNeg), .int (gI w1 0 ((i + 2)).toNatClampNeg), .int (gI w1 0 ((i + 1)).toNatClampNeg), .ref 108, .int r], w1)) rfl).trans ?_
  refine (val_g (c2 := (0, 1000, 1325, [some (.ref 0), some (.ref 64), some (.ref 108), some (.int i)], [.int 4, .int i, .ref 0, .int (gI w1 0 ((i + 3)).toNatClampNeg), .int (gI w1 0 ((i + 2)).toNatClampNeg), .int (gI w1 0 ((i + 1)).toNatClampNeg), .ref 108, .int r], w1)) rfl).trans ?_
  refine (val_g (c2 := (0, 1000, 1326, [some (.ref 0), some (.ref 64), some (.ref 108), some (.int i)], [.int (i + 4), .ref 0, .int (gI w1 0 ((i + 3)).toNatClampNeg), .int (gI w1 0 ((i + 2)).toNatClampNeg), .int (gI w1 0 ((i + 1)).toNatClampNeg), .ref 108, .int r], w1)) rfl).trans ?_
  refine (val_ial rfl hS1 rfl hy4).trans ?_
  show val (0, 1000, 1327, [some (.ref 0), some (.ref 64), some (.ref 108), some (.int i)], [.int (gI w1 0 ((i + 4)).toNatClampNeg), .int (gI w1 0 ((i + 3)).toNatClampNeg), .int (gI w1 0 ((i + 2)).toNatClampNeg), .int (gI w1 0 ((i + 1)).toNatClampNeg), .ref 108, .int r], w1) = _
  refine (val_g (c2 := (0, 1000, 1328, [some (.ref 0), some (.ref 64), some (.ref 108), some (.int i)], [.ref 0, .int (gI w1 0 ((i + 4)).toNatClampNeg), .int (gI w1 0 ((i + 3)).toNatClampNeg), .int (gI w1 0 ((i + 2)).toNatClampNeg), .int (gI w1 0 ((i + 1)).toNatClampNeg), .ref 108, .int r], w1)) rfl).trans ?_
  refine (val_g (c2 := (0, 1000, 1329, [some (.ref 0), some (.ref 64), some (.ref 108), some (.int i)], [.int i, .ref 0, .int (gI w1 0 ((i + 4)).toNatClampNeg), .int (gI w1 0 ((i + 3)).toNatClampNeg), .int (gI w1 0 ((i + 2)).toNatClampNeg), .int (gI w1 0 ((i + 1)).toNatClampNeg), .ref 108, .int r], w1)) rfl).trans ?_
  refine (val_g (c2 := (0, 1000, 1330, [some (.ref 0), some (.ref 64), some (.ref 108), some (.int i)], [.int 5, .int i, .ref 0, .int (gI w1 0 ((i + 4)).toNatClampNeg), .int (gI w1 0 ((i + 3)).toNatClampNeg), .int (gI w1 0 ((i + 2)).toNatClampNeg), .int (gI w1 0 ((i + 1)).toNatClampNeg), .ref 108, .int r], w1)) rfl).trans ?_
  refine (val_g (c2 := (0, 1000, 1331, [some (.ref 0), some (.ref 64), some (.ref 108), some (.int i)], [.int (i + 5), .ref 0, .int (gI w1 0 ((i + 4)).toNatClampNeg), .int (gI w1 0 ((i + 3)).toNatClampNeg), .int (gI w1 0 ((i + 2)).toNatClampNeg), .int (gI w1 0 ((i + 1)).toNatClampNeg), .ref 108, .int r], w1)) rfl).trans ?_
  refine (val_ial rfl hS1 rfl hy5).trans ?_
  show val (0, 1000, 1332, [some (.ref 0), some (.ref 64), some (.ref 108), some (.int i)], [.int (gI w1 0 ((i + 5)).toNatClampNeg), .int (gI w1 0 ((i + 4)).toNatClampNeg), .int (gI w1 0 ((i + 3)).toNatClampNeg), .int (gI w1 0 ((i + 2)).toNatClampNeg), .int (gI w1 0 ((i + 1)).toNatClampNeg), .ref 108, .int r], w1) = _
  refine (val_call (d := 999) (w1 := w2) (pc2 := 1335) rfl rfl rfl rfl (rcvO hk2 (by decide)) (Nat.le_of_ble_eq_true rfl) (Nat.le_of_ble_eq_true rfl) rfl hm rfl).trans ?_
  show val (0, 1000, 1335, [some (.ref 0), some (.ref 64), some (.ref 108), some (.int i)], [.int r, .int r], w2) = _
  refine ((val_ic_eq rfl).trans (if_pos rfl)).trans ?_
  show val (0, 1000, 1384, [some (.ref 0), some (.ref 64), some (.ref 108), some (.int i)], [], w2) = _
  refine (val_g (c2 := (0, 1000, 1387, [some (.ref 0), some (.ref 64), some (.ref 108), some (.int (i + 6))], [], w2)) rfl).trans ?_
  refine (val_g (c2 := (0, 1000, 18, [some (.ref 0), some (.ref 64), some (.ref 108), some (.int (i + 6))], [], w2)) rfl).trans ?_
  rfl
/-- BelfryHouse.item(III)J -/
theorem law_38 (w w1 w2 : Wd) (i : Int32) (L : Nat) (r : Int64) (hS : wK w 0 = (30, L)) (hS1 : wK w1 0 = (30, L)) (hk1 : wK w 64 = (9, 11)) (hk2 : wK w1 108 = (10, 68)) (hy1 : inB ((i + 1)) L = true) (hy2 : inB ((i + 2)) L = true) (hy3 : inB ((i + 3)) L = true) (hx : val (47, 999, 0, [some (.ref 64), some (.int (gI w 0 ((i + 1)).toNatClampNeg)), some (.int (gI w 0 ((i + 2)).toNatClampNeg)), some (.int (gI w 0 ((i + 3)).toNatClampNeg)), none, none], [], w) = some (some (.long r), w1)) (hm : val (256, 999, 0, [some (.ref 108), some (.int (gI w1 0 ((i + 1)).toNatClampNeg)), some (.int (gI w1 0 ((i + 2)).toNatClampNeg)), some (.int (gI w1 0 ((i + 3)).toNatClampNeg)), none, none], [], w1) = some (some (.long r), w2)) : val (0, 1000, 1340, [some (.ref 0), some (.ref 64), some (.ref 108), some (.int i)], [], w) = val (0, 1000, 18, [some (.ref 0), some (.ref 64), some (.ref 108), some (.int (i + 6))], [], w2) := by
  refine (val_g (c2 := (0, 1000, 1341, [some (.ref 0), some (.ref 64), some (.ref 108), some (.int i)], [.ref 64], w)) rfl).trans ?_
  refine (val_g (c2 := (0, 1000, 1342, [some (.ref 0), some (.ref 64), some (.ref 108), some (.int i)], [.ref 0, .ref 64], w)) rfl).trans ?_
  refine (val_g (c2 := (0, 1000, 1343, [some (.ref 0), some (.ref 64), some (.ref 108), some (.int i)], [.int i, .ref 0, .ref 64], w)) rfl).trans ?_
  refine (val_g (c2 := (0, 1000, 1344, [some (.ref 0), some (.ref 64), some (.ref 108), some (.int i)], [.int 1, .int i, .ref 0, .ref 64], w)) rfl).trans ?_
  refine (val_g (c2 := (0, 1000, 1345, [some (.ref 0), some (.ref 64), some (.ref 108), some (.int i)], [.int (i + 1), .ref 0, .ref 64], w)) rfl).trans ?_
  refine (val_ial rfl hS rfl hy1).trans ?_
  show val (0, 1000, 1346, [some (.ref 0), some (.ref 64), some (.ref 108), some (.int i)], [.int (gI w 0 ((i + 1)).toNatClampNeg), .ref 64], w) = _
  refine (val_g (c2 := (0, 1000, 1347, [some (.ref 0), some (.ref 64), some (.ref 108), some (.int i)], [.ref 0, .int (gI w 0 ((i + 1)).toNatClampNeg), .ref 64], w)) rfl).trans ?_
  refine (val_g (c2 := (0, 1000, 1348, [some (.ref 0), some (.ref 64), some (.ref 108), some (.int i)], [.int i, .ref 0, .int (gI w 0 ((i + 1)).toNatClampNeg), .ref 64], w)) rfl).trans ?_
  refine (val_g (c2 := (0, 1000, 1349, [some (.ref 0), some (.ref 64), some (.ref 108), some (.int i)], [.int 2, .int i, .ref 0, .int (gI w 0 ((i + 1)).toNatClampNeg), .ref 64], w)) rfl).trans ?_
  refine (val_g (c2 := (0, 1000, 1350, [some (.ref 0), some (.ref 64), some (.ref 108), some (.int i)], [.int (i + 2), .ref 0, .int (gI w 0 ((i + 1)).toNatClampNeg), .ref 64], w)) rfl).trans ?_
  refine (val_ial rfl hS rfl hy2).trans ?_
  show val (0, 1000, 1351, [some (.ref 0), some (.ref 64), some (.ref 108), some (.int i)], [.int (gI w 0 ((i + 2)).toNatClampNeg), .int (gI w 0 ((i + 1)).toNatClampNeg), .ref 64], w) = _
  refine (val_g (c2 := (0, 1000, 1352, [some (.ref 0), some (.ref 64), some (.ref 108), some (.int i)], [.ref 0, .int (gI w 0 ((i + 2)).toNatClampNeg), .int (gI w 0 ((i + 1)).toNatClampNeg), .ref 64], w)) rfl).trans ?_
  refine (val_g (c2 := (0, 1000, 1353, [some (.ref 0), some (.ref 64), some (.ref 108), some (.int i)], [.int i, .ref 0, .int (gI w 0 ((i + 2)).toNatClampNeg), .int (gI w 0 ((i + 1)).toNatClampNeg), .ref 64], w)) rfl).trans ?_
  refine (val_g (c2 := (0, 1000, 1354, [some (.ref 0), some (.ref 64), some (.ref 108), some (.int i)], [.int 3, .int i, .ref 0, .int (gI w 0 ((i + 2)).toNatClampNeg), .int (gI w 0 ((i + 1)).toNatClampNeg), .ref 64], w)) rfl).trans ?_
  refine (val_g (c2 := (0, 1000, 1355, [some (.ref 0), some (.ref 64), some (.ref 108), some (.int i)], [.int (i + 3), .ref 0, .int (gI w 0 ((i + 2)).toNatClampNeg), .int (gI w 0 ((i + 1)).toNatClampNeg), .ref 64], w)) rfl).trans ?_
  refine (val_ial rfl hS rfl hy3).trans ?_
  show val (0, 1000, 1356, [some (.ref 0), some (.ref 64), some (.ref 108), some (.int i)], [.int (gI w 0 ((i + 3)).toNatClampNeg), .int (gI w 0 ((i + 2)).toNatClampNeg), .int (gI w 0 ((i + 1)).toNatClampNeg), .ref 64], w) = _
  refine (val_call (d := 999) (w1 := w1) (pc2 := 1359) rfl rfl rfl rfl (rcvO hk1 (by decide)) (Nat.le_of_ble_eq_true rfl) (Nat.le_of_ble_eq_true rfl) rfl hx rfl).trans ?_
  show val (0, 1000, 1359, [some (.ref 0), some (.ref 64), some (.ref 108), some (.int i)], [.long r], w1) = _
  refine (val_g (c2 := (0, 1000, 1360, [some (.ref 0), some (.ref 64), some (.ref 108), some (.int i)], [.ref 108, .long r], w1)) rfl).trans ?_
  refine (val_g (c2 := (0, 1000, 1361, [some (.ref 0), some (.ref 64), some (.ref 108), some (.int i)], [.ref 0, .ref 108, .long r], w1)) rfl).trans ?_
  refine (val_g (c2 := (0, 1000, 1362, [some (.ref 0), some (.ref 64), some (.ref 108), some (.int i)], [.int i, .ref 0, .ref 108, .long r], w1)) rfl).trans ?_
  refine (val_g (c2 := (0, 1000, 1363, [some (.ref 0), some (.ref 64), some (.ref 108), some (.int i)], [.int 1, .int i, .ref 0, .ref 108, .long r], w1)) rfl).trans ?_
  refine (val_g (c2 := (0, 1000, 1364, [some (.ref 0), some (.ref 64), some (.ref 108), some (.int i)], [.int (i + 1), .ref 0, .ref 108, .long r], w1)) rfl).trans ?_
  refine (val_ial rfl hS1 rfl hy1).trans ?_
  show val (0, 1000, 1365, [some (.ref 0), some (.ref 64), some (.ref 108), some (.int i)], [.int (gI w1 0 ((i + 1)).toNatClampNeg), .ref 108, .long r], w1) = _
  refine (val_g (c2 := (0, 1000, 1366, [some (.ref 0), some (.ref 64), some (.ref 108), some (.int i)], [.ref 0, .int (gI w1 0 ((i + 1)).toNatClampNeg), .ref 108, .long r], w1)) rfl).trans ?_
  refine (val_g (c2 := (0, 1000, 1367, [some (.ref 0), some (.ref 64), some (.ref 108), some (.int i)], [.int i, .ref 0, .int (gI w1 0 ((i + 1)).toNatClampNeg), .ref 108, .long r], w1)) rfl).trans ?_
  refine (val_g (c2 := (0, 1000, 1368, [some (.ref 0), some (.ref 64), some (.ref 108), some (.int i)], [.int 2, .int i, .ref 0, .int (gI w1 0 ((i + 1)).toNatClampNeg), .ref 108, .long r], w1)) rfl).trans ?_
  refine (val_g (c2 := (0, 1000, 1369, [some (.ref 0), some (.ref 64), some (.ref 108), some (.int i)], [.int (i + 2), .ref 0, .int (gI w1 0 ((i + 1)).toNatClampNeg), .ref 108, .long r], w1)) rfl).trans ?_
  refine (val_ial rfl hS1 rfl hy2).trans ?_
  show val (0, 1000, 1370, [some (.ref 0), some (.ref 64), some (.ref 108), some (.int i)], [.int (gI w1 0 ((i + 2)).toNatClampNeg), .int (gI w1 0 ((i + 1)).toNatClampNeg), .ref 108, .long r], w1) = _
  refine (val_g (c2 := (0, 1000, 1371, [some (.ref 0), some (.ref 64), some (.ref 108), some (.int i)], [.ref 0, .int (gI w1 0 ((i + 2)).toNatClampNeg), .int (gI w1 0 ((i + 1)).toNatClampNeg), .ref 108, .long r], w1)) rfl).trans ?_
  refine (val_g (c2 := (0, 1000, 1372, [some (.ref 0), some (.ref 64), some (.ref 108), some (.int i)], [.int i, .ref 0, .int (gI w1 0 ((i + 2)).toNatClampNeg), .int (gI w1 0 ((i + 1)).toNatClampNeg), .ref 108, .long r], w1)) rfl).trans ?_
  refine (val_g (c2 := (0, 1000, 1373, [some (.ref 0), some (.ref 64), some (.ref 108), some (.int i)], [.int 3, .int i, .ref 0, .int (gI w1 0 ((i + 2)).toNatClampNeg), .int (gI w1 0 ((i + 1)).toNatClampNeg), .ref 108, .long r], w1)) rfl).trans ?_
  refine (val_g (c2 := (0, 1000, 1374, [some (.ref 0), some (.ref 64), some (.ref 108), some (.int i)], [.int (i + 3), .ref 0, .int (gI w1 0 ((i + 2)).toNatClampNeg), .int (gI w1 0 ((i + 1)).toNatClampNeg), .ref 108, .long r], w1)) rfl).trans ?_
  refine (val_ial rfl hS1 rfl hy3).trans ?_
  show val (0, 1000, 1375, [some (.ref 0), some (.ref 64), some (.ref 108), some (.int i)], [.int (gI w1 0 ((i + 3)).toNatClampNeg), .int (gI w1 0 ((i + 2)).toNatClampNeg), .int (gI w1 0 ((i + 1)).toNatClampNeg), .ref 108, .long r], w1) = _
  refine (val_call (d := 999) (w1 := w2) (pc2 := 1378) rfl rfl rfl rfl (rcvO hk2 (by decide)) (Nat.le_of_ble_eq_true rfl) (Nat.le_of_ble_eq_true rfl) rfl hm rfl).trans ?_
  show val (0, 1000, 1378, [some (.ref 0), some (.ref 64), some (.ref 108), some (.int i)], [.long r, .long r], w2) = _
  refine (val_g (c2 := (0, 1000, 1379, [some (.ref 0), some (.ref 64), some (.ref 108), some (.int i)], [.int (cmpL r r)], w2)) rfl).trans ?_
  refine ((val_if_eq rfl).trans (if_pos (cmpL_self r))).trans ?_
  show val (0, 1000, 1384, [some (.ref 0), some (.ref 64), some (.ref 108), some (.int i)], [], w2) = _
  refine (val_g (c2 := (0, 1000, 1387, [some (.ref 0), some (.ref 64), some (.ref 108), some (.int (i + 6))], [], w2)) rfl).trans ?_
  refine (val_g (c2 := (0, 1000, 18, [some (.ref 0), some (.ref 64), some (.ref 108), some (.int (i + 6))], [], w2)) rfl).trans ?_
  rfl
