/-! rows by their rank: the class and the reference; segments printed by program (seg.py) -/
/-- BelfryHouse$Rows.order(II)I -/
theorem tr_138 (d : Nat) (w : Wd) (x0 : Int32) (x1 : Int32)     : val (138, d + 2, 0, [some (.int x0), some (.int x1), none, none, none], [], w) = val (138, d + 2, 1, [some (.int x0), some (.int x1), none, none, none], [.int x0], w) := by
  refine (val_g (c2 := (138, d + 2, 1, [some (.int x0), some (.int x1), none, none, none], [.int x0], w)) rfl).trans ?_
  rfl
theorem tr_138_4 (d : Nat) (w : Wd) (l0 : Int32) (l1 : Int32) (s0 : Int32)     : val (138, d + 2, 4, [some (.int l0), some (.int l1), none, none, none], [.int s0], w) = val (138, d + 2, 10, [some (.int l0), some (.int l1), some (.int s0), some (.int l1), some (.int 1)], [], w) := by
  refine (val_g (c2 := (138, d + 2, 5, [some (.int l0), some (.int l1), some (.int s0), none, none], [], w)) rfl).trans ?_
  refine (val_g (c2 := (138, d + 2, 6, [some (.int l0), some (.int l1), some (.int s0), none, none], [.int l1], w)) rfl).trans ?_
  refine (val_g (c2 := (138, d + 2, 7, [some (.int l0), some (.int l1), some (.int s0), some (.int l1), none], [], w)) rfl).trans ?_
  refine (val_g (c2 := (138, d + 2, 8, [some (.int l0), some (.int l1), some (.int s0), some (.int l1), none], [.int 1], w)) rfl).trans ?_
  refine (val_g (c2 := (138, d + 2, 10, [some (.int l0), some (.int l1), some (.int s0), some (.int l1), some (.int 1)], [], w)) rfl).trans ?_
  rfl
theorem tr_138_10 (d : Nat) (w : Wd) (l0 : Int32) (l1 : Int32) (l2 : Int32) (l3 : Int32) (l4 : Int32)     : val (138, d + 2, 10, [some (.int l0), some (.int l1), some (.int l2), some (.int l3), some (.int l4)], [], w) = (if 15 ≤ l4 then some (some (.int l4), w) else (if l3 = l2 then some (some (.int l4), w) else val (138, d + 2, 25, [some (.int l0), some (.int l1), some (.int l2), some (.int l3), some (.int l4)], [.int l1, .int l3, .int l0], w))) := by
  refine (val_g (c2 := (138, d + 2, 12, [some (.int l0), some (.int l1), some (.int l2), some (.int l3), some (.int l4)], [.int l4], w)) rfl).trans ?_
  refine (val_g (c2 := (138, d + 2, 14, [some (.int l0), some (.int l1), some (.int l2), some (.int l3), some (.int l4)], [.int 15, .int l4], w)) rfl).trans ?_
  by_cases hc35 : 15 ≤ l4
  · refine ((val_ic_ge rfl).trans (if_pos hc35)).trans ?_
    show val (138, d + 2, 35, [some (.int l0), some (.int l1), some (.int l2), some (.int l3), some (.int l4)], [], w) = _
    refine Eq.trans ?_ (if_pos hc35).symm
    refine (val_g (c2 := (138, d + 2, 37, [some (.int l0), some (.int l1), some (.int l2), some (.int l3), some (.int l4)], [.int l4], w)) rfl).trans ?_
    exact val_r rfl
  · refine ((val_ic_ge rfl).trans (if_neg hc35)).trans ?_
    show val (138, d + 2, 17, [some (.int l0), some (.int l1), some (.int l2), some (.int l3), some (.int l4)], [], w) = _
    refine Eq.trans ?_ (if_neg hc35).symm
    refine (val_g (c2 := (138, d + 2, 18, [some (.int l0), some (.int l1), some (.int l2), some (.int l3), some (.int l4)], [.int l3], w)) rfl).trans ?_
    refine (val_g (c2 := (138, d + 2, 19, [some (.int l0), some (.int l1), some (.int l2), some (.int l3), some (.int l4)], [.int l2, .int l3], w)) rfl).trans ?_
    by_cases hc36 : l3 = l2
    · refine ((val_ic_eq rfl).trans (if_pos hc36)).trans ?_
      show val (138, d + 2, 35, [some (.int l0), some (.int l1), some (.int l2), some (.int l3), some (.int l4)], [], w) = _
      refine Eq.trans ?_ (if_pos hc36).symm
      refine (val_g (c2 := (138, d + 2, 37, [some (.int l0), some (.int l1), some (.int l2), some (.int l3), some (.int l4)], [.int l4], w)) rfl).trans ?_
      exact val_r rfl
    · refine ((val_ic_eq rfl).trans (if_neg hc36)).trans ?_
      show val (138, d + 2, 22, [some (.int l0), some (.int l1), some (.int l2), some (.int l3), some (.int l4)], [], w) = _
      refine Eq.trans ?_ (if_neg hc36).symm
      refine (val_g (c2 := (138, d + 2, 23, [some (.int l0), some (.int l1), some (.int l2), some (.int l3), some (.int l4)], [.int l0], w)) rfl).trans ?_
      refine (val_g (c2 := (138, d + 2, 24, [some (.int l0), some (.int l1), some (.int l2), some (.int l3), some (.int l4)], [.int l3, .int l0], w)) rfl).trans ?_
      refine (val_g (c2 := (138, d + 2, 25, [some (.int l0), some (.int l1), some (.int l2), some (.int l3), some (.int l4)], [.int l1, .int l3, .int l0], w)) rfl).trans ?_
      rfl
theorem tr_138_28 (d : Nat) (w : Wd) (l0 : Int32) (l1 : Int32) (l2 : Int32) (l3 : Int32) (l4 : Int32) (s0 : Int32)     : val (138, d + 2, 28, [some (.int l0), some (.int l1), some (.int l2), some (.int l3), some (.int l4)], [.int s0], w) = val (138, d + 2, 10, [some (.int l0), some (.int l1), some (.int l2), some (.int s0), some (.int (l4 + 1))], [], w) := by
  refine (val_g (c2 := (138, d + 2, 29, [some (.int l0), some (.int l1), some (.int l2), some (.int s0), some (.int l4)], [], w)) rfl).trans ?_
  refine (val_g (c2 := (138, d + 2, 32, [some (.int l0), some (.int l1), some (.int l2), some (.int s0), some (.int (l4 + 1))], [], w)) rfl).trans ?_
  refine (val_g (c2 := (138, d + 2, 10, [some (.int l0), some (.int l1), some (.int l2), some (.int s0), some (.int (l4 + 1))], [], w)) rfl).trans ?_
  rfl
/-- BelfryHouse$Rows.ofRank(II)I -/
theorem tr_140 (d : Nat) (w : Wd) (x0 : Int32) (x1 : Int32)     : val (140, d + 1, 0, [some (.int x0), some (.int x1), none, none, none, none, none, none], [], w) = val (140, d + 1, 10, [some (.int x0), some (.int x1), some (.int 0), some (.int 0), some (.int x1), some (.int 0), none, none], [], w) := by
  refine (val_g (c2 := (140, d + 1, 1, [some (.int x0), some (.int x1), none, none, none, none, none, none], [.int 0], w)) rfl).trans ?_
  refine (val_g (c2 := (140, d + 1, 2, [some (.int x0), some (.int x1), some (.int 0), none, none, none, none, none], [], w)) rfl).trans ?_
  refine (val_g (c2 := (140, d + 1, 3, [some (.int x0), some (.int x1), some (.int 0), none, none, none, none, none], [.int 0], w)) rfl).trans ?_
  refine (val_g (c2 := (140, d + 1, 4, [some (.int x0), some (.int x1), some (.int 0), some (.int 0), none, none, none, none], [], w)) rfl).trans ?_
  refine (val_g (c2 := (140, d + 1, 5, [some (.int x0), some (.int x1), some (.int 0), some (.int 0), none, none, none, none], [.int x1], w)) rfl).trans ?_
  refine (val_g (c2 := (140, d + 1, 7, [some (.int x0), some (.int x1), some (.int 0), some (.int 0), some (.int x1), none, none, none], [], w)) rfl).trans ?_
  refine (val_g (c2 := (140, d + 1, 8, [some (.int x0), some (.int x1), some (.int 0), some (.int 0), some (.int x1), none, none, none], [.int 0], w)) rfl).trans ?_
  refine (val_g (c2 := (140, d + 1, 10, [some (.int x0), some (.int x1), some (.int 0), some (.int 0), some (.int x1), some (.int 0), none, none], [], w)) rfl).trans ?_
  rfl
theorem tr_140_10 (d : Nat) (w : Wd) (hW : Fix w) (l0 : Int32) (l1 : Int32) (l2 : Int32) (l3 : Int32) (l4 : Int32) (l5 : Int32) (l6 : Option Value) (l7 : Option Value)   (hy1 : (¬ (l0 ≤ l5)) → inB (((l0 - 1) - l5)) 9 = true) (hy2 : (¬ (l0 ≤ l5)) → ¬ (gI w 1 (((l0 - 1) - l5)).toNatClampNeg) = 0) : val (140, d + 1, 10, [some (.int l0), some (.int l1), some (.int l2), some (.int l3), some (.int l4), some (.int l5), l6, l7], [], w) = (if l0 ≤ l5 then some (some (.int l2), w) else val (140, d + 1, 35, [some (.int l0), some (.int l1), some (.int l2), some (.int l3), some (.int l4), some (.int l5), some (.int (gI w 1 (((l0 - 1) - l5)).toNatClampNeg)), l7], [.int (l4 / (gI w 1 (((l0 - 1) - l5)).toNatClampNeg)), .int l3, .int l0], w)) := by
  refine (val_g (c2 := (140, d + 1, 12, [some (.int l0), some (.int l1), some (.int l2), some (.int l3), some (.int l4), some (.int l5), l6, l7], [.int l5], w)) rfl).trans ?_
  refine (val_g (c2 := (140, d + 1, 13, [some (.int l0), some (.int l1), some (.int l2), some (.int l3), some (.int l4), some (.int l5), l6, l7], [.int l0, .int l5], w)) rfl).trans ?_
  by_cases hc39 : l0 ≤ l5
  · refine ((val_ic_ge rfl).trans (if_pos hc39)).trans ?_
    show val (140, d + 1, 67, [some (.int l0), some (.int l1), some (.int l2), some (.int l3), some (.int l4), some (.int l5), l6, l7], [], w) = _
    refine Eq.trans ?_ (if_pos hc39).symm
    refine (val_g (c2 := (140, d + 1, 68, [some (.int l0), some (.int l1), some (.int l2), some (.int l3), some (.int l4), some (.int l5), l6, l7], [.int l2], w)) rfl).trans ?_
    exact val_r rfl
  · refine ((val_ic_ge rfl).trans (if_neg hc39)).trans ?_
    show val (140, d + 1, 16, [some (.int l0), some (.int l1), some (.int l2), some (.int l3), some (.int l4), some (.int l5), l6, l7], [], w) = _
    refine Eq.trans ?_ (if_neg hc39).symm
    refine (val_g (c2 := (140, d + 1, 19, [some (.int l0), some (.int l1), some (.int l2), some (.int l3), some (.int l4), some (.int l5), l6, l7], [.ref 1], w)) rfl).trans ?_
    refine (val_g (c2 := (140, d + 1, 20, [some (.int l0), some (.int l1), some (.int l2), some (.int l3), some (.int l4), some (.int l5), l6, l7], [.int l0, .ref 1], w)) rfl).trans ?_
    refine (val_g (c2 := (140, d + 1, 21, [some (.int l0), some (.int l1), some (.int l2), some (.int l3), some (.int l4), some (.int l5), l6, l7], [.int 1, .int l0, .ref 1], w)) rfl).trans ?_
    refine (val_g (c2 := (140, d + 1, 22, [some (.int l0), some (.int l1), some (.int l2), some (.int l3), some (.int l4), some (.int l5), l6, l7], [.int (l0 - 1), .ref 1], w)) rfl).trans ?_
    refine (val_g (c2 := (140, d + 1, 24, [some (.int l0), some (.int l1), some (.int l2), some (.int l3), some (.int l4), some (.int l5), l6, l7], [.int l5, .int (l0 - 1), .ref 1], w)) rfl).trans ?_
    refine (val_g (c2 := (140, d + 1, 25, [some (.int l0), some (.int l1), some (.int l2), some (.int l3), some (.int l4), some (.int l5), l6, l7], [.int ((l0 - 1) - l5), .ref 1], w)) rfl).trans ?_
    refine (val_ial rfl hW.f rfl (hy1 hc39)).trans ?_
    show val (140, d + 1, 26, [some (.int l0), some (.int l1), some (.int l2), some (.int l3), some (.int l4), some (.int l5), l6, l7], [.int (gI w 1 (((l0 - 1) - l5)).toNatClampNeg)], w) = _
    refine (val_g (c2 := (140, d + 1, 28, [some (.int l0), some (.int l1), some (.int l2), some (.int l3), some (.int l4), some (.int l5), some (.int (gI w 1 (((l0 - 1) - l5)).toNatClampNeg)), l7], [], w)) rfl).trans ?_
    refine (val_g (c2 := (140, d + 1, 29, [some (.int l0), some (.int l1), some (.int l2), some (.int l3), some (.int l4), some (.int l5), some (.int (gI w 1 (((l0 - 1) - l5)).toNatClampNeg)), l7], [.int l0], w)) rfl).trans ?_
    refine (val_g (c2 := (140, d + 1, 30, [some (.int l0), some (.int l1), some (.int l2), some (.int l3), some (.int l4), some (.int l5), some (.int (gI w 1 (((l0 - 1) - l5)).toNatClampNeg)), l7], [.int l3, .int l0], w)) rfl).trans ?_
    refine (val_g (c2 := (140, d + 1, 32, [some (.int l0), some (.int l1), some (.int l2), some (.int l3), some (.int l4), some (.int l5), some (.int (gI w 1 (((l0 - 1) - l5)).toNatClampNeg)), l7], [.int l4, .int l3, .int l0], w)) rfl).trans ?_
    refine (val_g (c2 := (140, d + 1, 34, [some (.int l0), some (.int l1), some (.int l2), some (.int l3), some (.int l4), some (.int l5), some (.int (gI w 1 (((l0 - 1) - l5)).toNatClampNeg)), l7], [.int (gI w 1 (((l0 - 1) - l5)).toNatClampNeg), .int l4, .int l3, .int l0], w)) rfl).trans ?_
    refine (val_idiv rfl (hy2 hc39)).trans ?_
    show val (140, d + 1, 35, [some (.int l0), some (.int l1), some (.int l2), some (.int l3), some (.int l4), some (.int l5), some (.int (gI w 1 (((l0 - 1) - l5)).toNatClampNeg)), l7], [.int (l4 / (gI w 1 (((l0 - 1) - l5)).toNatClampNeg)), .int l3, .int l0], w) = _
    rfl
theorem tr_140_38 (d : Nat) (w : Wd) (l0 : Int32) (l1 : Int32) (l2 : Int32) (l3 : Int32) (l4 : Int32) (l5 : Int32) (l6 : Int32) (s0 : Int32) (l7 : Option Value)   (hy1 : ¬ l6 = 0) : val (140, d + 1, 38, [some (.int l0), some (.int l1), some (.int l2), some (.int l3), some (.int l4), some (.int l5), some (.int l6), l7], [.int s0], w) = val (140, d + 1, 10, [some (.int l0), some (.int l1), some (.int ((l2 <<< (4 &&& 31)) ||| s0)), some (.int (l3 ||| (1 <<< (s0 &&& 31)))), some (.int (l4 - l4 / l6 * l6)), some (.int (l5 + 1)), some (.int l6), some (.int s0)], [], w) := by
  refine (val_g (c2 := (140, d + 1, 40, [some (.int l0), some (.int l1), some (.int l2), some (.int l3), some (.int l4), some (.int l5), some (.int l6), some (.int s0)], [], w)) rfl).trans ?_
  refine (val_g (c2 := (140, d + 1, 42, [some (.int l0), some (.int l1), some (.int l2), some (.int l3), some (.int l4), some (.int l5), some (.int l6), some (.int s0)], [.int l4], w)) rfl).trans ?_
  refine (val_g (c2 := (140, d + 1, 44, [some (.int l0), some (.int l1), some (.int l2), some (.int l3), some (.int l4), some (.int l5), some (.int l6), some (.int s0)], [.int l6, .int l4], w)) rfl).trans ?_
  refine (val_irem rfl hy1).trans ?_
  show val (140, d + 1, 45, [some (.int l0), some (.int l1), some (.int l2), some (.int l3), some (.int l4), some (.int l5), some (.int l6), some (.int s0)], [.int (l4 - l4 / l6 * l6)], w) = _
  refine (val_g (c2 := (140, d + 1, 47, [some (.int l0), some (.int l1), some (.int l2), some (.int l3), some (.int (l4 - l4 / l6 * l6)), some (.int l5), some (.int l6), some (.int s0)], [], w)) rfl).trans ?_
  refine (val_g (c2 := (140, d + 1, 48, [some (.int l0), some (.int l1), some (.int l2), some (.int l3), some (.int (l4 - l4 / l6 * l6)), some (.int l5), some (.int l6), some (.int s0)], [.int l3], w)) rfl).trans ?_
  refine (val_g (c2 := (140, d + 1, 49, [some (.int l0), some (.int l1), some (.int l2), some (.int l3), some (.int (l4 - l4 / l6 * l6)), some (.int l5), some (.int l6), some (.int s0)], [.int 1, .int l3], w)) rfl).trans ?_
  refine (val_g (c2 := (140, d + 1, 51, [some (.int l0), some (.int l1), some (.int l2), some (.int l3), some (.int (l4 - l4 / l6 * l6)), some (.int l5), some (.int l6), some (.int s0)], [.int s0, .int 1, .int l3], w)) rfl).trans ?_
  refine (val_g (c2 := (140, d + 1, 52, [some (.int l0), some (.int l1), some (.int l2), some (.int l3), some (.int (l4 - l4 / l6 * l6)), some (.int l5), some (.int l6), some (.int s0)], [.int (1 <<< (s0 &&& 31)), .int l3], w)) rfl).trans ?_
  refine (val_g (c2 := (140, d + 1, 53, [some (.int l0), some (.int l1), some (.int l2), some (.int l3), some (.int (l4 - l4 / l6 * l6)), some (.int l5), some (.int l6), some (.int s0)], [.int (l3 ||| (1 <<< (s0 &&& 31)))], w)) rfl).trans ?_
  refine (val_g (c2 := (140, d + 1, 54, [some (.int l0), some (.int l1), some (.int l2), some (.int (l3 ||| (1 <<< (s0 &&& 31)))), some (.int (l4 - l4 / l6 * l6)), some (.int l5), some (.int l6), some (.int s0)], [], w)) rfl).trans ?_
  refine (val_g (c2 := (140, d + 1, 55, [some (.int l0), some (.int l1), some (.int l2), some (.int (l3 ||| (1 <<< (s0 &&& 31)))), some (.int (l4 - l4 / l6 * l6)), some (.int l5), some (.int l6), some (.int s0)], [.int l2], w)) rfl).trans ?_
  refine (val_g (c2 := (140, d + 1, 56, [some (.int l0), some (.int l1), some (.int l2), some (.int (l3 ||| (1 <<< (s0 &&& 31)))), some (.int (l4 - l4 / l6 * l6)), some (.int l5), some (.int l6), some (.int s0)], [.int 4, .int l2], w)) rfl).trans ?_
  refine (val_g (c2 := (140, d + 1, 57, [some (.int l0), some (.int l1), some (.int l2), some (.int (l3 ||| (1 <<< (s0 &&& 31)))), some (.int (l4 - l4 / l6 * l6)), some (.int l5), some (.int l6), some (.int s0)], [.int (l2 <<< (4 &&& 31))], w)) rfl).trans ?_
  refine (val_g (c2 := (140, d + 1, 59, [some (.int l0), some (.int l1), some (.int l2), some (.int (l3 ||| (1 <<< (s0 &&& 31)))), some (.int (l4 - l4 / l6 * l6)), some (.int l5), some (.int l6), some (.int s0)], [.int s0, .int (l2 <<< (4 &&& 31))], w)) rfl).trans ?_
  refine (val_g (c2 := (140, d + 1, 60, [some (.int l0), some (.int l1), some (.int l2), some (.int (l3 ||| (1 <<< (s0 &&& 31)))), some (.int (l4 - l4 / l6 * l6)), some (.int l5), some (.int l6), some (.int s0)], [.int ((l2 <<< (4 &&& 31)) ||| s0)], w)) rfl).trans ?_
  refine (val_g (c2 := (140, d + 1, 61, [some (.int l0), some (.int l1), some (.int ((l2 <<< (4 &&& 31)) ||| s0)), some (.int (l3 ||| (1 <<< (s0 &&& 31)))), some (.int (l4 - l4 / l6 * l6)), some (.int l5), some (.int l6), some (.int s0)], [], w)) rfl).trans ?_
  refine (val_g (c2 := (140, d + 1, 64, [some (.int l0), some (.int l1), some (.int ((l2 <<< (4 &&& 31)) ||| s0)), some (.int (l3 ||| (1 <<< (s0 &&& 31)))), some (.int (l4 - l4 / l6 * l6)), some (.int (l5 + 1)), some (.int l6), some (.int s0)], [], w)) rfl).trans ?_
  refine (val_g (c2 := (140, d + 1, 10, [some (.int l0), some (.int l1), some (.int ((l2 <<< (4 &&& 31)) ||| s0)), some (.int (l3 ||| (1 <<< (s0 &&& 31)))), some (.int (l4 - l4 / l6 * l6)), some (.int (l5 + 1)), some (.int l6), some (.int s0)], [], w)) rfl).trans ?_
  rfl
theorem n_dec {k : Nat} (h : 1 ≤ k) : nI k + (-1) = nI (k - 1) := by
  rw [← Int32.sub_eq_add_neg]
  exact n_sub (b := 1) h
theorem r_141 {N S q : Nat} (hN : N ≤ 8) (hS : S < 2 ^ 8) (hq : q < 2 ^ 31) (d : Nat) (w : Wd) : val (141, d, 0, [some (.int (nI N)), some (.int (nI S)), some (.int (nI q)), none, none], [], w) = some (some (.int (nI (nthU S.testBit N q 0))), w) := by
  refine (en_141 d w (nI N) (nI S) (nI q)).trans ?_
  have h : ∀ fu b q2, b + fu = N → q2 < 2 ^ 31 → val (141, d, 5, [some (.int (nI N)), some (.int (nI S)), some (.int (nI q)), some (.int (nI q2)), some (.int (nI b))], [], w) = some (some (.int (nI (nthU S.testBit fu q2 b))), w) := by
    intro fu
    induction fu with
    | zero =>
      intro b q2 hb _
      refine (lp_141_5 d w _ _ _ _ _).trans ?_
      rw [if_pos (n_le (by omega) (by omega))]
      rfl
    | succ fu ih =>
      intro b q2 hb hq2
      refine (lp_141_5 d w _ _ _ _ _).trans ?_
      rw [if_neg (n_nle (by omega) (by omega))]
      unfold nthU
      by_cases h1 : S.testBit b = true
      · rw [if_neg (fun hh => by have := (bit_0 (by omega) (by omega)).mp hh; rw [this] at h1; cases h1), if_pos h1, n_succ]
        exact ih (b + 1) q2 (by omega) hq2
      · have h1' : S.testBit b = false := by cases hb : S.testBit b with | false => rfl | true => exact absurd hb h1
        rw [if_pos ((bit_0 (by omega) (by omega)).mpr h1'), if_neg h1]
        by_cases h2 : q2 = 0
        · subst h2
          rw [if_neg (fun hh => hh rfl), if_pos rfl]
        · rw [if_pos (n_ne0 h2 hq2), if_neg h2, n_dec (by omega), n_succ]
          exact ih (b + 1) (q2 - 1) (by omega) (by omega)
  exact h N 0 q (by omega) hq
theorem r_129 {N : Nat} (hN : N ≤ 8) (d : Nat) {w : Wd} (hW : Fix w) : val (129, d, 0, [some (.int (nI N))], [], w) = some (some (.int (nI (fc N))), w) := by
  refine (en_129 d w (nI N) hW.f (inB_nI (by omega) (by omega))).trans ?_
  rw [n_clamp hN, hW.2.2 N, facs_fc (by omega)]
theorem sbt_sn (f : Nat → Nat) (p : Nat) : (sbt f p).testBit = sn f p := funext (fun b => sbt_bit f b p)
theorem sbt_congr {f g : Nat → Nat} : ∀ {k : Nat}, (∀ i, i < k → f i = g i) → sbt f k = sbt g k
  | 0, _ => rfl
  | k + 1, h => by
    show sbt f k ||| 2 ^ f k = sbt g k ||| 2 ^ g k
    rw [sbt_congr (fun i hi => h i (by omega)), h k (by omega)]
theorem sbt_bd {f : Nat → Nat} {m : Nat} : ∀ {k : Nat}, (∀ i, i < k → f i < m) → sbt f k < 2 ^ m
  | 0, _ => Nat.two_pow_pos m
  | k + 1, h => Nat.or_lt_two_pow (sbt_bd (fun i hi => h i (by omega))) (Nat.pow_lt_pow_right (by decide) (h k (by omega)))
/-- one more place of a row by its rank -/
theorem urS_next {N r : Nat} (hr : r < fc N) {p : Nat} (hp : p < N) : ∃ x, x < N ∧ x = nthU (sn (urS N r p).2 p) N ((urS N r p).1 / fc (N - 1 - p)) 0 ∧ (∀ b (g : Nat → Nat), (∀ i, g i = (urS N r p).2 i) → dg b (urS N r (p + 1)).2 (p + 1) = b * dg b g p + x) ∧ (∀ b, dg b (fun i => (urS N r (p + 1)).2 i + 1) (p + 1) = b * dg b (fun i => (urS N r p).2 i + 1) p + (x + 1)) ∧ sbt (urS N r (p + 1)).2 (p + 1) = sbt (urS N r p).2 p ||| 2 ^ x ∧ sbt (fun i => (urS N r (p + 1)).2 i + 1) (p + 1) = sbt (fun i => (urS N r p).2 i + 1) p ||| 2 ^ (x + 1) ∧ (urS N r p).1 / fc (N - 1 - p) < cn (fun j => !sn (urS N r p).2 p (0 + j)) N := by
  obtain ⟨a1, a2, a3, a4⟩ := urS_ok hr p (by omega)
  obtain ⟨-, b2, -, -⟩ := urS_ok hr (p + 1) (by omega)
  have e1 : ∀ i, i < p → (urS N r (p + 1)).2 i = (urS N r p).2 i := fun i hi => if_neg (by omega)
  have e2 : (urS N r (p + 1)).2 p = nthU (sn (urS N r p).2 p) N ((urS N r p).1 / fc (N - 1 - p)) 0 := if_pos rfl
  have hx := b2 p (by omega)
  rw [e2] at hx
  refine ⟨_, hx, rfl, fun b g hg => ?_, fun b => ?_, ?_, ?_, ?_⟩
  · show b * dg b _ p + (urS N r (p + 1)).2 p = _
    rw [e2, dg_congr (f := (urS N r (p + 1)).2) (g := g) (fun i hi => (e1 i hi).trans (hg i).symm)]
  · show b * dg b _ p + ((urS N r (p + 1)).2 p + 1) = _
    rw [e2, dg_congr (f := fun i => (urS N r (p + 1)).2 i + 1) (g := fun i => (urS N r p).2 i + 1) (fun i hi => by rw [e1 i hi])]
  · show sbt (urS N r (p + 1)).2 p ||| 2 ^ (urS N r (p + 1)).2 p = _
    rw [e2, sbt_congr e1]
  · show sbt (fun i => (urS N r (p + 1)).2 i + 1) p ||| 2 ^ ((urS N r (p + 1)).2 p + 1) = _
    rw [e2, sbt_congr (f := fun i => (urS N r (p + 1)).2 i + 1) (g := fun i => (urS N r p).2 i + 1) (fun i hi => by rw [e1 i hi])]
  · rw [cn_congr (Q := fun i => !sn (urS N r p).2 p i) N (fun i _ => by rw [Nat.zero_add]), cn_not, a4, Nat.div_lt_iff_lt_mul (fc_pos _)]
    obtain ⟨m, hm⟩ : ∃ m, N - p = m + 1 := ⟨N - p - 1, by omega⟩
    rw [show N - 1 - p = m by omega, hm]
    rw [hm] at a1
    exact a1
theorem urS_r {N r : Nat} (hN : N ≤ 8) (hr : r < fc N) {p : Nat} (hp : p ≤ N) : (urS N r p).1 < 40320 :=
  Nat.lt_of_lt_of_le (urS_ok hr p hp).1 (fc_lt (by omega))
theorem fc_sm {n : Nat} (h : n ≤ 8) : fc n < 2 ^ 31 := Nat.lt_of_le_of_lt (fc_lt h) (by decide)
theorem r_140 {N r : Nat} (hN : N ≤ 8) (hr : r < fc N) (d : Nat) {w : Wd} (hW : Fix w) : val (140, d + 1, 0, [some (.int (nI N)), some (.int (nI r)), none, none, none, none, none, none], [], w) = some (some (.int (nI (pkN N (urN N r)))), w) := by
  refine (tr_140 d w _ _).trans ?_
  refine downN (P := fun p => ∀ l6 l7, val (140, d + 1, 10, [some (.int (nI N)), some (.int (nI r)), some (.int (nI (dg 16 (urS N r p).2 p))), some (.int (nI (sbt (urS N r p).2 p))), some (.int (nI (urS N r p).1)), some (.int (nI p)), l6, l7], [], w) = some (some (.int (nI (pkN N (urN N r)))), w)) (N := N) (fun l6 l7 => ?_) (fun p hp ih l6 l7 => ?_) none none
  · refine (tr_140_10 d w hW _ _ _ _ _ _ l6 l7 (fun h => absurd (n_le (Nat.le_refl N) (by omega)) h) (fun h => absurd (n_le (Nat.le_refl N) (by omega)) h)).trans ?_
    rw [if_pos (n_le (Nat.le_refl N) (by omega))]
    rfl
  · have es : nI N - 1 - nI p = nI (N - 1 - p) := by
      rw [show nI N - 1 = nI (N - 1) from n_sub (b := 1) (by omega), n_sub (by omega)]
    have ef : gI w 1 (N - 1 - p) = nI (fc (N - 1 - p)) := by rw [hW.2.2, facs_fc (by omega)]
    have hF := fc_sm (n := N - 1 - p) (by omega)
    have hp0 := fc_pos (N - 1 - p)
    have hz : ¬ nI (fc (N - 1 - p)) = 0 := n_ne (b := 0) (by omega) hF (by omega)
    have hR := urS_r hN hr (p := p) (by omega)
    obtain ⟨x, hx, ex, x1, -, x3, -, -⟩ := urS_next hr hp
    refine (tr_140_10 d w hW _ _ _ _ _ _ l6 l7 (fun h => ?_) (fun h => ?_)).trans ?_
    · rw [es]; exact inB_nI (by omega) (by omega)
    · rw [es, nI_clamp (by omega), ef]; exact hz
    rw [if_neg (n_nle hp (by omega)), es, nI_clamp (by omega), ef, n_div (by omega) hF]
    have hS := (sbt_bd (f := (urS N r p).2) (m := 8) (k := p) (fun i hi => by have := (urS_ok hr p (by omega)).2.1 i hi; omega))
    refine (val_call (pc2 := 38) rfl rfl rfl rfl rfl (Nat.le_of_ble_eq_true rfl) (Nat.le_of_ble_eq_true rfl) rfl (r_141 hN hS (Nat.lt_of_le_of_lt (Nat.div_le_self _ _) (by omega)) d w) rfl).trans ?_
    refine (tr_140_38 d w _ _ _ _ _ _ _ _ l7 hz).trans ?_
    rw [sbt_sn, ← ex, c_sh4 (by omega), n_shl1 (by omega), n_or, n_rem (by omega) hF, n_succ, ← x1 16 _ (fun _ => rfl), ← x3]
    exact ih _ _
theorem m_all {N : Nat} (h3 : 3 ≤ N) (hN : N ≤ 8) (d : Nat) {w : Wd} (hW : Fix w) (hn : gI w 108 0 = nI N) : val (182, d, 0, [some (.ref 108), none, none], [], w) = some (some (.int (nI (fc N))), w) := by
  refine (tr_182 d w).trans ?_
  refine downN (P := fun k => val (182, d, 4, [some (.ref 108), some (.int (nI (fc (k + 1)))), some (.int (nI (k + 2)))], [], w) = some (some (.int (nI (fc N))), w)) (N := N - 1) ?_ (fun k hk ih => ?_)
  · refine (tr_182_4 d w hW _ _).trans ?_
    rw [hn, if_pos (n_lt (by omega) (by omega)), show N - 1 + 1 = N by omega]
  · refine (tr_182_4 d w hW _ _).trans ?_
    rw [hn, if_neg (n_nlt (by omega) (by omega)), n_succ, n_mul]
    rw [show fc (k + 1 + 1) = fc (k + 1) * (k + 2) from Nat.mul_comm _ _] at ih
    exact ih
theorem sn_succ (f : Nat → Nat) (b : Nat) : ∀ p, sn (fun i => f i + 1) p (b + 1) = sn f p b
  | 0 => rfl
  | p + 1 => by
    show (sn (fun i => f i + 1) p (b + 1) || decide (b + 1 = f p + 1)) = (sn f p b || decide (b = f p))
    rw [sn_succ f b p]
    congr 1
    exact decide_eq_decide.mpr (by omega)
theorem m183_49 {S : Nat} {T : Nat → Bool} (hS : S < 2 ^ 9) (hT : ∀ b, S.testBit (b + 1) = T b) (d : Nat) (w : Wd) (l1 l2 l3 l5 l6 : Int32) : ∀ fu q b, q < cn (fun j => !T (b + j)) fu → b + fu ≤ 8 → ∃ t7 t8, val (183, d + 1, 49, [some (.ref 108), some (.int l1), some (.int l2), some (.int l3), some (.int (nI S)), some (.int l5), some (.int l6), some (.int (nI q)), some (.int (nI (b + 1)))], [], w) = val (183, d + 1, 16, [some (.ref 108), some (.int l1), some (.int l2), some (.int l3), some (.int (nI (S ||| 2 ^ (nthU T fu q b + 1)))), some (.int (10 * l5 + nI (nthU T fu q b + 1))), some (.int (l6 + 1)), t7, t8], [], w)
  | 0, q, b, h, _ => absurd h (Nat.not_lt_zero q)
  | fu + 1, q, b, h, hb => by
    rw [Nat.add_comm fu 1, cn_split] at h
    have e : cn (fun j => !T (b + (1 + j))) fu = cn (fun j => !T (b + 1 + j)) fu := cn_congr fu (fun i _ => by rw [Nat.add_assoc])
    have e0 : cn (fun j => !T (b + j)) 1 = (!T b).toNat := Nat.zero_add _
    rw [e, e0] at h
    have hq : q < 2 ^ 31 := by
      have := cn_le (fun j => !T (b + 1 + j)) fu
      have := tn_le (!T b)
      omega
    rw [tr_183_49]
    unfold nthU
    have hbit := bit_1 (S := S) (x := b + 1) (by omega) (by omega)
    rw [hT] at hbit
    by_cases h1 : T b = true
    · rw [if_pos (hbit.mpr h1), if_neg (fun hh => hh (hbit.mpr h1)), if_pos h1, Int32.sub_zero, n_succ]
      rw [h1] at h
      exact m183_49 hS hT d w l1 l2 l3 l5 l6 fu q (b + 1) (by simpa using h) (by omega)
    · have h1' : T b = false := by cases hb : T b with | false => rfl | true => exact absurd hb h1
      rw [if_neg (fun hh => h1 (hbit.mp hh)), if_neg h1]
      by_cases h2 : q = 0
      · subst h2
        rw [if_pos (by decide : nI 0 ≤ 0), if_pos rfl, n_shl1 (by omega), n_or]
        exact ⟨_, _, rfl⟩
      · rw [if_neg (n_nle0 (a := q) (by omega) hq), if_pos (fun hh => h1 (hbit.mp hh)), if_neg h2, show nI q - 1 = nI (q - 1) from n_sub (b := 1) (by omega), n_succ]
        rw [h1'] at h
        have h' : q < 1 + cn (fun j => !T (b + 1 + j)) fu := h
        exact m183_49 hS hT d w l1 l2 l3 l5 l6 fu (q - 1) (b + 1) (by omega) (by omega)
theorem m_ofRank {N r : Nat} (h3 : 3 ≤ N) (hN : N ≤ 8) (hr : r < fc N) (d : Nat) {w : Wd} (hW : Fix w) (hn : gI w 108 0 = nI N) : val (183, d + 1, 0, [some (.ref 108), some (.int (nI r)), none, none, none, none, none, none, none], [], w) = some (some (.int (nI (dcN N (urN N r)))), w) := by
  refine (tr_183 d w _).trans ?_
  refine (val_call (pc2 := 6) rfl rfl rfl rfl (hW.rc _) (Nat.le_of_ble_eq_true rfl) (Nat.le_of_ble_eq_true rfl) rfl (m_all h3 hN d hW hn) rfl).trans ?_
  refine (tr_183_6 d w _ _ _).trans ?_
  refine downN (P := fun p => ∀ l7 l8, val (183, d + 1, 16, [some (.ref 108), some (.int (nI r)), some (.int (nI (urS N r p).1)), some (.int (nI (fc (N - p)))), some (.int (nI (sbt (fun i => (urS N r p).2 i + 1) p))), some (.int (nI (dg 10 (fun i => (urS N r p).2 i + 1) p))), some (.int (nI (p + 1))), l7, l8], [], w) = some (some (.int (nI (dcN N (urN N r)))), w)) (N := N) (fun l7 l8 => ?_) (fun p hp ih l7 l8 => ?_) none none
  · have hlt : gI w 108 0 < nI (N + 1) := by rw [hn]; exact n_lt (Nat.lt_succ_self N) (by omega)
    refine (tr_183_16 d w hW _ _ _ _ _ _ l7 l8 (fun h => absurd hlt h) (fun h => absurd hlt h)).trans ?_
    rw [if_pos hlt]
    rfl
  · have hR := urS_r hN hr (p := p) (by omega)
    obtain ⟨x, hx, ex, -, x2, -, x4, x5⟩ := urS_next hr hp
    have es : gI w 108 0 + 1 - nI (p + 1) = nI (N - p) := by
      rw [hn, n_succ, n_sub (by omega), show N + 1 - (p + 1) = N - p by omega]
    have hF := fc_sm (n := N - 1 - p) (by omega)
    have hp0 := fc_pos (N - 1 - p)
    have ed : nI (fc (N - p)) / nI (N - p) = nI (fc (N - 1 - p)) := by
      rw [n_div (fc_sm (by omega)) (by omega)]
      congr 1
      obtain ⟨m, hm⟩ : ∃ m, N - p = m + 1 := ⟨N - p - 1, by omega⟩
      rw [show N - 1 - p = m by omega, hm]
      exact Nat.mul_div_cancel_left _ (by omega)
    refine (tr_183_16 d w hW _ _ _ _ _ _ l7 l8 (fun h => ?_) (fun h => ?_)).trans ?_
    · rw [es]; exact n_ne (b := 0) (by omega) (by omega) (by omega)
    · rw [es, ed]; exact n_ne (b := 0) (by omega) hF (by omega)
    rw [es, ed, hn, if_neg (n_nlt (by omega) (by omega)), n_rem (by omega) hF, n_div (by omega) hF]
    obtain ⟨t7, t8, ht⟩ := m183_49 (S := sbt (fun i => (urS N r p).2 i + 1) p) (T := sn (urS N r p).2 p) (sbt_bd (fun i hi => by have := (urS_ok hr p (by omega)).2.1 i hi; show _ + 1 < 9; omega)) (fun b => by rw [sbt_bit, sn_succ]) d w (nI r) (nI ((urS N r p).1 % fc (N - 1 - p))) (nI (fc (N - 1 - p))) (nI (dg 10 (fun i => (urS N r p).2 i + 1) p)) (nI (p + 1)) N _ 0 x5 (by omega)
    refine ht.trans ?_
    rw [← ex, show (10 : Int32) = nI 10 from rfl, n_mul, n_add, n_succ, ← x2 10, ← x4, show N - 1 - p = N - (p + 1) by omega]
    rw [show N - (p + 1) = N - 1 - p by omega] at ih ⊢
    exact ih _ _
