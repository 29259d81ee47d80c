/-! methods in segments; printed by program (wip/gen/p41.py, seg.py) -/
/-- BelfryHouse$Heads.gather(I)V -/
theorem tr_70 (d : Nat) (w : Wd) (hW : Fix w) (x0 : Int32)     : val (70, d, 0, [some (.ref 80), some (.int x0), none, none, none, none], [], w) = val (70, d, 7, [some (.ref 80), some (.int x0), some (.int 0), none, none, none], [], (sI w 80 1 0)) := by
  refine (val_g (c2 := (70, d, 1, [some (.ref 80), some (.int x0), none, none, none, none], [.ref 80], w)) rfl).trans ?_
  refine (val_g (c2 := (70, d, 2, [some (.ref 80), some (.int x0), none, none, none, none], [.int 0, .ref 80], w)) rfl).trans ?_
  refine (val_pf rfl (hW.k 80 (Nat.le_of_ble_eq_true rfl) (Nat.le_of_ble_eq_true rfl)) rfl).trans ?_
  show val (70, d, 5, [some (.ref 80), some (.int x0), none, none, none, none], [], (sI w 80 1 0)) = _
  refine (val_g (c2 := (70, d, 6, [some (.ref 80), some (.int x0), none, none, none, none], [.int 0], (sI w 80 1 0))) rfl).trans ?_
  refine (val_g (c2 := (70, d, 7, [some (.ref 80), some (.int x0), some (.int 0), none, none, none], [], (sI w 80 1 0))) rfl).trans ?_
  rfl
theorem tr_70_7 (d : Nat) (w : Wd) (hW : Fix w) (l1 : Int32) (l2 : Int32) (l3 : Option Value) (l5 : Option Value)   (hy1 : (¬ (l1 ≤ l2)) → inB ((l2 >>> (6 &&& 31))) 630 = true) : val (70, d, 7, [some (.ref 80), some (.int l1), some (.int l2), l3, none, l5], [], w) = (if l1 ≤ l2 then some (none, w) else val (70, d, 25, [some (.ref 80), some (.int l1), some (.int l2), some (.long (gL w 82 ((l2 >>> (6 &&& 31))).toNatClampNeg)), none, some (.int 0)], [], w)) := by
  refine (val_g (c2 := (70, d, 8, [some (.ref 80), some (.int l1), some (.int l2), l3, none, l5], [.int l2], w)) rfl).trans ?_
  refine (val_g (c2 := (70, d, 9, [some (.ref 80), some (.int l1), some (.int l2), l3, none, l5], [.int l1, .int l2], w)) rfl).trans ?_
  by_cases hc388 : l1 ≤ l2
  · refine ((val_ic_ge rfl).trans (if_pos hc388)).trans ?_
    show val (70, d, 94, [some (.ref 80), some (.int l1), some (.int l2), l3, none, l5], [], w) = _
    refine Eq.trans ?_ (if_pos hc388).symm
    exact val_r rfl
  · refine ((val_ic_ge rfl).trans (if_neg hc388)).trans ?_
    show val (70, d, 12, [some (.ref 80), some (.int l1), some (.int l2), l3, none, l5], [], w) = _
    refine Eq.trans ?_ (if_neg hc388).symm
    refine (val_g (c2 := (70, d, 13, [some (.ref 80), some (.int l1), some (.int l2), l3, none, l5], [.ref 80], w)) rfl).trans ?_
    refine (val_gf rfl (hW.k 80 (Nat.le_of_ble_eq_true rfl) (Nat.le_of_ble_eq_true rfl)) (fvR (hW.r 80 2 82 rfl))).trans ?_
    show val (70, d, 16, [some (.ref 80), some (.int l1), some (.int l2), l3, none, l5], [.ref 82], w) = _
    refine (val_g (c2 := (70, d, 17, [some (.ref 80), some (.int l1), some (.int l2), l3, none, l5], [.int l2, .ref 82], w)) rfl).trans ?_
    refine (val_g (c2 := (70, d, 19, [some (.ref 80), some (.int l1), some (.int l2), l3, none, l5], [.int 6, .int l2, .ref 82], w)) rfl).trans ?_
    refine (val_g (c2 := (70, d, 20, [some (.ref 80), some (.int l1), some (.int l2), l3, none, l5], [.int (l2 >>> (6 &&& 31)), .ref 82], w)) rfl).trans ?_
    refine (val_lal rfl (hW.k 82 (Nat.le_of_ble_eq_true rfl) (Nat.le_of_ble_eq_true rfl)) (hy1 hc388)).trans ?_
    show val (70, d, 21, [some (.ref 80), some (.int l1), some (.int l2), l3, none, l5], [.long (gL w 82 ((l2 >>> (6 &&& 31))).toNatClampNeg)], w) = _
    refine (val_g (c2 := (70, d, 22, [some (.ref 80), some (.int l1), some (.int l2), some (.long (gL w 82 ((l2 >>> (6 &&& 31))).toNatClampNeg)), none, l5], [], w)) rfl).trans ?_
    refine (val_g (c2 := (70, d, 23, [some (.ref 80), some (.int l1), some (.int l2), some (.long (gL w 82 ((l2 >>> (6 &&& 31))).toNatClampNeg)), none, l5], [.int 0], w)) rfl).trans ?_
    refine (val_g (c2 := (70, d, 25, [some (.ref 80), some (.int l1), some (.int l2), some (.long (gL w 82 ((l2 >>> (6 &&& 31))).toNatClampNeg)), none, some (.int 0)], [], w)) rfl).trans ?_
    rfl
theorem tr_70_25 (d : Nat) (w : Wd) (hW : Fix w) (l1 : Int32) (l2 : Int32) (l3 : Int64) (l5 : Int32)    (hy1 : (¬ (64 ≤ l5)) → (¬ ((cmpL l3 0) = 0)) → (¬ ((cmpL ((l3 &&& 1)) 0) = 0)) → (¬ ((Int32.ofNat 3600) ≤ (gI w 80 1))) → inB ((gI w 80 1)) 3600 = true) : val (70, d, 25, [some (.ref 80), some (.int l1), some (.int l2), some (.long l3), none, some (.int l5)], [], w) = (if 64 ≤ l5 then val (70, d, 7, [some (.ref 80), some (.int l1), some (.int (l2 + 64)), some (.long l3), none, some (.int l5)], [], w) else (if (cmpL l3 0) = 0 then val (70, d, 7, [some (.ref 80), some (.int l1), some (.int (l2 + 64)), some (.long l3), none, some (.int l5)], [], w) else (if (cmpL ((l3 &&& 1)) 0) = 0 then val (70, d, 25, [some (.ref 80), some (.int l1), some (.int l2), some (.long (ushL l3 1)), none, some (.int (l5 + 1))], [], w) else (if (Int32.ofNat 3600) ≤ (gI w 80 1) then val (70, d, 25, [some (.ref 80), some (.int l1), some (.int l2), some (.long (ushL l3 1)), none, some (.int (l5 + 1))], [], w) else val (70, d, 25, [some (.ref 80), some (.int l1), some (.int l2), some (.long (ushL l3 1)), none, some (.int (l5 + 1))], [], (sI ((sI w 80 1 (((gI w 80 1) + 1)))) 81 ((gI w 80 1)).toNatClampNeg ((l2 + l5)))))))) := by
  refine (val_g (c2 := (70, d, 27, [some (.ref 80), some (.int l1), some (.int l2), some (.long l3), none, some (.int l5)], [.int l5], w)) rfl).trans ?_
  refine (val_g (c2 := (70, d, 29, [some (.ref 80), some (.int l1), some (.int l2), some (.long l3), none, some (.int l5)], [.int 64, .int l5], w)) rfl).trans ?_
  by_cases hc389 : 64 ≤ l5
  · refine ((val_ic_ge rfl).trans (if_pos hc389)).trans ?_
    show val (70, d, 88, [some (.ref 80), some (.int l1), some (.int l2), some (.long l3), none, some (.int l5)], [], w) = _
    refine Eq.trans ?_ (if_pos hc389).symm
    refine (val_g (c2 := (70, d, 91, [some (.ref 80), some (.int l1), some (.int (l2 + 64)), some (.long l3), none, some (.int l5)], [], w)) rfl).trans ?_
    refine (val_g (c2 := (70, d, 7, [some (.ref 80), some (.int l1), some (.int (l2 + 64)), some (.long l3), none, some (.int l5)], [], w)) rfl).trans ?_
    rfl
  · refine ((val_ic_ge rfl).trans (if_neg hc389)).trans ?_
    show val (70, d, 32, [some (.ref 80), some (.int l1), some (.int l2), some (.long l3), none, some (.int l5)], [], w) = _
    refine Eq.trans ?_ (if_neg hc389).symm
    refine (val_g (c2 := (70, d, 33, [some (.ref 80), some (.int l1), some (.int l2), some (.long l3), none, some (.int l5)], [.long l3], w)) rfl).trans ?_
    refine (val_g (c2 := (70, d, 34, [some (.ref 80), some (.int l1), some (.int l2), some (.long l3), none, some (.int l5)], [.long 0, .long l3], w)) rfl).trans ?_
    refine (val_g (c2 := (70, d, 35, [some (.ref 80), some (.int l1), some (.int l2), some (.long l3), none, some (.int l5)], [.int (cmpL l3 0)], w)) rfl).trans ?_
    by_cases hc390 : (cmpL l3 0) = 0
    · refine ((val_if_eq rfl).trans (if_pos hc390)).trans ?_
      show val (70, d, 88, [some (.ref 80), some (.int l1), some (.int l2), some (.long l3), none, some (.int l5)], [], w) = _
      refine Eq.trans ?_ (if_pos hc390).symm
      refine (val_g (c2 := (70, d, 91, [some (.ref 80), some (.int l1), some (.int (l2 + 64)), some (.long l3), none, some (.int l5)], [], w)) rfl).trans ?_
      refine (val_g (c2 := (70, d, 7, [some (.ref 80), some (.int l1), some (.int (l2 + 64)), some (.long l3), none, some (.int l5)], [], w)) rfl).trans ?_
      rfl
    · refine ((val_if_eq rfl).trans (if_neg hc390)).trans ?_
      show val (70, d, 38, [some (.ref 80), some (.int l1), some (.int l2), some (.long l3), none, some (.int l5)], [], w) = _
      refine Eq.trans ?_ (if_neg hc390).symm
      refine (val_g (c2 := (70, d, 39, [some (.ref 80), some (.int l1), some (.int l2), some (.long l3), none, some (.int l5)], [.long l3], w)) rfl).trans ?_
      refine (val_g (c2 := (70, d, 40, [some (.ref 80), some (.int l1), some (.int l2), some (.long l3), none, some (.int l5)], [.long 1, .long l3], w)) rfl).trans ?_
      refine (val_g (c2 := (70, d, 41, [some (.ref 80), some (.int l1), some (.int l2), some (.long l3), none, some (.int l5)], [.long (l3 &&& 1)], w)) rfl).trans ?_
      refine (val_g (c2 := (70, d, 42, [some (.ref 80), some (.int l1), some (.int l2), some (.long l3), none, some (.int l5)], [.long 0, .long (l3 &&& 1)], w)) rfl).trans ?_
      refine (val_g (c2 := (70, d, 43, [some (.ref 80), some (.int l1), some (.int l2), some (.long l3), none, some (.int l5)], [.int (cmpL ((l3 &&& 1)) 0)], w)) rfl).trans ?_
      by_cases hc391 : (cmpL ((l3 &&& 1)) 0) = 0
      · refine ((val_if_eq rfl).trans (if_pos hc391)).trans ?_
        show val (70, d, 78, [some (.ref 80), some (.int l1), some (.int l2), some (.long l3), none, some (.int l5)], [], w) = _
        refine Eq.trans ?_ (if_pos hc391).symm
        refine (val_g (c2 := (70, d, 79, [some (.ref 80), some (.int l1), some (.int l2), some (.long l3), none, some (.int l5)], [.long l3], w)) rfl).trans ?_
        refine (val_g (c2 := (70, d, 80, [some (.ref 80), some (.int l1), some (.int l2), some (.long l3), none, some (.int l5)], [.int 1, .long l3], w)) rfl).trans ?_
        refine (val_g (c2 := (70, d, 81, [some (.ref 80), some (.int l1), some (.int l2), some (.long l3), none, some (.int l5)], [.long (ushL l3 1)], w)) rfl).trans ?_
        refine (val_g (c2 := (70, d, 82, [some (.ref 80), some (.int l1), some (.int l2), some (.long (ushL l3 1)), none, some (.int l5)], [], w)) rfl).trans ?_
        refine (val_g (c2 := (70, d, 85, [some (.ref 80), some (.int l1), some (.int l2), some (.long (ushL l3 1)), none, some (.int (l5 + 1))], [], w)) rfl).trans ?_
        refine (val_g (c2 := (70, d, 25, [some (.ref 80), some (.int l1), some (.int l2), some (.long (ushL l3 1)), none, some (.int (l5 + 1))], [], w)) rfl).trans ?_
        rfl
      · refine ((val_if_eq rfl).trans (if_neg hc391)).trans ?_
        show val (70, d, 46, [some (.ref 80), some (.int l1), some (.int l2), some (.long l3), none, some (.int l5)], [], w) = _
        refine Eq.trans ?_ (if_neg hc391).symm
        refine (val_g (c2 := (70, d, 47, [some (.ref 80), some (.int l1), some (.int l2), some (.long l3), none, some (.int l5)], [.ref 80], w)) rfl).trans ?_
        refine (val_gf rfl (hW.k 80 (Nat.le_of_ble_eq_true rfl) (Nat.le_of_ble_eq_true rfl)) rfl).trans ?_
        show val (70, d, 50, [some (.ref 80), some (.int l1), some (.int l2), some (.long l3), none, some (.int l5)], [.int (gI w 80 1)], w) = _
        refine (val_g (c2 := (70, d, 51, [some (.ref 80), some (.int l1), some (.int l2), some (.long l3), none, some (.int l5)], [.ref 80, .int (gI w 80 1)], w)) rfl).trans ?_
        refine (val_gf rfl (hW.k 80 (Nat.le_of_ble_eq_true rfl) (Nat.le_of_ble_eq_true rfl)) (fvR (hW.r 80 0 81 rfl))).trans ?_
        show val (70, d, 54, [some (.ref 80), some (.int l1), some (.int l2), some (.long l3), none, some (.int l5)], [.ref 81, .int (gI w 80 1)], w) = _
        refine (val_alen rfl (hW.k 81 (Nat.le_of_ble_eq_true rfl) (Nat.le_of_ble_eq_true rfl)) rfl).trans ?_
        show val (70, d, 55, [some (.ref 80), some (.int l1), some (.int l2), some (.long l3), none, some (.int l5)], [.int (Int32.ofNat 3600), .int (gI w 80 1)], w) = _
        by_cases hc392 : (Int32.ofNat 3600) ≤ (gI w 80 1)
        · refine ((val_ic_ge rfl).trans (if_pos hc392)).trans ?_
          show val (70, d, 78, [some (.ref 80), some (.int l1), some (.int l2), some (.long l3), none, some (.int l5)], [], w) = _
          refine Eq.trans ?_ (if_pos hc392).symm
          refine (val_g (c2 := (70, d, 79, [some (.ref 80), some (.int l1), some (.int l2), some (.long l3), none, some (.int l5)], [.long l3], w)) rfl).trans ?_
          refine (val_g (c2 := (70, d, 80, [some (.ref 80), some (.int l1), some (.int l2), some (.long l3), none, some (.int l5)], [.int 1, .long l3], w)) rfl).trans ?_
          refine (val_g (c2 := (70, d, 81, [some (.ref 80), some (.int l1), some (.int l2), some (.long l3), none, some (.int l5)], [.long (ushL l3 1)], w)) rfl).trans ?_
          refine (val_g (c2 := (70, d, 82, [some (.ref 80), some (.int l1), some (.int l2), some (.long (ushL l3 1)), none, some (.int l5)], [], w)) rfl).trans ?_
          refine (val_g (c2 := (70, d, 85, [some (.ref 80), some (.int l1), some (.int l2), some (.long (ushL l3 1)), none, some (.int (l5 + 1))], [], w)) rfl).trans ?_
          refine (val_g (c2 := (70, d, 25, [some (.ref 80), some (.int l1), some (.int l2), some (.long (ushL l3 1)), none, some (.int (l5 + 1))], [], w)) rfl).trans ?_
          rfl
        · refine ((val_ic_ge rfl).trans (if_neg hc392)).trans ?_
          show val (70, d, 58, [some (.ref 80), some (.int l1), some (.int l2), some (.long l3), none, some (.int l5)], [], w) = _
          refine Eq.trans ?_ (if_neg hc392).symm
          refine (val_g (c2 := (70, d, 59, [some (.ref 80), some (.int l1), some (.int l2), some (.long l3), none, some (.int l5)], [.ref 80], w)) rfl).trans ?_
          refine (val_gf rfl (hW.k 80 (Nat.le_of_ble_eq_true rfl) (Nat.le_of_ble_eq_true rfl)) (fvR (hW.r 80 0 81 rfl))).trans ?_
          show val (70, d, 62, [some (.ref 80), some (.int l1), some (.int l2), some (.long l3), none, some (.int l5)], [.ref 81], w) = _
          refine (val_g (c2 := (70, d, 63, [some (.ref 80), some (.int l1), some (.int l2), some (.long l3), none, some (.int l5)], [.ref 80, .ref 81], w)) rfl).trans ?_
          refine (val_g (c2 := (70, d, 64, [some (.ref 80), some (.int l1), some (.int l2), some (.long l3), none, some (.int l5)], [.ref 80, .ref 80, .ref 81], w)) rfl).trans ?_
          refine (val_gf rfl (hW.k 80 (Nat.le_of_ble_eq_true rfl) (Nat.le_of_ble_eq_true rfl)) rfl).trans ?_
          show val (70, d, 67, [some (.ref 80), some (.int l1), some (.int l2), some (.long l3), none, some (.int l5)], [.int (gI w 80 1), .ref 80, .ref 81], w) = _
          refine (val_g (c2 := (70, d, 68, [some (.ref 80), some (.int l1), some (.int l2), some (.long l3), none, some (.int l5)], [.int (gI w 80 1), .ref 80, .int (gI w 80 1), .ref 81], w)) rfl).trans ?_
          refine (val_g (c2 := (70, d, 69, [some (.ref 80), some (.int l1), some (.int l2), some (.long l3), none, some (.int l5)], [.int 1, .int (gI w 80 1), .ref 80, .int (gI w 80 1), .ref 81], w)) rfl).trans ?_
          refine (val_g (c2 := (70, d, 70, [some (.ref 80), some (.int l1), some (.int l2), some (.long l3), none, some (.int l5)], [.int ((gI w 80 1) + 1), .ref 80, .int (gI w 80 1), .ref 81], w)) rfl).trans ?_
          refine (val_pf rfl (hW.k 80 (Nat.le_of_ble_eq_true rfl) (Nat.le_of_ble_eq_true rfl)) rfl).trans ?_
          show val (70, d, 73, [some (.ref 80), some (.int l1), some (.int l2), some (.long l3), none, some (.int l5)], [.int (gI w 80 1), .ref 81], (sI w 80 1 (((gI w 80 1) + 1)))) = _
          refine (val_g (c2 := (70, d, 74, [some (.ref 80), some (.int l1), some (.int l2), some (.long l3), none, some (.int l5)], [.int l2, .int (gI w 80 1), .ref 81], (sI w 80 1 (((gI w 80 1) + 1))))) rfl).trans ?_
          refine (val_g (c2 := (70, d, 76, [some (.ref 80), some (.int l1), some (.int l2), some (.long l3), none, some (.int l5)], [.int l5, .int l2, .int (gI w 80 1), .ref 81], (sI w 80 1 (((gI w 80 1) + 1))))) rfl).trans ?_
          refine (val_g (c2 := (70, d, 77, [some (.ref 80), some (.int l1), some (.int l2), some (.long l3), none, some (.int l5)], [.int (l2 + l5), .int (gI w 80 1), .ref 81], (sI w 80 1 (((gI w 80 1) + 1))))) rfl).trans ?_
          refine (val_ias (w := (sI w 80 1 (((gI w 80 1) + 1)))) rfl (hW.k 81 (Nat.le_of_ble_eq_true rfl) (Nat.le_of_ble_eq_true rfl)) (hy1 hc389 hc390 hc391 hc392)).trans ?_
          show val (70, d, 78, [some (.ref 80), some (.int l1), some (.int l2), some (.long l3), none, some (.int l5)], [], (sI ((sI w 80 1 (((gI w 80 1) + 1)))) 81 ((gI w 80 1)).toNatClampNeg ((l2 + l5)))) = _
          refine (val_g (c2 := (70, d, 79, [some (.ref 80), some (.int l1), some (.int l2), some (.long l3), none, some (.int l5)], [.long l3], (sI ((sI w 80 1 (((gI w 80 1) + 1)))) 81 ((gI w 80 1)).toNatClampNeg ((l2 + l5))))) rfl).trans ?_
          refine (val_g (c2 := (70, d, 80, [some (.ref 80), some (.int l1), some (.int l2), some (.long l3), none, some (.int l5)], [.int 1, .long l3], (sI ((sI w 80 1 (((gI w 80 1) + 1)))) 81 ((gI w 80 1)).toNatClampNeg ((l2 + l5))))) rfl).trans ?_
          refine (val_g (c2 := (70, d, 81, [some (.ref 80), some (.int l1), some (.int l2), some (.long l3), none, some (.int l5)], [.long (ushL l3 1)], (sI ((sI w 80 1 (((gI w 80 1) + 1)))) 81 ((gI w 80 1)).toNatClampNeg ((l2 + l5))))) rfl).trans ?_
          refine (val_g (c2 := (70, d, 82, [some (.ref 80), some (.int l1), some (.int l2), some (.long (ushL l3 1)), none, some (.int l5)], [], (sI ((sI w 80 1 (((gI w 80 1) + 1)))) 81 ((gI w 80 1)).toNatClampNeg ((l2 + l5))))) rfl).trans ?_
          refine (val_g (c2 := (70, d, 85, [some (.ref 80), some (.int l1), some (.int l2), some (.long (ushL l3 1)), none, some (.int (l5 + 1))], [], (sI ((sI w 80 1 (((gI w 80 1) + 1)))) 81 ((gI w 80 1)).toNatClampNeg ((l2 + l5))))) rfl).trans ?_
          refine (val_g (c2 := (70, d, 25, [some (.ref 80), some (.int l1), some (.int l2), some (.long (ushL l3 1)), none, some (.int (l5 + 1))], [], (sI ((sI w 80 1 (((gI w 80 1) + 1)))) 81 ((gI w 80 1)).toNatClampNeg ((l2 + l5))))) rfl).trans ?_
          rfl
/-- BelfryHouse$Method.<init>()V -/
theorem tr_71 (d : Nat) (w : Wd) (o : Nat)    (hy1 : 64 ≤ o) : val (71, d + 1, 0, [some (.ref o)], [], w) = val (71, d + 1, 7, [some (.ref o)], [.int 20, .ref o], w) := by
  refine (val_g (c2 := (71, d + 1, 1, [some (.ref o)], [.ref o], w)) rfl).trans ?_
  refine (val_obj rfl hy1 (Nat.le_of_ble_eq_true rfl)).trans ?_
  show val (71, d + 1, 4, [some (.ref o)], [], w) = _
  refine (val_g (c2 := (71, d + 1, 5, [some (.ref o)], [.ref o], w)) rfl).trans ?_
  refine (val_g (c2 := (71, d + 1, 7, [some (.ref o)], [.int 20, .ref o], w)) rfl).trans ?_
  rfl
theorem tr_71_13 (d : Nat) (w : Wd) (l0 : Nat)    (m_l0 : Nat) (hk_l0 : wK w l0 = (3, m_l0)) : val (71, d + 1, 13, [some (.ref l0)], [], w) = some (none, (sI ((sI w l0 1 0)) l0 2 0)) := by
  refine (val_g (c2 := (71, d + 1, 14, [some (.ref l0)], [.ref l0], w)) rfl).trans ?_
  refine (val_g (c2 := (71, d + 1, 15, [some (.ref l0)], [.int 0, .ref l0], w)) rfl).trans ?_
  refine (val_pf rfl hk_l0 rfl).trans ?_
  show val (71, d + 1, 18, [some (.ref l0)], [], (sI w l0 1 0)) = _
  refine (val_g (c2 := (71, d + 1, 19, [some (.ref l0)], [.ref l0], (sI w l0 1 0))) rfl).trans ?_
  refine (val_g (c2 := (71, d + 1, 20, [some (.ref l0)], [.int 0, .ref l0], (sI w l0 1 0))) rfl).trans ?_
  refine (val_pf (w := (sI w l0 1 0)) rfl hk_l0 rfl).trans ?_
  show val (71, d + 1, 23, [some (.ref l0)], [], (sI ((sI w l0 1 0)) l0 2 0)) = _
  exact val_r rfl
/-- BelfryHouse$Method.add(LBelfryHouse$Rule;)V -/
theorem tr_72 (d : Nat) (w : Wd) (o : Nat) (p0 : Nat)    (m_o : Nat) (hk_o : wK w o = (3, m_o)) (q0_o : Nat) (hr0_o : gR w o 0 = some q0_o) : val (72, d, 0, [some (.ref o), some (.ref p0)], [], w) = (if 20 ≤ (gI w o 1) then val (72, d, 26, [some (.ref o), some (.ref p0)], [], w) else val (72, d, 25, [some (.ref o), some (.ref p0)], [.ref p0, .int (gI w o 1), .ref q0_o], (sI w o 1 (((gI w o 1) + 1))))) := by
  refine (val_g (c2 := (72, d, 1, [some (.ref o), some (.ref p0)], [.ref o], w)) rfl).trans ?_
  refine (val_gf rfl hk_o rfl).trans ?_
  show val (72, d, 4, [some (.ref o), some (.ref p0)], [.int (gI w o 1)], w) = _
  refine (val_g (c2 := (72, d, 6, [some (.ref o), some (.ref p0)], [.int 20, .int (gI w o 1)], w)) rfl).trans ?_
  by_cases hc394 : 20 ≤ (gI w o 1)
  · refine ((val_ic_ge rfl).trans (if_pos hc394)).trans ?_
    show val (72, d, 26, [some (.ref o), some (.ref p0)], [], w) = _
    refine Eq.trans ?_ (if_pos hc394).symm
    rfl
  · refine ((val_ic_ge rfl).trans (if_neg hc394)).trans ?_
    show val (72, d, 9, [some (.ref o), some (.ref p0)], [], w) = _
    refine Eq.trans ?_ (if_neg hc394).symm
    refine (val_g (c2 := (72, d, 10, [some (.ref o), some (.ref p0)], [.ref o], w)) rfl).trans ?_
    refine (val_gf rfl hk_o (fvR hr0_o)).trans ?_
    show val (72, d, 13, [some (.ref o), some (.ref p0)], [.ref q0_o], w) = _
    refine (val_g (c2 := (72, d, 14, [some (.ref o), some (.ref p0)], [.ref o, .ref q0_o], w)) rfl).trans ?_
    refine (val_g (c2 := (72, d, 15, [some (.ref o), some (.ref p0)], [.ref o, .ref o, .ref q0_o], w)) rfl).trans ?_
    refine (val_gf rfl hk_o rfl).trans ?_
    show val (72, d, 18, [some (.ref o), some (.ref p0)], [.int (gI w o 1), .ref o, .ref q0_o], w) = _
    refine (val_g (c2 := (72, d, 19, [some (.ref o), some (.ref p0)], [.int (gI w o 1), .ref o, .int (gI w o 1), .ref q0_o], w)) rfl).trans ?_
    refine (val_g (c2 := (72, d, 20, [some (.ref o), some (.ref p0)], [.int 1, .int (gI w o 1), .ref o, .int (gI w o 1), .ref q0_o], w)) rfl).trans ?_
    refine (val_g (c2 := (72, d, 21, [some (.ref o), some (.ref p0)], [.int ((gI w o 1) + 1), .ref o, .int (gI w o 1), .ref q0_o], w)) rfl).trans ?_
    refine (val_pf rfl hk_o rfl).trans ?_
    show val (72, d, 24, [some (.ref o), some (.ref p0)], [.int (gI w o 1), .ref q0_o], (sI w o 1 (((gI w o 1) + 1)))) = _
    refine (val_g (c2 := (72, d, 25, [some (.ref o), some (.ref p0)], [.ref p0, .int (gI w o 1), .ref q0_o], (sI w o 1 (((gI w o 1) + 1))))) rfl).trans ?_
    rfl
theorem tr_72_26 (d : Nat) (w : Wd) (l0 : Nat) (l1 : Nat)     : val (72, d, 26, [some (.ref l0), some (.ref l1)], [], w) = some (none, w) := by
  exact val_r rfl
/-- BelfryHouse$Method.ruleFor(IIIZ)LBelfryHouse$Rule; -/
theorem tr_73 (d : Nat) (w : Wd) (o : Nat) (x0 : Int32) (x1 : Int32) (x2 : Int32) (x3 : Int32)     : val (73, d + 4, 0, [some (.ref o), some (.int x0), some (.int x1), some (.int x2), some (.int x3), none], [], w) = val (73, d + 4, 3, [some (.ref o), some (.int x0), some (.int x1), some (.int x2), some (.int x3), some (.int 0)], [], w) := by
  refine (val_g (c2 := (73, d + 4, 1, [some (.ref o), some (.int x0), some (.int x1), some (.int x2), some (.int x3), none], [.int 0], w)) rfl).trans ?_
  refine (val_g (c2 := (73, d + 4, 3, [some (.ref o), some (.int x0), some (.int x1), some (.int x2), some (.int x3), some (.int 0)], [], w)) rfl).trans ?_
  rfl
theorem tr_73_3 (d : Nat) (w : Wd) (l0 : Nat) (l1 : Int32) (l2 : Int32) (l3 : Int32) (l4 : Int32) (l5 : Int32)    (m_l0 : Nat) (hk_l0 : wK w l0 = (3, m_l0)) (q0_l0 : Nat) (hr0_l0 : gR w l0 0 = some q0_l0) : val (73, d + 4, 3, [some (.ref l0), some (.int l1), some (.int l2), some (.int l3), some (.int l4), some (.int l5)], [], w) = (if (gI w l0 1) ≤ l5 then some (some (.null), w) else val (73, d + 4, 18, [some (.ref l0), some (.int l1), some (.int l2), some (.int l3), some (.int l4), some (.int l5)], [.int l5, .ref q0_l0], w)) := by
  refine (val_g (c2 := (73, d + 4, 5, [some (.ref l0), some (.int l1), some (.int l2), some (.int l3), some (.int l4), some (.int l5)], [.int l5], w)) rfl).trans ?_
  refine (val_g (c2 := (73, d + 4, 6, [some (.ref l0), some (.int l1), some (.int l2), some (.int l3), some (.int l4), some (.int l5)], [.ref l0, .int l5], w)) rfl).trans ?_
  refine (val_gf rfl hk_l0 rfl).trans ?_
  show val (73, d + 4, 9, [some (.ref l0), some (.int l1), some (.int l2), some (.int l3), some (.int l4), some (.int l5)], [.int (gI w l0 1), .int l5], w) = _
  by_cases hc397 : (gI w l0 1) ≤ l5
  · refine ((val_ic_ge rfl).trans (if_pos hc397)).trans ?_
    show val (73, d + 4, 44, [some (.ref l0), some (.int l1), some (.int l2), some (.int l3), some (.int l4), some (.int l5)], [], w) = _
    refine Eq.trans ?_ (if_pos hc397).symm
    refine (val_g (c2 := (73, d + 4, 45, [some (.ref l0), some (.int l1), some (.int l2), some (.int l3), some (.int l4), some (.int l5)], [.null], w)) rfl).trans ?_
    exact val_r rfl
  · refine ((val_ic_ge rfl).trans (if_neg hc397)).trans ?_
    show val (73, d + 4, 12, [some (.ref l0), some (.int l1), some (.int l2), some (.int l3), some (.int l4), some (.int l5)], [], w) = _
    refine Eq.trans ?_ (if_neg hc397).symm
    refine (val_g (c2 := (73, d + 4, 13, [some (.ref l0), some (.int l1), some (.int l2), some (.int l3), some (.int l4), some (.int l5)], [.ref l0], w)) rfl).trans ?_
    refine (val_gf rfl hk_l0 (fvR hr0_l0)).trans ?_
    show val (73, d + 4, 16, [some (.ref l0), some (.int l1), some (.int l2), some (.int l3), some (.int l4), some (.int l5)], [.ref q0_l0], w) = _
    refine (val_g (c2 := (73, d + 4, 18, [some (.ref l0), some (.int l1), some (.int l2), some (.int l3), some (.int l4), some (.int l5)], [.int l5, .ref q0_l0], w)) rfl).trans ?_
    rfl
theorem tr_73_19 (d : Nat) (w : Wd) (l0 : Nat) (l1 : Int32) (l2 : Int32) (l3 : Int32) (l4 : Int32) (l5 : Int32) (s0 : Nat)     : val (73, d + 4, 19, [some (.ref l0), some (.int l1), some (.int l2), some (.int l3), some (.int l4), some (.int l5)], [.ref s0], w) = val (73, d + 4, 24, [some (.ref l0), some (.int l1), some (.int l2), some (.int l3), some (.int l4), some (.int l5)], [.int l4, .int l3, .int l2, .int l1, .ref s0], w) := by
  refine (val_g (c2 := (73, d + 4, 20, [some (.ref l0), some (.int l1), some (.int l2), some (.int l3), some (.int l4), some (.int l5)], [.int l1, .ref s0], w)) rfl).trans ?_
  refine (val_g (c2 := (73, d + 4, 21, [some (.ref l0), some (.int l1), some (.int l2), some (.int l3), some (.int l4), some (.int l5)], [.int l2, .int l1, .ref s0], w)) rfl).trans ?_
  refine (val_g (c2 := (73, d + 4, 22, [some (.ref l0), some (.int l1), some (.int l2), some (.int l3), some (.int l4), some (.int l5)], [.int l3, .int l2, .int l1, .ref s0], w)) rfl).trans ?_
  refine (val_g (c2 := (73, d + 4, 24, [some (.ref l0), some (.int l1), some (.int l2), some (.int l3), some (.int l4), some (.int l5)], [.int l4, .int l3, .int l2, .int l1, .ref s0], w)) rfl).trans ?_
  rfl
theorem tr_73_27 (d : Nat) (w : Wd) (l0 : Nat) (l1 : Int32) (l2 : Int32) (l3 : Int32) (l4 : Int32) (l5 : Int32) (s0 : Int32)    (m_l0 : Nat) (hk_l0 : wK w l0 = (3, m_l0)) (q0_l0 : Nat) (hr0_l0 : gR w l0 0 = some q0_l0) : val (73, d + 4, 27, [some (.ref l0), some (.int l1), some (.int l2), some (.int l3), some (.int l4), some (.int l5)], [.int s0], w) = (if s0 = 0 then val (73, d + 4, 3, [some (.ref l0), some (.int l1), some (.int l2), some (.int l3), some (.int l4), some (.int (l5 + 1))], [], w) else val (73, d + 4, 36, [some (.ref l0), some (.int l1), some (.int l2), some (.int l3), some (.int l4), some (.int l5)], [.int l5, .ref q0_l0], w)) := by
  by_cases hc398 : s0 = 0
  · refine ((val_if_eq rfl).trans (if_pos hc398)).trans ?_
    show val (73, d + 4, 38, [some (.ref l0), some (.int l1), some (.int l2), some (.int l3), some (.int l4), some (.int l5)], [], w) = _
    refine Eq.trans ?_ (if_pos hc398).symm
    refine (val_g (c2 := (73, d + 4, 41, [some (.ref l0), some (.int l1), some (.int l2), some (.int l3), some (.int l4), some (.int (l5 + 1))], [], w)) rfl).trans ?_
    refine (val_g (c2 := (73, d + 4, 3, [some (.ref l0), some (.int l1), some (.int l2), some (.int l3), some (.int l4), some (.int (l5 + 1))], [], w)) rfl).trans ?_
    rfl
  · refine ((val_if_eq rfl).trans (if_neg hc398)).trans ?_
    show val (73, d + 4, 30, [some (.ref l0), some (.int l1), some (.int l2), some (.int l3), some (.int l4), some (.int l5)], [], w) = _
    refine Eq.trans ?_ (if_neg hc398).symm
    refine (val_g (c2 := (73, d + 4, 31, [some (.ref l0), some (.int l1), some (.int l2), some (.int l3), some (.int l4), some (.int l5)], [.ref l0], w)) rfl).trans ?_
    refine (val_gf rfl hk_l0 (fvR hr0_l0)).trans ?_
    show val (73, d + 4, 34, [some (.ref l0), some (.int l1), some (.int l2), some (.int l3), some (.int l4), some (.int l5)], [.ref q0_l0], w) = _
    refine (val_g (c2 := (73, d + 4, 36, [some (.ref l0), some (.int l1), some (.int l2), some (.int l3), some (.int l4), some (.int l5)], [.int l5, .ref q0_l0], w)) rfl).trans ?_
    rfl
theorem tr_73_37 (d : Nat) (w : Wd) (l0 : Nat) (l1 : Int32) (l2 : Int32) (l3 : Int32) (l4 : Int32) (l5 : Int32) (s0 : Nat)     : val (73, d + 4, 37, [some (.ref l0), some (.int l1), some (.int l2), some (.int l3), some (.int l4), some (.int l5)], [.ref s0], w) = some (some (.ref s0), w) := by
  exact val_r rfl
/-- BelfryHouse$Reader.<init>([BII)V -/
theorem tr_74 (d : Nat) (w : Wd) (o : Nat) (p0 : Nat) (x1 : Int32) (x2 : Int32)    (hy1 : 64 ≤ o) : val (74, d + 2, 0, [some (.ref o), some (.ref p0), some (.int x1), some (.int x2)], [], w) = val (74, d + 2, 5, [some (.ref o), some (.ref p0), some (.int x1), some (.int x2)], [.ref o], w) := by
  refine (val_g (c2 := (74, d + 2, 1, [some (.ref o), some (.ref p0), some (.int x1), some (.int x2)], [.ref o], w)) rfl).trans ?_
  refine (val_obj rfl hy1 (Nat.le_of_ble_eq_true rfl)).trans ?_
  show val (74, d + 2, 4, [some (.ref o), some (.ref p0), some (.int x1), some (.int x2)], [], w) = _
  refine (val_g (c2 := (74, d + 2, 5, [some (.ref o), some (.ref p0), some (.int x1), some (.int x2)], [.ref o], w)) rfl).trans ?_
  rfl
theorem tr_74_8 (d : Nat) (w : Wd) (l0 : Nat) (l1 : Nat) (l2 : Int32) (l3 : Int32) (s0 : Nat) (s1 : Nat)     : val (74, d + 2, 8, [some (.ref l0), some (.ref l1), some (.int l2), some (.int l3)], [.ref s0, .ref s1], w) = val (74, d + 2, 9, [some (.ref l0), some (.ref l1), some (.int l2), some (.int l3)], [.ref s0, .ref s0, .ref s1], w) := by
  refine (val_g (c2 := (74, d + 2, 9, [some (.ref l0), some (.ref l1), some (.int l2), some (.int l3)], [.ref s0, .ref s0, .ref s1], w)) rfl).trans ?_
  rfl
theorem tr_74_15 (d : Nat) (w : Wd) (l0 : Nat) (l1 : Nat) (l2 : Int32) (l3 : Int32)    (m_l0 : Nat) (hk_l0 : wK w l0 = (4, m_l0)) : val (74, d + 2, 15, [some (.ref l0), some (.ref l1), some (.int l2), some (.int l3)], [], w) = val (74, d + 2, 42, [some (.ref l0), some (.ref l1), some (.int l2), some (.int l3)], [.ref l1, .ref l0], (sI ((sI ((sI ((sI ((sI w l0 1 ((-1)))) l0 5 0)) l0 6 0)) l0 7 0)) l0 8 0)) := by
  refine (val_g (c2 := (74, d + 2, 16, [some (.ref l0), some (.ref l1), some (.int l2), some (.int l3)], [.ref l0], w)) rfl).trans ?_
  refine (val_g (c2 := (74, d + 2, 17, [some (.ref l0), some (.ref l1), some (.int l2), some (.int l3)], [.int (-1), .ref l0], w)) rfl).trans ?_
  refine (val_pf rfl hk_l0 rfl).trans ?_
  show val (74, d + 2, 20, [some (.ref l0), some (.ref l1), some (.int l2), some (.int l3)], [], (sI w l0 1 ((-1)))) = _
  refine (val_g (c2 := (74, d + 2, 21, [some (.ref l0), some (.ref l1), some (.int l2), some (.int l3)], [.ref l0], (sI w l0 1 ((-1))))) rfl).trans ?_
  refine (val_g (c2 := (74, d + 2, 22, [some (.ref l0), some (.ref l1), some (.int l2), some (.int l3)], [.int 0, .ref l0], (sI w l0 1 ((-1))))) rfl).trans ?_
  refine (val_pf (w := (sI w l0 1 ((-1)))) rfl hk_l0 rfl).trans ?_
  show val (74, d + 2, 25, [some (.ref l0), some (.ref l1), some (.int l2), some (.int l3)], [], (sI ((sI w l0 1 ((-1)))) l0 5 0)) = _
  refine (val_g (c2 := (74, d + 2, 26, [some (.ref l0), some (.ref l1), some (.int l2), some (.int l3)], [.ref l0], (sI ((sI w l0 1 ((-1)))) l0 5 0))) rfl).trans ?_
  refine (val_g (c2 := (74, d + 2, 27, [some (.ref l0), some (.ref l1), some (.int l2), some (.int l3)], [.int 0, .ref l0], (sI ((sI w l0 1 ((-1)))) l0 5 0))) rfl).trans ?_
  refine (val_pf (w := (sI ((sI w l0 1 ((-1)))) l0 5 0)) rfl hk_l0 rfl).trans ?_
  show val (74, d + 2, 30, [some (.ref l0), some (.ref l1), some (.int l2), some (.int l3)], [], (sI ((sI ((sI w l0 1 ((-1)))) l0 5 0)) l0 6 0)) = _
  refine (val_g (c2 := (74, d + 2, 31, [some (.ref l0), some (.ref l1), some (.int l2), some (.int l3)], [.ref l0], (sI ((sI ((sI w l0 1 ((-1)))) l0 5 0)) l0 6 0))) rfl).trans ?_
  refine (val_g (c2 := (74, d + 2, 32, [some (.ref l0), some (.ref l1), some (.int l2), some (.int l3)], [.int 0, .ref l0], (sI ((sI ((sI w l0 1 ((-1)))) l0 5 0)) l0 6 0))) rfl).trans ?_
  refine (val_pf (w := (sI ((sI ((sI w l0 1 ((-1)))) l0 5 0)) l0 6 0)) rfl hk_l0 rfl).trans ?_
  show val (74, d + 2, 35, [some (.ref l0), some (.ref l1), some (.int l2), some (.int l3)], [], (sI ((sI ((sI ((sI w l0 1 ((-1)))) l0 5 0)) l0 6 0)) l0 7 0)) = _
  refine (val_g (c2 := (74, d + 2, 36, [some (.ref l0), some (.ref l1), some (.int l2), some (.int l3)], [.ref l0], (sI ((sI ((sI ((sI w l0 1 ((-1)))) l0 5 0)) l0 6 0)) l0 7 0))) rfl).trans ?_
  refine (val_g (c2 := (74, d + 2, 37, [some (.ref l0), some (.ref l1), some (.int l2), some (.int l3)], [.int 0, .ref l0], (sI ((sI ((sI ((sI w l0 1 ((-1)))) l0 5 0)) l0 6 0)) l0 7 0))) rfl).trans ?_
  refine (val_pf (w := (sI ((sI ((sI ((sI w l0 1 ((-1)))) l0 5 0)) l0 6 0)) l0 7 0)) rfl hk_l0 rfl).trans ?_
  show val (74, d + 2, 40, [some (.ref l0), some (.ref l1), some (.int l2), some (.int l3)], [], (sI ((sI ((sI ((sI ((sI w l0 1 ((-1)))) l0 5 0)) l0 6 0)) l0 7 0)) l0 8 0)) = _
  refine (val_g (c2 := (74, d + 2, 41, [some (.ref l0), some (.ref l1), some (.int l2), some (.int l3)], [.ref l0], (sI ((sI ((sI ((sI ((sI w l0 1 ((-1)))) l0 5 0)) l0 6 0)) l0 7 0)) l0 8 0))) rfl).trans ?_
  refine (val_g (c2 := (74, d + 2, 42, [some (.ref l0), some (.ref l1), some (.int l2), some (.int l3)], [.ref l1, .ref l0], (sI ((sI ((sI ((sI ((sI w l0 1 ((-1)))) l0 5 0)) l0 6 0)) l0 7 0)) l0 8 0))) rfl).trans ?_
  rfl
theorem tr_74_45 (d : Nat) (w : Wd) (l0 : Nat) (l1 : Nat) (l2 : Int32) (l3 : Int32)    (m_l0 : Nat) (hk_l0 : wK w l0 = (4, m_l0)) : val (74, d + 2, 45, [some (.ref l0), some (.ref l1), some (.int l2), some (.int l3)], [], w) = some (none, (sI ((sI w l0 3 l2)) l0 4 l3)) := by
  refine (val_g (c2 := (74, d + 2, 46, [some (.ref l0), some (.ref l1), some (.int l2), some (.int l3)], [.ref l0], w)) rfl).trans ?_
  refine (val_g (c2 := (74, d + 2, 47, [some (.ref l0), some (.ref l1), some (.int l2), some (.int l3)], [.int l2, .ref l0], w)) rfl).trans ?_
  refine (val_pf rfl hk_l0 rfl).trans ?_
  show val (74, d + 2, 50, [some (.ref l0), some (.ref l1), some (.int l2), some (.int l3)], [], (sI w l0 3 l2)) = _
  refine (val_g (c2 := (74, d + 2, 51, [some (.ref l0), some (.ref l1), some (.int l2), some (.int l3)], [.ref l0], (sI w l0 3 l2))) rfl).trans ?_
  refine (val_g (c2 := (74, d + 2, 52, [some (.ref l0), some (.ref l1), some (.int l2), some (.int l3)], [.int l3, .ref l0], (sI w l0 3 l2))) rfl).trans ?_
  refine (val_pf (w := (sI w l0 3 l2)) rfl hk_l0 rfl).trans ?_
  show val (74, d + 2, 55, [some (.ref l0), some (.ref l1), some (.int l2), some (.int l3)], [], (sI ((sI w l0 3 l2)) l0 4 l3)) = _
  exact val_r rfl
/-- BelfryHouse$Reader.refuse()V -/
theorem tr_75 (d : Nat) (w : Wd) (o : Nat)    (m_o : Nat) (hk_o : wK w o = (4, m_o)) : val (75, d, 0, [some (.ref o)], [], w) = (if 0 ≤ (gI w o 1) then some (none, w) else some (none, (sI w o 1 ((gI w o 6))))) := by
  refine (val_g (c2 := (75, d, 1, [some (.ref o)], [.ref o], w)) rfl).trans ?_
  refine (val_gf rfl hk_o rfl).trans ?_
  show val (75, d, 4, [some (.ref o)], [.int (gI w o 1)], w) = _
  by_cases hc400 : 0 ≤ (gI w o 1)
  · refine ((val_if_ge rfl).trans (if_pos hc400)).trans ?_
    show val (75, d, 15, [some (.ref o)], [], w) = _
    refine Eq.trans ?_ (if_pos hc400).symm
    exact val_r rfl
  · refine ((val_if_ge rfl).trans (if_neg hc400)).trans ?_
    show val (75, d, 7, [some (.ref o)], [], w) = _
    refine Eq.trans ?_ (if_neg hc400).symm
    refine (val_g (c2 := (75, d, 8, [some (.ref o)], [.ref o], w)) rfl).trans ?_
    refine (val_g (c2 := (75, d, 9, [some (.ref o)], [.ref o, .ref o], w)) rfl).trans ?_
    refine (val_gf rfl hk_o rfl).trans ?_
    show val (75, d, 12, [some (.ref o)], [.int (gI w o 6), .ref o], w) = _
    refine (val_pf rfl hk_o rfl).trans ?_
    show val (75, d, 15, [some (.ref o)], [], (sI w o 1 ((gI w o 6)))) = _
    exact val_r rfl
/-- BelfryHouse$Reader.nextToken()V -/
theorem tr_80 (d : Nat) (w : Wd) (o : Nat)    (m_o : Nat) (hk_o : wK w o = (4, m_o)) (q2_o : Nat) (hr2_o : gR w o 2 = some q2_o) (m_q2_o : Nat) (hk_q2_o : wK w q2_o = (21, m_q2_o)) (hy7 : ((gI w o 3) ≤ (gI w o 7)) → ((gI ((sI w o 6 ((gI w o 7)))) o 6) < (gI ((sI w o 6 ((gI w o 7)))) o 3)) → inB ((gI ((sI w o 6 ((gI w o 7)))) o 6)) m_q2_o = true) (hy8 : ((gI w o 3) ≤ (gI w o 7)) → ((gI ((sI w o 6 ((gI w o 7)))) o 6) < (gI ((sI w o 6 ((gI w o 7)))) o 3)) → ((fn_77 ((gI ((sI w o 6 ((gI w o 7)))) q2_o ((gI ((sI w o 6 ((gI w o 7)))) o 6)).toNatClampNeg))) = 0) → inB ((gI ((sI w o 6 ((gI w o 7)))) o 6)) m_q2_o = true) (hy9 : ((gI w o 3) ≤ (gI w o 7)) → ((gI ((sI w o 6 ((gI w o 7)))) o 6) < (gI ((sI w o 6 ((gI w o 7)))) o 3)) → ((fn_77 ((gI ((sI w o 6 ((gI w o 7)))) q2_o ((gI ((sI w o 6 ((gI w o 7)))) o 6)).toNatClampNeg))) = 0) → ((fn_78 ((gI ((sI w o 6 ((gI w o 7)))) q2_o ((gI ((sI w o 6 ((gI w o 7)))) o 6)).toNatClampNeg))) = 0) → inB ((gI ((sI w o 6 ((gI w o 7)))) o 6)) m_q2_o = true) (hy10 : (¬ ((gI w o 3) ≤ (gI w o 7))) → inB ((gI w o 7)) m_q2_o = true) (hy11 : (¬ ((gI w o 3) ≤ (gI w o 7))) → ((fn_76 ((gI w q2_o ((gI w o 7)).toNatClampNeg))) = 0) → ((gI ((sI w o 6 ((gI w o 7)))) o 6) < (gI ((sI w o 6 ((gI w o 7)))) o 3)) → inB ((gI ((sI w o 6 ((gI w o 7)))) o 6)) m_q2_o = true) (hy12 : (¬ ((gI w o 3) ≤ (gI w o 7))) → ((fn_76 ((gI w q2_o ((gI w o 7)).toNatClampNeg))) = 0) → ((gI ((sI w o 6 ((gI w o 7)))) o 6) < (gI ((sI w o 6 ((gI w o 7)))) o 3)) → ((fn_77 ((gI ((sI w o 6 ((gI w o 7)))) q2_o ((gI ((sI w o 6 ((gI w o 7)))) o 6)).toNatClampNeg))) = 0) → inB ((gI ((sI w o 6 ((gI w o 7)))) o 6)) m_q2_o = true) (hy13 : (¬ ((gI w o 3) ≤ (gI w o 7))) → ((fn_76 ((gI w q2_o ((gI w o 7)).toNatClampNeg))) = 0) → ((gI ((sI w o 6 ((gI w o 7)))) o 6) < (gI ((sI w o 6 ((gI w o 7)))) o 3)) → ((fn_77 ((gI ((sI w o 6 ((gI w o 7)))) q2_o ((gI ((sI w o 6 ((gI w o 7)))) o 6)).toNatClampNeg))) = 0) → ((fn_78 ((gI ((sI w o 6 ((gI w o 7)))) q2_o ((gI ((sI w o 6 ((gI w o 7)))) o 6)).toNatClampNeg))) = 0) → inB ((gI ((sI w o 6 ((gI w o 7)))) o 6)) m_q2_o = true) : val (80, d + 2, 0, [some (.ref o)], [], w) = (if (gI w o 3) ≤ (gI w o 7) then (if (gI ((sI w o 6 ((gI w o 7)))) o 6) < (gI ((sI w o 6 ((gI w o 7)))) o 3) then (if (fn_77 ((gI ((sI w o 6 ((gI w o 7)))) q2_o ((gI ((sI w o 6 ((gI w o 7)))) o 6)).toNatClampNeg))) = 0 then (if (fn_78 ((gI ((sI w o 6 ((gI w o 7)))) q2_o ((gI ((sI w o 6 ((gI w o 7)))) o 6)).toNatClampNeg))) = 0 then (if (fn_79 ((gI ((sI ((sI w o 6 ((gI w o 7)))) o 8 ((gI ((sI w o 6 ((gI w o 7)))) q2_o ((gI ((sI w o 6 ((gI w o 7)))) o 6)).toNatClampNeg)))) o 8))) = 0 then some (none, (sI ((sI ((sI ((sI w o 6 ((gI w o 7)))) o 8 ((gI ((sI w o 6 ((gI w o 7)))) q2_o ((gI ((sI w o 6 ((gI w o 7)))) o 6)).toNatClampNeg)))) o 5 4)) o 7 (((gI ((sI ((sI ((sI w o 6 ((gI w o 7)))) o 8 ((gI ((sI w o 6 ((gI w o 7)))) q2_o ((gI ((sI w o 6 ((gI w o 7)))) o 6)).toNatClampNeg)))) o 5 4)) o 7) + 1)))) else some (none, (sI ((sI ((sI ((sI w o 6 ((gI w o 7)))) o 8 ((gI ((sI w o 6 ((gI w o 7)))) q2_o ((gI ((sI w o 6 ((gI w o 7)))) o 6)).toNatClampNeg)))) o 5 3)) o 7 (((gI ((sI ((sI ((sI w o 6 ((gI w o 7)))) o 8 ((gI ((sI w o 6 ((gI w o 7)))) q2_o ((gI ((sI w o 6 ((gI w o 7)))) o 6)).toNatClampNeg)))) o 5 3)) o 7) + 1))))) else val (80, d + 2, 141, [some (.ref o)], [.ref o], (sI w o 6 ((gI w o 7))))) else val (80, d + 2, 86, [some (.ref o)], [], (sI ((sI w o 6 ((gI w o 7)))) o 5 1))) else some (none, (sI ((sI w o 6 ((gI w o 7)))) o 5 0))) else (if (fn_76 ((gI w q2_o ((gI w o 7)).toNatClampNeg))) = 0 then (if (gI ((sI w o 6 ((gI w o 7)))) o 6) < (gI ((sI w o 6 ((gI w o 7)))) o 3) then (if (fn_77 ((gI ((sI w o 6 ((gI w o 7)))) q2_o ((gI ((sI w o 6 ((gI w o 7)))) o 6)).toNatClampNeg))) = 0 then (if (fn_78 ((gI ((sI w o 6 ((gI w o 7)))) q2_o ((gI ((sI w o 6 ((gI w o 7)))) o 6)).toNatClampNeg))) = 0 then (if (fn_79 ((gI ((sI ((sI w o 6 ((gI w o 7)))) o 8 ((gI ((sI w o 6 ((gI w o 7)))) q2_o ((gI ((sI w o 6 ((gI w o 7)))) o 6)).toNatClampNeg)))) o 8))) = 0 then some (none, (sI ((sI ((sI ((sI w o 6 ((gI w o 7)))) o 8 ((gI ((sI w o 6 ((gI w o 7)))) q2_o ((gI ((sI w o 6 ((gI w o 7)))) o 6)).toNatClampNeg)))) o 5 4)) o 7 (((gI ((sI ((sI ((sI w o 6 ((gI w o 7)))) o 8 ((gI ((sI w o 6 ((gI w o 7)))) q2_o ((gI ((sI w o 6 ((gI w o 7)))) o 6)).toNatClampNeg)))) o 5 4)) o 7) + 1)))) else some (none, (sI ((sI ((sI ((sI w o 6 ((gI w o 7)))) o 8 ((gI ((sI w o 6 ((gI w o 7)))) q2_o ((gI ((sI w o 6 ((gI w o 7)))) o 6)).toNatClampNeg)))) o 5 3)) o 7 (((gI ((sI ((sI ((sI w o 6 ((gI w o 7)))) o 8 ((gI ((sI w o 6 ((gI w o 7)))) q2_o ((gI ((sI w o 6 ((gI w o 7)))) o 6)).toNatClampNeg)))) o 5 3)) o 7) + 1))))) else val (80, d + 2, 141, [some (.ref o)], [.ref o], (sI w o 6 ((gI w o 7))))) else val (80, d + 2, 86, [some (.ref o)], [], (sI ((sI w o 6 ((gI w o 7)))) o 5 1))) else some (none, (sI ((sI w o 6 ((gI w o 7)))) o 5 0))) else val (80, d + 2, 0, [some (.ref o)], [], (sI w o 7 (((gI w o 7) + 1)))))) := by
  refine (val_g (c2 := (80, d + 2, 1, [some (.ref o)], [.ref o], w)) rfl).trans ?_
  refine (val_gf rfl hk_o rfl).trans ?_
  show val (80, d + 2, 4, [some (.ref o)], [.int (gI w o 7)], w) = _
  refine (val_g (c2 := (80, d + 2, 5, [some (.ref o)], [.ref o, .int (gI w o 7)], w)) rfl).trans ?_
  refine (val_gf rfl hk_o rfl).trans ?_
  show val (80, d + 2, 8, [some (.ref o)], [.int (gI w o 3), .int (gI w o 7)], w) = _
  by_cases hc413 : (gI w o 3) ≤ (gI w o 7)
  · refine ((val_ic_ge rfl).trans (if_pos hc413)).trans ?_
    show val (80, d + 2, 39, [some (.ref o)], [], w) = _
    refine Eq.trans ?_ (if_pos hc413).symm
    refine (val_g (c2 := (80, d + 2, 40, [some (.ref o)], [.ref o], w)) rfl).trans ?_
    refine (val_g (c2 := (80, d + 2, 41, [some (.ref o)], [.ref o, .ref o], w)) rfl).trans ?_
    refine (val_gf rfl hk_o rfl).trans ?_
    show val (80, d + 2, 44, [some (.ref o)], [.int (gI w o 7), .ref o], w) = _
    refine (val_pf rfl hk_o rfl).trans ?_
    show val (80, d + 2, 47, [some (.ref o)], [], (sI w o 6 ((gI w o 7)))) = _
    refine (val_g (c2 := (80, d + 2, 48, [some (.ref o)], [.ref o], (sI w o 6 ((gI w o 7))))) rfl).trans ?_
    refine (val_gf (w := (sI w o 6 ((gI w o 7)))) rfl hk_o rfl).trans ?_
    show val (80, d + 2, 51, [some (.ref o)], [.int (gI ((sI w o 6 ((gI w o 7)))) o 6)], (sI w o 6 ((gI w o 7)))) = _
    refine (val_g (c2 := (80, d + 2, 52, [some (.ref o)], [.ref o, .int (gI ((sI w o 6 ((gI w o 7)))) o 6)], (sI w o 6 ((gI w o 7))))) rfl).trans ?_
    refine (val_gf (w := (sI w o 6 ((gI w o 7)))) rfl hk_o rfl).trans ?_
    show val (80, d + 2, 55, [some (.ref o)], [.int (gI ((sI w o 6 ((gI w o 7)))) o 3), .int (gI ((sI w o 6 ((gI w o 7)))) o 6)], (sI w o 6 ((gI w o 7)))) = _
    by_cases hc414 : (gI ((sI w o 6 ((gI w o 7)))) o 6) < (gI ((sI w o 6 ((gI w o 7)))) o 3)
    · refine ((val_ic_lt rfl).trans (if_pos hc414)).trans ?_
      show val (80, d + 2, 66, [some (.ref o)], [], (sI w o 6 ((gI w o 7)))) = _
      refine Eq.trans ?_ (if_pos hc414).symm
      refine (val_g (c2 := (80, d + 2, 67, [some (.ref o)], [.ref o], (sI w o 6 ((gI w o 7))))) rfl).trans ?_
      refine (val_gf (w := (sI w o 6 ((gI w o 7)))) rfl hk_o (fvR hr2_o)).trans ?_
      show val (80, d + 2, 70, [some (.ref o)], [.ref q2_o], (sI w o 6 ((gI w o 7)))) = _
      refine (val_g (c2 := (80, d + 2, 71, [some (.ref o)], [.ref o, .ref q2_o], (sI w o 6 ((gI w o 7))))) rfl).trans ?_
      refine (val_gf (w := (sI w o 6 ((gI w o 7)))) rfl hk_o rfl).trans ?_
      show val (80, d + 2, 74, [some (.ref o)], [.int (gI ((sI w o 6 ((gI w o 7)))) o 6), .ref q2_o], (sI w o 6 ((gI w o 7)))) = _
      refine (val_bal (w := (sI w o 6 ((gI w o 7)))) rfl hk_q2_o rfl (hy7 hc413 hc414)).trans ?_
      show val (80, d + 2, 75, [some (.ref o)], [.int (gI ((sI w o 6 ((gI w o 7)))) q2_o ((gI ((sI w o 6 ((gI w o 7)))) o 6)).toNatClampNeg)], (sI w o 6 ((gI w o 7)))) = _
      refine (val_call (w1 := (sI w o 6 ((gI w o 7)))) (pc2 := 78) rfl rfl rfl rfl rfl (Nat.le_of_ble_eq_true rfl) (Nat.le_of_ble_eq_true rfl) rfl (ev_77 (d + 1) (sI w o 6 ((gI w o 7))) ((gI ((sI w o 6 ((gI w o 7)))) q2_o ((gI ((sI w o 6 ((gI w o 7)))) o 6)).toNatClampNeg))) rfl).trans ?_
      show val (80, d + 2, 78, [some (.ref o)], [.int (fn_77 ((gI ((sI w o 6 ((gI w o 7)))) q2_o ((gI ((sI w o 6 ((gI w o 7)))) o 6)).toNatClampNeg)))], (sI w o 6 ((gI w o 7)))) = _
      by_cases hc415 : (fn_77 ((gI ((sI w o 6 ((gI w o 7)))) q2_o ((gI ((sI w o 6 ((gI w o 7)))) o 6)).toNatClampNeg))) = 0
      · refine ((val_if_eq rfl).trans (if_pos hc415)).trans ?_
        show val (80, d + 2, 125, [some (.ref o)], [], (sI w o 6 ((gI w o 7)))) = _
        refine Eq.trans ?_ (if_pos hc415).symm
        refine (val_g (c2 := (80, d + 2, 126, [some (.ref o)], [.ref o], (sI w o 6 ((gI w o 7))))) rfl).trans ?_
        refine (val_gf (w := (sI w o 6 ((gI w o 7)))) rfl hk_o (fvR hr2_o)).trans ?_
        show val (80, d + 2, 129, [some (.ref o)], [.ref q2_o], (sI w o 6 ((gI w o 7)))) = _
        refine (val_g (c2 := (80, d + 2, 130, [some (.ref o)], [.ref o, .ref q2_o], (sI w o 6 ((gI w o 7))))) rfl).trans ?_
        refine (val_gf (w := (sI w o 6 ((gI w o 7)))) rfl hk_o rfl).trans ?_
        show val (80, d + 2, 133, [some (.ref o)], [.int (gI ((sI w o 6 ((gI w o 7)))) o 6), .ref q2_o], (sI w o 6 ((gI w o 7)))) = _
        refine (val_bal (w := (sI w o 6 ((gI w o 7)))) rfl hk_q2_o rfl (hy8 hc413 hc414 hc415)).trans ?_
        show val (80, d + 2, 134, [some (.ref o)], [.int (gI ((sI w o 6 ((gI w o 7)))) q2_o ((gI ((sI w o 6 ((gI w o 7)))) o 6)).toNatClampNeg)], (sI w o 6 ((gI w o 7)))) = _
        refine (val_call (w1 := (sI w o 6 ((gI w o 7)))) (pc2 := 137) rfl rfl rfl rfl rfl (Nat.le_of_ble_eq_true rfl) (Nat.le_of_ble_eq_true rfl) rfl (ev_78 (d + 1) (sI w o 6 ((gI w o 7))) ((gI ((sI w o 6 ((gI w o 7)))) q2_o ((gI ((sI w o 6 ((gI w o 7)))) o 6)).toNatClampNeg))) rfl).trans ?_
        show val (80, d + 2, 137, [some (.ref o)], [.int (fn_78 ((gI ((sI w o 6 ((gI w o 7)))) q2_o ((gI ((sI w o 6 ((gI w o 7)))) o 6)).toNatClampNeg)))], (sI w o 6 ((gI w o 7)))) = _
        by_cases hc416 : (fn_78 ((gI ((sI w o 6 ((gI w o 7)))) q2_o ((gI ((sI w o 6 ((gI w o 7)))) o 6)).toNatClampNeg))) = 0
        · refine ((val_if_eq rfl).trans (if_pos hc416)).trans ?_
          show val (80, d + 2, 147, [some (.ref o)], [], (sI w o 6 ((gI w o 7)))) = _
          refine Eq.trans ?_ (if_pos hc416).symm
          refine (val_g (c2 := (80, d + 2, 148, [some (.ref o)], [.ref o], (sI w o 6 ((gI w o 7))))) rfl).trans ?_
          refine (val_g (c2 := (80, d + 2, 149, [some (.ref o)], [.ref o, .ref o], (sI w o 6 ((gI w o 7))))) rfl).trans ?_
          refine (val_gf (w := (sI w o 6 ((gI w o 7)))) rfl hk_o (fvR hr2_o)).trans ?_
          show val (80, d + 2, 152, [some (.ref o)], [.ref q2_o, .ref o], (sI w o 6 ((gI w o 7)))) = _
          refine (val_g (c2 := (80, d + 2, 153, [some (.ref o)], [.ref o, .ref q2_o, .ref o], (sI w o 6 ((gI w o 7))))) rfl).trans ?_
          refine (val_gf (w := (sI w o 6 ((gI w o 7)))) rfl hk_o rfl).trans ?_
          show val (80, d + 2, 156, [some (.ref o)], [.int (gI ((sI w o 6 ((gI w o 7)))) o 6), .ref q2_o, .ref o], (sI w o 6 ((gI w o 7)))) = _
          refine (val_bal (w := (sI w o 6 ((gI w o 7)))) rfl hk_q2_o rfl (hy9 hc413 hc414 hc415 hc416)).trans ?_
          show val (80, d + 2, 157, [some (.ref o)], [.int (gI ((sI w o 6 ((gI w o 7)))) q2_o ((gI ((sI w o 6 ((gI w o 7)))) o 6)).toNatClampNeg), .ref o], (sI w o 6 ((gI w o 7)))) = _
          refine (val_pf (w := (sI w o 6 ((gI w o 7)))) rfl hk_o rfl).trans ?_
          show val (80, d + 2, 160, [some (.ref o)], [], (sI ((sI w o 6 ((gI w o 7)))) o 8 ((gI ((sI w o 6 ((gI w o 7)))) q2_o ((gI ((sI w o 6 ((gI w o 7)))) o 6)).toNatClampNeg)))) = _
          refine (val_g (c2 := (80, d + 2, 161, [some (.ref o)], [.ref o], (sI ((sI w o 6 ((gI w o 7)))) o 8 ((gI ((sI w o 6 ((gI w o 7)))) q2_o ((gI ((sI w o 6 ((gI w o 7)))) o 6)).toNatClampNeg))))) rfl).trans ?_
          refine (val_g (c2 := (80, d + 2, 162, [some (.ref o)], [.ref o, .ref o], (sI ((sI w o 6 ((gI w o 7)))) o 8 ((gI ((sI w o 6 ((gI w o 7)))) q2_o ((gI ((sI w o 6 ((gI w o 7)))) o 6)).toNatClampNeg))))) rfl).trans ?_
          refine (val_gf (w := (sI ((sI w o 6 ((gI w o 7)))) o 8 ((gI ((sI w o 6 ((gI w o 7)))) q2_o ((gI ((sI w o 6 ((gI w o 7)))) o 6)).toNatClampNeg)))) rfl hk_o rfl).trans ?_
          show val (80, d + 2, 165, [some (.ref o)], [.int (gI ((sI ((sI w o 6 ((gI w o 7)))) o 8 ((gI ((sI w o 6 ((gI w o 7)))) q2_o ((gI ((sI w o 6 ((gI w o 7)))) o 6)).toNatClampNeg)))) o 8), .ref o], (sI ((sI w o 6 ((gI w o 7)))) o 8 ((gI ((sI w o 6 ((gI w o 7)))) q2_o ((gI ((sI w o 6 ((gI w o 7)))) o 6)).toNatClampNeg)))) = _
          refine (val_call (w1 := (sI ((sI w o 6 ((gI w o 7)))) o 8 ((gI ((sI w o 6 ((gI w o 7)))) q2_o ((gI ((sI w o 6 ((gI w o 7)))) o 6)).toNatClampNeg)))) (pc2 := 168) rfl rfl rfl rfl rfl (Nat.le_of_ble_eq_true rfl) (Nat.le_of_ble_eq_true rfl) rfl (ev_79 (d + 1) (sI ((sI w o 6 ((gI w o 7)))) o 8 ((gI ((sI w o 6 ((gI w o 7)))) q2_o ((gI ((sI w o 6 ((gI w o 7)))) o 6)).toNatClampNeg))) ((gI ((sI ((sI w o 6 ((gI w o 7)))) o 8 ((gI ((sI w o 6 ((gI w o 7)))) q2_o ((gI ((sI w o 6 ((gI w o 7)))) o 6)).toNatClampNeg)))) o 8))) rfl).trans ?_
          show val (80, d + 2, 168, [some (.ref o)], [.int (fn_79 ((gI ((sI ((sI w o 6 ((gI w o 7)))) o 8 ((gI ((sI w o 6 ((gI w o 7)))) q2_o ((gI ((sI w o 6 ((gI w o 7)))) o 6)).toNatClampNeg)))) o 8))), .ref o], (sI ((sI w o 6 ((gI w o 7)))) o 8 ((gI ((sI w o 6 ((gI w o 7)))) q2_o ((gI ((sI w o 6 ((gI w o 7)))) o 6)).toNatClampNeg)))) = _
          by_cases hc417 : (fn_79 ((gI ((sI ((sI w o 6 ((gI w o 7)))) o 8 ((gI ((sI w o 6 ((gI w o 7)))) q2_o ((gI ((sI w o 6 ((gI w o 7)))) o 6)).toNatClampNeg)))) o 8))) = 0
          · refine ((val_if_eq rfl).trans (if_pos hc417)).trans ?_
            show val (80, d + 2, 175, [some (.ref o)], [.ref o], (sI ((sI w o 6 ((gI w o 7)))) o 8 ((gI ((sI w o 6 ((gI w o 7)))) q2_o ((gI ((sI w o 6 ((gI w o 7)))) o 6)).toNatClampNeg)))) = _
            refine Eq.trans ?_ (if_pos hc417).symm
            refine (val_g (c2 := (80, d + 2, 176, [some (.ref o)], [.int 4, .ref o], (sI ((sI w o 6 ((gI w o 7)))) o 8 ((gI ((sI w o 6 ((gI w o 7)))) q2_o ((gI ((sI w o 6 ((gI w o 7)))) o 6)).toNatClampNeg))))) rfl).trans ?_
            refine (val_pf (w := (sI ((sI w o 6 ((gI w o 7)))) o 8 ((gI ((sI w o 6 ((gI w o 7)))) q2_o ((gI ((sI w o 6 ((gI w o 7)))) o 6)).toNatClampNeg)))) rfl hk_o rfl).trans ?_
            show val (80, d + 2, 179, [some (.ref o)], [], (sI ((sI ((sI w o 6 ((gI w o 7)))) o 8 ((gI ((sI w o 6 ((gI w o 7)))) q2_o ((gI ((sI w o 6 ((gI w o 7)))) o 6)).toNatClampNeg)))) o 5 4)) = _
            refine (val_g (c2 := (80, d + 2, 180, [some (.ref o)], [.ref o], (sI ((sI ((sI w o 6 ((gI w o 7)))) o 8 ((gI ((sI w o 6 ((gI w o 7)))) q2_o ((gI ((sI w o 6 ((gI w o 7)))) o 6)).toNatClampNeg)))) o 5 4))) rfl).trans ?_
            refine (val_g (c2 := (80, d + 2, 181, [some (.ref o)], [.ref o, .ref o], (sI ((sI ((sI w o 6 ((gI w o 7)))) o 8 ((gI ((sI w o 6 ((gI w o 7)))) q2_o ((gI ((sI w o 6 ((gI w o 7)))) o 6)).toNatClampNeg)))) o 5 4))) rfl).trans ?_
            refine (val_gf (w := (sI ((sI ((sI w o 6 ((gI w o 7)))) o 8 ((gI ((sI w o 6 ((gI w o 7)))) q2_o ((gI ((sI w o 6 ((gI w o 7)))) o 6)).toNatClampNeg)))) o 5 4)) rfl hk_o rfl).trans ?_
            show val (80, d + 2, 184, [some (.ref o)], [.int (gI ((sI ((sI ((sI w o 6 ((gI w o 7)))) o 8 ((gI ((sI w o 6 ((gI w o 7)))) q2_o ((gI ((sI w o 6 ((gI w o 7)))) o 6)).toNatClampNeg)))) o 5 4)) o 7), .ref o], (sI ((sI ((sI w o 6 ((gI w o 7)))) o 8 ((gI ((sI w o 6 ((gI w o 7)))) q2_o ((gI ((sI w o 6 ((gI w o 7)))) o 6)).toNatClampNeg)))) o 5 4)) = _
            refine (val_g (c2 := (80, d + 2, 185, [some (.ref o)], [.int 1, .int (gI ((sI ((sI ((sI w o 6 ((gI w o 7)))) o 8 ((gI ((sI w o 6 ((gI w o 7)))) q2_o ((gI ((sI w o 6 ((gI w o 7)))) o 6)).toNatClampNeg)))) o 5 4)) o 7), .ref o], (sI ((sI ((sI w o 6 ((gI w o 7)))) o 8 ((gI ((sI w o 6 ((gI w o 7)))) q2_o ((gI ((sI w o 6 ((gI w o 7)))) o 6)).toNatClampNeg)))) o 5 4))) rfl).trans ?_
            refine (val_g (c2 := (80, d + 2, 186, [some (.ref o)], [.int ((gI ((sI ((sI ((sI w o 6 ((gI w o 7)))) o 8 ((gI ((sI w o 6 ((gI w o 7)))) q2_o ((gI ((sI w o 6 ((gI w o 7)))) o 6)).toNatClampNeg)))) o 5 4)) o 7) + 1), .ref o], (sI ((sI ((sI w o 6 ((gI w o 7)))) o 8 ((gI ((sI w o 6 ((gI w o 7)))) q2_o ((gI ((sI w o 6 ((gI w o 7)))) o 6)).toNatClampNeg)))) o 5 4))) rfl).trans ?_
            refine (val_pf (w := (sI ((sI ((sI w o 6 ((gI w o 7)))) o 8 ((gI ((sI w o 6 ((gI w o 7)))) q2_o ((gI ((sI w o 6 ((gI w o 7)))) o 6)).toNatClampNeg)))) o 5 4)) rfl hk_o rfl).trans ?_
            show val (80, d + 2, 189, [some (.ref o)], [], (sI ((sI ((sI ((sI w o 6 ((gI w o 7)))) o 8 ((gI ((sI w o 6 ((gI w o 7)))) q2_o ((gI ((sI w o 6 ((gI w o 7)))) o 6)).toNatClampNeg)))) o 5 4)) o 7 (((gI ((sI ((sI ((sI w o 6 ((gI w o 7)))) o 8 ((gI ((sI w o 6 ((gI w o 7)))) q2_o ((gI ((sI w o 6 ((gI w o 7)))) o 6)).toNatClampNeg)))) o 5 4)) o 7) + 1)))) = _
            exact val_r rfl
          · refine ((val_if_eq rfl).trans (if_neg hc417)).trans ?_
            show val (80, d + 2, 171, [some (.ref o)], [.ref o], (sI ((sI w o 6 ((gI w o 7)))) o 8 ((gI ((sI w o 6 ((gI w o 7)))) q2_o ((gI ((sI w o 6 ((gI w o 7)))) o 6)).toNatClampNeg)))) = _
            refine Eq.trans ?_ (if_neg hc417).symm
            refine (val_g (c2 := (80, d + 2, 172, [some (.ref o)], [.int 3, .ref o], (sI ((sI w o 6 ((gI w o 7)))) o 8 ((gI ((sI w o 6 ((gI w o 7)))) q2_o ((gI ((sI w o 6 ((gI w o 7)))) o 6)).toNatClampNeg))))) rfl).trans ?_
            refine (val_g (c2 := (80, d + 2, 176, [some (.ref o)], [.int 3, .ref o], (sI ((sI w o 6 ((gI w o 7)))) o 8 ((gI ((sI w o 6 ((gI w o 7)))) q2_o ((gI ((sI w o 6 ((gI w o 7)))) o 6)).toNatClampNeg))))) rfl).trans ?_
            refine (val_pf (w := (sI ((sI w o 6 ((gI w o 7)))) o 8 ((gI ((sI w o 6 ((gI w o 7)))) q2_o ((gI ((sI w o 6 ((gI w o 7)))) o 6)).toNatClampNeg)))) rfl hk_o rfl).trans ?_
            show val (80, d + 2, 179, [some (.ref o)], [], (sI ((sI ((sI w o 6 ((gI w o 7)))) o 8 ((gI ((sI w o 6 ((gI w o 7)))) q2_o ((gI ((sI w o 6 ((gI w o 7)))) o 6)).toNatClampNeg)))) o 5 3)) = _
            refine (val_g (c2 := (80, d + 2, 180, [some (.ref o)], [.ref o], (sI ((sI ((sI w o 6 ((gI w o 7)))) o 8 ((gI ((sI w o 6 ((gI w o 7)))) q2_o ((gI ((sI w o 6 ((gI w o 7)))) o 6)).toNatClampNeg)))) o 5 3))) rfl).trans ?_
            refine (val_g (c2 := (80, d + 2, 181, [some (.ref o)], [.ref o, .ref o], (sI ((sI ((sI w o 6 ((gI w o 7)))) o 8 ((gI ((sI w o 6 ((gI w o 7)))) q2_o ((gI ((sI w o 6 ((gI w o 7)))) o 6)).toNatClampNeg)))) o 5 3))) rfl).trans ?_
            refine (val_gf (w := (sI ((sI ((sI w o 6 ((gI w o 7)))) o 8 ((gI ((sI w o 6 ((gI w o 7)))) q2_o ((gI ((sI w o 6 ((gI w o 7)))) o 6)).toNatClampNeg)))) o 5 3)) rfl hk_o rfl).trans ?_
            show val (80, d + 2, 184, [some (.ref o)], [.int (gI ((sI ((sI ((sI w o 6 ((gI w o 7)))) o 8 ((gI ((sI w o 6 ((gI w o 7)))) q2_o ((gI ((sI w o 6 ((gI w o 7)))) o 6)).toNatClampNeg)))) o 5 3)) o 7), .ref o], (sI ((sI ((sI w o 6 ((gI w o 7)))) o 8 ((gI ((sI w o 6 ((gI w o 7)))) q2_o ((gI ((sI w o 6 ((gI w o 7)))) o 6)).toNatClampNeg)))) o 5 3)) = _
            refine (val_g (c2 := (80, d + 2, 185, [some (.ref o)], [.int 1, .int (gI ((sI ((sI ((sI w o 6 ((gI w o 7)))) o 8 ((gI ((sI w o 6 ((gI w o 7)))) q2_o ((gI ((sI w o 6 ((gI w o 7)))) o 6)).toNatClampNeg)))) o 5 3)) o 7), .ref o], (sI ((sI ((sI w o 6 ((gI w o 7)))) o 8 ((gI ((sI w o 6 ((gI w o 7)))) q2_o ((gI ((sI w o 6 ((gI w o 7)))) o 6)).toNatClampNeg)))) o 5 3))) rfl).trans ?_
            refine (val_g (c2 := (80, d + 2, 186, [some (.ref o)], [.int ((gI ((sI ((sI ((sI w o 6 ((gI w o 7)))) o 8 ((gI ((sI w o 6 ((gI w o 7)))) q2_o ((gI ((sI w o 6 ((gI w o 7)))) o 6)).toNatClampNeg)))) o 5 3)) o 7) + 1), .ref o], (sI ((sI ((sI w o 6 ((gI w o 7)))) o 8 ((gI ((sI w o 6 ((gI w o 7)))) q2_o ((gI ((sI w o 6 ((gI w o 7)))) o 6)).toNatClampNeg)))) o 5 3))) rfl).trans ?_
            refine (val_pf (w := (sI ((sI ((sI w o 6 ((gI w o 7)))) o 8 ((gI ((sI w o 6 ((gI w o 7)))) q2_o ((gI ((sI w o 6 ((gI w o 7)))) o 6)).toNatClampNeg)))) o 5 3)) rfl hk_o rfl).trans ?_
            show val (80, d + 2, 189, [some (.ref o)], [], (sI ((sI ((sI ((sI w o 6 ((gI w o 7)))) o 8 ((gI ((sI w o 6 ((gI w o 7)))) q2_o ((gI ((sI w o 6 ((gI w o 7)))) o 6)).toNatClampNeg)))) o 5 3)) o 7 (((gI ((sI ((sI ((sI w o 6 ((gI w o 7)))) o 8 ((gI ((sI w o 6 ((gI w o 7)))) q2_o ((gI ((sI w o 6 ((gI w o 7)))) o 6)).toNatClampNeg)))) o 5 3)) o 7) + 1)))) = _
            exact val_r rfl
        · refine ((val_if_eq rfl).trans (if_neg hc416)).trans ?_
          show val (80, d + 2, 140, [some (.ref o)], [], (sI w o 6 ((gI w o 7)))) = _
          refine Eq.trans ?_ (if_neg hc416).symm
          refine (val_g (c2 := (80, d + 2, 141, [some (.ref o)], [.ref o], (sI w o 6 ((gI w o 7))))) rfl).trans ?_
          rfl
      · refine ((val_if_eq rfl).trans (if_neg hc415)).trans ?_
        show val (80, d + 2, 81, [some (.ref o)], [], (sI w o 6 ((gI w o 7)))) = _
        refine Eq.trans ?_ (if_neg hc415).symm
        refine (val_g (c2 := (80, d + 2, 82, [some (.ref o)], [.ref o], (sI w o 6 ((gI w o 7))))) rfl).trans ?_
        refine (val_g (c2 := (80, d + 2, 83, [some (.ref o)], [.int 1, .ref o], (sI w o 6 ((gI w o 7))))) rfl).trans ?_
        refine (val_pf (w := (sI w o 6 ((gI w o 7)))) rfl hk_o rfl).trans ?_
        show val (80, d + 2, 86, [some (.ref o)], [], (sI ((sI w o 6 ((gI w o 7)))) o 5 1)) = _
        rfl
    · refine ((val_ic_lt rfl).trans (if_neg hc414)).trans ?_
      show val (80, d + 2, 58, [some (.ref o)], [], (sI w o 6 ((gI w o 7)))) = _
      refine Eq.trans ?_ (if_neg hc414).symm
      refine (val_g (c2 := (80, d + 2, 59, [some (.ref o)], [.ref o], (sI w o 6 ((gI w o 7))))) rfl).trans ?_
      refine (val_g (c2 := (80, d + 2, 60, [some (.ref o)], [.int 0, .ref o], (sI w o 6 ((gI w o 7))))) rfl).trans ?_
      refine (val_pf (w := (sI w o 6 ((gI w o 7)))) rfl hk_o rfl).trans ?_
      show val (80, d + 2, 63, [some (.ref o)], [], (sI ((sI w o 6 ((gI w o 7)))) o 5 0)) = _
      refine (val_g (c2 := (80, d + 2, 189, [some (.ref o)], [], (sI ((sI w o 6 ((gI w o 7)))) o 5 0))) rfl).trans ?_
      exact val_r rfl
  · refine ((val_ic_ge rfl).trans (if_neg hc413)).trans ?_
    show val (80, d + 2, 11, [some (.ref o)], [], w) = _
    refine Eq.trans ?_ (if_neg hc413).symm
    refine (val_g (c2 := (80, d + 2, 12, [some (.ref o)], [.ref o], w)) rfl).trans ?_
    refine (val_gf rfl hk_o (fvR hr2_o)).trans ?_
    show val (80, d + 2, 15, [some (.ref o)], [.ref q2_o], w) = _
    refine (val_g (c2 := (80, d + 2, 16, [some (.ref o)], [.ref o, .ref q2_o], w)) rfl).trans ?_
    refine (val_gf rfl hk_o rfl).trans ?_
    show val (80, d + 2, 19, [some (.ref o)], [.int (gI w o 7), .ref q2_o], w) = _
    refine (val_bal rfl hk_q2_o rfl (hy10 hc413)).trans ?_
    show val (80, d + 2, 20, [some (.ref o)], [.int (gI w q2_o ((gI w o 7)).toNatClampNeg)], w) = _
    refine (val_call (w1 := w) (pc2 := 23) rfl rfl rfl rfl rfl (Nat.le_of_ble_eq_true rfl) (Nat.le_of_ble_eq_true rfl) rfl (ev_76 (d + 1) w ((gI w q2_o ((gI w o 7)).toNatClampNeg))) rfl).trans ?_
    show val (80, d + 2, 23, [some (.ref o)], [.int (fn_76 ((gI w q2_o ((gI w o 7)).toNatClampNeg)))], w) = _
    by_cases hc418 : (fn_76 ((gI w q2_o ((gI w o 7)).toNatClampNeg))) = 0
    · refine ((val_if_eq rfl).trans (if_pos hc418)).trans ?_
      show val (80, d + 2, 39, [some (.ref o)], [], w) = _
      refine Eq.trans ?_ (if_pos hc418).symm
      refine (val_g (c2 := (80, d + 2, 40, [some (.ref o)], [.ref o], w)) rfl).trans ?_
      refine (val_g (c2 := (80, d + 2, 41, [some (.ref o)], [.ref o, .ref o], w)) rfl).trans ?_
      refine (val_gf rfl hk_o rfl).trans ?_
      show val (80, d + 2, 44, [some (.ref o)], [.int (gI w o 7), .ref o], w) = _
      refine (val_pf rfl hk_o rfl).trans ?_
      show val (80, d + 2, 47, [some (.ref o)], [], (sI w o 6 ((gI w o 7)))) = _
      refine (val_g (c2 := (80, d + 2, 48, [some (.ref o)], [.ref o], (sI w o 6 ((gI w o 7))))) rfl).trans ?_
      refine (val_gf (w := (sI w o 6 ((gI w o 7)))) rfl hk_o rfl).trans ?_
      show val (80, d + 2, 51, [some (.ref o)], [.int (gI ((sI w o 6 ((gI w o 7)))) o 6)], (sI w o 6 ((gI w o 7)))) = _
      refine (val_g (c2 := (80, d + 2, 52, [some (.ref o)], [.ref o, .int (gI ((sI w o 6 ((gI w o 7)))) o 6)], (sI w o 6 ((gI w o 7))))) rfl).trans ?_
      refine (val_gf (w := (sI w o 6 ((gI w o 7)))) rfl hk_o rfl).trans ?_
      show val (80, d + 2, 55, [some (.ref o)], [.int (gI ((sI w o 6 ((gI w o 7)))) o 3), .int (gI ((sI w o 6 ((gI w o 7)))) o 6)], (sI w o 6 ((gI w o 7)))) = _
      by_cases hc419 : (gI ((sI w o 6 ((gI w o 7)))) o 6) < (gI ((sI w o 6 ((gI w o 7)))) o 3)
      · refine ((val_ic_lt rfl).trans (if_pos hc419)).trans ?_
        show val (80, d + 2, 66, [some (.ref o)], [], (sI w o 6 ((gI w o 7)))) = _
        refine Eq.trans ?_ (if_pos hc419).symm
        refine (val_g (c2 := (80, d + 2, 67, [some (.ref o)], [.ref o], (sI w o 6 ((gI w o 7))))) rfl).trans ?_
        refine (val_gf (w := (sI w o 6 ((gI w o 7)))) rfl hk_o (fvR hr2_o)).trans ?_
        show val (80, d + 2, 70, [some (.ref o)], [.ref q2_o], (sI w o 6 ((gI w o 7)))) = _
        refine (val_g (c2 := (80, d + 2, 71, [some (.ref o)], [.ref o, .ref q2_o], (sI w o 6 ((gI w o 7))))) rfl).trans ?_
        refine (val_gf (w := (sI w o 6 ((gI w o 7)))) rfl hk_o rfl).trans ?_
        show val (80, d + 2, 74, [some (.ref o)], [.int (gI ((sI w o 6 ((gI w o 7)))) o 6), .ref q2_o], (sI w o 6 ((gI w o 7)))) = _
        refine (val_bal (w := (sI w o 6 ((gI w o 7)))) rfl hk_q2_o rfl (hy11 hc413 hc418 hc419)).trans ?_
        show val (80, d + 2, 75, [some (.ref o)], [.int (gI ((sI w o 6 ((gI w o 7)))) q2_o ((gI ((sI w o 6 ((gI w o 7)))) o 6)).toNatClampNeg)], (sI w o 6 ((gI w o 7)))) = _
        refine (val_call (w1 := (sI w o 6 ((gI w o 7)))) (pc2 := 78) rfl rfl rfl rfl rfl (Nat.le_of_ble_eq_true rfl) (Nat.le_of_ble_eq_true rfl) rfl (ev_77 (d + 1) (sI w o 6 ((gI w o 7))) ((gI ((sI w o 6 ((gI w o 7)))) q2_o ((gI ((sI w o 6 ((gI w o 7)))) o 6)).toNatClampNeg))) rfl).trans ?_
        show val (80, d + 2, 78, [some (.ref o)], [.int (fn_77 ((gI ((sI w o 6 ((gI w o 7)))) q2_o ((gI ((sI w o 6 ((gI w o 7)))) o 6)).toNatClampNeg)))], (sI w o 6 ((gI w o 7)))) = _
        by_cases hc420 : (fn_77 ((gI ((sI w o 6 ((gI w o 7)))) q2_o ((gI ((sI w o 6 ((gI w o 7)))) o 6)).toNatClampNeg))) = 0
        · refine ((val_if_eq rfl).trans (if_pos hc420)).trans ?_
          show val (80, d + 2, 125, [some (.ref o)], [], (sI w o 6 ((gI w o 7)))) = _
          refine Eq.trans ?_ (if_pos hc420).symm
          refine (val_g (c2 := (80, d + 2, 126, [some (.ref o)], [.ref o], (sI w o 6 ((gI w o 7))))) rfl).trans ?_
          refine (val_gf (w := (sI w o 6 ((gI w o 7)))) rfl hk_o (fvR hr2_o)).trans ?_
          show val (80, d + 2, 129, [some (.ref o)], [.ref q2_o], (sI w o 6 ((gI w o 7)))) = _
          refine (val_g (c2 := (80, d + 2, 130, [some (.ref o)], [.ref o, .ref q2_o], (sI w o 6 ((gI w o 7))))) rfl).trans ?_
          refine (val_gf (w := (sI w o 6 ((gI w o 7)))) rfl hk_o rfl).trans ?_
          show val (80, d + 2, 133, [some (.ref o)], [.int (gI ((sI w o 6 ((gI w o 7)))) o 6), .ref q2_o], (sI w o 6 ((gI w o 7)))) = _
          refine (val_bal (w := (sI w o 6 ((gI w o 7)))) rfl hk_q2_o rfl (hy12 hc413 hc418 hc419 hc420)).trans ?_
          show val (80, d + 2, 134, [some (.ref o)], [.int (gI ((sI w o 6 ((gI w o 7)))) q2_o ((gI ((sI w o 6 ((gI w o 7)))) o 6)).toNatClampNeg)], (sI w o 6 ((gI w o 7)))) = _
          refine (val_call (w1 := (sI w o 6 ((gI w o 7)))) (pc2 := 137) rfl rfl rfl rfl rfl (Nat.le_of_ble_eq_true rfl) (Nat.le_of_ble_eq_true rfl) rfl (ev_78 (d + 1) (sI w o 6 ((gI w o 7))) ((gI ((sI w o 6 ((gI w o 7)))) q2_o ((gI ((sI w o 6 ((gI w o 7)))) o 6)).toNatClampNeg))) rfl).trans ?_
          show val (80, d + 2, 137, [some (.ref o)], [.int (fn_78 ((gI ((sI w o 6 ((gI w o 7)))) q2_o ((gI ((sI w o 6 ((gI w o 7)))) o 6)).toNatClampNeg)))], (sI w o 6 ((gI w o 7)))) = _
          by_cases hc421 : (fn_78 ((gI ((sI w o 6 ((gI w o 7)))) q2_o ((gI ((sI w o 6 ((gI w o 7)))) o 6)).toNatClampNeg))) = 0
          · refine ((val_if_eq rfl).trans (if_pos hc421)).trans ?_
            show val (80, d + 2, 147, [some (.ref o)], [], (sI w o 6 ((gI w o 7)))) = _
            refine Eq.trans ?_ (if_pos hc421).symm
            refine (val_g (c2 := (80, d + 2, 148, [some (.ref o)], [.ref o], (sI w o 6 ((gI w o 7))))) rfl).trans ?_
            refine (val_g (c2 := (80, d + 2, 149, [some (.ref o)], [.ref o, .ref o], (sI w o 6 ((gI w o 7))))) rfl).trans ?_
            refine (val_gf (w := (sI w o 6 ((gI w o 7)))) rfl hk_o (fvR hr2_o)).trans ?_
            show val (80, d + 2, 152, [some (.ref o)], [.ref q2_o, .ref o], (sI w o 6 ((gI w o 7)))) = _
            refine (val_g (c2 := (80, d + 2, 153, [some (.ref o)], [.ref o, .ref q2_o, .ref o], (sI w o 6 ((gI w o 7))))) rfl).trans ?_
            refine (val_gf (w := (sI w o 6 ((gI w o 7)))) rfl hk_o rfl).trans ?_
            show val (80, d + 2, 156, [some (.ref o)], [.int (gI ((sI w o 6 ((gI w o 7)))) o 6), .ref q2_o, .ref o], (sI w o 6 ((gI w o 7)))) = _
            refine (val_bal (w := (sI w o 6 ((gI w o 7)))) rfl hk_q2_o rfl (hy13 hc413 hc418 hc419 hc420 hc421)).trans ?_
            show val (80, d + 2, 157, [some (.ref o)], [.int (gI ((sI w o 6 ((gI w o 7)))) q2_o ((gI ((sI w o 6 ((gI w o 7)))) o 6)).toNatClampNeg), .ref o], (sI w o 6 ((gI w o 7)))) = _
            refine (val_pf (w := (sI w o 6 ((gI w o 7)))) rfl hk_o rfl).trans ?_
            show val (80, d + 2, 160, [some (.ref o)], [], (sI ((sI w o 6 ((gI w o 7)))) o 8 ((gI ((sI w o 6 ((gI w o 7)))) q2_o ((gI ((sI w o 6 ((gI w o 7)))) o 6)).toNatClampNeg)))) = _
            refine (val_g (c2 := (80, d + 2, 161, [some (.ref o)], [.ref o], (sI ((sI w o 6 ((gI w o 7)))) o 8 ((gI ((sI w o 6 ((gI w o 7)))) q2_o ((gI ((sI w o 6 ((gI w o 7)))) o 6)).toNatClampNeg))))) rfl).trans ?_
            refine (val_g (c2 := (80, d + 2, 162, [some (.ref o)], [.ref o, .ref o], (sI ((sI w o 6 ((gI w o 7)))) o 8 ((gI ((sI w o 6 ((gI w o 7)))) q2_o ((gI ((sI w o 6 ((gI w o 7)))) o 6)).toNatClampNeg))))) rfl).trans ?_
            refine (val_gf (w := (sI ((sI w o 6 ((gI w o 7)))) o 8 ((gI ((sI w o 6 ((gI w o 7)))) q2_o ((gI ((sI w o 6 ((gI w o 7)))) o 6)).toNatClampNeg)))) rfl hk_o rfl).trans ?_
            show val (80, d + 2, 165, [some (.ref o)], [.int (gI ((sI ((sI w o 6 ((gI w o 7)))) o 8 ((gI ((sI w o 6 ((gI w o 7)))) q2_o ((gI ((sI w o 6 ((gI w o 7)))) o 6)).toNatClampNeg)))) o 8), .ref o], (sI ((sI w o 6 ((gI w o 7)))) o 8 ((gI ((sI w o 6 ((gI w o 7)))) q2_o ((gI ((sI w o 6 ((gI w o 7)))) o 6)).toNatClampNeg)))) = _
            refine (val_call (w1 := (sI ((sI w o 6 ((gI w o 7)))) o 8 ((gI ((sI w o 6 ((gI w o 7)))) q2_o ((gI ((sI w o 6 ((gI w o 7)))) o 6)).toNatClampNeg)))) (pc2 := 168) rfl rfl rfl rfl rfl (Nat.le_of_ble_eq_true rfl) (Nat.le_of_ble_eq_true rfl) rfl (ev_79 (d + 1) (sI ((sI w o 6 ((gI w o 7)))) o 8 ((gI ((sI w o 6 ((gI w o 7)))) q2_o ((gI ((sI w o 6 ((gI w o 7)))) o 6)).toNatClampNeg))) ((gI ((sI ((sI w o 6 ((gI w o 7)))) o 8 ((gI ((sI w o 6 ((gI w o 7)))) q2_o ((gI ((sI w o 6 ((gI w o 7)))) o 6)).toNatClampNeg)))) o 8))) rfl).trans ?_
            show val (80, d + 2, 168, [some (.ref o)], [.int (fn_79 ((gI ((sI ((sI w o 6 ((gI w o 7)))) o 8 ((gI ((sI w o 6 ((gI w o 7)))) q2_o ((gI ((sI w o 6 ((gI w o 7)))) o 6)).toNatClampNeg)))) o 8))), .ref o], (sI ((sI w o 6 ((gI w o 7)))) o 8 ((gI ((sI w o 6 ((gI w o 7)))) q2_o ((gI ((sI w o 6 ((gI w o 7)))) o 6)).toNatClampNeg)))) = _
            by_cases hc422 : (fn_79 ((gI ((sI ((sI w o 6 ((gI w o 7)))) o 8 ((gI ((sI w o 6 ((gI w o 7)))) q2_o ((gI ((sI w o 6 ((gI w o 7)))) o 6)).toNatClampNeg)))) o 8))) = 0
            · refine ((val_if_eq rfl).trans (if_pos hc422)).trans ?_
              show val (80, d + 2, 175, [some (.ref o)], [.ref o], (sI ((sI w o 6 ((gI w o 7)))) o 8 ((gI ((sI w o 6 ((gI w o 7)))) q2_o ((gI ((sI w o 6 ((gI w o 7)))) o 6)).toNatClampNeg)))) = _
              refine Eq.trans ?_ (if_pos hc422).symm
              refine (val_g (c2 := (80, d + 2, 176, [some (.ref o)], [.int 4, .ref o], (sI ((sI w o 6 ((gI w o 7)))) o 8 ((gI ((sI w o 6 ((gI w o 7)))) q2_o ((gI ((sI w o 6 ((gI w o 7)))) o 6)).toNatClampNeg))))) rfl).trans ?_
              refine (val_pf (w := (sI ((sI w o 6 ((gI w o 7)))) o 8 ((gI ((sI w o 6 ((gI w o 7)))) q2_o ((gI ((sI w o 6 ((gI w o 7)))) o 6)).toNatClampNeg)))) rfl hk_o rfl).trans ?_
              show val (80, d + 2, 179, [some (.ref o)], [], (sI ((sI ((sI w o 6 ((gI w o 7)))) o 8 ((gI ((sI w o 6 ((gI w o 7)))) q2_o ((gI ((sI w o 6 ((gI w o 7)))) o 6)).toNatClampNeg)))) o 5 4)) = _
              refine (val_g (c2 := (80, d + 2, 180, [some (.ref o)], [.ref o], (sI ((sI ((sI w o 6 ((gI w o 7)))) o 8 ((gI ((sI w o 6 ((gI w o 7)))) q2_o ((gI ((sI w o 6 ((gI w o 7)))) o 6)).toNatClampNeg)))) o 5 4))) rfl).trans ?_
              refine (val_g (c2 := (80, d + 2, 181, [some (.ref o)], [.ref o, .ref o], (sI ((sI ((sI w o 6 ((gI w o 7)))) o 8 ((gI ((sI w o 6 ((gI w o 7)))) q2_o ((gI ((sI w o 6 ((gI w o 7)))) o 6)).toNatClampNeg)))) o 5 4))) rfl).trans ?_
              refine (val_gf (w := (sI ((sI ((sI w o 6 ((gI w o 7)))) o 8 ((gI ((sI w o 6 ((gI w o 7)))) q2_o ((gI ((sI w o 6 ((gI w o 7)))) o 6)).toNatClampNeg)))) o 5 4)) rfl hk_o rfl).trans ?_
              show val (80, d + 2, 184, [some (.ref o)], [.int (gI ((sI ((sI ((sI w o 6 ((gI w o 7)))) o 8 ((gI ((sI w o 6 ((gI w o 7)))) q2_o ((gI ((sI w o 6 ((gI w o 7)))) o 6)).toNatClampNeg)))) o 5 4)) o 7), .ref o], (sI ((sI ((sI w o 6 ((gI w o 7)))) o 8 ((gI ((sI w o 6 ((gI w o 7)))) q2_o ((gI ((sI w o 6 ((gI w o 7)))) o 6)).toNatClampNeg)))) o 5 4)) = _
              refine (val_g (c2 := (80, d + 2, 185, [some (.ref o)], [.int 1, .int (gI ((sI ((sI ((sI w o 6 ((gI w o 7)))) o 8 ((gI ((sI w o 6 ((gI w o 7)))) q2_o ((gI ((sI w o 6 ((gI w o 7)))) o 6)).toNatClampNeg)))) o 5 4)) o 7), .ref o], (sI ((sI ((sI w o 6 ((gI w o 7)))) o 8 ((gI ((sI w o 6 ((gI w o 7)))) q2_o ((gI ((sI w o 6 ((gI w o 7)))) o 6)).toNatClampNeg)))) o 5 4))) rfl).trans ?_
              refine (val_g (c2 := (80, d + 2, 186, [some (.ref o)], [.int ((gI ((sI ((sI ((sI w o 6 ((gI w o 7)))) o 8 ((gI ((sI w o 6 ((gI w o 7)))) q2_o ((gI ((sI w o 6 ((gI w o 7)))) o 6)).toNatClampNeg)))) o 5 4)) o 7) + 1), .ref o], (sI ((sI ((sI w o 6 ((gI w o 7)))) o 8 ((gI ((sI w o 6 ((gI w o 7)))) q2_o ((gI ((sI w o 6 ((gI w o 7)))) o 6)).toNatClampNeg)))) o 5 4))) rfl).trans ?_
              refine (val_pf (w := (sI ((sI ((sI w o 6 ((gI w o 7)))) o 8 ((gI ((sI w o 6 ((gI w o 7)))) q2_o ((gI ((sI w o 6 ((gI w o 7)))) o 6)).toNatClampNeg)))) o 5 4)) rfl hk_o rfl).trans ?_
              show val (80, d + 2, 189, [some (.ref o)], [], (sI ((sI ((sI ((sI w o 6 ((gI w o 7)))) o 8 ((gI ((sI w o 6 ((gI w o 7)))) q2_o ((gI ((sI w o 6 ((gI w o 7)))) o 6)).toNatClampNeg)))) o 5 4)) o 7 (((gI ((sI ((sI ((sI w o 6 ((gI w o 7)))) o 8 ((gI ((sI w o 6 ((gI w o 7)))) q2_o ((gI ((sI w o 6 ((gI w o 7)))) o 6)).toNatClampNeg)))) o 5 4)) o 7) + 1)))) = _
              exact val_r rfl
            · refine ((val_if_eq rfl).trans (if_neg hc422)).trans ?_
              show val (80, d + 2, 171, [some (.ref o)], [.ref o], (sI ((sI w o 6 ((gI w o 7)))) o 8 ((gI ((sI w o 6 ((gI w o 7)))) q2_o ((gI ((sI w o 6 ((gI w o 7)))) o 6)).toNatClampNeg)))) = _
              refine Eq.trans ?_ (if_neg hc422).symm
              refine (val_g (c2 := (80, d + 2, 172, [some (.ref o)], [.int 3, .ref o], (sI ((sI w o 6 ((gI w o 7)))) o 8 ((gI ((sI w o 6 ((gI w o 7)))) q2_o ((gI ((sI w o 6 ((gI w o 7)))) o 6)).toNatClampNeg))))) rfl).trans ?_
              refine (val_g (c2 := (80, d + 2, 176, [some (.ref o)], [.int 3, .ref o], (sI ((sI w o 6 ((gI w o 7)))) o 8 ((gI ((sI w o 6 ((gI w o 7)))) q2_o ((gI ((sI w o 6 ((gI w o 7)))) o 6)).toNatClampNeg))))) rfl).trans ?_
              refine (val_pf (w := (sI ((sI w o 6 ((gI w o 7)))) o 8 ((gI ((sI w o 6 ((gI w o 7)))) q2_o ((gI ((sI w o 6 ((gI w o 7)))) o 6)).toNatClampNeg)))) rfl hk_o rfl).trans ?_
              show val (80, d + 2, 179, [some (.ref o)], [], (sI ((sI ((sI w o 6 ((gI w o 7)))) o 8 ((gI ((sI w o 6 ((gI w o 7)))) q2_o ((gI ((sI w o 6 ((gI w o 7)))) o 6)).toNatClampNeg)))) o 5 3)) = _
              refine (val_g (c2 := (80, d + 2, 180, [some (.ref o)], [.ref o], (sI ((sI ((sI w o 6 ((gI w o 7)))) o 8 ((gI ((sI w o 6 ((gI w o 7)))) q2_o ((gI ((sI w o 6 ((gI w o 7)))) o 6)).toNatClampNeg)))) o 5 3))) rfl).trans ?_
              refine (val_g (c2 := (80, d + 2, 181, [some (.ref o)], [.ref o, .ref o], (sI ((sI ((sI w o 6 ((gI w o 7)))) o 8 ((gI ((sI w o 6 ((gI w o 7)))) q2_o ((gI ((sI w o 6 ((gI w o 7)))) o 6)).toNatClampNeg)))) o 5 3))) rfl).trans ?_
              refine (val_gf (w := (sI ((sI ((sI w o 6 ((gI w o 7)))) o 8 ((gI ((sI w o 6 ((gI w o 7)))) q2_o ((gI ((sI w o 6 ((gI w o 7)))) o 6)).toNatClampNeg)))) o 5 3)) rfl hk_o rfl).trans ?_
              show val (80, d + 2, 184, [some (.ref o)], [.int (gI ((sI ((sI ((sI w o 6 ((gI w o 7)))) o 8 ((gI ((sI w o 6 ((gI w o 7)))) q2_o ((gI ((sI w o 6 ((gI w o 7)))) o 6)).toNatClampNeg)))) o 5 3)) o 7), .ref o], (sI ((sI ((sI w o 6 ((gI w o 7)))) o 8 ((gI ((sI w o 6 ((gI w o 7)))) q2_o ((gI ((sI w o 6 ((gI w o 7)))) o 6)).toNatClampNeg)))) o 5 3)) = _
              refine (val_g (c2 := (80, d + 2, 185, [some (.ref o)], [.int 1, .int (gI ((sI ((sI ((sI w o 6 ((gI w o 7)))) o 8 ((gI ((sI w o 6 ((gI w o 7)))) q2_o ((gI ((sI w o 6 ((gI w o 7)))) o 6)).toNatClampNeg)))) o 5 3)) o 7), .ref o], (sI ((sI ((sI w o 6 ((gI w o 7)))) o 8 ((gI ((sI w o 6 ((gI w o 7)))) q2_o ((gI ((sI w o 6 ((gI w o 7)))) o 6)).toNatClampNeg)))) o 5 3))) rfl).trans ?_
              refine (val_g (c2 := (80, d + 2, 186, [some (.ref o)], [.int ((gI ((sI ((sI ((sI w o 6 ((gI w o 7)))) o 8 ((gI ((sI w o 6 ((gI w o 7)))) q2_o ((gI ((sI w o 6 ((gI w o 7)))) o 6)).toNatClampNeg)))) o 5 3)) o 7) + 1), .ref o], (sI ((sI ((sI w o 6 ((gI w o 7)))) o 8 ((gI ((sI w o 6 ((gI w o 7)))) q2_o ((gI ((sI w o 6 ((gI w o 7)))) o 6)).toNatClampNeg)))) o 5 3))) rfl).trans ?_
              refine (val_pf (w := (sI ((sI ((sI w o 6 ((gI w o 7)))) o 8 ((gI ((sI w o 6 ((gI w o 7)))) q2_o ((gI ((sI w o 6 ((gI w o 7)))) o 6)).toNatClampNeg)))) o 5 3)) rfl hk_o rfl).trans ?_
              show val (80, d + 2, 189, [some (.ref o)], [], (sI ((sI ((sI ((sI w o 6 ((gI w o 7)))) o 8 ((gI ((sI w o 6 ((gI w o 7)))) q2_o ((gI ((sI w o 6 ((gI w o 7)))) o 6)).toNatClampNeg)))) o 5 3)) o 7 (((gI ((sI ((sI ((sI w o 6 ((gI w o 7)))) o 8 ((gI ((sI w o 6 ((gI w o 7)))) q2_o ((gI ((sI w o 6 ((gI w o 7)))) o 6)).toNatClampNeg)))) o 5 3)) o 7) + 1)))) = _
              exact val_r rfl
          · refine ((val_if_eq rfl).trans (if_neg hc421)).trans ?_
            show val (80, d + 2, 140, [some (.ref o)], [], (sI w o 6 ((gI w o 7)))) = _
            refine Eq.trans ?_ (if_neg hc421).symm
            refine (val_g (c2 := (80, d + 2, 141, [some (.ref o)], [.ref o], (sI w o 6 ((gI w o 7))))) rfl).trans ?_
            rfl
        · refine ((val_if_eq rfl).trans (if_neg hc420)).trans ?_
          show val (80, d + 2, 81, [some (.ref o)], [], (sI w o 6 ((gI w o 7)))) = _
          refine Eq.trans ?_ (if_neg hc420).symm
          refine (val_g (c2 := (80, d + 2, 82, [some (.ref o)], [.ref o], (sI w o 6 ((gI w o 7))))) rfl).trans ?_
          refine (val_g (c2 := (80, d + 2, 83, [some (.ref o)], [.int 1, .ref o], (sI w o 6 ((gI w o 7))))) rfl).trans ?_
          refine (val_pf (w := (sI w o 6 ((gI w o 7)))) rfl hk_o rfl).trans ?_
          show val (80, d + 2, 86, [some (.ref o)], [], (sI ((sI w o 6 ((gI w o 7)))) o 5 1)) = _
          rfl
      · refine ((val_ic_lt rfl).trans (if_neg hc419)).trans ?_
        show val (80, d + 2, 58, [some (.ref o)], [], (sI w o 6 ((gI w o 7)))) = _
        refine Eq.trans ?_ (if_neg hc419).symm
        refine (val_g (c2 := (80, d + 2, 59, [some (.ref o)], [.ref o], (sI w o 6 ((gI w o 7))))) rfl).trans ?_
        refine (val_g (c2 := (80, d + 2, 60, [some (.ref o)], [.int 0, .ref o], (sI w o 6 ((gI w o 7))))) rfl).trans ?_
        refine (val_pf (w := (sI w o 6 ((gI w o 7)))) rfl hk_o rfl).trans ?_
        show val (80, d + 2, 63, [some (.ref o)], [], (sI ((sI w o 6 ((gI w o 7)))) o 5 0)) = _
        refine (val_g (c2 := (80, d + 2, 189, [some (.ref o)], [], (sI ((sI w o 6 ((gI w o 7)))) o 5 0))) rfl).trans ?_
        exact val_r rfl
    · refine ((val_if_eq rfl).trans (if_neg hc418)).trans ?_
      show val (80, d + 2, 26, [some (.ref o)], [], w) = _
      refine Eq.trans ?_ (if_neg hc418).symm
      refine (val_g (c2 := (80, d + 2, 27, [some (.ref o)], [.ref o], w)) rfl).trans ?_
      refine (val_g (c2 := (80, d + 2, 28, [some (.ref o)], [.ref o, .ref o], w)) rfl).trans ?_
      refine (val_gf rfl hk_o rfl).trans ?_
      show val (80, d + 2, 31, [some (.ref o)], [.int (gI w o 7), .ref o], w) = _
      refine (val_g (c2 := (80, d + 2, 32, [some (.ref o)], [.int 1, .int (gI w o 7), .ref o], w)) rfl).trans ?_
      refine (val_g (c2 := (80, d + 2, 33, [some (.ref o)], [.int ((gI w o 7) + 1), .ref o], w)) rfl).trans ?_
      refine (val_pf rfl hk_o rfl).trans ?_
      show val (80, d + 2, 36, [some (.ref o)], [], (sI w o 7 (((gI w o 7) + 1)))) = _
      refine (val_g (c2 := (80, d + 2, 0, [some (.ref o)], [], (sI w o 7 (((gI w o 7) + 1))))) rfl).trans ?_
      rfl
theorem tr_80_86 (d : Nat) (w : Wd) (l0 : Nat)    (m_l0 : Nat) (hk_l0 : wK w l0 = (4, m_l0)) (q2_l0 : Nat) (hr2_l0 : gR w l0 2 = some q2_l0) (m_q2_l0 : Nat) (hk_q2_l0 : wK w q2_l0 = (21, m_q2_l0)) (hy7 : (¬ ((gI w l0 3) ≤ (gI w l0 7))) → inB ((gI w l0 7)) m_q2_l0 = true) : val (80, d + 2, 86, [some (.ref l0)], [], w) = (if (gI w l0 3) ≤ (gI w l0 7) then some (none, w) else (if (fn_77 ((gI w q2_l0 ((gI w l0 7)).toNatClampNeg))) = 0 then some (none, w) else val (80, d + 2, 86, [some (.ref l0)], [], (sI w l0 7 (((gI w l0 7) + 1)))))) := by
  refine (val_g (c2 := (80, d + 2, 87, [some (.ref l0)], [.ref l0], w)) rfl).trans ?_
  refine (val_gf rfl hk_l0 rfl).trans ?_
  show val (80, d + 2, 90, [some (.ref l0)], [.int (gI w l0 7)], w) = _
  refine (val_g (c2 := (80, d + 2, 91, [some (.ref l0)], [.ref l0, .int (gI w l0 7)], w)) rfl).trans ?_
  refine (val_gf rfl hk_l0 rfl).trans ?_
  show val (80, d + 2, 94, [some (.ref l0)], [.int (gI w l0 3), .int (gI w l0 7)], w) = _
  by_cases hc423 : (gI w l0 3) ≤ (gI w l0 7)
  · refine ((val_ic_ge rfl).trans (if_pos hc423)).trans ?_
    show val (80, d + 2, 189, [some (.ref l0)], [], w) = _
    refine Eq.trans ?_ (if_pos hc423).symm
    exact val_r rfl
  · refine ((val_ic_ge rfl).trans (if_neg hc423)).trans ?_
    show val (80, d + 2, 97, [some (.ref l0)], [], w) = _
    refine Eq.trans ?_ (if_neg hc423).symm
    refine (val_g (c2 := (80, d + 2, 98, [some (.ref l0)], [.ref l0], w)) rfl).trans ?_
    refine (val_gf rfl hk_l0 (fvR hr2_l0)).trans ?_
    show val (80, d + 2, 101, [some (.ref l0)], [.ref q2_l0], w) = _
    refine (val_g (c2 := (80, d + 2, 102, [some (.ref l0)], [.ref l0, .ref q2_l0], w)) rfl).trans ?_
    refine (val_gf rfl hk_l0 rfl).trans ?_
    show val (80, d + 2, 105, [some (.ref l0)], [.int (gI w l0 7), .ref q2_l0], w) = _
    refine (val_bal rfl hk_q2_l0 rfl (hy7 hc423)).trans ?_
    show val (80, d + 2, 106, [some (.ref l0)], [.int (gI w q2_l0 ((gI w l0 7)).toNatClampNeg)], w) = _
    refine (val_call (w1 := w) (pc2 := 109) rfl rfl rfl rfl rfl (Nat.le_of_ble_eq_true rfl) (Nat.le_of_ble_eq_true rfl) rfl (ev_77 (d + 1) w ((gI w q2_l0 ((gI w l0 7)).toNatClampNeg))) rfl).trans ?_
    show val (80, d + 2, 109, [some (.ref l0)], [.int (fn_77 ((gI w q2_l0 ((gI w l0 7)).toNatClampNeg)))], w) = _
    by_cases hc424 : (fn_77 ((gI w q2_l0 ((gI w l0 7)).toNatClampNeg))) = 0
    · refine ((val_if_eq rfl).trans (if_pos hc424)).trans ?_
      show val (80, d + 2, 189, [some (.ref l0)], [], w) = _
      refine Eq.trans ?_ (if_pos hc424).symm
      exact val_r rfl
    · refine ((val_if_eq rfl).trans (if_neg hc424)).trans ?_
      show val (80, d + 2, 112, [some (.ref l0)], [], w) = _
      refine Eq.trans ?_ (if_neg hc424).symm
      refine (val_g (c2 := (80, d + 2, 113, [some (.ref l0)], [.ref l0], w)) rfl).trans ?_
      refine (val_g (c2 := (80, d + 2, 114, [some (.ref l0)], [.ref l0, .ref l0], w)) rfl).trans ?_
      refine (val_gf rfl hk_l0 rfl).trans ?_
      show val (80, d + 2, 117, [some (.ref l0)], [.int (gI w l0 7), .ref l0], w) = _
      refine (val_g (c2 := (80, d + 2, 118, [some (.ref l0)], [.int 1, .int (gI w l0 7), .ref l0], w)) rfl).trans ?_
      refine (val_g (c2 := (80, d + 2, 119, [some (.ref l0)], [.int ((gI w l0 7) + 1), .ref l0], w)) rfl).trans ?_
      refine (val_pf rfl hk_l0 rfl).trans ?_
      show val (80, d + 2, 122, [some (.ref l0)], [], (sI w l0 7 (((gI w l0 7) + 1)))) = _
      refine (val_g (c2 := (80, d + 2, 86, [some (.ref l0)], [], (sI w l0 7 (((gI w l0 7) + 1))))) rfl).trans ?_
      rfl
theorem tr_80_144 (d : Nat) (w : Wd) (l0 : Nat)     : val (80, d + 2, 144, [some (.ref l0)], [], w) = some (none, w) := by
  refine (val_g (c2 := (80, d + 2, 189, [some (.ref l0)], [], w)) rfl).trans ?_
  exact val_r rfl
/-- BelfryHouse$Reader.takeNumber()V -/
theorem tr_81 (d : Nat) (w : Wd) (o : Nat)    (m_o : Nat) (hk_o : wK w o = (4, m_o)) : val (81, d + 1, 0, [some (.ref o)], [], w) = val (81, d + 1, 5, [some (.ref o)], [], (sI w o 8 0)) := by
  refine (val_g (c2 := (81, d + 1, 1, [some (.ref o)], [.ref o], w)) rfl).trans ?_
  refine (val_g (c2 := (81, d + 1, 2, [some (.ref o)], [.int 0, .ref o], w)) rfl).trans ?_
  refine (val_pf rfl hk_o rfl).trans ?_
  show val (81, d + 1, 5, [some (.ref o)], [], (sI w o 8 0)) = _
  rfl
theorem tr_81_5 (d : Nat) (w : Wd) (l0 : Nat)    (m_l0 : Nat) (hk_l0 : wK w l0 = (4, m_l0)) (q2_l0 : Nat) (hr2_l0 : gR w l0 2 = some q2_l0) (m_q2_l0 : Nat) (hk_q2_l0 : wK w q2_l0 = (21, m_q2_l0)) (hy7 : (¬ ((gI w l0 3) ≤ (gI w l0 7))) → inB ((gI w l0 7)) m_q2_l0 = true) (hy8 : (¬ ((gI w l0 3) ≤ (gI w l0 7))) → (¬ ((fn_78 ((gI w q2_l0 ((gI w l0 7)).toNatClampNeg))) = 0)) → (¬ (8 ≤ ((gI w l0 7) - (gI w l0 6)))) → inB ((gI w l0 7)) m_q2_l0 = true) : val (81, d + 1, 5, [some (.ref l0)], [], w) = (if (gI w l0 3) ≤ (gI w l0 7) then (if ((gI w l0 7) - (gI w l0 6)) ≤ 8 then some (none, (sI w l0 5 2)) else some (none, (sI w l0 5 4))) else (if (fn_78 ((gI w q2_l0 ((gI w l0 7)).toNatClampNeg))) = 0 then (if ((gI w l0 7) - (gI w l0 6)) ≤ 8 then some (none, (sI w l0 5 2)) else some (none, (sI w l0 5 4))) else (if 8 ≤ ((gI w l0 7) - (gI w l0 6)) then val (81, d + 1, 5, [some (.ref l0)], [], (sI w l0 7 (((gI w l0 7) + 1)))) else val (81, d + 1, 5, [some (.ref l0)], [], (sI ((sI w l0 8 (((((gI w l0 8) * 10) + (gI w q2_l0 ((gI w l0 7)).toNatClampNeg)) - 48)))) l0 7 (((gI ((sI w l0 8 (((((gI w l0 8) * 10) + (gI w q2_l0 ((gI w l0 7)).toNatClampNeg)) - 48)))) l0 7) + 1))))))) := by
  refine (val_g (c2 := (81, d + 1, 6, [some (.ref l0)], [.ref l0], w)) rfl).trans ?_
  refine (val_gf rfl hk_l0 rfl).trans ?_
  show val (81, d + 1, 9, [some (.ref l0)], [.int (gI w l0 7)], w) = _
  refine (val_g (c2 := (81, d + 1, 10, [some (.ref l0)], [.ref l0, .int (gI w l0 7)], w)) rfl).trans ?_
  refine (val_gf rfl hk_l0 rfl).trans ?_
  show val (81, d + 1, 13, [some (.ref l0)], [.int (gI w l0 3), .int (gI w l0 7)], w) = _
  by_cases hc430 : (gI w l0 3) ≤ (gI w l0 7)
  · refine ((val_ic_ge rfl).trans (if_pos hc430)).trans ?_
    show val (81, d + 1, 82, [some (.ref l0)], [], w) = _
    refine Eq.trans ?_ (if_pos hc430).symm
    refine (val_g (c2 := (81, d + 1, 83, [some (.ref l0)], [.ref l0], w)) rfl).trans ?_
    refine (val_g (c2 := (81, d + 1, 84, [some (.ref l0)], [.ref l0, .ref l0], w)) rfl).trans ?_
    refine (val_gf rfl hk_l0 rfl).trans ?_
    show val (81, d + 1, 87, [some (.ref l0)], [.int (gI w l0 7), .ref l0], w) = _
    refine (val_g (c2 := (81, d + 1, 88, [some (.ref l0)], [.ref l0, .int (gI w l0 7), .ref l0], w)) rfl).trans ?_
    refine (val_gf rfl hk_l0 rfl).trans ?_
    show val (81, d + 1, 91, [some (.ref l0)], [.int (gI w l0 6), .int (gI w l0 7), .ref l0], w) = _
    refine (val_g (c2 := (81, d + 1, 92, [some (.ref l0)], [.int ((gI w l0 7) - (gI w l0 6)), .ref l0], w)) rfl).trans ?_
    refine (val_g (c2 := (81, d + 1, 94, [some (.ref l0)], [.int 8, .int ((gI w l0 7) - (gI w l0 6)), .ref l0], w)) rfl).trans ?_
    by_cases hc431 : ((gI w l0 7) - (gI w l0 6)) ≤ 8
    · refine ((val_ic_le rfl).trans (if_pos hc431)).trans ?_
      show val (81, d + 1, 101, [some (.ref l0)], [.ref l0], w) = _
      refine Eq.trans ?_ (if_pos hc431).symm
      refine (val_g (c2 := (81, d + 1, 102, [some (.ref l0)], [.int 2, .ref l0], w)) rfl).trans ?_
      refine (val_pf rfl hk_l0 rfl).trans ?_
      show val (81, d + 1, 105, [some (.ref l0)], [], (sI w l0 5 2)) = _
      exact val_r rfl
    · refine ((val_ic_le rfl).trans (if_neg hc431)).trans ?_
      show val (81, d + 1, 97, [some (.ref l0)], [.ref l0], w) = _
      refine Eq.trans ?_ (if_neg hc431).symm
      refine (val_g (c2 := (81, d + 1, 98, [some (.ref l0)], [.int 4, .ref l0], w)) rfl).trans ?_
      refine (val_g (c2 := (81, d + 1, 102, [some (.ref l0)], [.int 4, .ref l0], w)) rfl).trans ?_
      refine (val_pf rfl hk_l0 rfl).trans ?_
      show val (81, d + 1, 105, [some (.ref l0)], [], (sI w l0 5 4)) = _
      exact val_r rfl
  · refine ((val_ic_ge rfl).trans (if_neg hc430)).trans ?_
    show val (81, d + 1, 16, [some (.ref l0)], [], w) = _
    refine Eq.trans ?_ (if_neg hc430).symm
    refine (val_g (c2 := (81, d + 1, 17, [some (.ref l0)], [.ref l0], w)) rfl).trans ?_
    refine (val_gf rfl hk_l0 (fvR hr2_l0)).trans ?_
    show val (81, d + 1, 20, [some (.ref l0)], [.ref q2_l0], w) = _
    refine (val_g (c2 := (81, d + 1, 21, [some (.ref l0)], [.ref l0, .ref q2_l0], w)) rfl).trans ?_
    refine (val_gf rfl hk_l0 rfl).trans ?_
    show val (81, d + 1, 24, [some (.ref l0)], [.int (gI w l0 7), .ref q2_l0], w) = _
    refine (val_bal rfl hk_q2_l0 rfl (hy7 hc430)).trans ?_
    show val (81, d + 1, 25, [some (.ref l0)], [.int (gI w q2_l0 ((gI w l0 7)).toNatClampNeg)], w) = _
    refine (val_call (w1 := w) (pc2 := 28) rfl rfl rfl rfl rfl (Nat.le_of_ble_eq_true rfl) (Nat.le_of_ble_eq_true rfl) rfl (ev_78 (d) w ((gI w q2_l0 ((gI w l0 7)).toNatClampNeg))) rfl).trans ?_
    show val (81, d + 1, 28, [some (.ref l0)], [.int (fn_78 ((gI w q2_l0 ((gI w l0 7)).toNatClampNeg)))], w) = _
    by_cases hc432 : (fn_78 ((gI w q2_l0 ((gI w l0 7)).toNatClampNeg))) = 0
    · refine ((val_if_eq rfl).trans (if_pos hc432)).trans ?_
      show val (81, d + 1, 82, [some (.ref l0)], [], w) = _
      refine Eq.trans ?_ (if_pos hc432).symm
      refine (val_g (c2 := (81, d + 1, 83, [some (.ref l0)], [.ref l0], w)) rfl).trans ?_
      refine (val_g (c2 := (81, d + 1, 84, [some (.ref l0)], [.ref l0, .ref l0], w)) rfl).trans ?_
      refine (val_gf rfl hk_l0 rfl).trans ?_
      show val (81, d + 1, 87, [some (.ref l0)], [.int (gI w l0 7), .ref l0], w) = _
      refine (val_g (c2 := (81, d + 1, 88, [some (.ref l0)], [.ref l0, .int (gI w l0 7), .ref l0], w)) rfl).trans ?_
      refine (val_gf rfl hk_l0 rfl).trans ?_
      show val (81, d + 1, 91, [some (.ref l0)], [.int (gI w l0 6), .int (gI w l0 7), .ref l0], w) = _
      refine (val_g (c2 := (81, d + 1, 92, [some (.ref l0)], [.int ((gI w l0 7) - (gI w l0 6)), .ref l0], w)) rfl).trans ?_
      refine (val_g (c2 := (81, d + 1, 94, [some (.ref l0)], [.int 8, .int ((gI w l0 7) - (gI w l0 6)), .ref l0], w)) rfl).trans ?_
      by_cases hc433 : ((gI w l0 7) - (gI w l0 6)) ≤ 8
      · refine ((val_ic_le rfl).trans (if_pos hc433)).trans ?_
        show val (81, d + 1, 101, [some (.ref l0)], [.ref l0], w) = _
        refine Eq.trans ?_ (if_pos hc433).symm
        refine (val_g (c2 := (81, d + 1, 102, [some (.ref l0)], [.int 2, .ref l0], w)) rfl).trans ?_
        refine (val_pf rfl hk_l0 rfl).trans ?_
        show val (81, d + 1, 105, [some (.ref l0)], [], (sI w l0 5 2)) = _
        exact val_r rfl
      · refine ((val_ic_le rfl).trans (if_neg hc433)).trans ?_
        show val (81, d + 1, 97, [some (.ref l0)], [.ref l0], w) = _
        refine Eq.trans ?_ (if_neg hc433).symm
        refine (val_g (c2 := (81, d + 1, 98, [some (.ref l0)], [.int 4, .ref l0], w)) rfl).trans ?_
        refine (val_g (c2 := (81, d + 1, 102, [some (.ref l0)], [.int 4, .ref l0], w)) rfl).trans ?_
        refine (val_pf rfl hk_l0 rfl).trans ?_
        show val (81, d + 1, 105, [some (.ref l0)], [], (sI w l0 5 4)) = _
        exact val_r rfl
    · refine ((val_if_eq rfl).trans (if_neg hc432)).trans ?_
      show val (81, d + 1, 31, [some (.ref l0)], [], w) = _
      refine Eq.trans ?_ (if_neg hc432).symm
      refine (val_g (c2 := (81, d + 1, 32, [some (.ref l0)], [.ref l0], w)) rfl).trans ?_
      refine (val_gf rfl hk_l0 rfl).trans ?_
      show val (81, d + 1, 35, [some (.ref l0)], [.int (gI w l0 7)], w) = _
      refine (val_g (c2 := (81, d + 1, 36, [some (.ref l0)], [.ref l0, .int (gI w l0 7)], w)) rfl).trans ?_
      refine (val_gf rfl hk_l0 rfl).trans ?_
      show val (81, d + 1, 39, [some (.ref l0)], [.int (gI w l0 6), .int (gI w l0 7)], w) = _
      refine (val_g (c2 := (81, d + 1, 40, [some (.ref l0)], [.int ((gI w l0 7) - (gI w l0 6))], w)) rfl).trans ?_
      refine (val_g (c2 := (81, d + 1, 42, [some (.ref l0)], [.int 8, .int ((gI w l0 7) - (gI w l0 6))], w)) rfl).trans ?_
      by_cases hc434 : 8 ≤ ((gI w l0 7) - (gI w l0 6))
      · refine ((val_ic_ge rfl).trans (if_pos hc434)).trans ?_
        show val (81, d + 1, 69, [some (.ref l0)], [], w) = _
        refine Eq.trans ?_ (if_pos hc434).symm
        refine (val_g (c2 := (81, d + 1, 70, [some (.ref l0)], [.ref l0], w)) rfl).trans ?_
        refine (val_g (c2 := (81, d + 1, 71, [some (.ref l0)], [.ref l0, .ref l0], w)) rfl).trans ?_
        refine (val_gf rfl hk_l0 rfl).trans ?_
        show val (81, d + 1, 74, [some (.ref l0)], [.int (gI w l0 7), .ref l0], w) = _
        refine (val_g (c2 := (81, d + 1, 75, [some (.ref l0)], [.int 1, .int (gI w l0 7), .ref l0], w)) rfl).trans ?_
        refine (val_g (c2 := (81, d + 1, 76, [some (.ref l0)], [.int ((gI w l0 7) + 1), .ref l0], w)) rfl).trans ?_
        refine (val_pf rfl hk_l0 rfl).trans ?_
        show val (81, d + 1, 79, [some (.ref l0)], [], (sI w l0 7 (((gI w l0 7) + 1)))) = _
        refine (val_g (c2 := (81, d + 1, 5, [some (.ref l0)], [], (sI w l0 7 (((gI w l0 7) + 1))))) rfl).trans ?_
        rfl
      · refine ((val_ic_ge rfl).trans (if_neg hc434)).trans ?_
        show val (81, d + 1, 45, [some (.ref l0)], [], w) = _
        refine Eq.trans ?_ (if_neg hc434).symm
        refine (val_g (c2 := (81, d + 1, 46, [some (.ref l0)], [.ref l0], w)) rfl).trans ?_
        refine (val_g (c2 := (81, d + 1, 47, [some (.ref l0)], [.ref l0, .ref l0], w)) rfl).trans ?_
        refine (val_gf rfl hk_l0 rfl).trans ?_
        show val (81, d + 1, 50, [some (.ref l0)], [.int (gI w l0 8), .ref l0], w) = _
        refine (val_g (c2 := (81, d + 1, 52, [some (.ref l0)], [.int 10, .int (gI w l0 8), .ref l0], w)) rfl).trans ?_
        refine (val_g (c2 := (81, d + 1, 53, [some (.ref l0)], [.int ((gI w l0 8) * 10), .ref l0], w)) rfl).trans ?_
        refine (val_g (c2 := (81, d + 1, 54, [some (.ref l0)], [.ref l0, .int ((gI w l0 8) * 10), .ref l0], w)) rfl).trans ?_
        refine (val_gf rfl hk_l0 (fvR hr2_l0)).trans ?_
        show val (81, d + 1, 57, [some (.ref l0)], [.ref q2_l0, .int ((gI w l0 8) * 10), .ref l0], w) = _
        refine (val_g (c2 := (81, d + 1, 58, [some (.ref l0)], [.ref l0, .ref q2_l0, .int ((gI w l0 8) * 10), .ref l0], w)) rfl).trans ?_
        refine (val_gf rfl hk_l0 rfl).trans ?_
        show val (81, d + 1, 61, [some (.ref l0)], [.int (gI w l0 7), .ref q2_l0, .int ((gI w l0 8) * 10), .ref l0], w) = _
        refine (val_bal rfl hk_q2_l0 rfl (hy8 hc430 hc432 hc434)).trans ?_
        show val (81, d + 1, 62, [some (.ref l0)], [.int (gI w q2_l0 ((gI w l0 7)).toNatClampNeg), .int ((gI w l0 8) * 10), .ref l0], w) = _
        refine (val_g (c2 := (81, d + 1, 63, [some (.ref l0)], [.int (((gI w l0 8) * 10) + (gI w q2_l0 ((gI w l0 7)).toNatClampNeg)), .ref l0], w)) rfl).trans ?_
        refine (val_g (c2 := (81, d + 1, 65, [some (.ref l0)], [.int 48, .int (((gI w l0 8) * 10) + (gI w q2_l0 ((gI w l0 7)).toNatClampNeg)), .ref l0], w)) rfl).trans ?_
        refine (val_g (c2 := (81, d + 1, 66, [some (.ref l0)], [.int ((((gI w l0 8) * 10) + (gI w q2_l0 ((gI w l0 7)).toNatClampNeg)) - 48), .ref l0], w)) rfl).trans ?_
        refine (val_pf rfl hk_l0 rfl).trans ?_
        show val (81, d + 1, 69, [some (.ref l0)], [], (sI w l0 8 (((((gI w l0 8) * 10) + (gI w q2_l0 ((gI w l0 7)).toNatClampNeg)) - 48)))) = _
        refine (val_g (c2 := (81, d + 1, 70, [some (.ref l0)], [.ref l0], (sI w l0 8 (((((gI w l0 8) * 10) + (gI w q2_l0 ((gI w l0 7)).toNatClampNeg)) - 48))))) rfl).trans ?_
        refine (val_g (c2 := (81, d + 1, 71, [some (.ref l0)], [.ref l0, .ref l0], (sI w l0 8 (((((gI w l0 8) * 10) + (gI w q2_l0 ((gI w l0 7)).toNatClampNeg)) - 48))))) rfl).trans ?_
        refine (val_gf (w := (sI w l0 8 (((((gI w l0 8) * 10) + (gI w q2_l0 ((gI w l0 7)).toNatClampNeg)) - 48)))) rfl hk_l0 rfl).trans ?_
        show val (81, d + 1, 74, [some (.ref l0)], [.int (gI ((sI w l0 8 (((((gI w l0 8) * 10) + (gI w q2_l0 ((gI w l0 7)).toNatClampNeg)) - 48)))) l0 7), .ref l0], (sI w l0 8 (((((gI w l0 8) * 10) + (gI w q2_l0 ((gI w l0 7)).toNatClampNeg)) - 48)))) = _
        refine (val_g (c2 := (81, d + 1, 75, [some (.ref l0)], [.int 1, .int (gI ((sI w l0 8 (((((gI w l0 8) * 10) + (gI w q2_l0 ((gI w l0 7)).toNatClampNeg)) - 48)))) l0 7), .ref l0], (sI w l0 8 (((((gI w l0 8) * 10) + (gI w q2_l0 ((gI w l0 7)).toNatClampNeg)) - 48))))) rfl).trans ?_
        refine (val_g (c2 := (81, d + 1, 76, [some (.ref l0)], [.int ((gI ((sI w l0 8 (((((gI w l0 8) * 10) + (gI w q2_l0 ((gI w l0 7)).toNatClampNeg)) - 48)))) l0 7) + 1), .ref l0], (sI w l0 8 (((((gI w l0 8) * 10) + (gI w q2_l0 ((gI w l0 7)).toNatClampNeg)) - 48))))) rfl).trans ?_
        refine (val_pf (w := (sI w l0 8 (((((gI w l0 8) * 10) + (gI w q2_l0 ((gI w l0 7)).toNatClampNeg)) - 48)))) rfl hk_l0 rfl).trans ?_
        show val (81, d + 1, 79, [some (.ref l0)], [], (sI ((sI w l0 8 (((((gI w l0 8) * 10) + (gI w q2_l0 ((gI w l0 7)).toNatClampNeg)) - 48)))) l0 7 (((gI ((sI w l0 8 (((((gI w l0 8) * 10) + (gI w q2_l0 ((gI w l0 7)).toNatClampNeg)) - 48)))) l0 7) + 1)))) = _
        refine (val_g (c2 := (81, d + 1, 5, [some (.ref l0)], [], (sI ((sI w l0 8 (((((gI w l0 8) * 10) + (gI w q2_l0 ((gI w l0 7)).toNatClampNeg)) - 48)))) l0 7 (((gI ((sI w l0 8 (((((gI w l0 8) * 10) + (gI w q2_l0 ((gI w l0 7)).toNatClampNeg)) - 48)))) l0 7) + 1))))) rfl).trans ?_
        rfl
/-- BelfryHouse$Reader.isWord(Ljava/lang/String;)Z -/
theorem tr_82 (d : Nat) (w : Wd) (o : Nat) (p0 : Nat)    (m_o : Nat) (hk_o : wK w o = (4, m_o)) : val (82, d + 4, 0, [some (.ref o), some (.ref p0), none], [], w) = (if ¬ (gI w o 5) = 1 then some (some (.int 0), w) else val (82, d + 4, 18, [some (.ref o), some (.ref p0), none], [.ref p0, .int ((gI w o 7) - (gI w o 6))], w)) := by
  refine (val_g (c2 := (82, d + 4, 1, [some (.ref o), some (.ref p0), none], [.ref o], w)) rfl).trans ?_
  refine (val_gf rfl hk_o rfl).trans ?_
  show val (82, d + 4, 4, [some (.ref o), some (.ref p0), none], [.int (gI w o 5)], w) = _
  refine (val_g (c2 := (82, d + 4, 5, [some (.ref o), some (.ref p0), none], [.int 1, .int (gI w o 5)], w)) rfl).trans ?_
  by_cases hc439 : ¬ (gI w o 5) = 1
  · refine ((val_ic_ne rfl).trans (if_pos hc439)).trans ?_
    show val (82, d + 4, 24, [some (.ref o), some (.ref p0), none], [], w) = _
    refine Eq.trans ?_ (if_pos hc439).symm
    refine (val_g (c2 := (82, d + 4, 25, [some (.ref o), some (.ref p0), none], [.int 0], w)) rfl).trans ?_
    exact val_r rfl
  · refine ((val_ic_ne rfl).trans (if_neg hc439)).trans ?_
    show val (82, d + 4, 8, [some (.ref o), some (.ref p0), none], [], w) = _
    refine Eq.trans ?_ (if_neg hc439).symm
    refine (val_g (c2 := (82, d + 4, 9, [some (.ref o), some (.ref p0), none], [.ref o], w)) rfl).trans ?_
    refine (val_gf rfl hk_o rfl).trans ?_
    show val (82, d + 4, 12, [some (.ref o), some (.ref p0), none], [.int (gI w o 7)], w) = _
    refine (val_g (c2 := (82, d + 4, 13, [some (.ref o), some (.ref p0), none], [.ref o, .int (gI w o 7)], w)) rfl).trans ?_
    refine (val_gf rfl hk_o rfl).trans ?_
    show val (82, d + 4, 16, [some (.ref o), some (.ref p0), none], [.int (gI w o 6), .int (gI w o 7)], w) = _
    refine (val_g (c2 := (82, d + 4, 17, [some (.ref o), some (.ref p0), none], [.int ((gI w o 7) - (gI w o 6))], w)) rfl).trans ?_
    refine (val_g (c2 := (82, d + 4, 18, [some (.ref o), some (.ref p0), none], [.ref p0, .int ((gI w o 7) - (gI w o 6))], w)) rfl).trans ?_
    rfl
theorem tr_82_21 (d : Nat) (w : Wd) (l0 : Nat) (l1 : Nat) (s0 : Int32) (s1 : Int32)     : val (82, d + 4, 21, [some (.ref l0), some (.ref l1), none], [.int s0, .int s1], w) = (if s1 = s0 then val (82, d + 4, 28, [some (.ref l0), some (.ref l1), some (.int 0)], [], w) else some (some (.int 0), w)) := by
  by_cases hc440 : s1 = s0
  · refine ((val_ic_eq rfl).trans (if_pos hc440)).trans ?_
    show val (82, d + 4, 26, [some (.ref l0), some (.ref l1), none], [], w) = _
    refine Eq.trans ?_ (if_pos hc440).symm
    refine (val_g (c2 := (82, d + 4, 27, [some (.ref l0), some (.ref l1), none], [.int 0], w)) rfl).trans ?_
    refine (val_g (c2 := (82, d + 4, 28, [some (.ref l0), some (.ref l1), some (.int 0)], [], w)) rfl).trans ?_
    rfl
  · refine ((val_ic_eq rfl).trans (if_neg hc440)).trans ?_
    show val (82, d + 4, 24, [some (.ref l0), some (.ref l1), none], [], w) = _
    refine Eq.trans ?_ (if_neg hc440).symm
    refine (val_g (c2 := (82, d + 4, 25, [some (.ref l0), some (.ref l1), none], [.int 0], w)) rfl).trans ?_
    exact val_r rfl
theorem tr_82_28 (d : Nat) (w : Wd) (l0 : Nat) (l1 : Nat) (l2 : Int32)     : val (82, d + 4, 28, [some (.ref l0), some (.ref l1), some (.int l2)], [], w) = val (82, d + 4, 30, [some (.ref l0), some (.ref l1), some (.int l2)], [.ref l1, .int l2], w) := by
  refine (val_g (c2 := (82, d + 4, 29, [some (.ref l0), some (.ref l1), some (.int l2)], [.int l2], w)) rfl).trans ?_
  refine (val_g (c2 := (82, d + 4, 30, [some (.ref l0), some (.ref l1), some (.int l2)], [.ref l1, .int l2], w)) rfl).trans ?_
  rfl
theorem tr_82_33 (d : Nat) (w : Wd) (l0 : Nat) (l1 : Nat) (l2 : Int32) (s0 : Int32) (s1 : Int32)    (m_l0 : Nat) (hk_l0 : wK w l0 = (4, m_l0)) (q2_l0 : Nat) (hr2_l0 : gR w l0 2 = some q2_l0) (m_q2_l0 : Nat) (hk_q2_l0 : wK w q2_l0 = (21, m_q2_l0)) (hy7 : (¬ (s0 ≤ s1)) → inB (((gI w l0 6) + l2)) m_q2_l0 = true) : val (82, d + 4, 33, [some (.ref l0), some (.ref l1), some (.int l2)], [.int s0, .int s1], w) = (if s0 ≤ s1 then some (some (.int 1), w) else val (82, d + 4, 49, [some (.ref l0), some (.ref l1), some (.int l2)], [.int l2, .ref l1, .int (gI w q2_l0 (((gI w l0 6) + l2)).toNatClampNeg)], w)) := by
  by_cases hc441 : s0 ≤ s1
  · refine ((val_ic_ge rfl).trans (if_pos hc441)).trans ?_
    show val (82, d + 4, 63, [some (.ref l0), some (.ref l1), some (.int l2)], [], w) = _
    refine Eq.trans ?_ (if_pos hc441).symm
    refine (val_g (c2 := (82, d + 4, 64, [some (.ref l0), some (.ref l1), some (.int l2)], [.int 1], w)) rfl).trans ?_
    exact val_r rfl
  · refine ((val_ic_ge rfl).trans (if_neg hc441)).trans ?_
    show val (82, d + 4, 36, [some (.ref l0), some (.ref l1), some (.int l2)], [], w) = _
    refine Eq.trans ?_ (if_neg hc441).symm
    refine (val_g (c2 := (82, d + 4, 37, [some (.ref l0), some (.ref l1), some (.int l2)], [.ref l0], w)) rfl).trans ?_
    refine (val_gf rfl hk_l0 (fvR hr2_l0)).trans ?_
    show val (82, d + 4, 40, [some (.ref l0), some (.ref l1), some (.int l2)], [.ref q2_l0], w) = _
    refine (val_g (c2 := (82, d + 4, 41, [some (.ref l0), some (.ref l1), some (.int l2)], [.ref l0, .ref q2_l0], w)) rfl).trans ?_
    refine (val_gf rfl hk_l0 rfl).trans ?_
    show val (82, d + 4, 44, [some (.ref l0), some (.ref l1), some (.int l2)], [.int (gI w l0 6), .ref q2_l0], w) = _
    refine (val_g (c2 := (82, d + 4, 45, [some (.ref l0), some (.ref l1), some (.int l2)], [.int l2, .int (gI w l0 6), .ref q2_l0], w)) rfl).trans ?_
    refine (val_g (c2 := (82, d + 4, 46, [some (.ref l0), some (.ref l1), some (.int l2)], [.int ((gI w l0 6) + l2), .ref q2_l0], w)) rfl).trans ?_
    refine (val_bal rfl hk_q2_l0 rfl (hy7 hc441)).trans ?_
    show val (82, d + 4, 47, [some (.ref l0), some (.ref l1), some (.int l2)], [.int (gI w q2_l0 (((gI w l0 6) + l2)).toNatClampNeg)], w) = _
    refine (val_g (c2 := (82, d + 4, 48, [some (.ref l0), some (.ref l1), some (.int l2)], [.ref l1, .int (gI w q2_l0 (((gI w l0 6) + l2)).toNatClampNeg)], w)) rfl).trans ?_
    refine (val_g (c2 := (82, d + 4, 49, [some (.ref l0), some (.ref l1), some (.int l2)], [.int l2, .ref l1, .int (gI w q2_l0 (((gI w l0 6) + l2)).toNatClampNeg)], w)) rfl).trans ?_
    rfl
theorem tr_82_52 (d : Nat) (w : Wd) (l0 : Nat) (l1 : Nat) (l2 : Int32) (s0 : Int32) (s1 : Int32)     : val (82, d + 4, 52, [some (.ref l0), some (.ref l1), some (.int l2)], [.int s0, .int s1], w) = (if s1 = s0 then val (82, d + 4, 28, [some (.ref l0), some (.ref l1), some (.int (l2 + 1))], [], w) else some (some (.int 0), w)) := by
  by_cases hc442 : s1 = s0
  · refine ((val_ic_eq rfl).trans (if_pos hc442)).trans ?_
    show val (82, d + 4, 57, [some (.ref l0), some (.ref l1), some (.int l2)], [], w) = _
    refine Eq.trans ?_ (if_pos hc442).symm
    refine (val_g (c2 := (82, d + 4, 60, [some (.ref l0), some (.ref l1), some (.int (l2 + 1))], [], w)) rfl).trans ?_
    refine (val_g (c2 := (82, d + 4, 28, [some (.ref l0), some (.ref l1), some (.int (l2 + 1))], [], w)) rfl).trans ?_
    rfl
  · refine ((val_ic_eq rfl).trans (if_neg hc442)).trans ?_
    show val (82, d + 4, 55, [some (.ref l0), some (.ref l1), some (.int l2)], [], w) = _
    refine Eq.trans ?_ (if_neg hc442).symm
    refine (val_g (c2 := (82, d + 4, 56, [some (.ref l0), some (.ref l1), some (.int l2)], [.int 0], w)) rfl).trans ?_
    exact val_r rfl
/-- BelfryHouse$Reader.takesWord(Ljava/lang/String;)Z -/
theorem tr_83 (d : Nat) (w : Wd) (o : Nat) (p0 : Nat)     : val (83, d + 5, 0, [some (.ref o), some (.ref p0), none], [], w) = val (83, d + 5, 2, [some (.ref o), some (.ref p0), none], [.ref p0, .ref o], w) := by
  refine (val_g (c2 := (83, d + 5, 1, [some (.ref o), some (.ref p0), none], [.ref o], w)) rfl).trans ?_
  refine (val_g (c2 := (83, d + 5, 2, [some (.ref o), some (.ref p0), none], [.ref p0, .ref o], w)) rfl).trans ?_
  rfl
theorem tr_83_5 (d : Nat) (w : Wd) (l0 : Nat) (l1 : Nat) (s0 : Int32)     : val (83, d + 5, 5, [some (.ref l0), some (.ref l1), none], [.int s0], w) = (if s0 = 0 then val (83, d + 5, 14, [some (.ref l0), some (.ref l1), some (.int s0)], [], w) else val (83, d + 5, 11, [some (.ref l0), some (.ref l1), some (.int s0)], [.ref l0], w)) := by
  refine (val_g (c2 := (83, d + 5, 6, [some (.ref l0), some (.ref l1), some (.int s0)], [], w)) rfl).trans ?_
  refine (val_g (c2 := (83, d + 5, 7, [some (.ref l0), some (.ref l1), some (.int s0)], [.int s0], w)) rfl).trans ?_
  by_cases hc444 : s0 = 0
  · refine ((val_if_eq rfl).trans (if_pos hc444)).trans ?_
    show val (83, d + 5, 14, [some (.ref l0), some (.ref l1), some (.int s0)], [], w) = _
    refine Eq.trans ?_ (if_pos hc444).symm
    rfl
  · refine ((val_if_eq rfl).trans (if_neg hc444)).trans ?_
    show val (83, d + 5, 10, [some (.ref l0), some (.ref l1), some (.int s0)], [], w) = _
    refine Eq.trans ?_ (if_neg hc444).symm
    refine (val_g (c2 := (83, d + 5, 11, [some (.ref l0), some (.ref l1), some (.int s0)], [.ref l0], w)) rfl).trans ?_
    rfl
theorem tr_83_14 (d : Nat) (w : Wd) (l0 : Nat) (l1 : Nat) (l2 : Int32)    (hy1 : narB 1 l2 = true) : val (83, d + 5, 14, [some (.ref l0), some (.ref l1), some (.int l2)], [], w) = some (some (.int l2), w) := by
  refine (val_g (c2 := (83, d + 5, 15, [some (.ref l0), some (.ref l1), some (.int l2)], [.int l2], w)) rfl).trans ?_
  exact val_r (if_pos hy1)
/-- BelfryHouse$Reader.takesSign(C)Z -/
theorem tr_84 (d : Nat) (w : Wd) (o : Nat) (x0 : Int32)    (m_o : Nat) (hk_o : wK w o = (4, m_o)) : val (84, d + 3, 0, [some (.ref o), some (.int x0), none], [], w) = (if ¬ (gI w o 5) = 3 then val (84, d + 3, 30, [some (.ref o), some (.int x0), some (.int 0)], [], w) else (if ¬ (gI w o 8) = x0 then val (84, d + 3, 30, [some (.ref o), some (.int x0), some (.int 0)], [], w) else val (84, d + 3, 27, [some (.ref o), some (.int x0), some (.int 1)], [.ref o], w))) := by
  refine (val_g (c2 := (84, d + 3, 1, [some (.ref o), some (.int x0), none], [.ref o], w)) rfl).trans ?_
  refine (val_gf rfl hk_o rfl).trans ?_
  show val (84, d + 3, 4, [some (.ref o), some (.int x0), none], [.int (gI w o 5)], w) = _
  refine (val_g (c2 := (84, d + 3, 5, [some (.ref o), some (.int x0), none], [.int 3, .int (gI w o 5)], w)) rfl).trans ?_
  by_cases hc447 : ¬ (gI w o 5) = 3
  · refine ((val_ic_ne rfl).trans (if_pos hc447)).trans ?_
    show val (84, d + 3, 20, [some (.ref o), some (.int x0), none], [], w) = _
    refine Eq.trans ?_ (if_pos hc447).symm
    refine (val_g (c2 := (84, d + 3, 21, [some (.ref o), some (.int x0), none], [.int 0], w)) rfl).trans ?_
    refine (val_g (c2 := (84, d + 3, 22, [some (.ref o), some (.int x0), some (.int 0)], [], w)) rfl).trans ?_
    refine (val_g (c2 := (84, d + 3, 23, [some (.ref o), some (.int x0), some (.int 0)], [.int 0], w)) rfl).trans ?_
    refine ((val_if_eq rfl).trans (if_pos (by decide))).trans ?_
    show val (84, d + 3, 30, [some (.ref o), some (.int x0), some (.int 0)], [], w) = _
    rfl
  · refine ((val_ic_ne rfl).trans (if_neg hc447)).trans ?_
    show val (84, d + 3, 8, [some (.ref o), some (.int x0), none], [], w) = _
    refine Eq.trans ?_ (if_neg hc447).symm
    refine (val_g (c2 := (84, d + 3, 9, [some (.ref o), some (.int x0), none], [.ref o], w)) rfl).trans ?_
    refine (val_gf rfl hk_o rfl).trans ?_
    show val (84, d + 3, 12, [some (.ref o), some (.int x0), none], [.int (gI w o 8)], w) = _
    refine (val_g (c2 := (84, d + 3, 13, [some (.ref o), some (.int x0), none], [.int x0, .int (gI w o 8)], w)) rfl).trans ?_
    by_cases hc448 : ¬ (gI w o 8) = x0
    · refine ((val_ic_ne rfl).trans (if_pos hc448)).trans ?_
      show val (84, d + 3, 20, [some (.ref o), some (.int x0), none], [], w) = _
      refine Eq.trans ?_ (if_pos hc448).symm
      refine (val_g (c2 := (84, d + 3, 21, [some (.ref o), some (.int x0), none], [.int 0], w)) rfl).trans ?_
      refine (val_g (c2 := (84, d + 3, 22, [some (.ref o), some (.int x0), some (.int 0)], [], w)) rfl).trans ?_
      refine (val_g (c2 := (84, d + 3, 23, [some (.ref o), some (.int x0), some (.int 0)], [.int 0], w)) rfl).trans ?_
      refine ((val_if_eq rfl).trans (if_pos (by decide))).trans ?_
      show val (84, d + 3, 30, [some (.ref o), some (.int x0), some (.int 0)], [], w) = _
      rfl
    · refine ((val_ic_ne rfl).trans (if_neg hc448)).trans ?_
      show val (84, d + 3, 16, [some (.ref o), some (.int x0), none], [], w) = _
      refine Eq.trans ?_ (if_neg hc448).symm
      refine (val_g (c2 := (84, d + 3, 17, [some (.ref o), some (.int x0), none], [.int 1], w)) rfl).trans ?_
      refine (val_g (c2 := (84, d + 3, 21, [some (.ref o), some (.int x0), none], [.int 1], w)) rfl).trans ?_
      refine (val_g (c2 := (84, d + 3, 22, [some (.ref o), some (.int x0), some (.int 1)], [], w)) rfl).trans ?_
      refine (val_g (c2 := (84, d + 3, 23, [some (.ref o), some (.int x0), some (.int 1)], [.int 1], w)) rfl).trans ?_
      refine ((val_if_eq rfl).trans (if_neg (by decide))).trans ?_
      show val (84, d + 3, 26, [some (.ref o), some (.int x0), some (.int 1)], [], w) = _
      refine (val_g (c2 := (84, d + 3, 27, [some (.ref o), some (.int x0), some (.int 1)], [.ref o], w)) rfl).trans ?_
      rfl
theorem tr_84_30 (d : Nat) (w : Wd) (l0 : Nat) (l1 : Int32) (l2 : Int32)    (hy1 : narB 1 l2 = true) : val (84, d + 3, 30, [some (.ref l0), some (.int l1), some (.int l2)], [], w) = some (some (.int l2), w) := by
  refine (val_g (c2 := (84, d + 3, 31, [some (.ref l0), some (.int l1), some (.int l2)], [.int l2], w)) rfl).trans ?_
  exact val_r (if_pos hy1)
/-- BelfryHouse$Reader.numberWithin(II)I -/
theorem tr_85 (d : Nat) (w : Wd) (o : Nat) (x0 : Int32) (x1 : Int32)    (m_o : Nat) (hk_o : wK w o = (4, m_o)) : val (85, d + 3, 0, [some (.ref o), some (.int x0), some (.int x1), none], [], w) = (if ¬ (gI w o 5) = 2 then val (85, d + 3, 25, [some (.ref o), some (.int x0), some (.int x1), none], [.ref o], w) else (if (gI w o 8) < x0 then val (85, d + 3, 25, [some (.ref o), some (.int x0), some (.int x1), none], [.ref o], w) else (if (gI w o 8) ≤ x1 then val (85, d + 3, 36, [some (.ref o), some (.int x0), some (.int x1), some (.int (gI w o 8))], [.ref o], w) else val (85, d + 3, 25, [some (.ref o), some (.int x0), some (.int x1), none], [.ref o], w)))) := by
  refine (val_g (c2 := (85, d + 3, 1, [some (.ref o), some (.int x0), some (.int x1), none], [.ref o], w)) rfl).trans ?_
  refine (val_gf rfl hk_o rfl).trans ?_
  show val (85, d + 3, 4, [some (.ref o), some (.int x0), some (.int x1), none], [.int (gI w o 5)], w) = _
  refine (val_g (c2 := (85, d + 3, 5, [some (.ref o), some (.int x0), some (.int x1), none], [.int 2, .int (gI w o 5)], w)) rfl).trans ?_
  by_cases hc452 : ¬ (gI w o 5) = 2
  · refine ((val_ic_ne rfl).trans (if_pos hc452)).trans ?_
    show val (85, d + 3, 24, [some (.ref o), some (.int x0), some (.int x1), none], [], w) = _
    refine Eq.trans ?_ (if_pos hc452).symm
    refine (val_g (c2 := (85, d + 3, 25, [some (.ref o), some (.int x0), some (.int x1), none], [.ref o], w)) rfl).trans ?_
    rfl
  · refine ((val_ic_ne rfl).trans (if_neg hc452)).trans ?_
    show val (85, d + 3, 8, [some (.ref o), some (.int x0), some (.int x1), none], [], w) = _
    refine Eq.trans ?_ (if_neg hc452).symm
    refine (val_g (c2 := (85, d + 3, 9, [some (.ref o), some (.int x0), some (.int x1), none], [.ref o], w)) rfl).trans ?_
    refine (val_gf rfl hk_o rfl).trans ?_
    show val (85, d + 3, 12, [some (.ref o), some (.int x0), some (.int x1), none], [.int (gI w o 8)], w) = _
    refine (val_g (c2 := (85, d + 3, 13, [some (.ref o), some (.int x0), some (.int x1), none], [.int x0, .int (gI w o 8)], w)) rfl).trans ?_
    by_cases hc453 : (gI w o 8) < x0
    · refine ((val_ic_lt rfl).trans (if_pos hc453)).trans ?_
      show val (85, d + 3, 24, [some (.ref o), some (.int x0), some (.int x1), none], [], w) = _
      refine Eq.trans ?_ (if_pos hc453).symm
      refine (val_g (c2 := (85, d + 3, 25, [some (.ref o), some (.int x0), some (.int x1), none], [.ref o], w)) rfl).trans ?_
      rfl
    · refine ((val_ic_lt rfl).trans (if_neg hc453)).trans ?_
      show val (85, d + 3, 16, [some (.ref o), some (.int x0), some (.int x1), none], [], w) = _
      refine Eq.trans ?_ (if_neg hc453).symm
      refine (val_g (c2 := (85, d + 3, 17, [some (.ref o), some (.int x0), some (.int x1), none], [.ref o], w)) rfl).trans ?_
      refine (val_gf rfl hk_o rfl).trans ?_
      show val (85, d + 3, 20, [some (.ref o), some (.int x0), some (.int x1), none], [.int (gI w o 8)], w) = _
      refine (val_g (c2 := (85, d + 3, 21, [some (.ref o), some (.int x0), some (.int x1), none], [.int x1, .int (gI w o 8)], w)) rfl).trans ?_
      by_cases hc454 : (gI w o 8) ≤ x1
      · refine ((val_ic_le rfl).trans (if_pos hc454)).trans ?_
        show val (85, d + 3, 30, [some (.ref o), some (.int x0), some (.int x1), none], [], w) = _
        refine Eq.trans ?_ (if_pos hc454).symm
        refine (val_g (c2 := (85, d + 3, 31, [some (.ref o), some (.int x0), some (.int x1), none], [.ref o], w)) rfl).trans ?_
        refine (val_gf rfl hk_o rfl).trans ?_
        show val (85, d + 3, 34, [some (.ref o), some (.int x0), some (.int x1), none], [.int (gI w o 8)], w) = _
        refine (val_g (c2 := (85, d + 3, 35, [some (.ref o), some (.int x0), some (.int x1), some (.int (gI w o 8))], [], w)) rfl).trans ?_
        refine (val_g (c2 := (85, d + 3, 36, [some (.ref o), some (.int x0), some (.int x1), some (.int (gI w o 8))], [.ref o], w)) rfl).trans ?_
        rfl
      · refine ((val_ic_le rfl).trans (if_neg hc454)).trans ?_
        show val (85, d + 3, 24, [some (.ref o), some (.int x0), some (.int x1), none], [], w) = _
        refine Eq.trans ?_ (if_neg hc454).symm
        refine (val_g (c2 := (85, d + 3, 25, [some (.ref o), some (.int x0), some (.int x1), none], [.ref o], w)) rfl).trans ?_
        rfl
theorem tr_85_28 (d : Nat) (w : Wd) (l0 : Nat) (l1 : Int32) (l2 : Int32)     : val (85, d + 3, 28, [some (.ref l0), some (.int l1), some (.int l2), none], [], w) = some (some (.int l1), w) := by
  refine (val_g (c2 := (85, d + 3, 29, [some (.ref l0), some (.int l1), some (.int l2), none], [.int l1], w)) rfl).trans ?_
  exact val_r rfl
theorem tr_85_39 (d : Nat) (w : Wd) (l0 : Nat) (l1 : Int32) (l2 : Int32) (l3 : Int32)     : val (85, d + 3, 39, [some (.ref l0), some (.int l1), some (.int l2), some (.int l3)], [], w) = some (some (.int l3), w) := by
  refine (val_g (c2 := (85, d + 3, 40, [some (.ref l0), some (.int l1), some (.int l2), some (.int l3)], [.int l3], w)) rfl).trans ?_
  exact val_r rfl
/-- BelfryHouse$Reader.numberBut(I)I -/
theorem tr_86 (d : Nat) (w : Wd) (o : Nat) (x0 : Int32)    (m_o : Nat) (hk_o : wK w o = (4, m_o)) : val (86, d + 4, 0, [some (.ref o), some (.int x0)], [], w) = (if ¬ (gI w o 5) = 2 then val (86, d + 4, 20, [some (.ref o), some (.int x0)], [], w) else (if ¬ (gI w o 8) = x0 then val (86, d + 4, 20, [some (.ref o), some (.int x0)], [], w) else val (86, d + 4, 17, [some (.ref o), some (.int x0)], [.ref o], w))) := by
  refine (val_g (c2 := (86, d + 4, 1, [some (.ref o), some (.int x0)], [.ref o], w)) rfl).trans ?_
  refine (val_gf rfl hk_o rfl).trans ?_
  show val (86, d + 4, 4, [some (.ref o), some (.int x0)], [.int (gI w o 5)], w) = _
  refine (val_g (c2 := (86, d + 4, 5, [some (.ref o), some (.int x0)], [.int 2, .int (gI w o 5)], w)) rfl).trans ?_
  by_cases hc457 : ¬ (gI w o 5) = 2
  · refine ((val_ic_ne rfl).trans (if_pos hc457)).trans ?_
    show val (86, d + 4, 20, [some (.ref o), some (.int x0)], [], w) = _
    refine Eq.trans ?_ (if_pos hc457).symm
    rfl
  · refine ((val_ic_ne rfl).trans (if_neg hc457)).trans ?_
    show val (86, d + 4, 8, [some (.ref o), some (.int x0)], [], w) = _
    refine Eq.trans ?_ (if_neg hc457).symm
    refine (val_g (c2 := (86, d + 4, 9, [some (.ref o), some (.int x0)], [.ref o], w)) rfl).trans ?_
    refine (val_gf rfl hk_o rfl).trans ?_
    show val (86, d + 4, 12, [some (.ref o), some (.int x0)], [.int (gI w o 8)], w) = _
    refine (val_g (c2 := (86, d + 4, 13, [some (.ref o), some (.int x0)], [.int x0, .int (gI w o 8)], w)) rfl).trans ?_
    by_cases hc458 : ¬ (gI w o 8) = x0
    · refine ((val_ic_ne rfl).trans (if_pos hc458)).trans ?_
      show val (86, d + 4, 20, [some (.ref o), some (.int x0)], [], w) = _
      refine Eq.trans ?_ (if_pos hc458).symm
      rfl
    · refine ((val_ic_ne rfl).trans (if_neg hc458)).trans ?_
      show val (86, d + 4, 16, [some (.ref o), some (.int x0)], [], w) = _
      refine Eq.trans ?_ (if_neg hc458).symm
      refine (val_g (c2 := (86, d + 4, 17, [some (.ref o), some (.int x0)], [.ref o], w)) rfl).trans ?_
      rfl
theorem tr_86_20 (d : Nat) (w : Wd) (l0 : Nat) (l1 : Int32)    (m_l0 : Nat) (hk_l0 : wK w l0 = (4, m_l0)) : val (86, d + 4, 20, [some (.ref l0), some (.int l1)], [], w) = val (86, d + 4, 26, [some (.ref l0), some (.int l1)], [.int (gI w l0 4), .int 1, .ref l0], w) := by
  refine (val_g (c2 := (86, d + 4, 21, [some (.ref l0), some (.int l1)], [.ref l0], w)) rfl).trans ?_
  refine (val_g (c2 := (86, d + 4, 22, [some (.ref l0), some (.int l1)], [.int 1, .ref l0], w)) rfl).trans ?_
  refine (val_g (c2 := (86, d + 4, 23, [some (.ref l0), some (.int l1)], [.ref l0, .int 1, .ref l0], w)) rfl).trans ?_
  refine (val_gf rfl hk_l0 rfl).trans ?_
  show val (86, d + 4, 26, [some (.ref l0), some (.int l1)], [.int (gI w l0 4), .int 1, .ref l0], w) = _
  rfl
theorem tr_86_29 (d : Nat) (w : Wd) (l0 : Nat) (l1 : Int32) (s0 : Int32)     : val (86, d + 4, 29, [some (.ref l0), some (.int l1)], [.int s0], w) = some (some (.int s0), w) := by
  exact val_r rfl
/-- BelfryHouse$Reader.readMethod()V -/
theorem tr_87 (d : Nat) (w : Wd) (o : Nat)     : val (87, d + 9, 0, [some (.ref o), none], [], w) = val (87, d + 9, 1, [some (.ref o), none], [.ref o], w) := by
  refine (val_g (c2 := (87, d + 9, 1, [some (.ref o), none], [.ref o], w)) rfl).trans ?_
  rfl
theorem tr_87_4 (d : Nat) (w : Wd) (l0 : Nat)     : val (87, d + 9, 4, [some (.ref l0), none], [], w) = val (87, d + 9, 6, [some (.ref l0), some (.int 0)], [], w) := by
  refine (val_g (c2 := (87, d + 9, 5, [some (.ref l0), none], [.int 0], w)) rfl).trans ?_
  refine (val_g (c2 := (87, d + 9, 6, [some (.ref l0), some (.int 0)], [], w)) rfl).trans ?_
  rfl
theorem tr_87_6 (d : Nat) (w : Wd) (l0 : Nat) (l1 : Int32)    (m_l0 : Nat) (hk_l0 : wK w l0 = (4, m_l0)) : val (87, d + 9, 6, [some (.ref l0), some (.int l1)], [], w) = (if 20 < l1 then some (none, w) else (if 0 ≤ (gI w l0 1) then some (none, w) else (if l1 = 0 then (if ¬ l1 = 20 then val (87, d + 9, 44, [some (.ref l0), some (.int l1)], [.ref l0], w) else val (87, d + 9, 37, [some (.ref l0), some (.int l1)], [.ref l0], w)) else (if (gI w l0 5) = 0 then some (none, w) else (if ¬ l1 = 20 then val (87, d + 9, 44, [some (.ref l0), some (.int l1)], [.ref l0], w) else val (87, d + 9, 37, [some (.ref l0), some (.int l1)], [.ref l0], w)))))) := by
  refine (val_g (c2 := (87, d + 9, 7, [some (.ref l0), some (.int l1)], [.int l1], w)) rfl).trans ?_
  refine (val_g (c2 := (87, d + 9, 9, [some (.ref l0), some (.int l1)], [.int 20, .int l1], w)) rfl).trans ?_
  by_cases hc465 : 20 < l1
  · refine ((val_ic_gt rfl).trans (if_pos hc465)).trans ?_
    show val (87, d + 9, 53, [some (.ref l0), some (.int l1)], [], w) = _
    refine Eq.trans ?_ (if_pos hc465).symm
    exact val_r rfl
  · refine ((val_ic_gt rfl).trans (if_neg hc465)).trans ?_
    show val (87, d + 9, 12, [some (.ref l0), some (.int l1)], [], w) = _
    refine Eq.trans ?_ (if_neg hc465).symm
    refine (val_g (c2 := (87, d + 9, 13, [some (.ref l0), some (.int l1)], [.ref l0], w)) rfl).trans ?_
    refine (val_gf rfl hk_l0 rfl).trans ?_
    show val (87, d + 9, 16, [some (.ref l0), some (.int l1)], [.int (gI w l0 1)], w) = _
    by_cases hc466 : 0 ≤ (gI w l0 1)
    · refine ((val_if_ge rfl).trans (if_pos hc466)).trans ?_
      show val (87, d + 9, 53, [some (.ref l0), some (.int l1)], [], w) = _
      refine Eq.trans ?_ (if_pos hc466).symm
      exact val_r rfl
    · refine ((val_if_ge rfl).trans (if_neg hc466)).trans ?_
      show val (87, d + 9, 19, [some (.ref l0), some (.int l1)], [], w) = _
      refine Eq.trans ?_ (if_neg hc466).symm
      refine (val_g (c2 := (87, d + 9, 20, [some (.ref l0), some (.int l1)], [.int l1], w)) rfl).trans ?_
      by_cases hc467 : l1 = 0
      · refine ((val_if_eq rfl).trans (if_pos hc467)).trans ?_
        show val (87, d + 9, 30, [some (.ref l0), some (.int l1)], [], w) = _
        refine Eq.trans ?_ (if_pos hc467).symm
        refine (val_g (c2 := (87, d + 9, 31, [some (.ref l0), some (.int l1)], [.int l1], w)) rfl).trans ?_
        refine (val_g (c2 := (87, d + 9, 33, [some (.ref l0), some (.int l1)], [.int 20, .int l1], w)) rfl).trans ?_
        by_cases hc468 : ¬ l1 = 20
        · refine ((val_ic_ne rfl).trans (if_pos hc468)).trans ?_
          show val (87, d + 9, 43, [some (.ref l0), some (.int l1)], [], w) = _
          refine Eq.trans ?_ (if_pos hc468).symm
          refine (val_g (c2 := (87, d + 9, 44, [some (.ref l0), some (.int l1)], [.ref l0], w)) rfl).trans ?_
          rfl
        · refine ((val_ic_ne rfl).trans (if_neg hc468)).trans ?_
          show val (87, d + 9, 36, [some (.ref l0), some (.int l1)], [], w) = _
          refine Eq.trans ?_ (if_neg hc468).symm
          refine (val_g (c2 := (87, d + 9, 37, [some (.ref l0), some (.int l1)], [.ref l0], w)) rfl).trans ?_
          rfl
      · refine ((val_if_eq rfl).trans (if_neg hc467)).trans ?_
        show val (87, d + 9, 23, [some (.ref l0), some (.int l1)], [], w) = _
        refine Eq.trans ?_ (if_neg hc467).symm
        refine (val_g (c2 := (87, d + 9, 24, [some (.ref l0), some (.int l1)], [.ref l0], w)) rfl).trans ?_
        refine (val_gf rfl hk_l0 rfl).trans ?_
        show val (87, d + 9, 27, [some (.ref l0), some (.int l1)], [.int (gI w l0 5)], w) = _
        by_cases hc469 : (gI w l0 5) = 0
        · refine ((val_if_eq rfl).trans (if_pos hc469)).trans ?_
          show val (87, d + 9, 53, [some (.ref l0), some (.int l1)], [], w) = _
          refine Eq.trans ?_ (if_pos hc469).symm
          exact val_r rfl
        · refine ((val_if_eq rfl).trans (if_neg hc469)).trans ?_
          show val (87, d + 9, 30, [some (.ref l0), some (.int l1)], [], w) = _
          refine Eq.trans ?_ (if_neg hc469).symm
          refine (val_g (c2 := (87, d + 9, 31, [some (.ref l0), some (.int l1)], [.int l1], w)) rfl).trans ?_
          refine (val_g (c2 := (87, d + 9, 33, [some (.ref l0), some (.int l1)], [.int 20, .int l1], w)) rfl).trans ?_
          by_cases hc470 : ¬ l1 = 20
          · refine ((val_ic_ne rfl).trans (if_pos hc470)).trans ?_
            show val (87, d + 9, 43, [some (.ref l0), some (.int l1)], [], w) = _
            refine Eq.trans ?_ (if_pos hc470).symm
            refine (val_g (c2 := (87, d + 9, 44, [some (.ref l0), some (.int l1)], [.ref l0], w)) rfl).trans ?_
            rfl
          · refine ((val_ic_ne rfl).trans (if_neg hc470)).trans ?_
            show val (87, d + 9, 36, [some (.ref l0), some (.int l1)], [], w) = _
            refine Eq.trans ?_ (if_neg hc470).symm
            refine (val_g (c2 := (87, d + 9, 37, [some (.ref l0), some (.int l1)], [.ref l0], w)) rfl).trans ?_
            rfl
theorem tr_87_40 (d : Nat) (w : Wd) (l0 : Nat) (l1 : Int32)     : val (87, d + 9, 40, [some (.ref l0), some (.int l1)], [], w) = val (87, d + 9, 47, [some (.ref l0), some (.int l1)], [], w) := by
  refine (val_g (c2 := (87, d + 9, 47, [some (.ref l0), some (.int l1)], [], w)) rfl).trans ?_
  rfl
theorem tr_87_47 (d : Nat) (w : Wd) (l0 : Nat) (l1 : Int32)     : val (87, d + 9, 47, [some (.ref l0), some (.int l1)], [], w) = val (87, d + 9, 6, [some (.ref l0), some (.int (l1 + 1))], [], w) := by
  refine (val_g (c2 := (87, d + 9, 50, [some (.ref l0), some (.int (l1 + 1))], [], w)) rfl).trans ?_
  refine (val_g (c2 := (87, d + 9, 6, [some (.ref l0), some (.int (l1 + 1))], [], w)) rfl).trans ?_
  rfl
/-- BelfryHouse$Reader.readRule()V -/
theorem tr_88_3 (d : Nat) (w : Wd) (l0 : Nat) (s0 : Nat)     : val (88, d + 8, 3, [some (.ref l0), none, none, none], [.ref s0], w) = val (88, d + 8, 4, [some (.ref l0), none, none, none], [.ref s0, .ref s0], w) := by
  refine (val_g (c2 := (88, d + 8, 4, [some (.ref l0), none, none, none], [.ref s0, .ref s0], w)) rfl).trans ?_
  rfl
theorem tr_88_7 (d : Nat) (w : Wd) (l0 : Nat) (s0 : Nat)     : val (88, d + 8, 7, [some (.ref l0), none, none, none], [.ref s0], w) = val (88, d + 8, 11, [some (.ref l0), some (.ref s0), none, none], [.ref 2, .ref l0], w) := by
  refine (val_g (c2 := (88, d + 8, 8, [some (.ref l0), some (.ref s0), none, none], [], w)) rfl).trans ?_
  refine (val_g (c2 := (88, d + 8, 9, [some (.ref l0), some (.ref s0), none, none], [.ref l0], w)) rfl).trans ?_
  refine (val_g (c2 := (88, d + 8, 11, [some (.ref l0), some (.ref s0), none, none], [.ref 2, .ref l0], w)) rfl).trans ?_
  rfl
theorem tr_88_14 (d : Nat) (w : Wd) (l0 : Nat) (l1 : Nat) (s0 : Int32)     : val (88, d + 8, 14, [some (.ref l0), some (.ref l1), none, none], [.int s0], w) = val (88, d + 8, 17, [some (.ref l0), some (.ref l1), some (.int s0), some (.int 0)], [], w) := by
  refine (val_g (c2 := (88, d + 8, 15, [some (.ref l0), some (.ref l1), some (.int s0), none], [], w)) rfl).trans ?_
  refine (val_g (c2 := (88, d + 8, 16, [some (.ref l0), some (.ref l1), some (.int s0), none], [.int 0], w)) rfl).trans ?_
  refine (val_g (c2 := (88, d + 8, 17, [some (.ref l0), some (.ref l1), some (.int s0), some (.int 0)], [], w)) rfl).trans ?_
  rfl
theorem tr_88_17 (d : Nat) (w : Wd) (l0 : Nat) (l1 : Nat) (l2 : Int32) (l3 : Int32)    (m_l0 : Nat) (hk_l0 : wK w l0 = (4, m_l0)) : val (88, d + 8, 17, [some (.ref l0), some (.ref l1), some (.int l2), some (.int l3)], [], w) = (if 8 < l3 then (if 0 ≤ (gI w l0 1) then (if 0 ≤ (gI w l0 1) then val (88, d + 8, 109, [some (.ref l0), some (.ref l1), some (.int l2), some (.int l3)], [], w) else val (88, d + 8, 99, [some (.ref l0), some (.ref l1), some (.int l2), some (.int l3)], [.int 59, .ref l0], w)) else val (88, d + 8, 83, [some (.ref l0), some (.ref l1), some (.int l2), some (.int l3)], [.int 0, .ref l0, .ref l1], w)) else (if l2 = 0 then (if 0 ≤ (gI w l0 1) then (if 0 ≤ (gI w l0 1) then val (88, d + 8, 109, [some (.ref l0), some (.ref l1), some (.int l2), some (.int l3)], [], w) else val (88, d + 8, 99, [some (.ref l0), some (.ref l1), some (.int l2), some (.int l3)], [.int 59, .ref l0], w)) else val (88, d + 8, 83, [some (.ref l0), some (.ref l1), some (.int l2), some (.int l3)], [.int 0, .ref l0, .ref l1], w)) else (if ¬ l3 = 8 then val (88, d + 8, 42, [some (.ref l0), some (.ref l1), some (.int l2), some (.int l3)], [.ref l1, .ref l0], w) else val (88, d + 8, 34, [some (.ref l0), some (.ref l1), some (.int l2), some (.int l3)], [.ref l0], w)))) := by
  refine (val_g (c2 := (88, d + 8, 18, [some (.ref l0), some (.ref l1), some (.int l2), some (.int l3)], [.int l3], w)) rfl).trans ?_
  refine (val_g (c2 := (88, d + 8, 20, [some (.ref l0), some (.ref l1), some (.int l2), some (.int l3)], [.int 8, .int l3], w)) rfl).trans ?_
  by_cases hc483 : 8 < l3
  · refine ((val_ic_gt rfl).trans (if_pos hc483)).trans ?_
    show val (88, d + 8, 73, [some (.ref l0), some (.ref l1), some (.int l2), some (.int l3)], [], w) = _
    refine Eq.trans ?_ (if_pos hc483).symm
    refine (val_g (c2 := (88, d + 8, 74, [some (.ref l0), some (.ref l1), some (.int l2), some (.int l3)], [.ref l0], w)) rfl).trans ?_
    refine (val_gf rfl hk_l0 rfl).trans ?_
    show val (88, d + 8, 77, [some (.ref l0), some (.ref l1), some (.int l2), some (.int l3)], [.int (gI w l0 1)], w) = _
    by_cases hc484 : 0 ≤ (gI w l0 1)
    · refine ((val_if_ge rfl).trans (if_pos hc484)).trans ?_
      show val (88, d + 8, 89, [some (.ref l0), some (.ref l1), some (.int l2), some (.int l3)], [], w) = _
      refine Eq.trans ?_ (if_pos hc484).symm
      refine (val_g (c2 := (88, d + 8, 90, [some (.ref l0), some (.ref l1), some (.int l2), some (.int l3)], [.ref l0], w)) rfl).trans ?_
      refine (val_gf rfl hk_l0 rfl).trans ?_
      show val (88, d + 8, 93, [some (.ref l0), some (.ref l1), some (.int l2), some (.int l3)], [.int (gI w l0 1)], w) = _
      by_cases hc485 : 0 ≤ (gI w l0 1)
      · refine ((val_if_ge rfl).trans (if_pos hc485)).trans ?_
        show val (88, d + 8, 109, [some (.ref l0), some (.ref l1), some (.int l2), some (.int l3)], [], w) = _
        refine Eq.trans ?_ (if_pos hc485).symm
        rfl
      · refine ((val_if_ge rfl).trans (if_neg hc485)).trans ?_
        show val (88, d + 8, 96, [some (.ref l0), some (.ref l1), some (.int l2), some (.int l3)], [], w) = _
        refine Eq.trans ?_ (if_neg hc485).symm
        refine (val_g (c2 := (88, d + 8, 97, [some (.ref l0), some (.ref l1), some (.int l2), some (.int l3)], [.ref l0], w)) rfl).trans ?_
        refine (val_g (c2 := (88, d + 8, 99, [some (.ref l0), some (.ref l1), some (.int l2), some (.int l3)], [.int 59, .ref l0], w)) rfl).trans ?_
        rfl
    · refine ((val_if_ge rfl).trans (if_neg hc484)).trans ?_
      show val (88, d + 8, 80, [some (.ref l0), some (.ref l1), some (.int l2), some (.int l3)], [], w) = _
      refine Eq.trans ?_ (if_neg hc484).symm
      refine (val_g (c2 := (88, d + 8, 81, [some (.ref l0), some (.ref l1), some (.int l2), some (.int l3)], [.ref l1], w)) rfl).trans ?_
      refine (val_g (c2 := (88, d + 8, 82, [some (.ref l0), some (.ref l1), some (.int l2), some (.int l3)], [.ref l0, .ref l1], w)) rfl).trans ?_
      refine (val_g (c2 := (88, d + 8, 83, [some (.ref l0), some (.ref l1), some (.int l2), some (.int l3)], [.int 0, .ref l0, .ref l1], w)) rfl).trans ?_
      rfl
  · refine ((val_ic_gt rfl).trans (if_neg hc483)).trans ?_
    show val (88, d + 8, 23, [some (.ref l0), some (.ref l1), some (.int l2), some (.int l3)], [], w) = _
    refine Eq.trans ?_ (if_neg hc483).symm
    refine (val_g (c2 := (88, d + 8, 24, [some (.ref l0), some (.ref l1), some (.int l2), some (.int l3)], [.int l2], w)) rfl).trans ?_
    by_cases hc486 : l2 = 0
    · refine ((val_if_eq rfl).trans (if_pos hc486)).trans ?_
      show val (88, d + 8, 73, [some (.ref l0), some (.ref l1), some (.int l2), some (.int l3)], [], w) = _
      refine Eq.trans ?_ (if_pos hc486).symm
      refine (val_g (c2 := (88, d + 8, 74, [some (.ref l0), some (.ref l1), some (.int l2), some (.int l3)], [.ref l0], w)) rfl).trans ?_
      refine (val_gf rfl hk_l0 rfl).trans ?_
      show val (88, d + 8, 77, [some (.ref l0), some (.ref l1), some (.int l2), some (.int l3)], [.int (gI w l0 1)], w) = _
      by_cases hc487 : 0 ≤ (gI w l0 1)
      · refine ((val_if_ge rfl).trans (if_pos hc487)).trans ?_
        show val (88, d + 8, 89, [some (.ref l0), some (.ref l1), some (.int l2), some (.int l3)], [], w) = _
        refine Eq.trans ?_ (if_pos hc487).symm
        refine (val_g (c2 := (88, d + 8, 90, [some (.ref l0), some (.ref l1), some (.int l2), some (.int l3)], [.ref l0], w)) rfl).trans ?_
        refine (val_gf rfl hk_l0 rfl).trans ?_
        show val (88, d + 8, 93, [some (.ref l0), some (.ref l1), some (.int l2), some (.int l3)], [.int (gI w l0 1)], w) = _
        by_cases hc488 : 0 ≤ (gI w l0 1)
        · refine ((val_if_ge rfl).trans (if_pos hc488)).trans ?_
          show val (88, d + 8, 109, [some (.ref l0), some (.ref l1), some (.int l2), some (.int l3)], [], w) = _
          refine Eq.trans ?_ (if_pos hc488).symm
          rfl
        · refine ((val_if_ge rfl).trans (if_neg hc488)).trans ?_
          show val (88, d + 8, 96, [some (.ref l0), some (.ref l1), some (.int l2), some (.int l3)], [], w) = _
          refine Eq.trans ?_ (if_neg hc488).symm
          refine (val_g (c2 := (88, d + 8, 97, [some (.ref l0), some (.ref l1), some (.int l2), some (.int l3)], [.ref l0], w)) rfl).trans ?_
          refine (val_g (c2 := (88, d + 8, 99, [some (.ref l0), some (.ref l1), some (.int l2), some (.int l3)], [.int 59, .ref l0], w)) rfl).trans ?_
          rfl
      · refine ((val_if_ge rfl).trans (if_neg hc487)).trans ?_
        show val (88, d + 8, 80, [some (.ref l0), some (.ref l1), some (.int l2), some (.int l3)], [], w) = _
        refine Eq.trans ?_ (if_neg hc487).symm
        refine (val_g (c2 := (88, d + 8, 81, [some (.ref l0), some (.ref l1), some (.int l2), some (.int l3)], [.ref l1], w)) rfl).trans ?_
        refine (val_g (c2 := (88, d + 8, 82, [some (.ref l0), some (.ref l1), some (.int l2), some (.int l3)], [.ref l0, .ref l1], w)) rfl).trans ?_
        refine (val_g (c2 := (88, d + 8, 83, [some (.ref l0), some (.ref l1), some (.int l2), some (.int l3)], [.int 0, .ref l0, .ref l1], w)) rfl).trans ?_
        rfl
    · refine ((val_if_eq rfl).trans (if_neg hc486)).trans ?_
      show val (88, d + 8, 27, [some (.ref l0), some (.ref l1), some (.int l2), some (.int l3)], [], w) = _
      refine Eq.trans ?_ (if_neg hc486).symm
      refine (val_g (c2 := (88, d + 8, 28, [some (.ref l0), some (.ref l1), some (.int l2), some (.int l3)], [.int l3], w)) rfl).trans ?_
      refine (val_g (c2 := (88, d + 8, 30, [some (.ref l0), some (.ref l1), some (.int l2), some (.int l3)], [.int 8, .int l3], w)) rfl).trans ?_
      by_cases hc489 : ¬ l3 = 8
      · refine ((val_ic_ne rfl).trans (if_pos hc489)).trans ?_
        show val (88, d + 8, 40, [some (.ref l0), some (.ref l1), some (.int l2), some (.int l3)], [], w) = _
        refine Eq.trans ?_ (if_pos hc489).symm
        refine (val_g (c2 := (88, d + 8, 41, [some (.ref l0), some (.ref l1), some (.int l2), some (.int l3)], [.ref l0], w)) rfl).trans ?_
        refine (val_g (c2 := (88, d + 8, 42, [some (.ref l0), some (.ref l1), some (.int l2), some (.int l3)], [.ref l1, .ref l0], w)) rfl).trans ?_
        rfl
      · refine ((val_ic_ne rfl).trans (if_neg hc489)).trans ?_
        show val (88, d + 8, 33, [some (.ref l0), some (.ref l1), some (.int l2), some (.int l3)], [], w) = _
        refine Eq.trans ?_ (if_neg hc489).symm
        refine (val_g (c2 := (88, d + 8, 34, [some (.ref l0), some (.ref l1), some (.int l2), some (.int l3)], [.ref l0], w)) rfl).trans ?_
        rfl
theorem tr_88_37 (d : Nat) (w : Wd) (l0 : Nat) (l1 : Nat) (l2 : Int32) (l3 : Int32)     : val (88, d + 8, 37, [some (.ref l0), some (.ref l1), some (.int l2), some (.int l3)], [], w) = val (88, d + 8, 45, [some (.ref l0), some (.ref l1), some (.int l2), some (.int l3)], [], w) := by
  refine (val_g (c2 := (88, d + 8, 45, [some (.ref l0), some (.ref l1), some (.int l2), some (.int l3)], [], w)) rfl).trans ?_
  rfl
theorem tr_88_45 (d : Nat) (w : Wd) (l0 : Nat) (l1 : Nat) (l2 : Int32) (l3 : Int32)    (m_l0 : Nat) (hk_l0 : wK w l0 = (4, m_l0)) : val (88, d + 8, 45, [some (.ref l0), some (.ref l1), some (.int l2), some (.int l3)], [], w) = (if 0 ≤ (gI w l0 1) then val (88, d + 8, 17, [some (.ref l0), some (.ref l1), some (.int 0), some (.int (l3 + 1))], [], w) else val (88, d + 8, 55, [some (.ref l0), some (.ref l1), some (.int l2), some (.int l3)], [.ref 10, .ref l0], w)) := by
  refine (val_g (c2 := (88, d + 8, 46, [some (.ref l0), some (.ref l1), some (.int l2), some (.int l3)], [.ref l0], w)) rfl).trans ?_
  refine (val_gf rfl hk_l0 rfl).trans ?_
  show val (88, d + 8, 49, [some (.ref l0), some (.ref l1), some (.int l2), some (.int l3)], [.int (gI w l0 1)], w) = _
  by_cases hc490 : 0 ≤ (gI w l0 1)
  · refine ((val_if_ge rfl).trans (if_pos hc490)).trans ?_
    show val (88, d + 8, 65, [some (.ref l0), some (.ref l1), some (.int l2), some (.int l3)], [], w) = _
    refine Eq.trans ?_ (if_pos hc490).symm
    refine (val_g (c2 := (88, d + 8, 66, [some (.ref l0), some (.ref l1), some (.int l2), some (.int l3)], [.int 0], w)) rfl).trans ?_
    refine (val_g (c2 := (88, d + 8, 67, [some (.ref l0), some (.ref l1), some (.int 0), some (.int l3)], [], w)) rfl).trans ?_
    refine (val_g (c2 := (88, d + 8, 70, [some (.ref l0), some (.ref l1), some (.int 0), some (.int (l3 + 1))], [], w)) rfl).trans ?_
    refine (val_g (c2 := (88, d + 8, 17, [some (.ref l0), some (.ref l1), some (.int 0), some (.int (l3 + 1))], [], w)) rfl).trans ?_
    rfl
  · refine ((val_if_ge rfl).trans (if_neg hc490)).trans ?_
    show val (88, d + 8, 52, [some (.ref l0), some (.ref l1), some (.int l2), some (.int l3)], [], w) = _
    refine Eq.trans ?_ (if_neg hc490).symm
    refine (val_g (c2 := (88, d + 8, 53, [some (.ref l0), some (.ref l1), some (.int l2), some (.int l3)], [.ref l0], w)) rfl).trans ?_
    refine (val_g (c2 := (88, d + 8, 55, [some (.ref l0), some (.ref l1), some (.int l2), some (.int l3)], [.ref 10, .ref l0], w)) rfl).trans ?_
    rfl
theorem tr_88_58 (d : Nat) (w : Wd) (l0 : Nat) (l1 : Nat) (l2 : Int32) (l3 : Int32) (s0 : Int32)     : val (88, d + 8, 58, [some (.ref l0), some (.ref l1), some (.int l2), some (.int l3)], [.int s0], w) = (if s0 = 0 then val (88, d + 8, 17, [some (.ref l0), some (.ref l1), some (.int 0), some (.int (l3 + 1))], [], w) else val (88, d + 8, 17, [some (.ref l0), some (.ref l1), some (.int 1), some (.int (l3 + 1))], [], w)) := by
  by_cases hc491 : s0 = 0
  · refine ((val_if_eq rfl).trans (if_pos hc491)).trans ?_
    show val (88, d + 8, 65, [some (.ref l0), some (.ref l1), some (.int l2), some (.int l3)], [], w) = _
    refine Eq.trans ?_ (if_pos hc491).symm
    refine (val_g (c2 := (88, d + 8, 66, [some (.ref l0), some (.ref l1), some (.int l2), some (.int l3)], [.int 0], w)) rfl).trans ?_
    refine (val_g (c2 := (88, d + 8, 67, [some (.ref l0), some (.ref l1), some (.int 0), some (.int l3)], [], w)) rfl).trans ?_
    refine (val_g (c2 := (88, d + 8, 70, [some (.ref l0), some (.ref l1), some (.int 0), some (.int (l3 + 1))], [], w)) rfl).trans ?_
    refine (val_g (c2 := (88, d + 8, 17, [some (.ref l0), some (.ref l1), some (.int 0), some (.int (l3 + 1))], [], w)) rfl).trans ?_
    rfl
  · refine ((val_if_eq rfl).trans (if_neg hc491)).trans ?_
    show val (88, d + 8, 61, [some (.ref l0), some (.ref l1), some (.int l2), some (.int l3)], [], w) = _
    refine Eq.trans ?_ (if_neg hc491).symm
    refine (val_g (c2 := (88, d + 8, 62, [some (.ref l0), some (.ref l1), some (.int l2), some (.int l3)], [.int 1], w)) rfl).trans ?_
    refine (val_g (c2 := (88, d + 8, 66, [some (.ref l0), some (.ref l1), some (.int l2), some (.int l3)], [.int 1], w)) rfl).trans ?_
    refine (val_g (c2 := (88, d + 8, 67, [some (.ref l0), some (.ref l1), some (.int 1), some (.int l3)], [], w)) rfl).trans ?_
    refine (val_g (c2 := (88, d + 8, 70, [some (.ref l0), some (.ref l1), some (.int 1), some (.int (l3 + 1))], [], w)) rfl).trans ?_
    refine (val_g (c2 := (88, d + 8, 17, [some (.ref l0), some (.ref l1), some (.int 1), some (.int (l3 + 1))], [], w)) rfl).trans ?_
    rfl
theorem tr_88_86 (d : Nat) (w : Wd) (l0 : Nat) (l1 : Nat) (l2 : Int32) (l3 : Int32) (s0 : Int32) (s1 : Nat)    (m_s1 : Nat) (hk_s1 : wK w s1 = (6, m_s1)) (m_l0 : Nat) (hk_l0 : wK w l0 = (4, m_l0)) : val (88, d + 8, 86, [some (.ref l0), some (.ref l1), some (.int l2), some (.int l3)], [.int s0, .ref s1], w) = (if 0 ≤ (gI ((sI w s1 5 s0)) l0 1) then val (88, d + 8, 109, [some (.ref l0), some (.ref l1), some (.int l2), some (.int l3)], [], (sI w s1 5 s0)) else val (88, d + 8, 99, [some (.ref l0), some (.ref l1), some (.int l2), some (.int l3)], [.int 59, .ref l0], (sI w s1 5 s0))) := by
  refine (val_pf rfl hk_s1 rfl).trans ?_
  show val (88, d + 8, 89, [some (.ref l0), some (.ref l1), some (.int l2), some (.int l3)], [], (sI w s1 5 s0)) = _
  refine (val_g (c2 := (88, d + 8, 90, [some (.ref l0), some (.ref l1), some (.int l2), some (.int l3)], [.ref l0], (sI w s1 5 s0))) rfl).trans ?_
  refine (val_gf (w := (sI w s1 5 s0)) rfl hk_l0 rfl).trans ?_
  show val (88, d + 8, 93, [some (.ref l0), some (.ref l1), some (.int l2), some (.int l3)], [.int (gI ((sI w s1 5 s0)) l0 1)], (sI w s1 5 s0)) = _
  by_cases hc492 : 0 ≤ (gI ((sI w s1 5 s0)) l0 1)
  · refine ((val_if_ge rfl).trans (if_pos hc492)).trans ?_
    show val (88, d + 8, 109, [some (.ref l0), some (.ref l1), some (.int l2), some (.int l3)], [], (sI w s1 5 s0)) = _
    refine Eq.trans ?_ (if_pos hc492).symm
    rfl
  · refine ((val_if_ge rfl).trans (if_neg hc492)).trans ?_
    show val (88, d + 8, 96, [some (.ref l0), some (.ref l1), some (.int l2), some (.int l3)], [], (sI w s1 5 s0)) = _
    refine Eq.trans ?_ (if_neg hc492).symm
    refine (val_g (c2 := (88, d + 8, 97, [some (.ref l0), some (.ref l1), some (.int l2), some (.int l3)], [.ref l0], (sI w s1 5 s0))) rfl).trans ?_
    refine (val_g (c2 := (88, d + 8, 99, [some (.ref l0), some (.ref l1), some (.int l2), some (.int l3)], [.int 59, .ref l0], (sI w s1 5 s0))) rfl).trans ?_
    rfl
theorem tr_88_102 (d : Nat) (w : Wd) (l0 : Nat) (l1 : Nat) (l2 : Int32) (l3 : Int32) (s0 : Int32)     : val (88, d + 8, 102, [some (.ref l0), some (.ref l1), some (.int l2), some (.int l3)], [.int s0], w) = (if ¬ s0 = 0 then val (88, d + 8, 109, [some (.ref l0), some (.ref l1), some (.int l2), some (.int l3)], [], w) else val (88, d + 8, 106, [some (.ref l0), some (.ref l1), some (.int l2), some (.int l3)], [.ref l0], w)) := by
  by_cases hc493 : ¬ s0 = 0
  · refine ((val_if_ne rfl).trans (if_pos hc493)).trans ?_
    show val (88, d + 8, 109, [some (.ref l0), some (.ref l1), some (.int l2), some (.int l3)], [], w) = _
    refine Eq.trans ?_ (if_pos hc493).symm
    rfl
  · refine ((val_if_ne rfl).trans (if_neg hc493)).trans ?_
    show val (88, d + 8, 105, [some (.ref l0), some (.ref l1), some (.int l2), some (.int l3)], [], w) = _
    refine Eq.trans ?_ (if_neg hc493).symm
    refine (val_g (c2 := (88, d + 8, 106, [some (.ref l0), some (.ref l1), some (.int l2), some (.int l3)], [.ref l0], w)) rfl).trans ?_
    rfl
theorem tr_88_109 (d : Nat) (w : Wd) (l0 : Nat) (l1 : Nat) (l2 : Int32) (l3 : Int32)    (m_l0 : Nat) (hk_l0 : wK w l0 = (4, m_l0)) (q0_l0 : Nat) (hr0_l0 : gR w l0 0 = some q0_l0) : val (88, d + 8, 109, [some (.ref l0), some (.ref l1), some (.int l2), some (.int l3)], [], w) = val (88, d + 8, 114, [some (.ref l0), some (.ref l1), some (.int l2), some (.int l3)], [.ref l1, .ref q0_l0], w) := by
  refine (val_g (c2 := (88, d + 8, 110, [some (.ref l0), some (.ref l1), some (.int l2), some (.int l3)], [.ref l0], w)) rfl).trans ?_
  refine (val_gf rfl hk_l0 (fvR hr0_l0)).trans ?_
  show val (88, d + 8, 113, [some (.ref l0), some (.ref l1), some (.int l2), some (.int l3)], [.ref q0_l0], w) = _
  refine (val_g (c2 := (88, d + 8, 114, [some (.ref l0), some (.ref l1), some (.int l2), some (.int l3)], [.ref l1, .ref q0_l0], w)) rfl).trans ?_
  rfl
theorem tr_88_117 (d : Nat) (w : Wd) (l0 : Nat) (l1 : Nat) (l2 : Int32) (l3 : Int32)     : val (88, d + 8, 117, [some (.ref l0), some (.ref l1), some (.int l2), some (.int l3)], [], w) = some (none, w) := by
  exact val_r rfl
/-- BelfryHouse$Reader.readCond(LBelfryHouse$Rule;)V -/
theorem tr_89 (d : Nat) (w : Wd) (o : Nat) (p0 : Nat)     : val (89, d + 7, 0, [some (.ref o), some (.ref p0), none, none], [], w) = val (89, d + 7, 3, [some (.ref o), some (.ref p0), none, none], [.ref 3, .ref o], w) := by
  refine (val_g (c2 := (89, d + 7, 1, [some (.ref o), some (.ref p0), none, none], [.ref o], w)) rfl).trans ?_
  refine (val_g (c2 := (89, d + 7, 3, [some (.ref o), some (.ref p0), none, none], [.ref 3, .ref o], w)) rfl).trans ?_
  rfl
theorem tr_89_6 (d : Nat) (w : Wd) (l0 : Nat) (l1 : Nat) (s0 : Int32)    (m_l0 : Nat) (hk_l0 : wK w l0 = (4, m_l0)) : val (89, d + 7, 6, [some (.ref l0), some (.ref l1), none, none], [.int s0], w) = (if ¬ (gI w l0 5) = 2 then val (89, d + 7, 27, [some (.ref l0), some (.ref l1), some (.int s0), none], [.ref 6, .ref l0], w) else val (89, d + 7, 18, [some (.ref l0), some (.ref l1), some (.int s0), none], [.int s0, .ref l1, .ref l0], w)) := by
  refine (val_g (c2 := (89, d + 7, 7, [some (.ref l0), some (.ref l1), some (.int s0), none], [], w)) rfl).trans ?_
  refine (val_g (c2 := (89, d + 7, 8, [some (.ref l0), some (.ref l1), some (.int s0), none], [.ref l0], w)) rfl).trans ?_
  refine (val_gf rfl hk_l0 rfl).trans ?_
  show val (89, d + 7, 11, [some (.ref l0), some (.ref l1), some (.int s0), none], [.int (gI w l0 5)], w) = _
  refine (val_g (c2 := (89, d + 7, 12, [some (.ref l0), some (.ref l1), some (.int s0), none], [.int 2, .int (gI w l0 5)], w)) rfl).trans ?_
  by_cases hc499 : ¬ (gI w l0 5) = 2
  · refine ((val_ic_ne rfl).trans (if_pos hc499)).trans ?_
    show val (89, d + 7, 24, [some (.ref l0), some (.ref l1), some (.int s0), none], [], w) = _
    refine Eq.trans ?_ (if_pos hc499).symm
    refine (val_g (c2 := (89, d + 7, 25, [some (.ref l0), some (.ref l1), some (.int s0), none], [.ref l0], w)) rfl).trans ?_
    refine (val_g (c2 := (89, d + 7, 27, [some (.ref l0), some (.ref l1), some (.int s0), none], [.ref 6, .ref l0], w)) rfl).trans ?_
    rfl
  · refine ((val_ic_ne rfl).trans (if_neg hc499)).trans ?_
    show val (89, d + 7, 15, [some (.ref l0), some (.ref l1), some (.int s0), none], [], w) = _
    refine Eq.trans ?_ (if_neg hc499).symm
    refine (val_g (c2 := (89, d + 7, 16, [some (.ref l0), some (.ref l1), some (.int s0), none], [.ref l0], w)) rfl).trans ?_
    refine (val_g (c2 := (89, d + 7, 17, [some (.ref l0), some (.ref l1), some (.int s0), none], [.ref l1, .ref l0], w)) rfl).trans ?_
    refine (val_g (c2 := (89, d + 7, 18, [some (.ref l0), some (.ref l1), some (.int s0), none], [.int s0, .ref l1, .ref l0], w)) rfl).trans ?_
    rfl
theorem tr_89_21 (d : Nat) (w : Wd) (l0 : Nat) (l1 : Nat) (l2 : Int32)     : val (89, d + 7, 21, [some (.ref l0), some (.ref l1), some (.int l2), none], [], w) = val (89, d + 7, 123, [some (.ref l0), some (.ref l1), some (.int l2), none], [], w) := by
  refine (val_g (c2 := (89, d + 7, 123, [some (.ref l0), some (.ref l1), some (.int l2), none], [], w)) rfl).trans ?_
  rfl
theorem tr_89_30 (d : Nat) (w : Wd) (l0 : Nat) (l1 : Nat) (l2 : Int32) (s0 : Int32)     : val (89, d + 7, 30, [some (.ref l0), some (.ref l1), some (.int l2), none], [.int s0], w) = (if s0 = 0 then val (89, d + 7, 47, [some (.ref l0), some (.ref l1), some (.int l2), none], [.ref 7, .ref l0], w) else val (89, d + 7, 38, [some (.ref l0), some (.ref l1), some (.int l2), none], [.int 0, .int 0, .int 2, .int l2, .ref l1], w)) := by
  by_cases hc500 : s0 = 0
  · refine ((val_if_eq rfl).trans (if_pos hc500)).trans ?_
    show val (89, d + 7, 44, [some (.ref l0), some (.ref l1), some (.int l2), none], [], w) = _
    refine Eq.trans ?_ (if_pos hc500).symm
    refine (val_g (c2 := (89, d + 7, 45, [some (.ref l0), some (.ref l1), some (.int l2), none], [.ref l0], w)) rfl).trans ?_
    refine (val_g (c2 := (89, d + 7, 47, [some (.ref l0), some (.ref l1), some (.int l2), none], [.ref 7, .ref l0], w)) rfl).trans ?_
    rfl
  · refine ((val_if_eq rfl).trans (if_neg hc500)).trans ?_
    show val (89, d + 7, 33, [some (.ref l0), some (.ref l1), some (.int l2), none], [], w) = _
    refine Eq.trans ?_ (if_neg hc500).symm
    refine (val_g (c2 := (89, d + 7, 34, [some (.ref l0), some (.ref l1), some (.int l2), none], [.ref l1], w)) rfl).trans ?_
    refine (val_g (c2 := (89, d + 7, 35, [some (.ref l0), some (.ref l1), some (.int l2), none], [.int l2, .ref l1], w)) rfl).trans ?_
    refine (val_g (c2 := (89, d + 7, 36, [some (.ref l0), some (.ref l1), some (.int l2), none], [.int 2, .int l2, .ref l1], w)) rfl).trans ?_
    refine (val_g (c2 := (89, d + 7, 37, [some (.ref l0), some (.ref l1), some (.int l2), none], [.int 0, .int 2, .int l2, .ref l1], w)) rfl).trans ?_
    refine (val_g (c2 := (89, d + 7, 38, [some (.ref l0), some (.ref l1), some (.int l2), none], [.int 0, .int 0, .int 2, .int l2, .ref l1], w)) rfl).trans ?_
    rfl
theorem tr_89_41 (d : Nat) (w : Wd) (l0 : Nat) (l1 : Nat) (l2 : Int32)     : val (89, d + 7, 41, [some (.ref l0), some (.ref l1), some (.int l2), none], [], w) = val (89, d + 7, 123, [some (.ref l0), some (.ref l1), some (.int l2), none], [], w) := by
  refine (val_g (c2 := (89, d + 7, 123, [some (.ref l0), some (.ref l1), some (.int l2), none], [], w)) rfl).trans ?_
  rfl
theorem tr_89_50 (d : Nat) (w : Wd) (l0 : Nat) (l1 : Nat) (l2 : Int32) (s0 : Int32)     : val (89, d + 7, 50, [some (.ref l0), some (.ref l1), some (.int l2), none], [.int s0], w) = (if s0 = 0 then val (89, d + 7, 67, [some (.ref l0), some (.ref l1), some (.int l2), none], [.ref 8, .ref l0], w) else val (89, d + 7, 58, [some (.ref l0), some (.ref l1), some (.int l2), none], [.int 0, .int 0, .int 3, .int l2, .ref l1], w)) := by
  by_cases hc501 : s0 = 0
  · refine ((val_if_eq rfl).trans (if_pos hc501)).trans ?_
    show val (89, d + 7, 64, [some (.ref l0), some (.ref l1), some (.int l2), none], [], w) = _
    refine Eq.trans ?_ (if_pos hc501).symm
    refine (val_g (c2 := (89, d + 7, 65, [some (.ref l0), some (.ref l1), some (.int l2), none], [.ref l0], w)) rfl).trans ?_
    refine (val_g (c2 := (89, d + 7, 67, [some (.ref l0), some (.ref l1), some (.int l2), none], [.ref 8, .ref l0], w)) rfl).trans ?_
    rfl
  · refine ((val_if_eq rfl).trans (if_neg hc501)).trans ?_
    show val (89, d + 7, 53, [some (.ref l0), some (.ref l1), some (.int l2), none], [], w) = _
    refine Eq.trans ?_ (if_neg hc501).symm
    refine (val_g (c2 := (89, d + 7, 54, [some (.ref l0), some (.ref l1), some (.int l2), none], [.ref l1], w)) rfl).trans ?_
    refine (val_g (c2 := (89, d + 7, 55, [some (.ref l0), some (.ref l1), some (.int l2), none], [.int l2, .ref l1], w)) rfl).trans ?_
    refine (val_g (c2 := (89, d + 7, 56, [some (.ref l0), some (.ref l1), some (.int l2), none], [.int 3, .int l2, .ref l1], w)) rfl).trans ?_
    refine (val_g (c2 := (89, d + 7, 57, [some (.ref l0), some (.ref l1), some (.int l2), none], [.int 0, .int 3, .int l2, .ref l1], w)) rfl).trans ?_
    refine (val_g (c2 := (89, d + 7, 58, [some (.ref l0), some (.ref l1), some (.int l2), none], [.int 0, .int 0, .int 3, .int l2, .ref l1], w)) rfl).trans ?_
    rfl
theorem tr_89_61 (d : Nat) (w : Wd) (l0 : Nat) (l1 : Nat) (l2 : Int32)     : val (89, d + 7, 61, [some (.ref l0), some (.ref l1), some (.int l2), none], [], w) = val (89, d + 7, 123, [some (.ref l0), some (.ref l1), some (.int l2), none], [], w) := by
  refine (val_g (c2 := (89, d + 7, 123, [some (.ref l0), some (.ref l1), some (.int l2), none], [], w)) rfl).trans ?_
  rfl
theorem tr_89_70 (d : Nat) (w : Wd) (l0 : Nat) (l1 : Nat) (l2 : Int32) (s0 : Int32)     : val (89, d + 7, 70, [some (.ref l0), some (.ref l1), some (.int l2), none], [.int s0], w) = (if s0 = 0 then val (89, d + 7, 87, [some (.ref l0), some (.ref l1), some (.int l2), none], [.ref 9, .ref l0], w) else val (89, d + 7, 78, [some (.ref l0), some (.ref l1), some (.int l2), none], [.int 0, .int 0, .int 4, .int l2, .ref l1], w)) := by
  by_cases hc502 : s0 = 0
  · refine ((val_if_eq rfl).trans (if_pos hc502)).trans ?_
    show val (89, d + 7, 84, [some (.ref l0), some (.ref l1), some (.int l2), none], [], w) = _
    refine Eq.trans ?_ (if_pos hc502).symm
    refine (val_g (c2 := (89, d + 7, 85, [some (.ref l0), some (.ref l1), some (.int l2), none], [.ref l0], w)) rfl).trans ?_
    refine (val_g (c2 := (89, d + 7, 87, [some (.ref l0), some (.ref l1), some (.int l2), none], [.ref 9, .ref l0], w)) rfl).trans ?_
    rfl
  · refine ((val_if_eq rfl).trans (if_neg hc502)).trans ?_
    show val (89, d + 7, 73, [some (.ref l0), some (.ref l1), some (.int l2), none], [], w) = _
    refine Eq.trans ?_ (if_neg hc502).symm
    refine (val_g (c2 := (89, d + 7, 74, [some (.ref l0), some (.ref l1), some (.int l2), none], [.ref l1], w)) rfl).trans ?_
    refine (val_g (c2 := (89, d + 7, 75, [some (.ref l0), some (.ref l1), some (.int l2), none], [.int l2, .ref l1], w)) rfl).trans ?_
    refine (val_g (c2 := (89, d + 7, 76, [some (.ref l0), some (.ref l1), some (.int l2), none], [.int 4, .int l2, .ref l1], w)) rfl).trans ?_
    refine (val_g (c2 := (89, d + 7, 77, [some (.ref l0), some (.ref l1), some (.int l2), none], [.int 0, .int 4, .int l2, .ref l1], w)) rfl).trans ?_
    refine (val_g (c2 := (89, d + 7, 78, [some (.ref l0), some (.ref l1), some (.int l2), none], [.int 0, .int 0, .int 4, .int l2, .ref l1], w)) rfl).trans ?_
    rfl
theorem tr_89_81 (d : Nat) (w : Wd) (l0 : Nat) (l1 : Nat) (l2 : Int32)     : val (89, d + 7, 81, [some (.ref l0), some (.ref l1), some (.int l2), none], [], w) = val (89, d + 7, 123, [some (.ref l0), some (.ref l1), some (.int l2), none], [], w) := by
  refine (val_g (c2 := (89, d + 7, 123, [some (.ref l0), some (.ref l1), some (.int l2), none], [], w)) rfl).trans ?_
  rfl
theorem tr_89_90 (d : Nat) (w : Wd) (l0 : Nat) (l1 : Nat) (l2 : Int32) (s0 : Int32)     : val (89, d + 7, 90, [some (.ref l0), some (.ref l1), some (.int l2), none], [.int s0], w) = (if s0 = 0 then val (89, d + 7, 120, [some (.ref l0), some (.ref l1), some (.int l2), none], [.ref l0], w) else val (89, d + 7, 97, [some (.ref l0), some (.ref l1), some (.int l2), none], [.int 99, .int 1, .ref l0], w)) := by
  by_cases hc503 : s0 = 0
  · refine ((val_if_eq rfl).trans (if_pos hc503)).trans ?_
    show val (89, d + 7, 119, [some (.ref l0), some (.ref l1), some (.int l2), none], [], w) = _
    refine Eq.trans ?_ (if_pos hc503).symm
    refine (val_g (c2 := (89, d + 7, 120, [some (.ref l0), some (.ref l1), some (.int l2), none], [.ref l0], w)) rfl).trans ?_
    rfl
  · refine ((val_if_eq rfl).trans (if_neg hc503)).trans ?_
    show val (89, d + 7, 93, [some (.ref l0), some (.ref l1), some (.int l2), none], [], w) = _
    refine Eq.trans ?_ (if_neg hc503).symm
    refine (val_g (c2 := (89, d + 7, 94, [some (.ref l0), some (.ref l1), some (.int l2), none], [.ref l0], w)) rfl).trans ?_
    refine (val_g (c2 := (89, d + 7, 95, [some (.ref l0), some (.ref l1), some (.int l2), none], [.int 1, .ref l0], w)) rfl).trans ?_
    refine (val_g (c2 := (89, d + 7, 97, [some (.ref l0), some (.ref l1), some (.int l2), none], [.int 99, .int 1, .ref l0], w)) rfl).trans ?_
    rfl
theorem tr_89_100 (d : Nat) (w : Wd) (l0 : Nat) (l1 : Nat) (l2 : Int32) (s0 : Int32)     : val (89, d + 7, 100, [some (.ref l0), some (.ref l1), some (.int l2), none], [.int s0], w) = val (89, d + 7, 110, [some (.ref l0), some (.ref l1), some (.int l2), some (.int s0)], [.int (s0 - 1), .int 0, .ref l0, .int s0, .int 5, .int l2, .ref l1], w) := by
  refine (val_g (c2 := (89, d + 7, 101, [some (.ref l0), some (.ref l1), some (.int l2), some (.int s0)], [], w)) rfl).trans ?_
  refine (val_g (c2 := (89, d + 7, 102, [some (.ref l0), some (.ref l1), some (.int l2), some (.int s0)], [.ref l1], w)) rfl).trans ?_
  refine (val_g (c2 := (89, d + 7, 103, [some (.ref l0), some (.ref l1), some (.int l2), some (.int s0)], [.int l2, .ref l1], w)) rfl).trans ?_
  refine (val_g (c2 := (89, d + 7, 104, [some (.ref l0), some (.ref l1), some (.int l2), some (.int s0)], [.int 5, .int l2, .ref l1], w)) rfl).trans ?_
  refine (val_g (c2 := (89, d + 7, 105, [some (.ref l0), some (.ref l1), some (.int l2), some (.int s0)], [.int s0, .int 5, .int l2, .ref l1], w)) rfl).trans ?_
  refine (val_g (c2 := (89, d + 7, 106, [some (.ref l0), some (.ref l1), some (.int l2), some (.int s0)], [.ref l0, .int s0, .int 5, .int l2, .ref l1], w)) rfl).trans ?_
  refine (val_g (c2 := (89, d + 7, 107, [some (.ref l0), some (.ref l1), some (.int l2), some (.int s0)], [.int 0, .ref l0, .int s0, .int 5, .int l2, .ref l1], w)) rfl).trans ?_
  refine (val_g (c2 := (89, d + 7, 108, [some (.ref l0), some (.ref l1), some (.int l2), some (.int s0)], [.int s0, .int 0, .ref l0, .int s0, .int 5, .int l2, .ref l1], w)) rfl).trans ?_
  refine (val_g (c2 := (89, d + 7, 109, [some (.ref l0), some (.ref l1), some (.int l2), some (.int s0)], [.int 1, .int s0, .int 0, .ref l0, .int s0, .int 5, .int l2, .ref l1], w)) rfl).trans ?_
  refine (val_g (c2 := (89, d + 7, 110, [some (.ref l0), some (.ref l1), some (.int l2), some (.int s0)], [.int (s0 - 1), .int 0, .ref l0, .int s0, .int 5, .int l2, .ref l1], w)) rfl).trans ?_
  rfl
theorem tr_89_116 (d : Nat) (w : Wd) (l0 : Nat) (l1 : Nat) (l2 : Int32) (l3 : Int32)     : val (89, d + 7, 116, [some (.ref l0), some (.ref l1), some (.int l2), some (.int l3)], [], w) = val (89, d + 7, 123, [some (.ref l0), some (.ref l1), some (.int l2), some (.int l3)], [], w) := by
  refine (val_g (c2 := (89, d + 7, 123, [some (.ref l0), some (.ref l1), some (.int l2), some (.int l3)], [], w)) rfl).trans ?_
  rfl
theorem tr_89_123 (d : Nat) (w : Wd) (l0 : Nat) (l1 : Nat) (l2 : Int32)     : val (89, d + 7, 123, [some (.ref l0), some (.ref l1), some (.int l2), none], [], w) = some (none, w) := by
  exact val_r rfl
/-- BelfryHouse$Reader.readPlacing(LBelfryHouse$Rule;Z)V -/
theorem tr_90 (d : Nat) (w : Wd) (o : Nat) (p0 : Nat) (x1 : Int32)    (m_o : Nat) (hk_o : wK w o = (4, m_o)) : val (90, d + 6, 0, [some (.ref o), some (.ref p0), some (.int x1), none], [], w) = val (90, d + 6, 6, [some (.ref o), some (.ref p0), some (.int x1), none], [.int (gI w o 4), .int 1, .ref o], w) := by
  refine (val_g (c2 := (90, d + 6, 1, [some (.ref o), some (.ref p0), some (.int x1), none], [.ref o], w)) rfl).trans ?_
  refine (val_g (c2 := (90, d + 6, 2, [some (.ref o), some (.ref p0), some (.int x1), none], [.int 1, .ref o], w)) rfl).trans ?_
  refine (val_g (c2 := (90, d + 6, 3, [some (.ref o), some (.ref p0), some (.int x1), none], [.ref o, .int 1, .ref o], w)) rfl).trans ?_
  refine (val_gf rfl hk_o rfl).trans ?_
  show val (90, d + 6, 6, [some (.ref o), some (.ref p0), some (.int x1), none], [.int (gI w o 4), .int 1, .ref o], w) = _
  rfl
theorem tr_90_9 (d : Nat) (w : Wd) (l0 : Nat) (l1 : Nat) (l2 : Int32) (s0 : Int32)     : val (90, d + 6, 9, [some (.ref l0), some (.ref l1), some (.int l2), none], [.int s0], w) = val (90, d + 6, 13, [some (.ref l0), some (.ref l1), some (.int l2), some (.int s0)], [.ref 4, .ref l0], w) := by
  refine (val_g (c2 := (90, d + 6, 10, [some (.ref l0), some (.ref l1), some (.int l2), some (.int s0)], [], w)) rfl).trans ?_
  refine (val_g (c2 := (90, d + 6, 11, [some (.ref l0), some (.ref l1), some (.int l2), some (.int s0)], [.ref l0], w)) rfl).trans ?_
  refine (val_g (c2 := (90, d + 6, 13, [some (.ref l0), some (.ref l1), some (.int l2), some (.int s0)], [.ref 4, .ref l0], w)) rfl).trans ?_
  rfl
theorem tr_90_16 (d : Nat) (w : Wd) (l0 : Nat) (l1 : Nat) (l2 : Int32) (l3 : Int32) (s0 : Int32)    (m_l0 : Nat) (hk_l0 : wK w l0 = (4, m_l0)) : val (90, d + 6, 16, [some (.ref l0), some (.ref l1), some (.int l2), some (.int l3)], [.int s0], w) = (if s0 = 0 then val (90, d + 6, 41, [some (.ref l0), some (.ref l1), some (.int l2), some (.int l3)], [.ref 5, .ref l0], w) else val (90, d + 6, 29, [some (.ref l0), some (.ref l1), some (.int l2), some (.int l3)], [.int (gI w l0 4), .int 1, .ref l0, .int l3, .int 0, .int l2, .ref l1], w)) := by
  by_cases hc506 : s0 = 0
  · refine ((val_if_eq rfl).trans (if_pos hc506)).trans ?_
    show val (90, d + 6, 38, [some (.ref l0), some (.ref l1), some (.int l2), some (.int l3)], [], w) = _
    refine Eq.trans ?_ (if_pos hc506).symm
    refine (val_g (c2 := (90, d + 6, 39, [some (.ref l0), some (.ref l1), some (.int l2), some (.int l3)], [.ref l0], w)) rfl).trans ?_
    refine (val_g (c2 := (90, d + 6, 41, [some (.ref l0), some (.ref l1), some (.int l2), some (.int l3)], [.ref 5, .ref l0], w)) rfl).trans ?_
    rfl
  · refine ((val_if_eq rfl).trans (if_neg hc506)).trans ?_
    show val (90, d + 6, 19, [some (.ref l0), some (.ref l1), some (.int l2), some (.int l3)], [], w) = _
    refine Eq.trans ?_ (if_neg hc506).symm
    refine (val_g (c2 := (90, d + 6, 20, [some (.ref l0), some (.ref l1), some (.int l2), some (.int l3)], [.ref l1], w)) rfl).trans ?_
    refine (val_g (c2 := (90, d + 6, 21, [some (.ref l0), some (.ref l1), some (.int l2), some (.int l3)], [.int l2, .ref l1], w)) rfl).trans ?_
    refine (val_g (c2 := (90, d + 6, 22, [some (.ref l0), some (.ref l1), some (.int l2), some (.int l3)], [.int 0, .int l2, .ref l1], w)) rfl).trans ?_
    refine (val_g (c2 := (90, d + 6, 23, [some (.ref l0), some (.ref l1), some (.int l2), some (.int l3)], [.int l3, .int 0, .int l2, .ref l1], w)) rfl).trans ?_
    refine (val_g (c2 := (90, d + 6, 24, [some (.ref l0), some (.ref l1), some (.int l2), some (.int l3)], [.ref l0, .int l3, .int 0, .int l2, .ref l1], w)) rfl).trans ?_
    refine (val_g (c2 := (90, d + 6, 25, [some (.ref l0), some (.ref l1), some (.int l2), some (.int l3)], [.int 1, .ref l0, .int l3, .int 0, .int l2, .ref l1], w)) rfl).trans ?_
    refine (val_g (c2 := (90, d + 6, 26, [some (.ref l0), some (.ref l1), some (.int l2), some (.int l3)], [.ref l0, .int 1, .ref l0, .int l3, .int 0, .int l2, .ref l1], w)) rfl).trans ?_
    refine (val_gf rfl hk_l0 rfl).trans ?_
    show val (90, d + 6, 29, [some (.ref l0), some (.ref l1), some (.int l2), some (.int l3)], [.int (gI w l0 4), .int 1, .ref l0, .int l3, .int 0, .int l2, .ref l1], w) = _
    rfl
theorem tr_90_35 (d : Nat) (w : Wd) (l0 : Nat) (l1 : Nat) (l2 : Int32) (l3 : Int32)     : val (90, d + 6, 35, [some (.ref l0), some (.ref l1), some (.int l2), some (.int l3)], [], w) = val (90, d + 6, 66, [some (.ref l0), some (.ref l1), some (.int l2), some (.int l3)], [], w) := by
  refine (val_g (c2 := (90, d + 6, 66, [some (.ref l0), some (.ref l1), some (.int l2), some (.int l3)], [], w)) rfl).trans ?_
  rfl
theorem tr_90_44 (d : Nat) (w : Wd) (l0 : Nat) (l1 : Nat) (l2 : Int32) (l3 : Int32) (s0 : Int32)     : val (90, d + 6, 44, [some (.ref l0), some (.ref l1), some (.int l2), some (.int l3)], [.int s0], w) = (if s0 = 0 then val (90, d + 6, 63, [some (.ref l0), some (.ref l1), some (.int l2), some (.int l3)], [.ref l0], w) else val (90, d + 6, 53, [some (.ref l0), some (.ref l1), some (.int l2), some (.int l3)], [.int l3, .ref l0, .int l3, .int 1, .int l2, .ref l1], w)) := by
  by_cases hc507 : s0 = 0
  · refine ((val_if_eq rfl).trans (if_pos hc507)).trans ?_
    show val (90, d + 6, 62, [some (.ref l0), some (.ref l1), some (.int l2), some (.int l3)], [], w) = _
    refine Eq.trans ?_ (if_pos hc507).symm
    refine (val_g (c2 := (90, d + 6, 63, [some (.ref l0), some (.ref l1), some (.int l2), some (.int l3)], [.ref l0], w)) rfl).trans ?_
    rfl
  · refine ((val_if_eq rfl).trans (if_neg hc507)).trans ?_
    show val (90, d + 6, 47, [some (.ref l0), some (.ref l1), some (.int l2), some (.int l3)], [], w) = _
    refine Eq.trans ?_ (if_neg hc507).symm
    refine (val_g (c2 := (90, d + 6, 48, [some (.ref l0), some (.ref l1), some (.int l2), some (.int l3)], [.ref l1], w)) rfl).trans ?_
    refine (val_g (c2 := (90, d + 6, 49, [some (.ref l0), some (.ref l1), some (.int l2), some (.int l3)], [.int l2, .ref l1], w)) rfl).trans ?_
    refine (val_g (c2 := (90, d + 6, 50, [some (.ref l0), some (.ref l1), some (.int l2), some (.int l3)], [.int 1, .int l2, .ref l1], w)) rfl).trans ?_
    refine (val_g (c2 := (90, d + 6, 51, [some (.ref l0), some (.ref l1), some (.int l2), some (.int l3)], [.int l3, .int 1, .int l2, .ref l1], w)) rfl).trans ?_
    refine (val_g (c2 := (90, d + 6, 52, [some (.ref l0), some (.ref l1), some (.int l2), some (.int l3)], [.ref l0, .int l3, .int 1, .int l2, .ref l1], w)) rfl).trans ?_
    refine (val_g (c2 := (90, d + 6, 53, [some (.ref l0), some (.ref l1), some (.int l2), some (.int l3)], [.int l3, .ref l0, .int l3, .int 1, .int l2, .ref l1], w)) rfl).trans ?_
    rfl
theorem tr_90_59 (d : Nat) (w : Wd) (l0 : Nat) (l1 : Nat) (l2 : Int32) (l3 : Int32)     : val (90, d + 6, 59, [some (.ref l0), some (.ref l1), some (.int l2), some (.int l3)], [], w) = val (90, d + 6, 66, [some (.ref l0), some (.ref l1), some (.int l2), some (.int l3)], [], w) := by
  refine (val_g (c2 := (90, d + 6, 66, [some (.ref l0), some (.ref l1), some (.int l2), some (.int l3)], [], w)) rfl).trans ?_
  rfl
theorem tr_90_66 (d : Nat) (w : Wd) (l0 : Nat) (l1 : Nat) (l2 : Int32) (l3 : Int32)     : val (90, d + 6, 66, [some (.ref l0), some (.ref l1), some (.int l2), some (.int l3)], [], w) = some (none, w) := by
  exact val_r rfl
/-- BelfryHouse$Reader.readChange(I)I -/
theorem tr_91 (d : Nat) (w : Wd) (o : Nat) (x0 : Int32)    (m_o : Nat) (hk_o : wK w o = (4, m_o)) : val (91, d + 6, 0, [some (.ref o), some (.int x0), none, none], [], w) = val (91, d + 6, 4, [some (.ref o), some (.int x0), none, none], [.int (gI w o 4)], w) := by
  refine (val_g (c2 := (91, d + 6, 1, [some (.ref o), some (.int x0), none, none], [.ref o], w)) rfl).trans ?_
  refine (val_gf rfl hk_o rfl).trans ?_
  show val (91, d + 6, 4, [some (.ref o), some (.int x0), none, none], [.int (gI w o 4)], w) = _
  rfl
theorem tr_91_7 (d : Nat) (w : Wd) (l0 : Nat) (l1 : Int32) (s0 : Int32)    (m_l0 : Nat) (hk_l0 : wK w l0 = (4, m_l0)) (q0_l0 : Nat) (hr0_l0 : gR w l0 0 = some q0_l0) (m_q0_l0 : Nat) (hk_q0_l0 : wK w q0_l0 = (3, m_q0_l0)) : val (91, d + 6, 7, [some (.ref l0), some (.int l1), none, none], [.int s0], w) = (if 40 ≤ (gI w q0_l0 2) then val (91, d + 6, 27, [some (.ref l0), some (.int l1), some (.int s0), none], [.ref l0], w) else (if l1 < 6 then val (91, d + 6, 48, [some (.ref l0), some (.int l1), some (.int s0), none], [.ref 11, .ref l0], (sI w q0_l0 2 (((gI w q0_l0 2) + 1)))) else val (91, d + 6, 27, [some (.ref l0), some (.int l1), some (.int s0), none], [.ref l0], w))) := by
  refine (val_g (c2 := (91, d + 6, 8, [some (.ref l0), some (.int l1), some (.int s0), none], [], w)) rfl).trans ?_
  refine (val_g (c2 := (91, d + 6, 9, [some (.ref l0), some (.int l1), some (.int s0), none], [.ref l0], w)) rfl).trans ?_
  refine (val_gf rfl hk_l0 (fvR hr0_l0)).trans ?_
  show val (91, d + 6, 12, [some (.ref l0), some (.int l1), some (.int s0), none], [.ref q0_l0], w) = _
  refine (val_gf rfl hk_q0_l0 rfl).trans ?_
  show val (91, d + 6, 15, [some (.ref l0), some (.int l1), some (.int s0), none], [.int (gI w q0_l0 2)], w) = _
  refine (val_g (c2 := (91, d + 6, 17, [some (.ref l0), some (.int l1), some (.int s0), none], [.int 40, .int (gI w q0_l0 2)], w)) rfl).trans ?_
  by_cases hc518 : 40 ≤ (gI w q0_l0 2)
  · refine ((val_ic_ge rfl).trans (if_pos hc518)).trans ?_
    show val (91, d + 6, 26, [some (.ref l0), some (.int l1), some (.int s0), none], [], w) = _
    refine Eq.trans ?_ (if_pos hc518).symm
    refine (val_g (c2 := (91, d + 6, 27, [some (.ref l0), some (.int l1), some (.int s0), none], [.ref l0], w)) rfl).trans ?_
    rfl
  · refine ((val_ic_ge rfl).trans (if_neg hc518)).trans ?_
    show val (91, d + 6, 20, [some (.ref l0), some (.int l1), some (.int s0), none], [], w) = _
    refine Eq.trans ?_ (if_neg hc518).symm
    refine (val_g (c2 := (91, d + 6, 21, [some (.ref l0), some (.int l1), some (.int s0), none], [.int l1], w)) rfl).trans ?_
    refine (val_g (c2 := (91, d + 6, 23, [some (.ref l0), some (.int l1), some (.int s0), none], [.int 6, .int l1], w)) rfl).trans ?_
    by_cases hc519 : l1 < 6
    · refine ((val_ic_lt rfl).trans (if_pos hc519)).trans ?_
      show val (91, d + 6, 32, [some (.ref l0), some (.int l1), some (.int s0), none], [], w) = _
      refine Eq.trans ?_ (if_pos hc519).symm
      refine (val_g (c2 := (91, d + 6, 33, [some (.ref l0), some (.int l1), some (.int s0), none], [.ref l0], w)) rfl).trans ?_
      refine (val_gf rfl hk_l0 (fvR hr0_l0)).trans ?_
      show val (91, d + 6, 36, [some (.ref l0), some (.int l1), some (.int s0), none], [.ref q0_l0], w) = _
      refine (val_g (c2 := (91, d + 6, 37, [some (.ref l0), some (.int l1), some (.int s0), none], [.ref q0_l0, .ref q0_l0], w)) rfl).trans ?_
      refine (val_gf rfl hk_q0_l0 rfl).trans ?_
      show val (91, d + 6, 40, [some (.ref l0), some (.int l1), some (.int s0), none], [.int (gI w q0_l0 2), .ref q0_l0], w) = _
      refine (val_g (c2 := (91, d + 6, 41, [some (.ref l0), some (.int l1), some (.int s0), none], [.int 1, .int (gI w q0_l0 2), .ref q0_l0], w)) rfl).trans ?_
      refine (val_g (c2 := (91, d + 6, 42, [some (.ref l0), some (.int l1), some (.int s0), none], [.int ((gI w q0_l0 2) + 1), .ref q0_l0], w)) rfl).trans ?_
      refine (val_pf rfl hk_q0_l0 rfl).trans ?_
      show val (91, d + 6, 45, [some (.ref l0), some (.int l1), some (.int s0), none], [], (sI w q0_l0 2 (((gI w q0_l0 2) + 1)))) = _
      refine (val_g (c2 := (91, d + 6, 46, [some (.ref l0), some (.int l1), some (.int s0), none], [.ref l0], (sI w q0_l0 2 (((gI w q0_l0 2) + 1))))) rfl).trans ?_
      refine (val_g (c2 := (91, d + 6, 48, [some (.ref l0), some (.int l1), some (.int s0), none], [.ref 11, .ref l0], (sI w q0_l0 2 (((gI w q0_l0 2) + 1))))) rfl).trans ?_
      rfl
    · refine ((val_ic_lt rfl).trans (if_neg hc519)).trans ?_
      show val (91, d + 6, 26, [some (.ref l0), some (.int l1), some (.int s0), none], [], w) = _
      refine Eq.trans ?_ (if_neg hc519).symm
      refine (val_g (c2 := (91, d + 6, 27, [some (.ref l0), some (.int l1), some (.int s0), none], [.ref l0], w)) rfl).trans ?_
      rfl
theorem tr_91_30 (d : Nat) (w : Wd) (l0 : Nat) (l1 : Int32) (l2 : Int32)     : val (91, d + 6, 30, [some (.ref l0), some (.int l1), some (.int l2), none], [], w) = some (some (.int l2), w) := by
  refine (val_g (c2 := (91, d + 6, 31, [some (.ref l0), some (.int l1), some (.int l2), none], [.int l2], w)) rfl).trans ?_
  exact val_r rfl
theorem tr_91_51 (d : Nat) (w : Wd) (l0 : Nat) (l1 : Int32) (l2 : Int32) (s0 : Int32)    (m_l0 : Nat) (hk_l0 : wK w l0 = (4, m_l0)) : val (91, d + 6, 51, [some (.ref l0), some (.int l1), some (.int l2), none], [.int s0], w) = (if s0 = 0 then val (91, d + 6, 71, [some (.ref l0), some (.int l1), some (.int l2), none], [.ref 12, .ref l0], w) else val (91, d + 6, 64, [some (.ref l0), some (.int l1), some (.int l2), none], [.int (gI w l0 4), .int 0, .int l2, .int (gI w l0 4)], w)) := by
  by_cases hc520 : s0 = 0
  · refine ((val_if_eq rfl).trans (if_pos hc520)).trans ?_
    show val (91, d + 6, 68, [some (.ref l0), some (.int l1), some (.int l2), none], [], w) = _
    refine Eq.trans ?_ (if_pos hc520).symm
    refine (val_g (c2 := (91, d + 6, 69, [some (.ref l0), some (.int l1), some (.int l2), none], [.ref l0], w)) rfl).trans ?_
    refine (val_g (c2 := (91, d + 6, 71, [some (.ref l0), some (.int l1), some (.int l2), none], [.ref 12, .ref l0], w)) rfl).trans ?_
    rfl
  · refine ((val_if_eq rfl).trans (if_neg hc520)).trans ?_
    show val (91, d + 6, 54, [some (.ref l0), some (.int l1), some (.int l2), none], [], w) = _
    refine Eq.trans ?_ (if_neg hc520).symm
    refine (val_g (c2 := (91, d + 6, 55, [some (.ref l0), some (.int l1), some (.int l2), none], [.ref l0], w)) rfl).trans ?_
    refine (val_gf rfl hk_l0 rfl).trans ?_
    show val (91, d + 6, 58, [some (.ref l0), some (.int l1), some (.int l2), none], [.int (gI w l0 4)], w) = _
    refine (val_g (c2 := (91, d + 6, 59, [some (.ref l0), some (.int l1), some (.int l2), none], [.int l2, .int (gI w l0 4)], w)) rfl).trans ?_
    refine (val_g (c2 := (91, d + 6, 60, [some (.ref l0), some (.int l1), some (.int l2), none], [.int 0, .int l2, .int (gI w l0 4)], w)) rfl).trans ?_
    refine (val_g (c2 := (91, d + 6, 61, [some (.ref l0), some (.int l1), some (.int l2), none], [.ref l0, .int 0, .int l2, .int (gI w l0 4)], w)) rfl).trans ?_
    refine (val_gf rfl hk_l0 rfl).trans ?_
    show val (91, d + 6, 64, [some (.ref l0), some (.int l1), some (.int l2), none], [.int (gI w l0 4), .int 0, .int l2, .int (gI w l0 4)], w) = _
    rfl
theorem tr_91_67 (d : Nat) (w : Wd) (l0 : Nat) (l1 : Int32) (l2 : Int32) (s0 : Int32)     : val (91, d + 6, 67, [some (.ref l0), some (.int l1), some (.int l2), none], [.int s0], w) = some (some (.int s0), w) := by
  exact val_r rfl
theorem tr_91_74 (d : Nat) (w : Wd) (l0 : Nat) (l1 : Int32) (l2 : Int32) (s0 : Int32)     : val (91, d + 6, 74, [some (.ref l0), some (.int l1), some (.int l2), none], [.int s0], w) = (if s0 = 0 then val (91, d + 6, 86, [some (.ref l0), some (.int l1), some (.int l2), none], [.ref 13, .ref l0], w) else val (91, d + 6, 79, [some (.ref l0), some (.int l1), some (.int l2), none], [.int l2, .ref l0], w)) := by
  by_cases hc521 : s0 = 0
  · refine ((val_if_eq rfl).trans (if_pos hc521)).trans ?_
    show val (91, d + 6, 83, [some (.ref l0), some (.int l1), some (.int l2), none], [], w) = _
    refine Eq.trans ?_ (if_pos hc521).symm
    refine (val_g (c2 := (91, d + 6, 84, [some (.ref l0), some (.int l1), some (.int l2), none], [.ref l0], w)) rfl).trans ?_
    refine (val_g (c2 := (91, d + 6, 86, [some (.ref l0), some (.int l1), some (.int l2), none], [.ref 13, .ref l0], w)) rfl).trans ?_
    rfl
  · refine ((val_if_eq rfl).trans (if_neg hc521)).trans ?_
    show val (91, d + 6, 77, [some (.ref l0), some (.int l1), some (.int l2), none], [], w) = _
    refine Eq.trans ?_ (if_neg hc521).symm
    refine (val_g (c2 := (91, d + 6, 78, [some (.ref l0), some (.int l1), some (.int l2), none], [.ref l0], w)) rfl).trans ?_
    refine (val_g (c2 := (91, d + 6, 79, [some (.ref l0), some (.int l1), some (.int l2), none], [.int l2, .ref l0], w)) rfl).trans ?_
    rfl
theorem tr_91_82 (d : Nat) (w : Wd) (l0 : Nat) (l1 : Int32) (l2 : Int32) (s0 : Int32)     : val (91, d + 6, 82, [some (.ref l0), some (.int l1), some (.int l2), none], [.int s0], w) = some (some (.int s0), w) := by
  exact val_r rfl
theorem tr_91_89 (d : Nat) (w : Wd) (l0 : Nat) (l1 : Int32) (l2 : Int32) (s0 : Int32)     : val (91, d + 6, 89, [some (.ref l0), some (.int l1), some (.int l2), none], [.int s0], w) = (if s0 = 0 then val (91, d + 6, 101, [some (.ref l0), some (.int l1), some (.int l2), none], [.ref 14, .ref l0], w) else val (91, d + 6, 94, [some (.ref l0), some (.int l1), some (.int l2), none], [.int l2, .ref l0], w)) := by
  by_cases hc522 : s0 = 0
  · refine ((val_if_eq rfl).trans (if_pos hc522)).trans ?_
    show val (91, d + 6, 98, [some (.ref l0), some (.int l1), some (.int l2), none], [], w) = _
    refine Eq.trans ?_ (if_pos hc522).symm
    refine (val_g (c2 := (91, d + 6, 99, [some (.ref l0), some (.int l1), some (.int l2), none], [.ref l0], w)) rfl).trans ?_
    refine (val_g (c2 := (91, d + 6, 101, [some (.ref l0), some (.int l1), some (.int l2), none], [.ref 14, .ref l0], w)) rfl).trans ?_
    rfl
  · refine ((val_if_eq rfl).trans (if_neg hc522)).trans ?_
    show val (91, d + 6, 92, [some (.ref l0), some (.int l1), some (.int l2), none], [], w) = _
    refine Eq.trans ?_ (if_neg hc522).symm
    refine (val_g (c2 := (91, d + 6, 93, [some (.ref l0), some (.int l1), some (.int l2), none], [.ref l0], w)) rfl).trans ?_
    refine (val_g (c2 := (91, d + 6, 94, [some (.ref l0), some (.int l1), some (.int l2), none], [.int l2, .ref l0], w)) rfl).trans ?_
    rfl
theorem tr_91_97 (d : Nat) (w : Wd) (l0 : Nat) (l1 : Int32) (l2 : Int32) (s0 : Int32)     : val (91, d + 6, 97, [some (.ref l0), some (.int l1), some (.int l2), none], [.int s0], w) = some (some (.int s0), w) := by
  exact val_r rfl
theorem tr_91_104 (d : Nat) (w : Wd) (l0 : Nat) (l1 : Int32) (l2 : Int32) (s0 : Int32)     : val (91, d + 6, 104, [some (.ref l0), some (.int l1), some (.int l2), none], [.int s0], w) = (if s0 = 0 then val (91, d + 6, 116, [some (.ref l0), some (.int l1), some (.int l2), none], [.ref 15, .ref l0], w) else val (91, d + 6, 109, [some (.ref l0), some (.int l1), some (.int l2), none], [.int l2, .ref l0], w)) := by
  by_cases hc523 : s0 = 0
  · refine ((val_if_eq rfl).trans (if_pos hc523)).trans ?_
    show val (91, d + 6, 113, [some (.ref l0), some (.int l1), some (.int l2), none], [], w) = _
    refine Eq.trans ?_ (if_pos hc523).symm
    refine (val_g (c2 := (91, d + 6, 114, [some (.ref l0), some (.int l1), some (.int l2), none], [.ref l0], w)) rfl).trans ?_
    refine (val_g (c2 := (91, d + 6, 116, [some (.ref l0), some (.int l1), some (.int l2), none], [.ref 15, .ref l0], w)) rfl).trans ?_
    rfl
  · refine ((val_if_eq rfl).trans (if_neg hc523)).trans ?_
    show val (91, d + 6, 107, [some (.ref l0), some (.int l1), some (.int l2), none], [], w) = _
    refine Eq.trans ?_ (if_neg hc523).symm
    refine (val_g (c2 := (91, d + 6, 108, [some (.ref l0), some (.int l1), some (.int l2), none], [.ref l0], w)) rfl).trans ?_
    refine (val_g (c2 := (91, d + 6, 109, [some (.ref l0), some (.int l1), some (.int l2), none], [.int l2, .ref l0], w)) rfl).trans ?_
    rfl
theorem tr_91_112 (d : Nat) (w : Wd) (l0 : Nat) (l1 : Int32) (l2 : Int32) (s0 : Int32)     : val (91, d + 6, 112, [some (.ref l0), some (.int l1), some (.int l2), none], [.int s0], w) = some (some (.int s0), w) := by
  exact val_r rfl
theorem tr_91_119 (d : Nat) (w : Wd) (l0 : Nat) (l1 : Int32) (l2 : Int32) (s0 : Int32)     : val (91, d + 6, 119, [some (.ref l0), some (.int l1), some (.int l2), none], [.int s0], w) = (if s0 = 0 then val (91, d + 6, 127, [some (.ref l0), some (.int l1), some (.int l2), none], [.ref 16, .ref l0], w) else some (some (.int l2), w)) := by
  by_cases hc524 : s0 = 0
  · refine ((val_if_eq rfl).trans (if_pos hc524)).trans ?_
    show val (91, d + 6, 124, [some (.ref l0), some (.int l1), some (.int l2), none], [], w) = _
    refine Eq.trans ?_ (if_pos hc524).symm
    refine (val_g (c2 := (91, d + 6, 125, [some (.ref l0), some (.int l1), some (.int l2), none], [.ref l0], w)) rfl).trans ?_
    refine (val_g (c2 := (91, d + 6, 127, [some (.ref l0), some (.int l1), some (.int l2), none], [.ref 16, .ref l0], w)) rfl).trans ?_
    rfl
  · refine ((val_if_eq rfl).trans (if_neg hc524)).trans ?_
    show val (91, d + 6, 122, [some (.ref l0), some (.int l1), some (.int l2), none], [], w) = _
    refine Eq.trans ?_ (if_neg hc524).symm
    refine (val_g (c2 := (91, d + 6, 123, [some (.ref l0), some (.int l1), some (.int l2), none], [.int l2], w)) rfl).trans ?_
    exact val_r rfl
theorem tr_91_130 (d : Nat) (w : Wd) (l0 : Nat) (l1 : Int32) (l2 : Int32) (s0 : Int32)     : val (91, d + 6, 130, [some (.ref l0), some (.int l1), some (.int l2), none], [.int s0], w) = (if s0 = 0 then val (91, d + 6, 154, [some (.ref l0), some (.int l1), some (.int l2), none], [.ref 17, .ref l0], w) else val (91, d + 6, 137, [some (.ref l0), some (.int l1), some (.int l2), none], [.int (l1 + 1), .ref l0], w)) := by
  by_cases hc525 : s0 = 0
  · refine ((val_if_eq rfl).trans (if_pos hc525)).trans ?_
    show val (91, d + 6, 151, [some (.ref l0), some (.int l1), some (.int l2), none], [], w) = _
    refine Eq.trans ?_ (if_pos hc525).symm
    refine (val_g (c2 := (91, d + 6, 152, [some (.ref l0), some (.int l1), some (.int l2), none], [.ref l0], w)) rfl).trans ?_
    refine (val_g (c2 := (91, d + 6, 154, [some (.ref l0), some (.int l1), some (.int l2), none], [.ref 17, .ref l0], w)) rfl).trans ?_
    rfl
  · refine ((val_if_eq rfl).trans (if_neg hc525)).trans ?_
    show val (91, d + 6, 133, [some (.ref l0), some (.int l1), some (.int l2), none], [], w) = _
    refine Eq.trans ?_ (if_neg hc525).symm
    refine (val_g (c2 := (91, d + 6, 134, [some (.ref l0), some (.int l1), some (.int l2), none], [.ref l0], w)) rfl).trans ?_
    refine (val_g (c2 := (91, d + 6, 135, [some (.ref l0), some (.int l1), some (.int l2), none], [.int l1, .ref l0], w)) rfl).trans ?_
    refine (val_g (c2 := (91, d + 6, 136, [some (.ref l0), some (.int l1), some (.int l2), none], [.int 1, .int l1, .ref l0], w)) rfl).trans ?_
    refine (val_g (c2 := (91, d + 6, 137, [some (.ref l0), some (.int l1), some (.int l2), none], [.int (l1 + 1), .ref l0], w)) rfl).trans ?_
    rfl
theorem tr_91_140 (d : Nat) (w : Wd) (l0 : Nat) (l1 : Int32) (l2 : Int32) (s0 : Int32)    (m_l0 : Nat) (hk_l0 : wK w l0 = (4, m_l0)) : val (91, d + 6, 140, [some (.ref l0), some (.int l1), some (.int l2), none], [.int s0], w) = val (91, d + 6, 147, [some (.ref l0), some (.int l1), some (.int l2), some (.int s0)], [.int s0, .int s0, .int (gI w l0 4)], w) := by
  refine (val_g (c2 := (91, d + 6, 141, [some (.ref l0), some (.int l1), some (.int l2), some (.int s0)], [], w)) rfl).trans ?_
  refine (val_g (c2 := (91, d + 6, 142, [some (.ref l0), some (.int l1), some (.int l2), some (.int s0)], [.ref l0], w)) rfl).trans ?_
  refine (val_gf rfl hk_l0 rfl).trans ?_
  show val (91, d + 6, 145, [some (.ref l0), some (.int l1), some (.int l2), some (.int s0)], [.int (gI w l0 4)], w) = _
  refine (val_g (c2 := (91, d + 6, 146, [some (.ref l0), some (.int l1), some (.int l2), some (.int s0)], [.int s0, .int (gI w l0 4)], w)) rfl).trans ?_
  refine (val_g (c2 := (91, d + 6, 147, [some (.ref l0), some (.int l1), some (.int l2), some (.int s0)], [.int s0, .int s0, .int (gI w l0 4)], w)) rfl).trans ?_
  rfl
theorem tr_91_150 (d : Nat) (w : Wd) (l0 : Nat) (l1 : Int32) (l2 : Int32) (l3 : Int32) (s0 : Int32)     : val (91, d + 6, 150, [some (.ref l0), some (.int l1), some (.int l2), some (.int l3)], [.int s0], w) = some (some (.int s0), w) := by
  exact val_r rfl
theorem tr_91_157 (d : Nat) (w : Wd) (l0 : Nat) (l1 : Int32) (l2 : Int32) (s0 : Int32)    (m_l0 : Nat) (hk_l0 : wK w l0 = (4, m_l0)) : val (91, d + 6, 157, [some (.ref l0), some (.int l1), some (.int l2), none], [.int s0], w) = (if s0 = 0 then val (91, d + 6, 178, [some (.ref l0), some (.int l1), some (.int l2), none], [.int 40, .ref l0], w) else val (91, d + 6, 168, [some (.ref l0), some (.int l1), some (.int l2), none], [.int (l1 + 1), .ref l0, .int (gI w l0 4)], w)) := by
  by_cases hc526 : s0 = 0
  · refine ((val_if_eq rfl).trans (if_pos hc526)).trans ?_
    show val (91, d + 6, 175, [some (.ref l0), some (.int l1), some (.int l2), none], [], w) = _
    refine Eq.trans ?_ (if_pos hc526).symm
    refine (val_g (c2 := (91, d + 6, 176, [some (.ref l0), some (.int l1), some (.int l2), none], [.ref l0], w)) rfl).trans ?_
    refine (val_g (c2 := (91, d + 6, 178, [some (.ref l0), some (.int l1), some (.int l2), none], [.int 40, .ref l0], w)) rfl).trans ?_
    rfl
  · refine ((val_if_eq rfl).trans (if_neg hc526)).trans ?_
    show val (91, d + 6, 160, [some (.ref l0), some (.int l1), some (.int l2), none], [], w) = _
    refine Eq.trans ?_ (if_neg hc526).symm
    refine (val_g (c2 := (91, d + 6, 161, [some (.ref l0), some (.int l1), some (.int l2), none], [.ref l0], w)) rfl).trans ?_
    refine (val_gf rfl hk_l0 rfl).trans ?_
    show val (91, d + 6, 164, [some (.ref l0), some (.int l1), some (.int l2), none], [.int (gI w l0 4)], w) = _
    refine (val_g (c2 := (91, d + 6, 165, [some (.ref l0), some (.int l1), some (.int l2), none], [.ref l0, .int (gI w l0 4)], w)) rfl).trans ?_
    refine (val_g (c2 := (91, d + 6, 166, [some (.ref l0), some (.int l1), some (.int l2), none], [.int l1, .ref l0, .int (gI w l0 4)], w)) rfl).trans ?_
    refine (val_g (c2 := (91, d + 6, 167, [some (.ref l0), some (.int l1), some (.int l2), none], [.int 1, .int l1, .ref l0, .int (gI w l0 4)], w)) rfl).trans ?_
    refine (val_g (c2 := (91, d + 6, 168, [some (.ref l0), some (.int l1), some (.int l2), none], [.int (l1 + 1), .ref l0, .int (gI w l0 4)], w)) rfl).trans ?_
    rfl
theorem tr_91_174 (d : Nat) (w : Wd) (l0 : Nat) (l1 : Int32) (l2 : Int32) (s0 : Int32)     : val (91, d + 6, 174, [some (.ref l0), some (.int l1), some (.int l2), none], [.int s0], w) = some (some (.int s0), w) := by
  exact val_r rfl
theorem tr_91_181 (d : Nat) (w : Wd) (l0 : Nat) (l1 : Int32) (l2 : Int32) (s0 : Int32)     : val (91, d + 6, 181, [some (.ref l0), some (.int l1), some (.int l2), none], [.int s0], w) = (if s0 = 0 then val (91, d + 6, 191, [some (.ref l0), some (.int l1), some (.int l2), none], [.ref l0], w) else val (91, d + 6, 186, [some (.ref l0), some (.int l1), some (.int l2), none], [.int l1, .ref l0], w)) := by
  by_cases hc527 : s0 = 0
  · refine ((val_if_eq rfl).trans (if_pos hc527)).trans ?_
    show val (91, d + 6, 190, [some (.ref l0), some (.int l1), some (.int l2), none], [], w) = _
    refine Eq.trans ?_ (if_pos hc527).symm
    refine (val_g (c2 := (91, d + 6, 191, [some (.ref l0), some (.int l1), some (.int l2), none], [.ref l0], w)) rfl).trans ?_
    rfl
  · refine ((val_if_eq rfl).trans (if_neg hc527)).trans ?_
    show val (91, d + 6, 184, [some (.ref l0), some (.int l1), some (.int l2), none], [], w) = _
    refine Eq.trans ?_ (if_neg hc527).symm
    refine (val_g (c2 := (91, d + 6, 185, [some (.ref l0), some (.int l1), some (.int l2), none], [.ref l0], w)) rfl).trans ?_
    refine (val_g (c2 := (91, d + 6, 186, [some (.ref l0), some (.int l1), some (.int l2), none], [.int l1, .ref l0], w)) rfl).trans ?_
    rfl
theorem tr_91_189 (d : Nat) (w : Wd) (l0 : Nat) (l1 : Int32) (l2 : Int32) (s0 : Int32)     : val (91, d + 6, 189, [some (.ref l0), some (.int l1), some (.int l2), none], [.int s0], w) = some (some (.int s0), w) := by
  exact val_r rfl
theorem tr_91_194 (d : Nat) (w : Wd) (l0 : Nat) (l1 : Int32) (l2 : Int32)     : val (91, d + 6, 194, [some (.ref l0), some (.int l1), some (.int l2), none], [], w) = some (some (.int l2), w) := by
  refine (val_g (c2 := (91, d + 6, 195, [some (.ref l0), some (.int l1), some (.int l2), none], [.int l2], w)) rfl).trans ?_
  exact val_r rfl
/-- BelfryHouse$Reader.readSome(I)I -/
theorem tr_92 (d : Nat) (w : Wd) (o : Nat) (x0 : Int32)     : val (92, d + 4, 0, [some (.ref o), some (.int x0), none, none], [], w) = val (92, d + 4, 4, [some (.ref o), some (.int x0), none, none], [.int (x0 + 1), .ref o], w) := by
  refine (val_g (c2 := (92, d + 4, 1, [some (.ref o), some (.int x0), none, none], [.ref o], w)) rfl).trans ?_
  refine (val_g (c2 := (92, d + 4, 2, [some (.ref o), some (.int x0), none, none], [.int x0, .ref o], w)) rfl).trans ?_
  refine (val_g (c2 := (92, d + 4, 3, [some (.ref o), some (.int x0), none, none], [.int 1, .int x0, .ref o], w)) rfl).trans ?_
  refine (val_g (c2 := (92, d + 4, 4, [some (.ref o), some (.int x0), none, none], [.int (x0 + 1), .ref o], w)) rfl).trans ?_
  rfl
theorem tr_92_7 (d : Nat) (w : Wd) (l0 : Nat) (l1 : Int32) (s0 : Int32)     : val (92, d + 4, 7, [some (.ref l0), some (.int l1), none, none], [.int s0], w) = val (92, d + 4, 10, [some (.ref l0), some (.int l1), some (.int s0), some (.int 1)], [], w) := by
  refine (val_g (c2 := (92, d + 4, 8, [some (.ref l0), some (.int l1), some (.int s0), none], [], w)) rfl).trans ?_
  refine (val_g (c2 := (92, d + 4, 9, [some (.ref l0), some (.int l1), some (.int s0), none], [.int 1], w)) rfl).trans ?_
  refine (val_g (c2 := (92, d + 4, 10, [some (.ref l0), some (.int l1), some (.int s0), some (.int 1)], [], w)) rfl).trans ?_
  rfl
theorem tr_92_10 (d : Nat) (w : Wd) (l0 : Nat) (l1 : Int32) (l2 : Int32) (l3 : Int32)    (m_l0 : Nat) (hk_l0 : wK w l0 = (4, m_l0)) : val (92, d + 4, 10, [some (.ref l0), some (.int l1), some (.int l2), some (.int l3)], [], w) = (if 40 < l3 then (if 0 ≤ (gI w l0 1) then val (92, d + 4, 74, [some (.ref l0), some (.int l1), some (.int l2), some (.int l3)], [], w) else val (92, d + 4, 64, [some (.ref l0), some (.int l1), some (.int l2), some (.int l3)], [.int 41, .ref l0], w)) else (if 0 ≤ (gI w l0 1) then (if 0 ≤ (gI w l0 1) then val (92, d + 4, 74, [some (.ref l0), some (.int l1), some (.int l2), some (.int l3)], [], w) else val (92, d + 4, 64, [some (.ref l0), some (.int l1), some (.int l2), some (.int l3)], [.int 41, .ref l0], w)) else val (92, d + 4, 26, [some (.ref l0), some (.int l1), some (.int l2), some (.int l3)], [.int 44, .ref l0], w))) := by
  refine (val_g (c2 := (92, d + 4, 11, [some (.ref l0), some (.int l1), some (.int l2), some (.int l3)], [.int l3], w)) rfl).trans ?_
  refine (val_g (c2 := (92, d + 4, 13, [some (.ref l0), some (.int l1), some (.int l2), some (.int l3)], [.int 40, .int l3], w)) rfl).trans ?_
  by_cases hc535 : 40 < l3
  · refine ((val_ic_gt rfl).trans (if_pos hc535)).trans ?_
    show val (92, d + 4, 54, [some (.ref l0), some (.int l1), some (.int l2), some (.int l3)], [], w) = _
    refine Eq.trans ?_ (if_pos hc535).symm
    refine (val_g (c2 := (92, d + 4, 55, [some (.ref l0), some (.int l1), some (.int l2), some (.int l3)], [.ref l0], w)) rfl).trans ?_
    refine (val_gf rfl hk_l0 rfl).trans ?_
    show val (92, d + 4, 58, [some (.ref l0), some (.int l1), some (.int l2), some (.int l3)], [.int (gI w l0 1)], w) = _
    by_cases hc536 : 0 ≤ (gI w l0 1)
    · refine ((val_if_ge rfl).trans (if_pos hc536)).trans ?_
      show val (92, d + 4, 74, [some (.ref l0), some (.int l1), some (.int l2), some (.int l3)], [], w) = _
      refine Eq.trans ?_ (if_pos hc536).symm
      rfl
    · refine ((val_if_ge rfl).trans (if_neg hc536)).trans ?_
      show val (92, d + 4, 61, [some (.ref l0), some (.int l1), some (.int l2), some (.int l3)], [], w) = _
      refine Eq.trans ?_ (if_neg hc536).symm
      refine (val_g (c2 := (92, d + 4, 62, [some (.ref l0), some (.int l1), some (.int l2), some (.int l3)], [.ref l0], w)) rfl).trans ?_
      refine (val_g (c2 := (92, d + 4, 64, [some (.ref l0), some (.int l1), some (.int l2), some (.int l3)], [.int 41, .ref l0], w)) rfl).trans ?_
      rfl
  · refine ((val_ic_gt rfl).trans (if_neg hc535)).trans ?_
    show val (92, d + 4, 16, [some (.ref l0), some (.int l1), some (.int l2), some (.int l3)], [], w) = _
    refine Eq.trans ?_ (if_neg hc535).symm
    refine (val_g (c2 := (92, d + 4, 17, [some (.ref l0), some (.int l1), some (.int l2), some (.int l3)], [.ref l0], w)) rfl).trans ?_
    refine (val_gf rfl hk_l0 rfl).trans ?_
    show val (92, d + 4, 20, [some (.ref l0), some (.int l1), some (.int l2), some (.int l3)], [.int (gI w l0 1)], w) = _
    by_cases hc537 : 0 ≤ (gI w l0 1)
    · refine ((val_if_ge rfl).trans (if_pos hc537)).trans ?_
      show val (92, d + 4, 54, [some (.ref l0), some (.int l1), some (.int l2), some (.int l3)], [], w) = _
      refine Eq.trans ?_ (if_pos hc537).symm
      refine (val_g (c2 := (92, d + 4, 55, [some (.ref l0), some (.int l1), some (.int l2), some (.int l3)], [.ref l0], w)) rfl).trans ?_
      refine (val_gf rfl hk_l0 rfl).trans ?_
      show val (92, d + 4, 58, [some (.ref l0), some (.int l1), some (.int l2), some (.int l3)], [.int (gI w l0 1)], w) = _
      by_cases hc538 : 0 ≤ (gI w l0 1)
      · refine ((val_if_ge rfl).trans (if_pos hc538)).trans ?_
        show val (92, d + 4, 74, [some (.ref l0), some (.int l1), some (.int l2), some (.int l3)], [], w) = _
        refine Eq.trans ?_ (if_pos hc538).symm
        rfl
      · refine ((val_if_ge rfl).trans (if_neg hc538)).trans ?_
        show val (92, d + 4, 61, [some (.ref l0), some (.int l1), some (.int l2), some (.int l3)], [], w) = _
        refine Eq.trans ?_ (if_neg hc538).symm
        refine (val_g (c2 := (92, d + 4, 62, [some (.ref l0), some (.int l1), some (.int l2), some (.int l3)], [.ref l0], w)) rfl).trans ?_
        refine (val_g (c2 := (92, d + 4, 64, [some (.ref l0), some (.int l1), some (.int l2), some (.int l3)], [.int 41, .ref l0], w)) rfl).trans ?_
        rfl
    · refine ((val_if_ge rfl).trans (if_neg hc537)).trans ?_
      show val (92, d + 4, 23, [some (.ref l0), some (.int l1), some (.int l2), some (.int l3)], [], w) = _
      refine Eq.trans ?_ (if_neg hc537).symm
      refine (val_g (c2 := (92, d + 4, 24, [some (.ref l0), some (.int l1), some (.int l2), some (.int l3)], [.ref l0], w)) rfl).trans ?_
      refine (val_g (c2 := (92, d + 4, 26, [some (.ref l0), some (.int l1), some (.int l2), some (.int l3)], [.int 44, .ref l0], w)) rfl).trans ?_
      rfl
theorem tr_92_29 (d : Nat) (w : Wd) (l0 : Nat) (l1 : Int32) (l2 : Int32) (l3 : Int32) (s0 : Int32)    (m_l0 : Nat) (hk_l0 : wK w l0 = (4, m_l0)) : val (92, d + 4, 29, [some (.ref l0), some (.int l1), some (.int l2), some (.int l3)], [.int s0], w) = (if s0 = 0 then (if 0 ≤ (gI w l0 1) then val (92, d + 4, 74, [some (.ref l0), some (.int l1), some (.int l2), some (.int l3)], [], w) else val (92, d + 4, 64, [some (.ref l0), some (.int l1), some (.int l2), some (.int l3)], [.int 41, .ref l0], w)) else val (92, d + 4, 41, [some (.ref l0), some (.int l1), some (.int l2), some (.int l3)], [.int (l1 + 1), .ref l0, .int l2, .int (gI w l0 4)], w)) := by
  by_cases hc539 : s0 = 0
  · refine ((val_if_eq rfl).trans (if_pos hc539)).trans ?_
    show val (92, d + 4, 54, [some (.ref l0), some (.int l1), some (.int l2), some (.int l3)], [], w) = _
    refine Eq.trans ?_ (if_pos hc539).symm
    refine (val_g (c2 := (92, d + 4, 55, [some (.ref l0), some (.int l1), some (.int l2), some (.int l3)], [.ref l0], w)) rfl).trans ?_
    refine (val_gf rfl hk_l0 rfl).trans ?_
    show val (92, d + 4, 58, [some (.ref l0), some (.int l1), some (.int l2), some (.int l3)], [.int (gI w l0 1)], w) = _
    by_cases hc540 : 0 ≤ (gI w l0 1)
    · refine ((val_if_ge rfl).trans (if_pos hc540)).trans ?_
      show val (92, d + 4, 74, [some (.ref l0), some (.int l1), some (.int l2), some (.int l3)], [], w) = _
      refine Eq.trans ?_ (if_pos hc540).symm
      rfl
    · refine ((val_if_ge rfl).trans (if_neg hc540)).trans ?_
      show val (92, d + 4, 61, [some (.ref l0), some (.int l1), some (.int l2), some (.int l3)], [], w) = _
      refine Eq.trans ?_ (if_neg hc540).symm
      refine (val_g (c2 := (92, d + 4, 62, [some (.ref l0), some (.int l1), some (.int l2), some (.int l3)], [.ref l0], w)) rfl).trans ?_
      refine (val_g (c2 := (92, d + 4, 64, [some (.ref l0), some (.int l1), some (.int l2), some (.int l3)], [.int 41, .ref l0], w)) rfl).trans ?_
      rfl
  · refine ((val_if_eq rfl).trans (if_neg hc539)).trans ?_
    show val (92, d + 4, 32, [some (.ref l0), some (.int l1), some (.int l2), some (.int l3)], [], w) = _
    refine Eq.trans ?_ (if_neg hc539).symm
    refine (val_g (c2 := (92, d + 4, 33, [some (.ref l0), some (.int l1), some (.int l2), some (.int l3)], [.ref l0], w)) rfl).trans ?_
    refine (val_gf rfl hk_l0 rfl).trans ?_
    show val (92, d + 4, 36, [some (.ref l0), some (.int l1), some (.int l2), some (.int l3)], [.int (gI w l0 4)], w) = _
    refine (val_g (c2 := (92, d + 4, 37, [some (.ref l0), some (.int l1), some (.int l2), some (.int l3)], [.int l2, .int (gI w l0 4)], w)) rfl).trans ?_
    refine (val_g (c2 := (92, d + 4, 38, [some (.ref l0), some (.int l1), some (.int l2), some (.int l3)], [.ref l0, .int l2, .int (gI w l0 4)], w)) rfl).trans ?_
    refine (val_g (c2 := (92, d + 4, 39, [some (.ref l0), some (.int l1), some (.int l2), some (.int l3)], [.int l1, .ref l0, .int l2, .int (gI w l0 4)], w)) rfl).trans ?_
    refine (val_g (c2 := (92, d + 4, 40, [some (.ref l0), some (.int l1), some (.int l2), some (.int l3)], [.int 1, .int l1, .ref l0, .int l2, .int (gI w l0 4)], w)) rfl).trans ?_
    refine (val_g (c2 := (92, d + 4, 41, [some (.ref l0), some (.int l1), some (.int l2), some (.int l3)], [.int (l1 + 1), .ref l0, .int l2, .int (gI w l0 4)], w)) rfl).trans ?_
    rfl
theorem tr_92_47 (d : Nat) (w : Wd) (l0 : Nat) (l1 : Int32) (l2 : Int32) (l3 : Int32) (s0 : Int32)     : val (92, d + 4, 47, [some (.ref l0), some (.int l1), some (.int l2), some (.int l3)], [.int s0], w) = val (92, d + 4, 10, [some (.ref l0), some (.int l1), some (.int s0), some (.int (l3 + 1))], [], w) := by
  refine (val_g (c2 := (92, d + 4, 48, [some (.ref l0), some (.int l1), some (.int s0), some (.int l3)], [], w)) rfl).trans ?_
  refine (val_g (c2 := (92, d + 4, 51, [some (.ref l0), some (.int l1), some (.int s0), some (.int (l3 + 1))], [], w)) rfl).trans ?_
  refine (val_g (c2 := (92, d + 4, 10, [some (.ref l0), some (.int l1), some (.int s0), some (.int (l3 + 1))], [], w)) rfl).trans ?_
  rfl
theorem tr_92_67 (d : Nat) (w : Wd) (l0 : Nat) (l1 : Int32) (l2 : Int32) (l3 : Int32) (s0 : Int32)     : val (92, d + 4, 67, [some (.ref l0), some (.int l1), some (.int l2), some (.int l3)], [.int s0], w) = (if ¬ s0 = 0 then val (92, d + 4, 74, [some (.ref l0), some (.int l1), some (.int l2), some (.int l3)], [], w) else val (92, d + 4, 71, [some (.ref l0), some (.int l1), some (.int l2), some (.int l3)], [.ref l0], w)) := by
  by_cases hc541 : ¬ s0 = 0
  · refine ((val_if_ne rfl).trans (if_pos hc541)).trans ?_
    show val (92, d + 4, 74, [some (.ref l0), some (.int l1), some (.int l2), some (.int l3)], [], w) = _
    refine Eq.trans ?_ (if_pos hc541).symm
    rfl
  · refine ((val_if_ne rfl).trans (if_neg hc541)).trans ?_
    show val (92, d + 4, 70, [some (.ref l0), some (.int l1), some (.int l2), some (.int l3)], [], w) = _
    refine Eq.trans ?_ (if_neg hc541).symm
    refine (val_g (c2 := (92, d + 4, 71, [some (.ref l0), some (.int l1), some (.int l2), some (.int l3)], [.ref l0], w)) rfl).trans ?_
    rfl
theorem tr_92_74 (d : Nat) (w : Wd) (l0 : Nat) (l1 : Int32) (l2 : Int32) (l3 : Int32)     : val (92, d + 4, 74, [some (.ref l0), some (.int l1), some (.int l2), some (.int l3)], [], w) = some (some (.int l2), w) := by
  refine (val_g (c2 := (92, d + 4, 75, [some (.ref l0), some (.int l1), some (.int l2), some (.int l3)], [.int l2], w)) rfl).trans ?_
  exact val_r rfl
/-- BelfryHouse$Reader.readPlaces(I)I -/
theorem tr_93 (d : Nat) (w : Wd) (o : Nat) (x0 : Int32)    (m_o : Nat) (hk_o : wK w o = (4, m_o)) : val (93, d + 3, 0, [some (.ref o), some (.int x0), none, none, none, none], [], w) = (if (gI w o 5) = 2 then val (93, d + 3, 24, [some (.ref o), some (.int x0), some (.int x0), some (.int 0), some (.int (gI w o 6)), none], [], w) else val (93, d + 3, 9, [some (.ref o), some (.int x0), none, none, none, none], [.ref o], w)) := by
  refine (val_g (c2 := (93, d + 3, 1, [some (.ref o), some (.int x0), none, none, none, none], [.ref o], w)) rfl).trans ?_
  refine (val_gf rfl hk_o rfl).trans ?_
  show val (93, d + 3, 4, [some (.ref o), some (.int x0), none, none, none, none], [.int (gI w o 5)], w) = _
  refine (val_g (c2 := (93, d + 3, 5, [some (.ref o), some (.int x0), none, none, none, none], [.int 2, .int (gI w o 5)], w)) rfl).trans ?_
  by_cases hc553 : (gI w o 5) = 2
  · refine ((val_ic_eq rfl).trans (if_pos hc553)).trans ?_
    show val (93, d + 3, 14, [some (.ref o), some (.int x0), none, none, none, none], [], w) = _
    refine Eq.trans ?_ (if_pos hc553).symm
    refine (val_g (c2 := (93, d + 3, 15, [some (.ref o), some (.int x0), none, none, none, none], [.int x0], w)) rfl).trans ?_
    refine (val_g (c2 := (93, d + 3, 16, [some (.ref o), some (.int x0), some (.int x0), none, none, none], [], w)) rfl).trans ?_
    refine (val_g (c2 := (93, d + 3, 17, [some (.ref o), some (.int x0), some (.int x0), none, none, none], [.int 0], w)) rfl).trans ?_
    refine (val_g (c2 := (93, d + 3, 18, [some (.ref o), some (.int x0), some (.int x0), some (.int 0), none, none], [], w)) rfl).trans ?_
    refine (val_g (c2 := (93, d + 3, 19, [some (.ref o), some (.int x0), some (.int x0), some (.int 0), none, none], [.ref o], w)) rfl).trans ?_
    refine (val_gf rfl hk_o rfl).trans ?_
    show val (93, d + 3, 22, [some (.ref o), some (.int x0), some (.int x0), some (.int 0), none, none], [.int (gI w o 6)], w) = _
    refine (val_g (c2 := (93, d + 3, 24, [some (.ref o), some (.int x0), some (.int x0), some (.int 0), some (.int (gI w o 6)), none], [], w)) rfl).trans ?_
    rfl
  · refine ((val_ic_eq rfl).trans (if_neg hc553)).trans ?_
    show val (93, d + 3, 8, [some (.ref o), some (.int x0), none, none, none, none], [], w) = _
    refine Eq.trans ?_ (if_neg hc553).symm
    refine (val_g (c2 := (93, d + 3, 9, [some (.ref o), some (.int x0), none, none, none, none], [.ref o], w)) rfl).trans ?_
    rfl
theorem tr_93_12 (d : Nat) (w : Wd) (l0 : Nat) (l1 : Int32)     : val (93, d + 3, 12, [some (.ref l0), some (.int l1), none, none, none, none], [], w) = some (some (.int l1), w) := by
  refine (val_g (c2 := (93, d + 3, 13, [some (.ref l0), some (.int l1), none, none, none, none], [.int l1], w)) rfl).trans ?_
  exact val_r rfl
theorem tr_93_24 (d : Nat) (w : Wd) (l0 : Nat) (l1 : Int32) (l2 : Int32) (l3 : Int32) (l4 : Int32) (l5 : Option Value)   (m_l0 : Nat) (hk_l0 : wK w l0 = (4, m_l0)) (q2_l0 : Nat) (hr2_l0 : gR w l0 2 = some q2_l0) (m_q2_l0 : Nat) (hk_q2_l0 : wK w q2_l0 = (21, m_q2_l0)) (hy7 : (¬ ((gI w l0 7) ≤ l4)) → inB l4 m_q2_l0 = true) : val (93, d + 3, 24, [some (.ref l0), some (.int l1), some (.int l2), some (.int l3), some (.int l4), l5], [], w) = (if (gI w l0 7) ≤ l4 then (if (((gI w l0 4) - l3) &&& 1) = 0 then val (93, d + 3, 117, [some (.ref l0), some (.int l1), some (.int l2), some (.int l3), some (.int l4), l5], [.ref l0], w) else val (93, d + 3, 110, [some (.ref l0), some (.int l1), some (.int l2), some (.int l3), some (.int l4), l5], [.ref l0], w)) else (if ((gI w q2_l0 (l4).toNatClampNeg) - 48) ≤ l3 then val (93, d + 3, 70, [some (.ref l0), some (.int l1), some (.int l2), some (.int l3), some (.int l4), some (.int ((gI w q2_l0 (l4).toNatClampNeg) - 48))], [.ref l0], w) else (if (gI w l0 4) < ((gI w q2_l0 (l4).toNatClampNeg) - 48) then val (93, d + 3, 70, [some (.ref l0), some (.int l1), some (.int l2), some (.int l3), some (.int l4), some (.int ((gI w q2_l0 (l4).toNatClampNeg) - 48))], [.ref l0], w) else (if ¬ ((((gI w q2_l0 (l4).toNatClampNeg) - 48) - l3) &&& 1) = 0 then val (93, d + 3, 85, [some (.ref l0), some (.int l1), some (.int l2), some (.int l3), some (.int l4), some (.int ((gI w q2_l0 (l4).toNatClampNeg) - 48))], [.int (((gI w q2_l0 (l4).toNatClampNeg) - 48) - 1), .int l3, .int l2, .int (gI w l0 4)], w) else val (93, d + 3, 70, [some (.ref l0), some (.int l1), some (.int l2), some (.int l3), some (.int l4), some (.int ((gI w q2_l0 (l4).toNatClampNeg) - 48))], [.ref l0], w))))) := by
  refine (val_g (c2 := (93, d + 3, 26, [some (.ref l0), some (.int l1), some (.int l2), some (.int l3), some (.int l4), l5], [.int l4], w)) rfl).trans ?_
  refine (val_g (c2 := (93, d + 3, 27, [some (.ref l0), some (.int l1), some (.int l2), some (.int l3), some (.int l4), l5], [.ref l0, .int l4], w)) rfl).trans ?_
  refine (val_gf rfl hk_l0 rfl).trans ?_
  show val (93, d + 3, 30, [some (.ref l0), some (.int l1), some (.int l2), some (.int l3), some (.int l4), l5], [.int (gI w l0 7), .int l4], w) = _
  by_cases hc554 : (gI w l0 7) ≤ l4
  · refine ((val_ic_ge rfl).trans (if_pos hc554)).trans ?_
    show val (93, d + 3, 98, [some (.ref l0), some (.int l1), some (.int l2), some (.int l3), some (.int l4), l5], [], w) = _
    refine Eq.trans ?_ (if_pos hc554).symm
    refine (val_g (c2 := (93, d + 3, 99, [some (.ref l0), some (.int l1), some (.int l2), some (.int l3), some (.int l4), l5], [.ref l0], w)) rfl).trans ?_
    refine (val_gf rfl hk_l0 rfl).trans ?_
    show val (93, d + 3, 102, [some (.ref l0), some (.int l1), some (.int l2), some (.int l3), some (.int l4), l5], [.int (gI w l0 4)], w) = _
    refine (val_g (c2 := (93, d + 3, 103, [some (.ref l0), some (.int l1), some (.int l2), some (.int l3), some (.int l4), l5], [.int l3, .int (gI w l0 4)], w)) rfl).trans ?_
    refine (val_g (c2 := (93, d + 3, 104, [some (.ref l0), some (.int l1), some (.int l2), some (.int l3), some (.int l4), l5], [.int ((gI w l0 4) - l3)], w)) rfl).trans ?_
    refine (val_g (c2 := (93, d + 3, 105, [some (.ref l0), some (.int l1), some (.int l2), some (.int l3), some (.int l4), l5], [.int 1, .int ((gI w l0 4) - l3)], w)) rfl).trans ?_
    refine (val_g (c2 := (93, d + 3, 106, [some (.ref l0), some (.int l1), some (.int l2), some (.int l3), some (.int l4), l5], [.int (((gI w l0 4) - l3) &&& 1)], w)) rfl).trans ?_
    by_cases hc555 : (((gI w l0 4) - l3) &&& 1) = 0
    · refine ((val_if_eq rfl).trans (if_pos hc555)).trans ?_
      show val (93, d + 3, 116, [some (.ref l0), some (.int l1), some (.int l2), some (.int l3), some (.int l4), l5], [], w) = _
      refine Eq.trans ?_ (if_pos hc555).symm
      refine (val_g (c2 := (93, d + 3, 117, [some (.ref l0), some (.int l1), some (.int l2), some (.int l3), some (.int l4), l5], [.ref l0], w)) rfl).trans ?_
      rfl
    · refine ((val_if_eq rfl).trans (if_neg hc555)).trans ?_
      show val (93, d + 3, 109, [some (.ref l0), some (.int l1), some (.int l2), some (.int l3), some (.int l4), l5], [], w) = _
      refine Eq.trans ?_ (if_neg hc555).symm
      refine (val_g (c2 := (93, d + 3, 110, [some (.ref l0), some (.int l1), some (.int l2), some (.int l3), some (.int l4), l5], [.ref l0], w)) rfl).trans ?_
      rfl
  · refine ((val_ic_ge rfl).trans (if_neg hc554)).trans ?_
    show val (93, d + 3, 33, [some (.ref l0), some (.int l1), some (.int l2), some (.int l3), some (.int l4), l5], [], w) = _
    refine Eq.trans ?_ (if_neg hc554).symm
    refine (val_g (c2 := (93, d + 3, 34, [some (.ref l0), some (.int l1), some (.int l2), some (.int l3), some (.int l4), l5], [.ref l0], w)) rfl).trans ?_
    refine (val_gf rfl hk_l0 (fvR hr2_l0)).trans ?_
    show val (93, d + 3, 37, [some (.ref l0), some (.int l1), some (.int l2), some (.int l3), some (.int l4), l5], [.ref q2_l0], w) = _
    refine (val_g (c2 := (93, d + 3, 39, [some (.ref l0), some (.int l1), some (.int l2), some (.int l3), some (.int l4), l5], [.int l4, .ref q2_l0], w)) rfl).trans ?_
    refine (val_bal rfl hk_q2_l0 rfl (hy7 hc554)).trans ?_
    show val (93, d + 3, 40, [some (.ref l0), some (.int l1), some (.int l2), some (.int l3), some (.int l4), l5], [.int (gI w q2_l0 (l4).toNatClampNeg)], w) = _
    refine (val_g (c2 := (93, d + 3, 42, [some (.ref l0), some (.int l1), some (.int l2), some (.int l3), some (.int l4), l5], [.int 48, .int (gI w q2_l0 (l4).toNatClampNeg)], w)) rfl).trans ?_
    refine (val_g (c2 := (93, d + 3, 43, [some (.ref l0), some (.int l1), some (.int l2), some (.int l3), some (.int l4), l5], [.int ((gI w q2_l0 (l4).toNatClampNeg) - 48)], w)) rfl).trans ?_
    refine (val_g (c2 := (93, d + 3, 45, [some (.ref l0), some (.int l1), some (.int l2), some (.int l3), some (.int l4), some (.int ((gI w q2_l0 (l4).toNatClampNeg) - 48))], [], w)) rfl).trans ?_
    refine (val_g (c2 := (93, d + 3, 47, [some (.ref l0), some (.int l1), some (.int l2), some (.int l3), some (.int l4), some (.int ((gI w q2_l0 (l4).toNatClampNeg) - 48))], [.int ((gI w q2_l0 (l4).toNatClampNeg) - 48)], w)) rfl).trans ?_
    refine (val_g (c2 := (93, d + 3, 48, [some (.ref l0), some (.int l1), some (.int l2), some (.int l3), some (.int l4), some (.int ((gI w q2_l0 (l4).toNatClampNeg) - 48))], [.int l3, .int ((gI w q2_l0 (l4).toNatClampNeg) - 48)], w)) rfl).trans ?_
    by_cases hc556 : ((gI w q2_l0 (l4).toNatClampNeg) - 48) ≤ l3
    · refine ((val_ic_le rfl).trans (if_pos hc556)).trans ?_
      show val (93, d + 3, 69, [some (.ref l0), some (.int l1), some (.int l2), some (.int l3), some (.int l4), some (.int ((gI w q2_l0 (l4).toNatClampNeg) - 48))], [], w) = _
      refine Eq.trans ?_ (if_pos hc556).symm
      refine (val_g (c2 := (93, d + 3, 70, [some (.ref l0), some (.int l1), some (.int l2), some (.int l3), some (.int l4), some (.int ((gI w q2_l0 (l4).toNatClampNeg) - 48))], [.ref l0], w)) rfl).trans ?_
      rfl
    · refine ((val_ic_le rfl).trans (if_neg hc556)).trans ?_
      show val (93, d + 3, 51, [some (.ref l0), some (.int l1), some (.int l2), some (.int l3), some (.int l4), some (.int ((gI w q2_l0 (l4).toNatClampNeg) - 48))], [], w) = _
      refine Eq.trans ?_ (if_neg hc556).symm
      refine (val_g (c2 := (93, d + 3, 53, [some (.ref l0), some (.int l1), some (.int l2), some (.int l3), some (.int l4), some (.int ((gI w q2_l0 (l4).toNatClampNeg) - 48))], [.int ((gI w q2_l0 (l4).toNatClampNeg) - 48)], w)) rfl).trans ?_
      refine (val_g (c2 := (93, d + 3, 54, [some (.ref l0), some (.int l1), some (.int l2), some (.int l3), some (.int l4), some (.int ((gI w q2_l0 (l4).toNatClampNeg) - 48))], [.ref l0, .int ((gI w q2_l0 (l4).toNatClampNeg) - 48)], w)) rfl).trans ?_
      refine (val_gf rfl hk_l0 rfl).trans ?_
      show val (93, d + 3, 57, [some (.ref l0), some (.int l1), some (.int l2), some (.int l3), some (.int l4), some (.int ((gI w q2_l0 (l4).toNatClampNeg) - 48))], [.int (gI w l0 4), .int ((gI w q2_l0 (l4).toNatClampNeg) - 48)], w) = _
      by_cases hc557 : (gI w l0 4) < ((gI w q2_l0 (l4).toNatClampNeg) - 48)
      · refine ((val_ic_gt rfl).trans (if_pos hc557)).trans ?_
        show val (93, d + 3, 69, [some (.ref l0), some (.int l1), some (.int l2), some (.int l3), some (.int l4), some (.int ((gI w q2_l0 (l4).toNatClampNeg) - 48))], [], w) = _
        refine Eq.trans ?_ (if_pos hc557).symm
        refine (val_g (c2 := (93, d + 3, 70, [some (.ref l0), some (.int l1), some (.int l2), some (.int l3), some (.int l4), some (.int ((gI w q2_l0 (l4).toNatClampNeg) - 48))], [.ref l0], w)) rfl).trans ?_
        rfl
      · refine ((val_ic_gt rfl).trans (if_neg hc557)).trans ?_
        show val (93, d + 3, 60, [some (.ref l0), some (.int l1), some (.int l2), some (.int l3), some (.int l4), some (.int ((gI w q2_l0 (l4).toNatClampNeg) - 48))], [], w) = _
        refine Eq.trans ?_ (if_neg hc557).symm
        refine (val_g (c2 := (93, d + 3, 62, [some (.ref l0), some (.int l1), some (.int l2), some (.int l3), some (.int l4), some (.int ((gI w q2_l0 (l4).toNatClampNeg) - 48))], [.int ((gI w q2_l0 (l4).toNatClampNeg) - 48)], w)) rfl).trans ?_
        refine (val_g (c2 := (93, d + 3, 63, [some (.ref l0), some (.int l1), some (.int l2), some (.int l3), some (.int l4), some (.int ((gI w q2_l0 (l4).toNatClampNeg) - 48))], [.int l3, .int ((gI w q2_l0 (l4).toNatClampNeg) - 48)], w)) rfl).trans ?_
        refine (val_g (c2 := (93, d + 3, 64, [some (.ref l0), some (.int l1), some (.int l2), some (.int l3), some (.int l4), some (.int ((gI w q2_l0 (l4).toNatClampNeg) - 48))], [.int (((gI w q2_l0 (l4).toNatClampNeg) - 48) - l3)], w)) rfl).trans ?_
        refine (val_g (c2 := (93, d + 3, 65, [some (.ref l0), some (.int l1), some (.int l2), some (.int l3), some (.int l4), some (.int ((gI w q2_l0 (l4).toNatClampNeg) - 48))], [.int 1, .int (((gI w q2_l0 (l4).toNatClampNeg) - 48) - l3)], w)) rfl).trans ?_
        refine (val_g (c2 := (93, d + 3, 66, [some (.ref l0), some (.int l1), some (.int l2), some (.int l3), some (.int l4), some (.int ((gI w q2_l0 (l4).toNatClampNeg) - 48))], [.int ((((gI w q2_l0 (l4).toNatClampNeg) - 48) - l3) &&& 1)], w)) rfl).trans ?_
        by_cases hc558 : ¬ ((((gI w q2_l0 (l4).toNatClampNeg) - 48) - l3) &&& 1) = 0
        · refine ((val_if_ne rfl).trans (if_pos hc558)).trans ?_
          show val (93, d + 3, 75, [some (.ref l0), some (.int l1), some (.int l2), some (.int l3), some (.int l4), some (.int ((gI w q2_l0 (l4).toNatClampNeg) - 48))], [], w) = _
          refine Eq.trans ?_ (if_pos hc558).symm
          refine (val_g (c2 := (93, d + 3, 76, [some (.ref l0), some (.int l1), some (.int l2), some (.int l3), some (.int l4), some (.int ((gI w q2_l0 (l4).toNatClampNeg) - 48))], [.ref l0], w)) rfl).trans ?_
          refine (val_gf rfl hk_l0 rfl).trans ?_
          show val (93, d + 3, 79, [some (.ref l0), some (.int l1), some (.int l2), some (.int l3), some (.int l4), some (.int ((gI w q2_l0 (l4).toNatClampNeg) - 48))], [.int (gI w l0 4)], w) = _
          refine (val_g (c2 := (93, d + 3, 80, [some (.ref l0), some (.int l1), some (.int l2), some (.int l3), some (.int l4), some (.int ((gI w q2_l0 (l4).toNatClampNeg) - 48))], [.int l2, .int (gI w l0 4)], w)) rfl).trans ?_
          refine (val_g (c2 := (93, d + 3, 81, [some (.ref l0), some (.int l1), some (.int l2), some (.int l3), some (.int l4), some (.int ((gI w q2_l0 (l4).toNatClampNeg) - 48))], [.int l3, .int l2, .int (gI w l0 4)], w)) rfl).trans ?_
          refine (val_g (c2 := (93, d + 3, 83, [some (.ref l0), some (.int l1), some (.int l2), some (.int l3), some (.int l4), some (.int ((gI w q2_l0 (l4).toNatClampNeg) - 48))], [.int ((gI w q2_l0 (l4).toNatClampNeg) - 48), .int l3, .int l2, .int (gI w l0 4)], w)) rfl).trans ?_
          refine (val_g (c2 := (93, d + 3, 84, [some (.ref l0), some (.int l1), some (.int l2), some (.int l3), some (.int l4), some (.int ((gI w q2_l0 (l4).toNatClampNeg) - 48))], [.int 1, .int ((gI w q2_l0 (l4).toNatClampNeg) - 48), .int l3, .int l2, .int (gI w l0 4)], w)) rfl).trans ?_
          refine (val_g (c2 := (93, d + 3, 85, [some (.ref l0), some (.int l1), some (.int l2), some (.int l3), some (.int l4), some (.int ((gI w q2_l0 (l4).toNatClampNeg) - 48))], [.int (((gI w q2_l0 (l4).toNatClampNeg) - 48) - 1), .int l3, .int l2, .int (gI w l0 4)], w)) rfl).trans ?_
          rfl
        · refine ((val_if_ne rfl).trans (if_neg hc558)).trans ?_
          show val (93, d + 3, 69, [some (.ref l0), some (.int l1), some (.int l2), some (.int l3), some (.int l4), some (.int ((gI w q2_l0 (l4).toNatClampNeg) - 48))], [], w) = _
          refine Eq.trans ?_ (if_neg hc558).symm
          refine (val_g (c2 := (93, d + 3, 70, [some (.ref l0), some (.int l1), some (.int l2), some (.int l3), some (.int l4), some (.int ((gI w q2_l0 (l4).toNatClampNeg) - 48))], [.ref l0], w)) rfl).trans ?_
          rfl
theorem tr_93_73 (d : Nat) (w : Wd) (l0 : Nat) (l1 : Int32) (l2 : Int32) (l3 : Int32) (l4 : Int32) (l5 : Int32)     : val (93, d + 3, 73, [some (.ref l0), some (.int l1), some (.int l2), some (.int l3), some (.int l4), some (.int l5)], [], w) = some (some (.int l1), w) := by
  refine (val_g (c2 := (93, d + 3, 74, [some (.ref l0), some (.int l1), some (.int l2), some (.int l3), some (.int l4), some (.int l5)], [.int l1], w)) rfl).trans ?_
  exact val_r rfl
theorem tr_93_88 (d : Nat) (w : Wd) (l0 : Nat) (l1 : Int32) (l2 : Int32) (l3 : Int32) (l4 : Int32) (l5 : Int32) (s0 : Int32)     : val (93, d + 3, 88, [some (.ref l0), some (.int l1), some (.int l2), some (.int l3), some (.int l4), some (.int l5)], [.int s0], w) = val (93, d + 3, 24, [some (.ref l0), some (.int l1), some (.int s0), some (.int l5), some (.int (l4 + 1)), some (.int l5)], [], w) := by
  refine (val_g (c2 := (93, d + 3, 89, [some (.ref l0), some (.int l1), some (.int s0), some (.int l3), some (.int l4), some (.int l5)], [], w)) rfl).trans ?_
  refine (val_g (c2 := (93, d + 3, 91, [some (.ref l0), some (.int l1), some (.int s0), some (.int l3), some (.int l4), some (.int l5)], [.int l5], w)) rfl).trans ?_
  refine (val_g (c2 := (93, d + 3, 92, [some (.ref l0), some (.int l1), some (.int s0), some (.int l5), some (.int l4), some (.int l5)], [], w)) rfl).trans ?_
  refine (val_g (c2 := (93, d + 3, 95, [some (.ref l0), some (.int l1), some (.int s0), some (.int l5), some (.int (l4 + 1)), some (.int l5)], [], w)) rfl).trans ?_
  refine (val_g (c2 := (93, d + 3, 24, [some (.ref l0), some (.int l1), some (.int s0), some (.int l5), some (.int (l4 + 1)), some (.int l5)], [], w)) rfl).trans ?_
  rfl
theorem tr_93_113 (d : Nat) (w : Wd) (l0 : Nat) (l1 : Int32) (l2 : Int32) (l3 : Int32) (l4 : Int32) (l5 : Option Value)    : val (93, d + 3, 113, [some (.ref l0), some (.int l1), some (.int l2), some (.int l3), some (.int l4), l5], [], w) = val (93, d + 3, 120, [some (.ref l0), some (.int l1), some (.int l2), some (.int l3), some (.int l4), l5], [], w) := by
  refine (val_g (c2 := (93, d + 3, 120, [some (.ref l0), some (.int l1), some (.int l2), some (.int l3), some (.int l4), l5], [], w)) rfl).trans ?_
  rfl
theorem tr_93_120 (d : Nat) (w : Wd) (l0 : Nat) (l1 : Int32) (l2 : Int32) (l3 : Int32) (l4 : Int32) (l5 : Option Value)   (m_l0 : Nat) (hk_l0 : wK w l0 = (4, m_l0)) : val (93, d + 3, 120, [some (.ref l0), some (.int l1), some (.int l2), some (.int l3), some (.int l4), l5], [], w) = val (93, d + 3, 130, [some (.ref l0), some (.int l1), some (.int l2), some (.int l3), some (.int l4), l5], [.int (gI w l0 4), .int l3, .int l2, .int (gI w l0 4)], w) := by
  refine (val_g (c2 := (93, d + 3, 121, [some (.ref l0), some (.int l1), some (.int l2), some (.int l3), some (.int l4), l5], [.ref l0], w)) rfl).trans ?_
  refine (val_gf rfl hk_l0 rfl).trans ?_
  show val (93, d + 3, 124, [some (.ref l0), some (.int l1), some (.int l2), some (.int l3), some (.int l4), l5], [.int (gI w l0 4)], w) = _
  refine (val_g (c2 := (93, d + 3, 125, [some (.ref l0), some (.int l1), some (.int l2), some (.int l3), some (.int l4), l5], [.int l2, .int (gI w l0 4)], w)) rfl).trans ?_
  refine (val_g (c2 := (93, d + 3, 126, [some (.ref l0), some (.int l1), some (.int l2), some (.int l3), some (.int l4), l5], [.int l3, .int l2, .int (gI w l0 4)], w)) rfl).trans ?_
  refine (val_g (c2 := (93, d + 3, 127, [some (.ref l0), some (.int l1), some (.int l2), some (.int l3), some (.int l4), l5], [.ref l0, .int l3, .int l2, .int (gI w l0 4)], w)) rfl).trans ?_
  refine (val_gf rfl hk_l0 rfl).trans ?_
  show val (93, d + 3, 130, [some (.ref l0), some (.int l1), some (.int l2), some (.int l3), some (.int l4), l5], [.int (gI w l0 4), .int l3, .int l2, .int (gI w l0 4)], w) = _
  rfl
theorem tr_93_133 (d : Nat) (w : Wd) (l0 : Nat) (l1 : Int32) (l2 : Int32) (l3 : Int32) (l4 : Int32) (s0 : Int32) (l5 : Option Value)    : val (93, d + 3, 133, [some (.ref l0), some (.int l1), some (.int l2), some (.int l3), some (.int l4), l5], [.int s0], w) = some (some (.int s0), w) := by
  exact val_r rfl
/-- BelfryHouse$Reader.readJump(I)I -/
theorem tr_94 (d : Nat) (w : Wd) (o : Nat) (x0 : Int32)    (m_o : Nat) (hk_o : wK w o = (4, m_o)) : val (94, d + 5, 0, [some (.ref o), some (.int x0), none, none], [], w) = val (94, d + 5, 6, [some (.ref o), some (.int x0), none, none], [.int (gI w o 4), .int 1, .ref o], w) := by
  refine (val_g (c2 := (94, d + 5, 1, [some (.ref o), some (.int x0), none, none], [.ref o], w)) rfl).trans ?_
  refine (val_g (c2 := (94, d + 5, 2, [some (.ref o), some (.int x0), none, none], [.int 1, .ref o], w)) rfl).trans ?_
  refine (val_g (c2 := (94, d + 5, 3, [some (.ref o), some (.int x0), none, none], [.ref o, .int 1, .ref o], w)) rfl).trans ?_
  refine (val_gf rfl hk_o rfl).trans ?_
  show val (94, d + 5, 6, [some (.ref o), some (.int x0), none, none], [.int (gI w o 4), .int 1, .ref o], w) = _
  rfl
theorem tr_94_9 (d : Nat) (w : Wd) (l0 : Nat) (l1 : Int32) (s0 : Int32)     : val (94, d + 5, 9, [some (.ref l0), some (.int l1), none, none], [.int s0], w) = val (94, d + 5, 12, [some (.ref l0), some (.int l1), some (.int s0), none], [.int s0, .ref l0], w) := by
  refine (val_g (c2 := (94, d + 5, 10, [some (.ref l0), some (.int l1), some (.int s0), none], [], w)) rfl).trans ?_
  refine (val_g (c2 := (94, d + 5, 11, [some (.ref l0), some (.int l1), some (.int s0), none], [.ref l0], w)) rfl).trans ?_
  refine (val_g (c2 := (94, d + 5, 12, [some (.ref l0), some (.int l1), some (.int s0), none], [.int s0, .ref l0], w)) rfl).trans ?_
  rfl
theorem tr_94_15 (d : Nat) (w : Wd) (l0 : Nat) (l1 : Int32) (l2 : Int32) (s0 : Int32)    (m_l0 : Nat) (hk_l0 : wK w l0 = (4, m_l0)) : val (94, d + 5, 15, [some (.ref l0), some (.int l1), some (.int l2), none], [.int s0], w) = val (94, d + 5, 27, [some (.ref l0), some (.int l1), some (.int l2), some (.int s0)], [.int (s0 - 1), .int (l2 - 1), .int l1, .int (gI w l0 4)], w) := by
  refine (val_g (c2 := (94, d + 5, 16, [some (.ref l0), some (.int l1), some (.int l2), some (.int s0)], [], w)) rfl).trans ?_
  refine (val_g (c2 := (94, d + 5, 17, [some (.ref l0), some (.int l1), some (.int l2), some (.int s0)], [.ref l0], w)) rfl).trans ?_
  refine (val_gf rfl hk_l0 rfl).trans ?_
  show val (94, d + 5, 20, [some (.ref l0), some (.int l1), some (.int l2), some (.int s0)], [.int (gI w l0 4)], w) = _
  refine (val_g (c2 := (94, d + 5, 21, [some (.ref l0), some (.int l1), some (.int l2), some (.int s0)], [.int l1, .int (gI w l0 4)], w)) rfl).trans ?_
  refine (val_g (c2 := (94, d + 5, 22, [some (.ref l0), some (.int l1), some (.int l2), some (.int s0)], [.int l2, .int l1, .int (gI w l0 4)], w)) rfl).trans ?_
  refine (val_g (c2 := (94, d + 5, 23, [some (.ref l0), some (.int l1), some (.int l2), some (.int s0)], [.int 1, .int l2, .int l1, .int (gI w l0 4)], w)) rfl).trans ?_
  refine (val_g (c2 := (94, d + 5, 24, [some (.ref l0), some (.int l1), some (.int l2), some (.int s0)], [.int (l2 - 1), .int l1, .int (gI w l0 4)], w)) rfl).trans ?_
  refine (val_g (c2 := (94, d + 5, 25, [some (.ref l0), some (.int l1), some (.int l2), some (.int s0)], [.int s0, .int (l2 - 1), .int l1, .int (gI w l0 4)], w)) rfl).trans ?_
  refine (val_g (c2 := (94, d + 5, 26, [some (.ref l0), some (.int l1), some (.int l2), some (.int s0)], [.int 1, .int s0, .int (l2 - 1), .int l1, .int (gI w l0 4)], w)) rfl).trans ?_
  refine (val_g (c2 := (94, d + 5, 27, [some (.ref l0), some (.int l1), some (.int l2), some (.int s0)], [.int (s0 - 1), .int (l2 - 1), .int l1, .int (gI w l0 4)], w)) rfl).trans ?_
  rfl
theorem tr_94_30 (d : Nat) (w : Wd) (l0 : Nat) (l1 : Int32) (l2 : Int32) (l3 : Int32) (s0 : Int32)     : val (94, d + 5, 30, [some (.ref l0), some (.int l1), some (.int l2), some (.int l3)], [.int s0], w) = some (some (.int s0), w) := by
  exact val_r rfl
/-- BelfryHouse$Reader.readTurn(I)I -/
theorem tr_95 (d : Nat) (w : Wd) (o : Nat) (x0 : Int32)    (m_o : Nat) (hk_o : wK w o = (4, m_o)) : val (95, d + 4, 0, [some (.ref o), some (.int x0), none, none], [], w) = val (95, d + 4, 6, [some (.ref o), some (.int x0), none, none], [.int (gI w o 4), .int 1, .ref o], w) := by
  refine (val_g (c2 := (95, d + 4, 1, [some (.ref o), some (.int x0), none, none], [.ref o], w)) rfl).trans ?_
  refine (val_g (c2 := (95, d + 4, 2, [some (.ref o), some (.int x0), none, none], [.int 1, .ref o], w)) rfl).trans ?_
  refine (val_g (c2 := (95, d + 4, 3, [some (.ref o), some (.int x0), none, none], [.ref o, .int 1, .ref o], w)) rfl).trans ?_
  refine (val_gf rfl hk_o rfl).trans ?_
  show val (95, d + 4, 6, [some (.ref o), some (.int x0), none, none], [.int (gI w o 4), .int 1, .ref o], w) = _
  rfl
theorem tr_95_9 (d : Nat) (w : Wd) (l0 : Nat) (l1 : Int32) (s0 : Int32)    (m_l0 : Nat) (hk_l0 : wK w l0 = (4, m_l0)) : val (95, d + 4, 9, [some (.ref l0), some (.int l1), none, none], [.int s0], w) = val (95, d + 4, 18, [some (.ref l0), some (.int l1), some (.int s0), none], [.int (gI w l0 4), .int (s0 + 1), .ref l0], w) := by
  refine (val_g (c2 := (95, d + 4, 10, [some (.ref l0), some (.int l1), some (.int s0), none], [], w)) rfl).trans ?_
  refine (val_g (c2 := (95, d + 4, 11, [some (.ref l0), some (.int l1), some (.int s0), none], [.ref l0], w)) rfl).trans ?_
  refine (val_g (c2 := (95, d + 4, 12, [some (.ref l0), some (.int l1), some (.int s0), none], [.int s0, .ref l0], w)) rfl).trans ?_
  refine (val_g (c2 := (95, d + 4, 13, [some (.ref l0), some (.int l1), some (.int s0), none], [.int 1, .int s0, .ref l0], w)) rfl).trans ?_
  refine (val_g (c2 := (95, d + 4, 14, [some (.ref l0), some (.int l1), some (.int s0), none], [.int (s0 + 1), .ref l0], w)) rfl).trans ?_
  refine (val_g (c2 := (95, d + 4, 15, [some (.ref l0), some (.int l1), some (.int s0), none], [.ref l0, .int (s0 + 1), .ref l0], w)) rfl).trans ?_
  refine (val_gf rfl hk_l0 rfl).trans ?_
  show val (95, d + 4, 18, [some (.ref l0), some (.int l1), some (.int s0), none], [.int (gI w l0 4), .int (s0 + 1), .ref l0], w) = _
  rfl
theorem tr_95_21 (d : Nat) (w : Wd) (l0 : Nat) (l1 : Int32) (l2 : Int32) (s0 : Int32)    (m_l0 : Nat) (hk_l0 : wK w l0 = (4, m_l0)) : val (95, d + 4, 21, [some (.ref l0), some (.int l1), some (.int l2), none], [.int s0], w) = (if 0 ≤ (gI w l0 1) then some (some (.int l1), w) else val (95, d + 4, 40, [some (.ref l0), some (.int l1), some (.int l2), some (.int s0)], [.int (s0 - 1), .int (l2 - 1), .int l1, .int (gI w l0 4)], w)) := by
  refine (val_g (c2 := (95, d + 4, 22, [some (.ref l0), some (.int l1), some (.int l2), some (.int s0)], [], w)) rfl).trans ?_
  refine (val_g (c2 := (95, d + 4, 23, [some (.ref l0), some (.int l1), some (.int l2), some (.int s0)], [.ref l0], w)) rfl).trans ?_
  refine (val_gf rfl hk_l0 rfl).trans ?_
  show val (95, d + 4, 26, [some (.ref l0), some (.int l1), some (.int l2), some (.int s0)], [.int (gI w l0 1)], w) = _
  by_cases hc560 : 0 ≤ (gI w l0 1)
  · refine ((val_if_ge rfl).trans (if_pos hc560)).trans ?_
    show val (95, d + 4, 46, [some (.ref l0), some (.int l1), some (.int l2), some (.int s0)], [], w) = _
    refine Eq.trans ?_ (if_pos hc560).symm
    refine (val_g (c2 := (95, d + 4, 47, [some (.ref l0), some (.int l1), some (.int l2), some (.int s0)], [.int l1], w)) rfl).trans ?_
    exact val_r rfl
  · refine ((val_if_ge rfl).trans (if_neg hc560)).trans ?_
    show val (95, d + 4, 29, [some (.ref l0), some (.int l1), some (.int l2), some (.int s0)], [], w) = _
    refine Eq.trans ?_ (if_neg hc560).symm
    refine (val_g (c2 := (95, d + 4, 30, [some (.ref l0), some (.int l1), some (.int l2), some (.int s0)], [.ref l0], w)) rfl).trans ?_
    refine (val_gf rfl hk_l0 rfl).trans ?_
    show val (95, d + 4, 33, [some (.ref l0), some (.int l1), some (.int l2), some (.int s0)], [.int (gI w l0 4)], w) = _
    refine (val_g (c2 := (95, d + 4, 34, [some (.ref l0), some (.int l1), some (.int l2), some (.int s0)], [.int l1, .int (gI w l0 4)], w)) rfl).trans ?_
    refine (val_g (c2 := (95, d + 4, 35, [some (.ref l0), some (.int l1), some (.int l2), some (.int s0)], [.int l2, .int l1, .int (gI w l0 4)], w)) rfl).trans ?_
    refine (val_g (c2 := (95, d + 4, 36, [some (.ref l0), some (.int l1), some (.int l2), some (.int s0)], [.int 1, .int l2, .int l1, .int (gI w l0 4)], w)) rfl).trans ?_
    refine (val_g (c2 := (95, d + 4, 37, [some (.ref l0), some (.int l1), some (.int l2), some (.int s0)], [.int (l2 - 1), .int l1, .int (gI w l0 4)], w)) rfl).trans ?_
    refine (val_g (c2 := (95, d + 4, 38, [some (.ref l0), some (.int l1), some (.int l2), some (.int s0)], [.int s0, .int (l2 - 1), .int l1, .int (gI w l0 4)], w)) rfl).trans ?_
    refine (val_g (c2 := (95, d + 4, 39, [some (.ref l0), some (.int l1), some (.int l2), some (.int s0)], [.int 1, .int s0, .int (l2 - 1), .int l1, .int (gI w l0 4)], w)) rfl).trans ?_
    refine (val_g (c2 := (95, d + 4, 40, [some (.ref l0), some (.int l1), some (.int l2), some (.int s0)], [.int (s0 - 1), .int (l2 - 1), .int l1, .int (gI w l0 4)], w)) rfl).trans ?_
    rfl
theorem tr_95_43 (d : Nat) (w : Wd) (l0 : Nat) (l1 : Int32) (l2 : Int32) (l3 : Int32) (s0 : Int32)     : val (95, d + 4, 43, [some (.ref l0), some (.int l1), some (.int l2), some (.int l3)], [.int s0], w) = some (some (.int s0), w) := by
  refine (val_g (c2 := (95, d + 4, 47, [some (.ref l0), some (.int l1), some (.int l2), some (.int l3)], [.int s0], w)) rfl).trans ?_
  exact val_r rfl
/-- BelfryHouse$Reals.missingBits(J)I -/
theorem tr_106 (d : Nat) (w : Wd) (x0 : Int64)     : val (106, d, 0, [some (.long x0), none, none], [], w) = val (106, d, 2, [some (.long x0), none, some (.int 0)], [], w) := by
  refine (val_g (c2 := (106, d, 1, [some (.long x0), none, none], [.int 0], w)) rfl).trans ?_
  refine (val_g (c2 := (106, d, 2, [some (.long x0), none, some (.int 0)], [], w)) rfl).trans ?_
  rfl
theorem tr_106_2 (d : Nat) (w : Wd) (l0 : Int64) (l2 : Int32)     : val (106, d, 2, [some (.long l0), none, some (.int l2)], [], w) = (if 52 ≤ l2 then some (some (.int l2), w) else (if 0 ≤ (cmpL ((shlL l0 l2)) 4503599627370496) then some (some (.int l2), w) else val (106, d, 2, [some (.long l0), none, some (.int (l2 + 1))], [], w))) := by
  refine (val_g (c2 := (106, d, 3, [some (.long l0), none, some (.int l2)], [.int l2], w)) rfl).trans ?_
  refine (val_g (c2 := (106, d, 5, [some (.long l0), none, some (.int l2)], [.int 52, .int l2], w)) rfl).trans ?_
  by_cases hc563 : 52 ≤ l2
  · refine ((val_ic_ge rfl).trans (if_pos hc563)).trans ?_
    show val (106, d, 24, [some (.long l0), none, some (.int l2)], [], w) = _
    refine Eq.trans ?_ (if_pos hc563).symm
    refine (val_g (c2 := (106, d, 25, [some (.long l0), none, some (.int l2)], [.int l2], w)) rfl).trans ?_
    exact val_r rfl
  · refine ((val_ic_ge rfl).trans (if_neg hc563)).trans ?_
    show val (106, d, 8, [some (.long l0), none, some (.int l2)], [], w) = _
    refine Eq.trans ?_ (if_neg hc563).symm
    refine (val_g (c2 := (106, d, 9, [some (.long l0), none, some (.int l2)], [.long l0], w)) rfl).trans ?_
    refine (val_g (c2 := (106, d, 10, [some (.long l0), none, some (.int l2)], [.int l2, .long l0], w)) rfl).trans ?_
    refine (val_g (c2 := (106, d, 11, [some (.long l0), none, some (.int l2)], [.long (shlL l0 l2)], w)) rfl).trans ?_
    refine (val_g (c2 := (106, d, 14, [some (.long l0), none, some (.int l2)], [.long 4503599627370496, .long (shlL l0 l2)], w)) rfl).trans ?_
    refine (val_g (c2 := (106, d, 15, [some (.long l0), none, some (.int l2)], [.int (cmpL ((shlL l0 l2)) 4503599627370496)], w)) rfl).trans ?_
    by_cases hc564 : 0 ≤ (cmpL ((shlL l0 l2)) 4503599627370496)
    · refine ((val_if_ge rfl).trans (if_pos hc564)).trans ?_
      show val (106, d, 24, [some (.long l0), none, some (.int l2)], [], w) = _
      refine Eq.trans ?_ (if_pos hc564).symm
      refine (val_g (c2 := (106, d, 25, [some (.long l0), none, some (.int l2)], [.int l2], w)) rfl).trans ?_
      exact val_r rfl
    · refine ((val_if_ge rfl).trans (if_neg hc564)).trans ?_
      show val (106, d, 18, [some (.long l0), none, some (.int l2)], [], w) = _
      refine Eq.trans ?_ (if_neg hc564).symm
      refine (val_g (c2 := (106, d, 21, [some (.long l0), none, some (.int (l2 + 1))], [], w)) rfl).trans ?_
      refine (val_g (c2 := (106, d, 2, [some (.long l0), none, some (.int (l2 + 1))], [], w)) rfl).trans ?_
      rfl
