/-! methods in segments; printed by program (wip/gen/p41.py, seg.py) -/
/-- BelfryHouse$Heads.gather(I)V -/
theorem tr_70 (d : Nat) (w : Wd) (hW : Fix w) (x0 : Int32)     : val (70, d, 0, [some (.ref 80), some (.int x0), none, none, none, none], [], w) = val (70, d, 7, [some (.ref 80), some (.int x0), some (.int 0), none, none, none], [], (sI w 80 1 0)) := by
  refine (val_g (c2 := (70, d, 1, [some (.ref 80), some (.int x0), none, none, none, none], [.ref 80], w)) rfl).trans ?_
  refine (val_g (c2 := (70, d, 2, [some (.ref 80), some (.int x0), none, none, none, none], [.int 0, .ref 80], w)) rfl).trans ?_
  refine (val_pf rfl (hW.k 80 (Nat.le_of_ble_eq_true rfl) (Nat.le_of_ble_eq_true rfl)) rfl).trans ?_
  show val (70, d, 5, [some (.ref 80), some (.int x0), none, none, none, none], [], (sI w 80 1 0)) = _
  refine (val_g (c2 := (70, d, 6, [some (.ref 80), some (.int x0), none, none, none, none], [.int 0], (sI w 80 1 0))) rfl).trans ?_
  refine (val_g (c2 := (70, d, 7, [some (.ref 80), some (.int x0), some (.int 0), none, none, none], [], (sI w 80 1 0))) rfl).trans ?_
  rfl
theorem tr_70_7 (d : Nat) (w : Wd) (hW : Fix w) (l1 : Int32) (l2 : Int32) (l3 : Option Value) (l5 : Option Value)   (hy1 : (¬ (l1 ≤ l2)) → inB ((l2 >>> (6 &&& 31))) 630 = true) : val (70, d, 7, [some (.ref 80), some (.int l1), some (.int l2), l3, none, l5], [], w) = (if l1 ≤ l2 then some (none, w) else val (70, d, 25, [some (.ref 80), some (.int l1), some (.int l2), some (.long (gL w 82 ((l2 >>> (6 &&& 31))).toNatClampNeg)), none, some (.int 0)], [], w)) := by
  refine (val_g (c2 := (70, d, 8, [some (.ref 80), some (.int l1), some (.int l2), l3, none, l5], [.int l2], w)) rfl).trans ?_
  refine (val_g (c2 := (70, d, 9, [some (.ref 80), some (.int l1), some (.int l2), l3, none, l5], [.int l1, .int l2], w)) rfl).trans ?_
  by_cases hc402 : l1 ≤ l2
  · refine ((val_ic_ge rfl).trans (if_pos hc402)).trans ?_
    show val (70, d, 94, [some (.ref 80), some (.int l1), some (.int l2), l3, none, l5], [], w) = _
    refine Eq.trans ?_ (if_pos hc402).symm
    exact val_r rfl
  · refine ((val_ic_ge rfl).trans (if_neg hc402)).trans ?_
    show val (70, d, 12, [some (.ref 80), some (.int l1), some (.int l2), l3, none, l5], [], w) = _
    refine Eq.trans ?_ (if_neg hc402).symm
    refine (val_g (c2 := (70, d, 13, [some (.ref 80), some (.int l1), some (.int l2), l3, none, l5], [.ref 80], w)) rfl).trans ?_
    refine (val_gf rfl (hW.k 80 (Nat.le_of_ble_eq_true rfl) (Nat.le_of_ble_eq_true rfl)) (fvR (hW.r 80 2 82 rfl))).trans ?_
    show val (70, d, 16, [some (.ref 80), some (.int l1), some (.int l2), l3, none, l5], [.ref 82], w) = _
    refine (val_g (c2 := (70, d, 17, [some (.ref 80), some (.int l1), some (.int l2), l3, none, l5], [.int l2, .ref 82], w)) rfl).trans ?_
    refine (val_g (c2 := (70, d, 19, [some (.ref 80), some (.int l1), some (.int l2), l3, none, l5], [.int 6, .int l2, .ref 82], w)) rfl).trans ?_
    refine (val_g (c2 := (70, d, 20, [some (.ref 80), some (.int l1), some (.int l2), l3, none, l5], [.int (l2 >>> (6 &&& 31)), .ref 82], w)) rfl).trans ?_
    refine (val_lal rfl (hW.k 82 (Nat.le_of_ble_eq_true rfl) (Nat.le_of_ble_eq_true rfl)) (hy1 hc402)).trans ?_
    show val (70, d, 21, [some (.ref 80), some (.int l1), some (.int l2), l3, none, l5], [.long (gL w 82 ((l2 >>> (6 &&& 31))).toNatClampNeg)], w) = _
    refine (val_g (c2 := (70, d, 22, [some (.ref 80), some (.int l1), some (.int l2), some (.long (gL w 82 ((l2 >>> (6 &&& 31))).toNatClampNeg)), none, l5], [], w)) rfl).trans ?_
    refine (val_g (c2 := (70, d, 23, [some (.ref 80), some (.int l1), some (.int l2), some (.long (gL w 82 ((l2 >>> (6 &&& 31))).toNatClampNeg)), none, l5], [.int 0], w)) rfl).trans ?_
    refine (val_g (c2 := (70, d, 25, [some (.ref 80), some (.int l1), some (.int l2), some (.long (gL w 82 ((l2 >>> (6 &&& 31))).toNatClampNeg)), none, some (.int 0)], [], w)) rfl).trans ?_
    rfl
theorem tr_70_25 (d : Nat) (w : Wd) (hW : Fix w) (l1 : Int32) (l2 : Int32) (l3 : Int64) (l5 : Int32)    (hy1 : (¬ (64 ≤ l5)) → (¬ ((cmpL l3 0) = 0)) → (¬ ((cmpL ((l3 &&& 1)) 0) = 0)) → (¬ ((Int32.ofNat 3600) ≤ (gI w 80 1))) → inB ((gI w 80 1)) 3600 = true) : val (70, d, 25, [some (.ref 80), some (.int l1), some (.int l2), some (.long l3), none, some (.int l5)], [], w) = (if 64 ≤ l5 then val (70, d, 7, [some (.ref 80), some (.int l1), some (.int (l2 + 64)), some (.long l3), none, some (.int l5)], [], w) else (if (cmpL l3 0) = 0 then val (70, d, 7, [some (.ref 80), some (.int l1), some (.int (l2 + 64)), some (.long l3), none, some (.int l5)], [], w) else (if (cmpL ((l3 &&& 1)) 0) = 0 then val (70, d, 25, [some (.ref 80), some (.int l1), some (.int l2), some (.long (ushL l3 1)), none, some (.int (l5 + 1))], [], w) else (if (Int32.ofNat 3600) ≤ (gI w 80 1) then val (70, d, 25, [some (.ref 80), some (.int l1), some (.int l2), some (.long (ushL l3 1)), none, some (.int (l5 + 1))], [], w) else val (70, d, 25, [some (.ref 80), some (.int l1), some (.int l2), some (.long (ushL l3 1)), none, some (.int (l5 + 1))], [], (sI ((sI w 80 1 (((gI w 80 1) + 1)))) 81 ((gI w 80 1)).toNatClampNeg ((l2 + l5)))))))) := by
  refine (val_g (c2 := (70, d, 27, [some (.ref 80), some (.int l1), some (.int l2), some (.long l3), none, some (.int l5)], [.int l5], w)) rfl).trans ?_
  refine (val_g (c2 := (70, d, 29, [some (.ref 80), some (.int l1), some (.int l2), some (.long l3), none, some (.int l5)], [.int 64, .int l5], w)) rfl).trans ?_
  by_cases hc403 : 64 ≤ l5
  · refine ((val_ic_ge rfl).trans (if_pos hc403)).trans ?_
    show val (70, d, 88, [some (.ref 80), some (.int l1), some (.int l2), some (.long l3), none, some (.int l5)], [], w) = _
    refine Eq.trans ?_ (if_pos hc403).symm
    refine (val_g (c2 := (70, d, 91, [some (.ref 80), some (.int l1), some (.int (l2 + 64)), some (.long l3), none, some (.int l5)], [], w)) rfl).trans ?_
    refine (val_g (c2 := (70, d, 7, [some (.ref 80), some (.int l1), some (.int (l2 + 64)), some (.long l3), none, some (.int l5)], [], w)) rfl).trans ?_
    rfl
  · refine ((val_ic_ge rfl).trans (if_neg hc403)).trans ?_
    show val (70, d, 32, [some (.ref 80), some (.int l1), some (.int l2), some (.long l3), none, some (.int l5)], [], w) = _
    refine Eq.trans ?_ (if_neg hc403).symm
    refine (val_g (c2 := (70, d, 33, [some (.ref 80), some (.int l1), some (.int l2), some (.long l3), none, some (.int l5)], [.long l3], w)) rfl).trans ?_
    refine (val_g (c2 := (70, d, 34, [some (.ref 80), some (.int l1), some (.int l2), some (.long l3), none, some (.int l5)], [.long 0, .long l3], w)) rfl).trans ?_
    refine (val_g (c2 := (70, d, 35, [some (.ref 80), some (.int l1), some (.int l2), some (.long l3), none, some (.int l5)], [.int (cmpL l3 0)], w)) rfl).trans ?_
    by_cases hc404 : (cmpL l3 0) = 0
    · refine ((val_if_eq rfl).trans (if_pos hc404)).trans ?_
      show val (70, d, 88, [some (.ref 80), some (.int l1), some (.int l2), some (.long l3), none, some (.int l5)], [], w) = _
      refine Eq.trans ?_ (if_pos hc404).symm
      refine (val_g (c2 := (70, d, 91, [some (.ref 80), some (.int l1), some (.int (l2 + 64)), some (.long l3), none, some (.int l5)], [], w)) rfl).trans ?_
      refine (val_g (c2 := (70, d, 7, [some (.ref 80), some (.int l1), some (.int (l2 + 64)), some (.long l3), none, some (.int l5)], [], w)) rfl).trans ?_
      rfl
    · refine ((val_if_eq rfl).trans (if_neg hc404)).trans ?_
      show val (70, d, 38, [some (.ref 80), some (.int l1), some (.int l2), some (.long l3), none, some (.int l5)], [], w) = _
      refine Eq.trans ?_ (if_neg hc404).symm
      refine (val_g (c2 := (70, d, 39, [some (.ref 80), some (.int l1), some (.int l2), some (.long l3), none, some (.int l5)], [.long l3], w)) rfl).trans ?_
      refine (val_g (c2 := (70, d, 40, [some (.ref 80), some (.int l1), some (.int l2), some (.long l3), none, some (.int l5)], [.long 1, .long l3], w)) rfl).trans ?_
      refine (val_g (c2 := (70, d, 41, [some (.ref 80), some (.int l1), some (.int l2), some (.long l3), none, some (.int l5)], [.long (l3 &&& 1)], w)) rfl).trans ?_
      refine (val_g (c2 := (70, d, 42, [some (.ref 80), some (.int l1), some (.int l2), some (.long l3), none, some (.int l5)], [.long 0, .long (l3 &&& 1)], w)) rfl).trans ?_
      refine (val_g (c2 := (70, d, 43, [some (.ref 80), some (.int l1), some (.int l2), some (.long l3), none, some (.int l5)], [.int (cmpL ((l3 &&& 1)) 0)], w)) rfl).trans ?_
      by_cases hc405 : (cmpL ((l3 &&& 1)) 0) = 0
      · refine ((val_if_eq rfl).trans (if_pos hc405)).trans ?_
        show val (70, d, 78, [some (.ref 80), some (.int l1), some (.int l2), some (.long l3), none, some (.int l5)], [], w) = _
        refine Eq.trans ?_ (if_pos hc405).symm
        refine (val_g (c2 := (70, d, 79, [some (.ref 80), some (.int l1), some (.int l2), some (.long l3), none, some (.int l5)], [.long l3], w)) rfl).trans ?_
        refine (val_g (c2 := (70, d, 80, [some (.ref 80), some (.int l1), some (.int l2), some (.long l3), none, some (.int l5)], [.int 1, .long l3], w)) rfl).trans ?_
        refine (val_g (c2 := (70, d, 81, [some (.ref 80), some (.int l1), some (.int l2), some (.long l3), none, some (.int l5)], [.long (ushL l3 1)], w)) rfl).trans ?_
        refine (val_g (c2 := (70, d, 82, [some (.ref 80), some (.int l1), some (.int l2), some (.long (ushL l3 1)), none, some (.int l5)], [], w)) rfl).trans ?_
        refine (val_g (c2 := (70, d, 85, [some (.ref 80), some (.int l1), some (.int l2), some (.long (ushL l3 1)), none, some (.int (l5 + 1))], [], w)) rfl).trans ?_
        refine (val_g (c2 := (70, d, 25, [some (.ref 80), some (.int l1), some (.int l2), some (.long (ushL l3 1)), none, some (.int (l5 + 1))], [], w)) rfl).trans ?_
        rfl
      · refine ((val_if_eq rfl).trans (if_neg hc405)).trans ?_
        show val (70, d, 46, [some (.ref 80), some (.int l1), some (.int l2), some (.long l3), none, some (.int l5)], [], w) = _
        refine Eq.trans ?_ (if_neg hc405).symm
        refine (val_g (c2 := (70, d, 47, [some (.ref 80), some (.int l1), some (.int l2), some (.long l3), none, some (.int l5)], [.ref 80], w)) rfl).trans ?_
        refine (val_gf rfl (hW.k 80 (Nat.le_of_ble_eq_true rfl) (Nat.le_of_ble_eq_true rfl)) rfl).trans ?_
        show val (70, d, 50, [some (.ref 80), some (.int l1), some (.int l2), some (.long l3), none, some (.int l5)], [.int (gI w 80 1)], w) = _
        refine (val_g (c2 := (70, d, 51, [some (.ref 80), some (.int l1), some (.int l2), some (.long l3), none, some (.int l5)], [.ref 80, .int (gI w 80 1)], w)) rfl).trans ?_
        refine (val_gf rfl (hW.k 80 (Nat.le_of_ble_eq_true rfl) (Nat.le_of_ble_eq_true rfl)) (fvR (hW.r 80 0 81 rfl))).trans ?_
        show val (70, d, 54, [some (.ref 80), some (.int l1), some (.int l2), some (.long l3), none, some (.int l5)], [.ref 81, .int (gI w 80 1)], w) = _
        refine (val_alen rfl (hW.k 81 (Nat.le_of_ble_eq_true rfl) (Nat.le_of_ble_eq_true rfl)) rfl).trans ?_
        show val (70, d, 55, [some (.ref 80), some (.int l1), some (.int l2), some (.long l3), none, some (.int l5)], [.int (Int32.ofNat 3600), .int (gI w 80 1)], w) = _
        by_cases hc406 : (Int32.ofNat 3600) ≤ (gI w 80 1)
        · refine ((val_ic_ge rfl).trans (if_pos hc406)).trans ?_
          show val (70, d, 78, [some (.ref 80), some (.int l1), some (.int l2), some (.long l3), none, some (.int l5)], [], w) = _
          refine Eq.trans ?_ (if_pos hc406).symm
          refine (val_g (c2 := (70, d, 79, [some (.ref 80), some (.int l1), some (.int l2), some (.long l3), none, some (.int l5)], [.long l3], w)) rfl).trans ?_
          refine (val_g (c2 := (70, d, 80, [some (.ref 80), some (.int l1), some (.int l2), some (.long l3), none, some (.int l5)], [.int 1, .long l3], w)) rfl).trans ?_
          refine (val_g (c2 := (70, d, 81, [some (.ref 80), some (.int l1), some (.int l2), some (.long l3), none, some (.int l5)], [.long (ushL l3 1)], w)) rfl).trans ?_
          refine (val_g (c2 := (70, d, 82, [some (.ref 80), some (.int l1), some (.int l2), some (.long (ushL l3 1)), none, some (.int l5)], [], w)) rfl).trans ?_
          refine (val_g (c2 := (70, d, 85, [some (.ref 80), some (.int l1), some (.int l2), some (.long (ushL l3 1)), none, some (.int (l5 + 1))], [], w)) rfl).trans ?_
          refine (val_g (c2 := (70, d, 25, [some (.ref 80), some (.int l1), some (.int l2), some (.long (ushL l3 1)), none, some (.int (l5 + 1))], [], w)) rfl).trans ?_
          rfl
        · refine ((val_ic_ge rfl).trans (if_neg hc406)).trans ?_
          show val (70, d, 58, [some (.ref 80), some (.int l1), some (.int l2), some (.long l3), none, some (.int l5)], [], w) = _
          refine Eq.trans ?_ (if_neg hc406).symm
          refine (val_g (c2 := (70, d, 59, [some (.ref 80), some (.int l1), some (.int l2), some (.long l3), none, some (.int l5)], [.ref 80], w)) rfl).trans ?_
          refine (val_gf rfl (hW.k 80 (Nat.le_of_ble_eq_true rfl) (Nat.le_of_ble_eq_true rfl)) (fvR (hW.r 80 0 81 rfl))).trans ?_
          show val (70, d, 62, [some (.ref 80), some (.int l1), some (.int l2), some (.long l3), none, some (.int l5)], [.ref 81], w) = _
          refine (val_g (c2 := (70, d, 63, [some (.ref 80), some (.int l1), some (.int l2), some (.long l3), none, some (.int l5)], [.ref 80, .ref 81], w)) rfl).trans ?_
          refine (val_g (c2 := (70, d, 64, [some (.ref 80), some (.int l1), some (.int l2), some (.long l3), none, some (.int l5)], [.ref 80, .ref 80, .ref 81], w)) rfl).trans ?_
          refine (val_gf rfl (hW.k 80 (Nat.le_of_ble_eq_true rfl) (Nat.le_of_ble_eq_true rfl)) rfl).trans ?_
          show val (70, d, 67, [some (.ref 80), some (.int l1), some (.int l2), some (.long l3), none, some (.int l5)], [.int (gI w 80 1), .ref 80, .ref 81], w) = _
          refine (val_g (c2 := (70, d, 68, [some (.ref 80), some (.int l1), some (.int l2), some (.long l3), none, some (.int l5)], [.int (gI w 80 1), .ref 80, .int (gI w 80 1), .ref 81], w)) rfl).trans ?_
          refine (val_g (c2 := (70, d, 69, [some (.ref 80), some (.int l1), some (.int l2), some (.long l3), none, some (.int l5)], [.int 1, .int (gI w 80 1), .ref 80, .int (gI w 80 1), .ref 81], w)) rfl).trans ?_
          refine (val_g (c2 := (70, d, 70, [some (.ref 80), some (.int l1), some (.int l2), some (.long l3), none, some (.int l5)], [.int ((gI w 80 1) + 1), .ref 80, .int (gI w 80 1), .ref 81], w)) rfl).trans ?_
          refine (val_pf rfl (hW.k 80 (Nat.le_of_ble_eq_true rfl) (Nat.le_of_ble_eq_true rfl)) rfl).trans ?_
          show val (70, d, 73, [some (.ref 80), some (.int l1), some (.int l2), some (.long l3), none, some (.int l5)], [.int (gI w 80 1), .ref 81], (sI w 80 1 (((gI w 80 1) + 1)))) = _
          refine (val_g (c2 := (70, d, 74, [some (.ref 80), some (.int l1), some (.int l2), some (.long l3), none, some (.int l5)], [.int l2, .int (gI w 80 1), .ref 81], (sI w 80 1 (((gI w 80 1) + 1))))) rfl).trans ?_
          refine (val_g (c2 := (70, d, 76, [some (.ref 80), some (.int l1), some (.int l2), some (.long l3), none, some (.int l5)], [.int l5, .int l2, .int (gI w 80 1), .ref 81], (sI w 80 1 (((gI w 80 1) + 1))))) rfl).trans ?_
          refine (val_g (c2 := (70, d, 77, [some (.ref 80), some (.int l1), some (.int l2), some (.long l3), none, some (.int l5)], [.int (l2 + l5), .int (gI w 80 1), .ref 81], (sI w 80 1 (((gI w 80 1) + 1))))) rfl).trans ?_
          refine (val_ias (w := (sI w 80 1 (((gI w 80 1) + 1)))) rfl (hW.k 81 (Nat.le_of_ble_eq_true rfl) (Nat.le_of_ble_eq_true rfl)) (hy1 hc403 hc404 hc405 hc406)).trans ?_
          show val (70, d, 78, [some (.ref 80), some (.int l1), some (.int l2), some (.long l3), none, some (.int l5)], [], (sI ((sI w 80 1 (((gI w 80 1) + 1)))) 81 ((gI w 80 1)).toNatClampNeg ((l2 + l5)))) = _
          refine (val_g (c2 := (70, d, 79, [some (.ref 80), some (.int l1), some (.int l2), some (.long l3), none, some (.int l5)], [.long l3], (sI ((sI w 80 1 (((gI w 80 1) + 1)))) 81 ((gI w 80 1)).toNatClampNeg ((l2 + l5))))) rfl).trans ?_
          refine (val_g (c2 := (70, d, 80, [some (.ref 80), some (.int l1), some (.int l2), some (.long l3), none, some (.int l5)], [.int 1, .long l3], (sI ((sI w 80 1 (((gI w 80 1) + 1)))) 81 ((gI w 80 1)).toNatClampNeg ((l2 + l5))))) rfl).trans ?_
          refine (val_g (c2 := (70, d, 81, [some (.ref 80), some (.int l1), some (.int l2), some (.long l3), none, some (.int l5)], [.long (ushL l3 1)], (sI ((sI w 80 1 (((gI w 80 1) + 1)))) 81 ((gI w 80 1)).toNatClampNeg ((l2 + l5))))) rfl).trans ?_
          refine (val_g (c2 := (70, d, 82, [some (.ref 80), some (.int l1), some (.int l2), some (.long (ushL l3 1)), none, some (.int l5)], [], (sI ((sI w 80 1 (((gI w 80 1) + 1)))) 81 ((gI w 80 1)).toNatClampNeg ((l2 + l5))))) rfl).trans ?_
          refine (val_g (c2 := (70, d, 85, [some (.ref 80), some (.int l1), some (.int l2), some (.long (ushL l3 1)), none, some (.int (l5 + 1))], [], (sI ((sI w 80 1 (((gI w 80 1) + 1)))) 81 ((gI w 80 1)).toNatClampNeg ((l2 + l5))))) rfl).trans ?_
          refine (val_g (c2 := (70, d, 25, [some (.ref 80), some (.int l1), some (.int l2), some (.long (ushL l3 1)), none, some (.int (l5 + 1))], [], (sI ((sI w 80 1 (((gI w 80 1) + 1)))) 81 ((gI w 80 1)).toNatClampNeg ((l2 + l5))))) rfl).trans ?_
          rfl
/-- BelfryHouse$Method.<init>()V -/
theorem tr_71 (d : Nat) (w : Wd) (o : Nat)    (hy1 : 64 ≤ o) : val (71, d + 1, 0, [some (.ref o)], [], w) = val (71, d + 1, 7, [some (.ref o)], [.int 20, .ref o], w) := by
  refine (val_g (c2 := (71, d + 1, 1, [some (.ref o)], [.ref o], w)) rfl).trans ?_
  refine (val_obj rfl hy1 (Nat.le_of_ble_eq_true rfl)).trans ?_
  show val (71, d + 1, 4, [some (.ref o)], [], w) = _
  refine (val_g (c2 := (71, d + 1, 5, [some (.ref o)], [.ref o], w)) rfl).trans ?_
  refine (val_g (c2 := (71, d + 1, 7, [some (.ref o)], [.int 20, .ref o], w)) rfl).trans ?_
  rfl
theorem tr_71_13 (d : Nat) (w : Wd) (l0 : Nat)    (m_l0 : Nat) (hk_l0 : wK w l0 = (3, m_l0)) : val (71, d + 1, 13, [some (.ref l0)], [], w) = some (none, (sI ((sI w l0 1 0)) l0 2 0)) := by
  refine (val_g (c2 := (71, d + 1, 14, [some (.ref l0)], [.ref l0], w)) rfl).trans ?_
  refine (val_g (c2 := (71, d + 1, 15, [some (.ref l0)], [.int 0, .ref l0], w)) rfl).trans ?_
  refine (val_pf rfl hk_l0 rfl).trans ?_
  show val (71, d + 1, 18, [some (.ref l0)], [], (sI w l0 1 0)) = _
  refine (val_g (c2 := (71, d + 1, 19, [some (.ref l0)], [.ref l0], (sI w l0 1 0))) rfl).trans ?_
  refine (val_g (c2 := (71, d + 1, 20, [some (.ref l0)], [.int 0, .ref l0], (sI w l0 1 0))) rfl).trans ?_
  refine (val_pf (w := (sI w l0 1 0)) rfl hk_l0 rfl).trans ?_
  show val (71, d + 1, 23, [some (.ref l0)], [], (sI ((sI w l0 1 0)) l0 2 0)) = _
  exact val_r rfl
/-- BelfryHouse$Method.add(LBelfryHouse$Rule;)V -/
theorem tr_72 (d : Nat) (w : Wd) (o : Nat) (p0 : Nat)    (m_o : Nat) (hk_o : wK w o = (3, m_o)) (q0_o : Nat) (hr0_o : gR w o 0 = some q0_o) : val (72, d, 0, [some (.ref o), some (.ref p0)], [], w) = (if 20 ≤ (gI w o 1) then val (72, d, 26, [some (.ref o), some (.ref p0)], [], w) else val (72, d, 25, [some (.ref o), some (.ref p0)], [.ref p0, .int (gI w o 1), .ref q0_o], (sI w o 1 (((gI w o 1) + 1))))) := by
  refine (val_g (c2 := (72, d, 1, [some (.ref o), some (.ref p0)], [.ref o], w)) rfl).trans ?_
  refine (val_gf rfl hk_o rfl).trans ?_
  show val (72, d, 4, [some (.ref o), some (.ref p0)], [.int (gI w o 1)], w) = _
  refine (val_g (c2 := (72, d, 6, [some (.ref o), some (.ref p0)], [.int 20, .int (gI w o 1)], w)) rfl).trans ?_
  by_cases hc408 : 20 ≤ (gI w o 1)
  · refine ((val_ic_ge rfl).trans (if_pos hc408)).trans ?_
    show val (72, d, 26, [some (.ref o), some (.ref p0)], [], w) = _
    refine Eq.trans ?_ (if_pos hc408).symm
    rfl
  · refine ((val_ic_ge rfl).trans (if_neg hc408)).trans ?_
    show val (72, d, 9, [some (.ref o), some (.ref p0)], [], w) = _
    refine Eq.trans ?_ (if_neg hc408).symm
    refine (val_g (c2 := (72, d, 10, [some (.ref o), some (.ref p0)], [.ref o], w)) rfl).trans ?_
    refine (val_gf rfl hk_o (fvR hr0_o)).trans ?_
    show val (72, d, 13, [some (.ref o), some (.ref p0)], [.ref q0_o], w) = _
    refine (val_g (c2 := (72, d, 14, [some (.ref o), some (.ref p0)], [.ref o, .ref q0_o], w)) rfl).trans ?_
    refine (val_g (c2 := (72, d, 15, [some (.ref o), some (.ref p0)], [.ref o, .ref o, .ref q0_o], w)) rfl).trans ?_
    refine (val_gf rfl hk_o rfl).trans ?_
    show val (72, d, 18, [some (.ref o), some (.ref p0)], [.int (gI w o 1), .ref o, .ref q0_o], w) = _
    refine (val_g (c2 := (72, d, 19, [some (.ref o), some (.ref p0)], [.int (gI w o 1), .ref o, .int (gI w o 1), .ref q0_o], w)) rfl).trans ?_
    refine (val_g (c2 := (72, d, 20, [some (.ref o), some (.ref p0)], [.int 1, .int (gI w o 1), .ref o, .int (gI w o 1), .ref q0_o], w)) rfl).trans ?_
    refine (val_g (c2 := (72, d, 21, [some (.ref o), some (.ref p0)], [.int ((gI w o 1) + 1), .ref o, .int (gI w o 1), .ref q0_o], w)) rfl).trans ?_
    refine (val_pf rfl hk_o rfl).trans ?_
    show val (72, d, 24, [some (.ref o), some (.ref p0)], [.int (gI w o 1), .ref q0_o], (sI w o 1 (((gI w o 1) + 1)))) = _
    refine (val_g (c2 := (72, d, 25, [some (.ref o), some (.ref p0)], [.ref p0, .int (gI w o 1), .ref q0_o], (sI w o 1 (((gI w o 1) + 1))))) rfl).trans ?_
    rfl
theorem tr_72_26 (d : Nat) (w : Wd) (l0 : Nat) (l1 : Nat)     : val (72, d, 26, [some (.ref l0), some (.ref l1)], [], w) = some (none, w) := by
  exact val_r rfl
/-- BelfryHouse$Method.ruleFor(IIIZ)LBelfryHouse$Rule; -/
theorem tr_73 (d : Nat) (w : Wd) (o : Nat) (x0 : Int32) (x1 : Int32) (x2 : Int32) (x3 : Int32)     : val (73, d + 4, 0, [some (.ref o), some (.int x0), some (.int x1), some (.int x2), some (.int x3), none], [], w) = val (73, d + 4, 3, [some (.ref o), some (.int x0), some (.int x1), some (.int x2), some (.int x3), some (.int 0)], [], w) := by
  refine (val_g (c2 := (73, d + 4, 1, [some (.ref o), some (.int x0), some (.int x1), some (.int x2), some (.int x3), none], [.int 0], w)) rfl).trans ?_
  refine (val_g (c2 := (73, d + 4, 3, [some (.ref o), some (.int x0), some (.int x1), some (.int x2), some (.int x3), some (.int 0)], [], w)) rfl).trans ?_
  rfl
theorem tr_73_3 (d : Nat) (w : Wd) (l0 : Nat) (l1 : Int32) (l2 : Int32) (l3 : Int32) (l4 : Int32) (l5 : Int32)    (m_l0 : Nat) (hk_l0 : wK w l0 = (3, m_l0)) (q0_l0 : Nat) (hr0_l0 : gR w l0 0 = some q0_l0) : val (73, d + 4, 3, [some (.ref l0), some (.int l1), some (.int l2), some (.int l3), some (.int l4), some (.int l5)], [], w) = (if (gI w l0 1) ≤ l5 then some (some (.null), w) else val (73, d + 4, 18, [some (.ref l0), some (.int l1), some (.int l2), some (.int l3), some (.int l4), some (.int l5)], [.int l5, .ref q0_l0], w)) := by
  refine (val_g (c2 := (73, d + 4, 5, [some (.ref l0), some (.int l1), some (.int l2), some (.int l3), some (.int l4), some (.int l5)], [.int l5], w)) rfl).trans ?_
  refine (val_g (c2 := (73, d + 4, 6, [some (.ref l0), some (.int l1), some (.int l2), some (.int l3), some (.int l4), some (.int l5)], [.ref l0, .int l5], w)) rfl).trans ?_
  refine (val_gf rfl hk_l0 rfl).trans ?_
  show val (73, d + 4, 9, [some (.ref l0), some (.int l1), some (.int l2), some (.int l3), some (.int l4), some (.int l5)], [.int (gI w l0 1), .int l5], w) = _
  by_cases hc411 : (gI w l0 1) ≤ l5
  · refine ((val_ic_ge rfl).trans (if_pos hc411)).trans ?_
    show val (73, d + 4, 44, [some (.ref l0), some (.int l1), some (.int l2), some (.int l3), some (.int l4), some (.int l5)], [], w) = _
    refine Eq.trans ?_ (if_pos hc411).symm
    refine (val_g (c2 := (73, d + 4, 45, [some (.ref l0), some (.int l1), some (.int l2), some (.int l3), some (.int l4), some (.int l5)], [.null], w)) rfl).trans ?_
    exact val_r rfl
  · refine ((val_ic_ge rfl).trans (if_neg hc411)).trans ?_
    show val (73, d + 4, 12, [some (.ref l0), some (.int l1), some (.int l2), some (.int l3), some (.int l4), some (.int l5)], [], w) = _
    refine Eq.trans ?_ (if_neg hc411).symm
    refine (val_g (c2 := (73, d + 4, 13, [some (.ref l0), some (.int l1), some (.int l2), some (.int l3), some (.int l4), some (.int l5)], [.ref l0], w)) rfl).trans ?_
    refine (val_gf rfl hk_l0 (fvR hr0_l0)).trans ?_
    show val (73, d + 4, 16, [some (.ref l0), some (.int l1), some (.int l2), some (.int l3), some (.int l4), some (.int l5)], [.ref q0_l0], w) = _
    refine (val_g (c2 := (73, d + 4, 18, [some (.ref l0), some (.int l1), some (.int l2), some (.int l3), some (.int l4), some (.int l5)], [.int l5, .ref q0_l0], w)) rfl).trans ?_
    rfl
theorem tr_73_19 (d : Nat) (w : Wd) (l0 : Nat) (l1 : Int32) (l2 : Int32) (l3 : Int32) (l4 : Int32) (l5 : Int32) (s0 : Nat)     : val (73, d + 4, 19, [some (.ref l0), some (.int l1), some (.int l2), some (.int l3), some (.int l4), some (.int l5)], [.ref s0], w) = val (73, d + 4, 24, [some (.ref l0), some (.int l1), some (.int l2), some (.int l3), some (.int l4), some (.int l5)], [.int l4, .int l3, .int l2, .int l1, .ref s0], w) := by
  refine (val_g (c2 := (73, d + 4, 20, [some (.ref l0), some (.int l1), some (.int l2), some (.int l3), some (.int l4), some (.int l5)], [.int l1, .ref s0], w)) rfl).trans ?_
  refine (val_g (c2 := (73, d + 4, 21, [some (.ref l0), some (.int l1), some (.int l2), some (.int l3), some (.int l4), some (.int l5)], [.int l2, .int l1, .ref s0], w)) rfl).trans ?_
  refine (val_g (c2 := (73, d + 4, 22, [some (.ref l0), some (.int l1), some (.int l2), some (.int l3), some (.int l4), some (.int l5)], [.int l3, .int l2, .int l1, .ref s0], w)) rfl).trans ?_
  refine (val_g (c2 := (73, d + 4, 24, [some (.ref l0), some (.int l1), some (.int l2), some (.int l3), some (.int l4), some (.int l5)], [.int l4, .int l3, .int l2, .int l1, .ref s0], w)) rfl).trans ?_
  rfl
theorem tr_73_27 (d : Nat) (w : Wd) (l0 : Nat) (l1 : Int32) (l2 : Int32) (l3 : Int32) (l4 : Int32) (l5 : Int32) (s0 : Int32)    (m_l0 : Nat) (hk_l0 : wK w l0 = (3, m_l0)) (q0_l0 : Nat) (hr0_l0 : gR w l0 0 = some q0_l0) : val (73, d + 4, 27, [some (.ref l0), some (.int l1), some (.int l2), some (.int l3), some (.int l4), some (.int l5)], [.int s0], w) = (if s0 = 0 then val (73, d + 4, 3, [some (.ref l0), some (.int l1), some (.int l2), some (.int l3), some (.int l4), some (.int (l5 + 1))], [], w) else val (73, d + 4, 36, [some (.ref l0), some (.int l1), some (.int l2), some (.int l3), some (.int l4), some (.int l5)], [.int l5, .ref q0_l0], w)) := by
  by_cases hc412 : s0 = 0
  · refine ((val_if_eq rfl).trans (if_pos hc412)).trans ?_
    show val (73, d + 4, 38, [some (.ref l0), some (.int l1), some (.int l2), some (.int l3), some (.int l4), some (.int l5)], [], w) = _
    refine Eq.trans ?_ (if_pos hc412).symm
    refine (val_g (c2 := (73, d + 4, 41, [some (.ref l0), some (.int l1), some (.int l2), some (.int l3), some (.int l4), some (.int (l5 + 1))], [], w)) rfl).trans ?_
    refine (val_g (c2 := (73, d + 4, 3, [some (.ref l0), some (.int l1), some (.int l2), some (.int l3), some (.int l4), some (.int (l5 + 1))], [], w)) rfl).trans ?_
    rfl
  · refine ((val_if_eq rfl).trans (if_neg hc412)).trans ?_
    show val (73, d + 4, 30, [some (.ref l0), some (.int l1), some (.int l2), some (.int l3), some (.int l4), some (.int l5)], [], w) = _
    refine Eq.trans ?_ (if_neg hc412).symm
    refine (val_g (c2 := (73, d + 4, 31, [some (.ref l0), some (.int l1), some (.int l2), some (.int l3), some (.int l4), some (.int l5)], [.ref l0], w)) rfl).trans ?_
    refine (val_gf rfl hk_l0 (fvR hr0_l0)).trans ?_
    show val (73, d + 4, 34, [some (.ref l0), some (.int l1), some (.int l2), some (.int l3), some (.int l4), some (.int l5)], [.ref q0_l0], w) = _
    refine (val_g (c2 := (73, d + 4, 36, [some (.ref l0), some (.int l1), some (.int l2), some (.int l3), some (.int l4), some (.int l5)], [.int l5, .ref q0_l0], w)) rfl).trans ?_
    rfl
theorem tr_73_37 (d : Nat) (w : Wd) (l0 : Nat) (l1 : Int32) (l2 : Int32) (l3 : Int32) (l4 : Int32) (l5 : Int32) (s0 : Nat)     : val (73, d + 4, 37, [some (.ref l0), some (.int l1), some (.int l2), some (.int l3), some (.int l4), some (.int l5)], [.ref s0], w) = some (some (.ref s0), w) := by
  exact val_r rfl
/-- BelfryHouse$Reader.<init>([BII)V -/
theorem tr_74 (d : Nat) (w : Wd) (o : Nat) (p0 : Nat) (x1 : Int32) (x2 : Int32)    (hy1 : 64 ≤ o) : val (74, d + 2, 0, [some (.ref o), some (.ref p0), some (.int x1), some (.int x2)], [], w) = val (74, d + 2, 5, [some (.ref o), some (.ref p0), some (.int x1), some (.int x2)], [.ref o], w) := by
  refine (val_g (c2 := (74, d + 2, 1, [some (.ref o), some (.ref p0), some (.int x1), some (.int x2)], [.ref o], w)) rfl).trans ?_
  refine (val_obj rfl hy1 (Nat.le_of_ble_eq_true rfl)).trans ?_
  show val (74, d + 2, 4, [some (.ref o), some (.ref p0), some (.int x1), some (.int x2)], [], w) = _
  refine (val_g (c2 := (74, d + 2, 5, [some (.ref o), some (.ref p0), some (.int x1), some (.int x2)], [.ref o], w)) rfl).trans ?_
  rfl
theorem tr_74_8 (d : Nat) (w : Wd) (l0 : Nat) (l1 : Nat) (l2 : Int32) (l3 : Int32) (s0 : Nat) (s1 : Nat)     : val (74, d + 2, 8, [some (.ref l0), some (.ref l1), some (.int l2), some (.int l3)], [.ref s0, .ref s1], w) = val (74, d + 2, 9, [some (.ref l0), some (.ref l1), some (.int l2), some (.int l3)], [.ref s0, .ref s0, .ref s1], w) := by
  refine (val_g (c2 := (74, d + 2, 9, [some (.ref l0), some (.ref l1), some (.int l2), some (.int l3)], [.ref s0, .ref s0, .ref s1], w)) rfl).trans ?_
  rfl
theorem tr_74_15 (d : Nat) (w : Wd) (l0 : Nat) (l1 : Nat) (l2 : Int32) (l3 : Int32)    (m_l0 : Nat) (hk_l0 : wK w l0 = (4, m_l0)) : val (74, d + 2, 15, [some (.ref l0), some (.ref l1), some (.int l2), some (.int l3)], [], w) = val (74, d + 2, 37, [some (.ref l0), some (.ref l1), some (.int l2), some (.int l3)], [.ref l1, .ref l0], (sI ((sI ((sI ((sI w l0 1 ((-1)))) l0 5 0)) l0 6 0)) l0 7 0)) := by
  refine (val_g (c2 := (74, d + 2, 16, [some (.ref l0), some (.ref l1), some (.int l2), some (.int l3)], [.ref l0], w)) rfl).trans ?_
  refine (val_g (c2 := (74, d + 2, 17, [some (.ref l0), some (.ref l1), some (.int l2), some (.int l3)], [.int (-1), .ref l0], w)) rfl).trans ?_
  refine (val_pf rfl hk_l0 rfl).trans ?_
  show val (74, d + 2, 20, [some (.ref l0), some (.ref l1), some (.int l2), some (.int l3)], [], (sI w l0 1 ((-1)))) = _
  refine (val_g (c2 := (74, d + 2, 21, [some (.ref l0), some (.ref l1), some (.int l2), some (.int l3)], [.ref l0], (sI w l0 1 ((-1))))) rfl).trans ?_
  refine (val_g (c2 := (74, d + 2, 22, [some (.ref l0), some (.ref l1), some (.int l2), some (.int l3)], [.int 0, .ref l0], (sI w l0 1 ((-1))))) rfl).trans ?_
  refine (val_pf (w := (sI w l0 1 ((-1)))) rfl hk_l0 rfl).trans ?_
  show val (74, d + 2, 25, [some (.ref l0), some (.ref l1), some (.int l2), some (.int l3)], [], (sI ((sI w l0 1 ((-1)))) l0 5 0)) = _
  refine (val_g (c2 := (74, d + 2, 26, [some (.ref l0), some (.ref l1), some (.int l2), some (.int l3)], [.ref l0], (sI ((sI w l0 1 ((-1)))) l0 5 0))) rfl).trans ?_
  refine (val_g (c2 := (74, d + 2, 27, [some (.ref l0), some (.ref l1), some (.int l2), some (.int l3)], [.int 0, .ref l0], (sI ((sI w l0 1 ((-1)))) l0 5 0))) rfl).trans ?_
  refine (val_pf (w := (sI ((sI w l0 1 ((-1)))) l0 5 0)) rfl hk_l0 rfl).trans ?_
  show val (74, d + 2, 30, [some (.ref l0), some (.ref l1), some (.int l2), some (.int l3)], [], (sI ((sI ((sI w l0 1 ((-1)))) l0 5 0)) l0 6 0)) = _
  refine (val_g (c2 := (74, d + 2, 31, [some (.ref l0), some (.ref l1), some (.int l2), some (.int l3)], [.ref l0], (sI ((sI ((sI w l0 1 ((-1)))) l0 5 0)) l0 6 0))) rfl).trans ?_
  refine (val_g (c2 := (74, d + 2, 32, [some (.ref l0), some (.ref l1), some (.int l2), some (.int l3)], [.int 0, .ref l0], (sI ((sI ((sI w l0 1 ((-1)))) l0 5 0)) l0 6 0))) rfl).trans ?_
  refine (val_pf (w := (sI ((sI ((sI w l0 1 ((-1)))) l0 5 0)) l0 6 0)) rfl hk_l0 rfl).trans ?_
  show val (74, d + 2, 35, [some (.ref l0), some (.ref l1), some (.int l2), some (.int l3)], [], (sI ((sI ((sI ((sI w l0 1 ((-1)))) l0 5 0)) l0 6 0)) l0 7 0)) = _
  refine (val_g (c2 := (74, d + 2, 36, [some (.ref l0), some (.ref l1), some (.int l2), some (.int l3)], [.ref l0], (sI ((sI ((sI ((sI w l0 1 ((-1)))) l0 5 0)) l0 6 0)) l0 7 0))) rfl).trans ?_
  refine (val_g (c2 := (74, d + 2, 37, [some (.ref l0), some (.ref l1), some (.int l2), some (.int l3)], [.ref l1, .ref l0], (sI ((sI ((sI ((sI w l0 1 ((-1)))) l0 5 0)) l0 6 0)) l0 7 0))) rfl).trans ?_
  rfl
theorem tr_74_40 (d : Nat) (w : Wd) (l0 : Nat) (l1 : Nat) (l2 : Int32) (l3 : Int32)    (m_l0 : Nat) (hk_l0 : wK w l0 = (4, m_l0)) : val (74, d + 2, 40, [some (.ref l0), some (.ref l1), some (.int l2), some (.int l3)], [], w) = some (none, (sI ((sI w l0 3 l2)) l0 4 l3)) := by
  refine (val_g (c2 := (74, d + 2, 41, [some (.ref l0), some (.ref l1), some (.int l2), some (.int l3)], [.ref l0], w)) rfl).trans ?_
  refine (val_g (c2 := (74, d + 2, 42, [some (.ref l0), some (.ref l1), some (.int l2), some (.int l3)], [.int l2, .ref l0], w)) rfl).trans ?_
  refine (val_pf rfl hk_l0 rfl).trans ?_
  show val (74, d + 2, 45, [some (.ref l0), some (.ref l1), some (.int l2), some (.int l3)], [], (sI w l0 3 l2)) = _
  refine (val_g (c2 := (74, d + 2, 46, [some (.ref l0), some (.ref l1), some (.int l2), some (.int l3)], [.ref l0], (sI w l0 3 l2))) rfl).trans ?_
  refine (val_g (c2 := (74, d + 2, 47, [some (.ref l0), some (.ref l1), some (.int l2), some (.int l3)], [.int l3, .ref l0], (sI w l0 3 l2))) rfl).trans ?_
  refine (val_pf (w := (sI w l0 3 l2)) rfl hk_l0 rfl).trans ?_
  show val (74, d + 2, 50, [some (.ref l0), some (.ref l1), some (.int l2), some (.int l3)], [], (sI ((sI w l0 3 l2)) l0 4 l3)) = _
  exact val_r rfl
/-- BelfryHouse$Reader.refuse()V -/
theorem tr_75 (d : Nat) (w : Wd) (o : Nat)    (m_o : Nat) (hk_o : wK w o = (4, m_o)) : val (75, d, 0, [some (.ref o)], [], w) = (if 0 ≤ (gI w o 1) then some (none, w) else some (none, (sI w o 1 ((gI w o 6))))) := by
  refine (val_g (c2 := (75, d, 1, [some (.ref o)], [.ref o], w)) rfl).trans ?_
  refine (val_gf rfl hk_o rfl).trans ?_
  show val (75, d, 4, [some (.ref o)], [.int (gI w o 1)], w) = _
  by_cases hc414 : 0 ≤ (gI w o 1)
  · refine ((val_if_ge rfl).trans (if_pos hc414)).trans ?_
    show val (75, d, 15, [some (.ref o)], [], w) = _
    refine Eq.trans ?_ (if_pos hc414).symm
    exact val_r rfl
  · refine ((val_if_ge rfl).trans (if_neg hc414)).trans ?_
    show val (75, d, 7, [some (.ref o)], [], w) = _
    refine Eq.trans ?_ (if_neg hc414).symm
    refine (val_g (c2 := (75, d, 8, [some (.ref o)], [.ref o], w)) rfl).trans ?_
    refine (val_g (c2 := (75, d, 9, [some (.ref o)], [.ref o, .ref o], w)) rfl).trans ?_
    refine (val_gf rfl hk_o rfl).trans ?_
    show val (75, d, 12, [some (.ref o)], [.int (gI w o 6), .ref o], w) = _
    refine (val_pf rfl hk_o rfl).trans ?_
    show val (75, d, 15, [some (.ref o)], [], (sI w o 1 ((gI w o 6)))) = _
    exact val_r rfl
/-- BelfryHouse$Reader.nextToken()V -/
theorem tr_80 (d : Nat) (w : Wd) (o : Nat)    (m_o : Nat) (hk_o : wK w o = (4, m_o)) (q2_o : Nat) (hr2_o : gR w o 2 = some q2_o) (m_q2_o : Nat) (hk_q2_o : wK w q2_o = (21, m_q2_o)) (hy7 : ((gI w o 3) ≤ (gI w o 7)) → (¬ ((gI ((sI w o 6 ((gI w o 7)))) o 3) ≤ (gI ((sI w o 6 ((gI w o 7)))) o 6))) → inB ((gI ((sI w o 6 ((gI w o 7)))) o 6)) m_q2_o = true) (hy8 : (¬ ((gI w o 3) ≤ (gI w o 7))) → inB ((gI w o 7)) m_q2_o = true) (hy9 : (¬ ((gI w o 3) ≤ (gI w o 7))) → (¬ (fn_76 ((gI w q2_o ((gI w o 7)).toNatClampNeg))) = 1) → (¬ ((gI ((sI w o 6 ((gI w o 7)))) o 3) ≤ (gI ((sI w o 6 ((gI w o 7)))) o 6))) → inB ((gI ((sI w o 6 ((gI w o 7)))) o 6)) m_q2_o = true) : val (80, d + 1, 0, [some (.ref o), none], [], w) = (if (gI w o 3) ≤ (gI w o 7) then (if (gI ((sI w o 6 ((gI w o 7)))) o 3) ≤ (gI ((sI w o 6 ((gI w o 7)))) o 6) then (if ¬ (gI ((sI ((sI w o 6 ((gI w o 7)))) o 5 0)) o 5) = 0 then (if (gI ((sI ((sI ((sI w o 6 ((gI w o 7)))) o 5 0)) o 7 (((gI ((sI ((sI w o 6 ((gI w o 7)))) o 5 0)) o 7) + 1)))) o 5) = 2 then val (80, d + 1, 119, [some (.ref o), some (.int 1)], [], (sI ((sI ((sI w o 6 ((gI w o 7)))) o 5 0)) o 7 (((gI ((sI ((sI w o 6 ((gI w o 7)))) o 5 0)) o 7) + 1)))) else (if ¬ (gI ((sI ((sI ((sI w o 6 ((gI w o 7)))) o 5 0)) o 7 (((gI ((sI ((sI w o 6 ((gI w o 7)))) o 5 0)) o 7) + 1)))) o 5) = 3 then val (80, d + 1, 119, [some (.ref o), some (.int 0)], [], (sI ((sI ((sI w o 6 ((gI w o 7)))) o 5 0)) o 7 (((gI ((sI ((sI w o 6 ((gI w o 7)))) o 5 0)) o 7) + 1)))) else val (80, d + 1, 119, [some (.ref o), some (.int 1)], [], (sI ((sI ((sI w o 6 ((gI w o 7)))) o 5 0)) o 7 (((gI ((sI ((sI w o 6 ((gI w o 7)))) o 5 0)) o 7) + 1)))))) else some (none, (sI ((sI w o 6 ((gI w o 7)))) o 5 0))) else (if ¬ (gI ((sI ((sI w o 6 ((gI w o 7)))) o 5 ((fn_76 ((gI ((sI w o 6 ((gI w o 7)))) q2_o ((gI ((sI w o 6 ((gI w o 7)))) o 6)).toNatClampNeg)))))) o 5) = 0 then (if (gI ((sI ((sI ((sI w o 6 ((gI w o 7)))) o 5 ((fn_76 ((gI ((sI w o 6 ((gI w o 7)))) q2_o ((gI ((sI w o 6 ((gI w o 7)))) o 6)).toNatClampNeg)))))) o 7 (((gI ((sI ((sI w o 6 ((gI w o 7)))) o 5 ((fn_76 ((gI ((sI w o 6 ((gI w o 7)))) q2_o ((gI ((sI w o 6 ((gI w o 7)))) o 6)).toNatClampNeg)))))) o 7) + 1)))) o 5) = 2 then val (80, d + 1, 119, [some (.ref o), some (.int 1)], [], (sI ((sI ((sI w o 6 ((gI w o 7)))) o 5 ((fn_76 ((gI ((sI w o 6 ((gI w o 7)))) q2_o ((gI ((sI w o 6 ((gI w o 7)))) o 6)).toNatClampNeg)))))) o 7 (((gI ((sI ((sI w o 6 ((gI w o 7)))) o 5 ((fn_76 ((gI ((sI w o 6 ((gI w o 7)))) q2_o ((gI ((sI w o 6 ((gI w o 7)))) o 6)).toNatClampNeg)))))) o 7) + 1)))) else (if ¬ (gI ((sI ((sI ((sI w o 6 ((gI w o 7)))) o 5 ((fn_76 ((gI ((sI w o 6 ((gI w o 7)))) q2_o ((gI ((sI w o 6 ((gI w o 7)))) o 6)).toNatClampNeg)))))) o 7 (((gI ((sI ((sI w o 6 ((gI w o 7)))) o 5 ((fn_76 ((gI ((sI w o 6 ((gI w o 7)))) q2_o ((gI ((sI w o 6 ((gI w o 7)))) o 6)).toNatClampNeg)))))) o 7) + 1)))) o 5) = 3 then val (80, d + 1, 119, [some (.ref o), some (.int 0)], [], (sI ((sI ((sI w o 6 ((gI w o 7)))) o 5 ((fn_76 ((gI ((sI w o 6 ((gI w o 7)))) q2_o ((gI ((sI w o 6 ((gI w o 7)))) o 6)).toNatClampNeg)))))) o 7 (((gI ((sI ((sI w o 6 ((gI w o 7)))) o 5 ((fn_76 ((gI ((sI w o 6 ((gI w o 7)))) q2_o ((gI ((sI w o 6 ((gI w o 7)))) o 6)).toNatClampNeg)))))) o 7) + 1)))) else val (80, d + 1, 119, [some (.ref o), some (.int 1)], [], (sI ((sI ((sI w o 6 ((gI w o 7)))) o 5 ((fn_76 ((gI ((sI w o 6 ((gI w o 7)))) q2_o ((gI ((sI w o 6 ((gI w o 7)))) o 6)).toNatClampNeg)))))) o 7 (((gI ((sI ((sI w o 6 ((gI w o 7)))) o 5 ((fn_76 ((gI ((sI w o 6 ((gI w o 7)))) q2_o ((gI ((sI w o 6 ((gI w o 7)))) o 6)).toNatClampNeg)))))) o 7) + 1)))))) else some (none, (sI ((sI w o 6 ((gI w o 7)))) o 5 ((fn_76 ((gI ((sI w o 6 ((gI w o 7)))) q2_o ((gI ((sI w o 6 ((gI w o 7)))) o 6)).toNatClampNeg)))))))) else (if ¬ (fn_76 ((gI w q2_o ((gI w o 7)).toNatClampNeg))) = 1 then (if (gI ((sI w o 6 ((gI w o 7)))) o 3) ≤ (gI ((sI w o 6 ((gI w o 7)))) o 6) then (if ¬ (gI ((sI ((sI w o 6 ((gI w o 7)))) o 5 0)) o 5) = 0 then (if (gI ((sI ((sI ((sI w o 6 ((gI w o 7)))) o 5 0)) o 7 (((gI ((sI ((sI w o 6 ((gI w o 7)))) o 5 0)) o 7) + 1)))) o 5) = 2 then val (80, d + 1, 119, [some (.ref o), some (.int 1)], [], (sI ((sI ((sI w o 6 ((gI w o 7)))) o 5 0)) o 7 (((gI ((sI ((sI w o 6 ((gI w o 7)))) o 5 0)) o 7) + 1)))) else (if ¬ (gI ((sI ((sI ((sI w o 6 ((gI w o 7)))) o 5 0)) o 7 (((gI ((sI ((sI w o 6 ((gI w o 7)))) o 5 0)) o 7) + 1)))) o 5) = 3 then val (80, d + 1, 119, [some (.ref o), some (.int 0)], [], (sI ((sI ((sI w o 6 ((gI w o 7)))) o 5 0)) o 7 (((gI ((sI ((sI w o 6 ((gI w o 7)))) o 5 0)) o 7) + 1)))) else val (80, d + 1, 119, [some (.ref o), some (.int 1)], [], (sI ((sI ((sI w o 6 ((gI w o 7)))) o 5 0)) o 7 (((gI ((sI ((sI w o 6 ((gI w o 7)))) o 5 0)) o 7) + 1)))))) else some (none, (sI ((sI w o 6 ((gI w o 7)))) o 5 0))) else (if ¬ (gI ((sI ((sI w o 6 ((gI w o 7)))) o 5 ((fn_76 ((gI ((sI w o 6 ((gI w o 7)))) q2_o ((gI ((sI w o 6 ((gI w o 7)))) o 6)).toNatClampNeg)))))) o 5) = 0 then (if (gI ((sI ((sI ((sI w o 6 ((gI w o 7)))) o 5 ((fn_76 ((gI ((sI w o 6 ((gI w o 7)))) q2_o ((gI ((sI w o 6 ((gI w o 7)))) o 6)).toNatClampNeg)))))) o 7 (((gI ((sI ((sI w o 6 ((gI w o 7)))) o 5 ((fn_76 ((gI ((sI w o 6 ((gI w o 7)))) q2_o ((gI ((sI w o 6 ((gI w o 7)))) o 6)).toNatClampNeg)))))) o 7) + 1)))) o 5) = 2 then val (80, d + 1, 119, [some (.ref o), some (.int 1)], [], (sI ((sI ((sI w o 6 ((gI w o 7)))) o 5 ((fn_76 ((gI ((sI w o 6 ((gI w o 7)))) q2_o ((gI ((sI w o 6 ((gI w o 7)))) o 6)).toNatClampNeg)))))) o 7 (((gI ((sI ((sI w o 6 ((gI w o 7)))) o 5 ((fn_76 ((gI ((sI w o 6 ((gI w o 7)))) q2_o ((gI ((sI w o 6 ((gI w o 7)))) o 6)).toNatClampNeg)))))) o 7) + 1)))) else (if ¬ (gI ((sI ((sI ((sI w o 6 ((gI w o 7)))) o 5 ((fn_76 ((gI ((sI w o 6 ((gI w o 7)))) q2_o ((gI ((sI w o 6 ((gI w o 7)))) o 6)).toNatClampNeg)))))) o 7 (((gI ((sI ((sI w o 6 ((gI w o 7)))) o 5 ((fn_76 ((gI ((sI w o 6 ((gI w o 7)))) q2_o ((gI ((sI w o 6 ((gI w o 7)))) o 6)).toNatClampNeg)))))) o 7) + 1)))) o 5) = 3 then val (80, d + 1, 119, [some (.ref o), some (.int 0)], [], (sI ((sI ((sI w o 6 ((gI w o 7)))) o 5 ((fn_76 ((gI ((sI w o 6 ((gI w o 7)))) q2_o ((gI ((sI w o 6 ((gI w o 7)))) o 6)).toNatClampNeg)))))) o 7 (((gI ((sI ((sI w o 6 ((gI w o 7)))) o 5 ((fn_76 ((gI ((sI w o 6 ((gI w o 7)))) q2_o ((gI ((sI w o 6 ((gI w o 7)))) o 6)).toNatClampNeg)))))) o 7) + 1)))) else val (80, d + 1, 119, [some (.ref o), some (.int 1)], [], (sI ((sI ((sI w o 6 ((gI w o 7)))) o 5 ((fn_76 ((gI ((sI w o 6 ((gI w o 7)))) q2_o ((gI ((sI w o 6 ((gI w o 7)))) o 6)).toNatClampNeg)))))) o 7 (((gI ((sI ((sI w o 6 ((gI w o 7)))) o 5 ((fn_76 ((gI ((sI w o 6 ((gI w o 7)))) q2_o ((gI ((sI w o 6 ((gI w o 7)))) o 6)).toNatClampNeg)))))) o 7) + 1)))))) else some (none, (sI ((sI w o 6 ((gI w o 7)))) o 5 ((fn_76 ((gI ((sI w o 6 ((gI w o 7)))) q2_o ((gI ((sI w o 6 ((gI w o 7)))) o 6)).toNatClampNeg)))))))) else val (80, d + 1, 0, [some (.ref o), none], [], (sI w o 7 (((gI w o 7) + 1)))))) := by
  refine (val_g (c2 := (80, d + 1, 1, [some (.ref o), none], [.ref o], w)) rfl).trans ?_
  refine (val_gf rfl hk_o rfl).trans ?_
  show val (80, d + 1, 4, [some (.ref o), none], [.int (gI w o 7)], w) = _
  refine (val_g (c2 := (80, d + 1, 5, [some (.ref o), none], [.ref o, .int (gI w o 7)], w)) rfl).trans ?_
  refine (val_gf rfl hk_o rfl).trans ?_
  show val (80, d + 1, 8, [some (.ref o), none], [.int (gI w o 3), .int (gI w o 7)], w) = _
  by_cases hc434 : (gI w o 3) ≤ (gI w o 7)
  · refine ((val_ic_ge rfl).trans (if_pos hc434)).trans ?_
    show val (80, d + 1, 40, [some (.ref o), none], [], w) = _
    refine Eq.trans ?_ (if_pos hc434).symm
    refine (val_g (c2 := (80, d + 1, 41, [some (.ref o), none], [.ref o], w)) rfl).trans ?_
    refine (val_g (c2 := (80, d + 1, 42, [some (.ref o), none], [.ref o, .ref o], w)) rfl).trans ?_
    refine (val_gf rfl hk_o rfl).trans ?_
    show val (80, d + 1, 45, [some (.ref o), none], [.int (gI w o 7), .ref o], w) = _
    refine (val_pf rfl hk_o rfl).trans ?_
    show val (80, d + 1, 48, [some (.ref o), none], [], (sI w o 6 ((gI w o 7)))) = _
    refine (val_g (c2 := (80, d + 1, 49, [some (.ref o), none], [.ref o], (sI w o 6 ((gI w o 7))))) rfl).trans ?_
    refine (val_g (c2 := (80, d + 1, 50, [some (.ref o), none], [.ref o, .ref o], (sI w o 6 ((gI w o 7))))) rfl).trans ?_
    refine (val_gf (w := (sI w o 6 ((gI w o 7)))) rfl hk_o rfl).trans ?_
    show val (80, d + 1, 53, [some (.ref o), none], [.int (gI ((sI w o 6 ((gI w o 7)))) o 6), .ref o], (sI w o 6 ((gI w o 7)))) = _
    refine (val_g (c2 := (80, d + 1, 54, [some (.ref o), none], [.ref o, .int (gI ((sI w o 6 ((gI w o 7)))) o 6), .ref o], (sI w o 6 ((gI w o 7))))) rfl).trans ?_
    refine (val_gf (w := (sI w o 6 ((gI w o 7)))) rfl hk_o rfl).trans ?_
    show val (80, d + 1, 57, [some (.ref o), none], [.int (gI ((sI w o 6 ((gI w o 7)))) o 3), .int (gI ((sI w o 6 ((gI w o 7)))) o 6), .ref o], (sI w o 6 ((gI w o 7)))) = _
    by_cases hc435 : (gI ((sI w o 6 ((gI w o 7)))) o 3) ≤ (gI ((sI w o 6 ((gI w o 7)))) o 6)
    · refine ((val_ic_ge rfl).trans (if_pos hc435)).trans ?_
      show val (80, d + 1, 75, [some (.ref o), none], [.ref o], (sI w o 6 ((gI w o 7)))) = _
      refine Eq.trans ?_ (if_pos hc435).symm
      refine (val_g (c2 := (80, d + 1, 76, [some (.ref o), none], [.int 0, .ref o], (sI w o 6 ((gI w o 7))))) rfl).trans ?_
      refine (val_pf (w := (sI w o 6 ((gI w o 7)))) rfl hk_o rfl).trans ?_
      show val (80, d + 1, 79, [some (.ref o), none], [], (sI ((sI w o 6 ((gI w o 7)))) o 5 0)) = _
      refine (val_g (c2 := (80, d + 1, 80, [some (.ref o), none], [.ref o], (sI ((sI w o 6 ((gI w o 7)))) o 5 0))) rfl).trans ?_
      refine (val_gf (w := (sI ((sI w o 6 ((gI w o 7)))) o 5 0)) rfl hk_o rfl).trans ?_
      show val (80, d + 1, 83, [some (.ref o), none], [.int (gI ((sI ((sI w o 6 ((gI w o 7)))) o 5 0)) o 5)], (sI ((sI w o 6 ((gI w o 7)))) o 5 0)) = _
      by_cases hc436 : ¬ (gI ((sI ((sI w o 6 ((gI w o 7)))) o 5 0)) o 5) = 0
      · refine ((val_if_ne rfl).trans (if_pos hc436)).trans ?_
        show val (80, d + 1, 87, [some (.ref o), none], [], (sI ((sI w o 6 ((gI w o 7)))) o 5 0)) = _
        refine Eq.trans ?_ (if_pos hc436).symm
        refine (val_g (c2 := (80, d + 1, 88, [some (.ref o), none], [.ref o], (sI ((sI w o 6 ((gI w o 7)))) o 5 0))) rfl).trans ?_
        refine (val_g (c2 := (80, d + 1, 89, [some (.ref o), none], [.ref o, .ref o], (sI ((sI w o 6 ((gI w o 7)))) o 5 0))) rfl).trans ?_
        refine (val_gf (w := (sI ((sI w o 6 ((gI w o 7)))) o 5 0)) rfl hk_o rfl).trans ?_
        show val (80, d + 1, 92, [some (.ref o), none], [.int (gI ((sI ((sI w o 6 ((gI w o 7)))) o 5 0)) o 7), .ref o], (sI ((sI w o 6 ((gI w o 7)))) o 5 0)) = _
        refine (val_g (c2 := (80, d + 1, 93, [some (.ref o), none], [.int 1, .int (gI ((sI ((sI w o 6 ((gI w o 7)))) o 5 0)) o 7), .ref o], (sI ((sI w o 6 ((gI w o 7)))) o 5 0))) rfl).trans ?_
        refine (val_g (c2 := (80, d + 1, 94, [some (.ref o), none], [.int ((gI ((sI ((sI w o 6 ((gI w o 7)))) o 5 0)) o 7) + 1), .ref o], (sI ((sI w o 6 ((gI w o 7)))) o 5 0))) rfl).trans ?_
        refine (val_pf (w := (sI ((sI w o 6 ((gI w o 7)))) o 5 0)) rfl hk_o rfl).trans ?_
        show val (80, d + 1, 97, [some (.ref o), none], [], (sI ((sI ((sI w o 6 ((gI w o 7)))) o 5 0)) o 7 (((gI ((sI ((sI w o 6 ((gI w o 7)))) o 5 0)) o 7) + 1)))) = _
        refine (val_g (c2 := (80, d + 1, 98, [some (.ref o), none], [.ref o], (sI ((sI ((sI w o 6 ((gI w o 7)))) o 5 0)) o 7 (((gI ((sI ((sI w o 6 ((gI w o 7)))) o 5 0)) o 7) + 1))))) rfl).trans ?_
        refine (val_gf (w := (sI ((sI ((sI w o 6 ((gI w o 7)))) o 5 0)) o 7 (((gI ((sI ((sI w o 6 ((gI w o 7)))) o 5 0)) o 7) + 1)))) rfl hk_o rfl).trans ?_
        show val (80, d + 1, 101, [some (.ref o), none], [.int (gI ((sI ((sI ((sI w o 6 ((gI w o 7)))) o 5 0)) o 7 (((gI ((sI ((sI w o 6 ((gI w o 7)))) o 5 0)) o 7) + 1)))) o 5)], (sI ((sI ((sI w o 6 ((gI w o 7)))) o 5 0)) o 7 (((gI ((sI ((sI w o 6 ((gI w o 7)))) o 5 0)) o 7) + 1)))) = _
        refine (val_g (c2 := (80, d + 1, 102, [some (.ref o), none], [.int 2, .int (gI ((sI ((sI ((sI w o 6 ((gI w o 7)))) o 5 0)) o 7 (((gI ((sI ((sI w o 6 ((gI w o 7)))) o 5 0)) o 7) + 1)))) o 5)], (sI ((sI ((sI w o 6 ((gI w o 7)))) o 5 0)) o 7 (((gI ((sI ((sI w o 6 ((gI w o 7)))) o 5 0)) o 7) + 1))))) rfl).trans ?_
        by_cases hc437 : (gI ((sI ((sI ((sI w o 6 ((gI w o 7)))) o 5 0)) o 7 (((gI ((sI ((sI w o 6 ((gI w o 7)))) o 5 0)) o 7) + 1)))) o 5) = 2
        · refine ((val_ic_eq rfl).trans (if_pos hc437)).trans ?_
          show val (80, d + 1, 113, [some (.ref o), none], [], (sI ((sI ((sI w o 6 ((gI w o 7)))) o 5 0)) o 7 (((gI ((sI ((sI w o 6 ((gI w o 7)))) o 5 0)) o 7) + 1)))) = _
          refine Eq.trans ?_ (if_pos hc437).symm
          refine (val_g (c2 := (80, d + 1, 114, [some (.ref o), none], [.int 1], (sI ((sI ((sI w o 6 ((gI w o 7)))) o 5 0)) o 7 (((gI ((sI ((sI w o 6 ((gI w o 7)))) o 5 0)) o 7) + 1))))) rfl).trans ?_
          refine (val_g (c2 := (80, d + 1, 118, [some (.ref o), none], [.int 1], (sI ((sI ((sI w o 6 ((gI w o 7)))) o 5 0)) o 7 (((gI ((sI ((sI w o 6 ((gI w o 7)))) o 5 0)) o 7) + 1))))) rfl).trans ?_
          refine (val_g (c2 := (80, d + 1, 119, [some (.ref o), some (.int 1)], [], (sI ((sI ((sI w o 6 ((gI w o 7)))) o 5 0)) o 7 (((gI ((sI ((sI w o 6 ((gI w o 7)))) o 5 0)) o 7) + 1))))) rfl).trans ?_
          rfl
        · refine ((val_ic_eq rfl).trans (if_neg hc437)).trans ?_
          show val (80, d + 1, 105, [some (.ref o), none], [], (sI ((sI ((sI w o 6 ((gI w o 7)))) o 5 0)) o 7 (((gI ((sI ((sI w o 6 ((gI w o 7)))) o 5 0)) o 7) + 1)))) = _
          refine Eq.trans ?_ (if_neg hc437).symm
          refine (val_g (c2 := (80, d + 1, 106, [some (.ref o), none], [.ref o], (sI ((sI ((sI w o 6 ((gI w o 7)))) o 5 0)) o 7 (((gI ((sI ((sI w o 6 ((gI w o 7)))) o 5 0)) o 7) + 1))))) rfl).trans ?_
          refine (val_gf (w := (sI ((sI ((sI w o 6 ((gI w o 7)))) o 5 0)) o 7 (((gI ((sI ((sI w o 6 ((gI w o 7)))) o 5 0)) o 7) + 1)))) rfl hk_o rfl).trans ?_
          show val (80, d + 1, 109, [some (.ref o), none], [.int (gI ((sI ((sI ((sI w o 6 ((gI w o 7)))) o 5 0)) o 7 (((gI ((sI ((sI w o 6 ((gI w o 7)))) o 5 0)) o 7) + 1)))) o 5)], (sI ((sI ((sI w o 6 ((gI w o 7)))) o 5 0)) o 7 (((gI ((sI ((sI w o 6 ((gI w o 7)))) o 5 0)) o 7) + 1)))) = _
          refine (val_g (c2 := (80, d + 1, 110, [some (.ref o), none], [.int 3, .int (gI ((sI ((sI ((sI w o 6 ((gI w o 7)))) o 5 0)) o 7 (((gI ((sI ((sI w o 6 ((gI w o 7)))) o 5 0)) o 7) + 1)))) o 5)], (sI ((sI ((sI w o 6 ((gI w o 7)))) o 5 0)) o 7 (((gI ((sI ((sI w o 6 ((gI w o 7)))) o 5 0)) o 7) + 1))))) rfl).trans ?_
          by_cases hc438 : ¬ (gI ((sI ((sI ((sI w o 6 ((gI w o 7)))) o 5 0)) o 7 (((gI ((sI ((sI w o 6 ((gI w o 7)))) o 5 0)) o 7) + 1)))) o 5) = 3
          · refine ((val_ic_ne rfl).trans (if_pos hc438)).trans ?_
            show val (80, d + 1, 117, [some (.ref o), none], [], (sI ((sI ((sI w o 6 ((gI w o 7)))) o 5 0)) o 7 (((gI ((sI ((sI w o 6 ((gI w o 7)))) o 5 0)) o 7) + 1)))) = _
            refine Eq.trans ?_ (if_pos hc438).symm
            refine (val_g (c2 := (80, d + 1, 118, [some (.ref o), none], [.int 0], (sI ((sI ((sI w o 6 ((gI w o 7)))) o 5 0)) o 7 (((gI ((sI ((sI w o 6 ((gI w o 7)))) o 5 0)) o 7) + 1))))) rfl).trans ?_
            refine (val_g (c2 := (80, d + 1, 119, [some (.ref o), some (.int 0)], [], (sI ((sI ((sI w o 6 ((gI w o 7)))) o 5 0)) o 7 (((gI ((sI ((sI w o 6 ((gI w o 7)))) o 5 0)) o 7) + 1))))) rfl).trans ?_
            rfl
          · refine ((val_ic_ne rfl).trans (if_neg hc438)).trans ?_
            show val (80, d + 1, 113, [some (.ref o), none], [], (sI ((sI ((sI w o 6 ((gI w o 7)))) o 5 0)) o 7 (((gI ((sI ((sI w o 6 ((gI w o 7)))) o 5 0)) o 7) + 1)))) = _
            refine Eq.trans ?_ (if_neg hc438).symm
            refine (val_g (c2 := (80, d + 1, 114, [some (.ref o), none], [.int 1], (sI ((sI ((sI w o 6 ((gI w o 7)))) o 5 0)) o 7 (((gI ((sI ((sI w o 6 ((gI w o 7)))) o 5 0)) o 7) + 1))))) rfl).trans ?_
            refine (val_g (c2 := (80, d + 1, 118, [some (.ref o), none], [.int 1], (sI ((sI ((sI w o 6 ((gI w o 7)))) o 5 0)) o 7 (((gI ((sI ((sI w o 6 ((gI w o 7)))) o 5 0)) o 7) + 1))))) rfl).trans ?_
            refine (val_g (c2 := (80, d + 1, 119, [some (.ref o), some (.int 1)], [], (sI ((sI ((sI w o 6 ((gI w o 7)))) o 5 0)) o 7 (((gI ((sI ((sI w o 6 ((gI w o 7)))) o 5 0)) o 7) + 1))))) rfl).trans ?_
            rfl
      · refine ((val_if_ne rfl).trans (if_neg hc436)).trans ?_
        show val (80, d + 1, 86, [some (.ref o), none], [], (sI ((sI w o 6 ((gI w o 7)))) o 5 0)) = _
        refine Eq.trans ?_ (if_neg hc436).symm
        exact val_r rfl
    · refine ((val_ic_ge rfl).trans (if_neg hc435)).trans ?_
      show val (80, d + 1, 60, [some (.ref o), none], [.ref o], (sI w o 6 ((gI w o 7)))) = _
      refine Eq.trans ?_ (if_neg hc435).symm
      refine (val_g (c2 := (80, d + 1, 61, [some (.ref o), none], [.ref o, .ref o], (sI w o 6 ((gI w o 7))))) rfl).trans ?_
      refine (val_gf (w := (sI w o 6 ((gI w o 7)))) rfl hk_o (fvR hr2_o)).trans ?_
      show val (80, d + 1, 64, [some (.ref o), none], [.ref q2_o, .ref o], (sI w o 6 ((gI w o 7)))) = _
      refine (val_g (c2 := (80, d + 1, 65, [some (.ref o), none], [.ref o, .ref q2_o, .ref o], (sI w o 6 ((gI w o 7))))) rfl).trans ?_
      refine (val_gf (w := (sI w o 6 ((gI w o 7)))) rfl hk_o rfl).trans ?_
      show val (80, d + 1, 68, [some (.ref o), none], [.int (gI ((sI w o 6 ((gI w o 7)))) o 6), .ref q2_o, .ref o], (sI w o 6 ((gI w o 7)))) = _
      refine (val_bal (w := (sI w o 6 ((gI w o 7)))) rfl hk_q2_o rfl (hy7 hc434 hc435)).trans ?_
      show val (80, d + 1, 69, [some (.ref o), none], [.int (gI ((sI w o 6 ((gI w o 7)))) q2_o ((gI ((sI w o 6 ((gI w o 7)))) o 6)).toNatClampNeg), .ref o], (sI w o 6 ((gI w o 7)))) = _
      refine (val_call (w1 := (sI w o 6 ((gI w o 7)))) (pc2 := 72) rfl rfl rfl rfl rfl (Nat.le_of_ble_eq_true rfl) (Nat.le_of_ble_eq_true rfl) rfl (ev_76 (d) (sI w o 6 ((gI w o 7))) ((gI ((sI w o 6 ((gI w o 7)))) q2_o ((gI ((sI w o 6 ((gI w o 7)))) o 6)).toNatClampNeg))) rfl).trans ?_
      show val (80, d + 1, 72, [some (.ref o), none], [.int (fn_76 ((gI ((sI w o 6 ((gI w o 7)))) q2_o ((gI ((sI w o 6 ((gI w o 7)))) o 6)).toNatClampNeg))), .ref o], (sI w o 6 ((gI w o 7)))) = _
      refine (val_g (c2 := (80, d + 1, 76, [some (.ref o), none], [.int (fn_76 ((gI ((sI w o 6 ((gI w o 7)))) q2_o ((gI ((sI w o 6 ((gI w o 7)))) o 6)).toNatClampNeg))), .ref o], (sI w o 6 ((gI w o 7))))) rfl).trans ?_
      refine (val_pf (w := (sI w o 6 ((gI w o 7)))) rfl hk_o rfl).trans ?_
      show val (80, d + 1, 79, [some (.ref o), none], [], (sI ((sI w o 6 ((gI w o 7)))) o 5 ((fn_76 ((gI ((sI w o 6 ((gI w o 7)))) q2_o ((gI ((sI w o 6 ((gI w o 7)))) o 6)).toNatClampNeg)))))) = _
      refine (val_g (c2 := (80, d + 1, 80, [some (.ref o), none], [.ref o], (sI ((sI w o 6 ((gI w o 7)))) o 5 ((fn_76 ((gI ((sI w o 6 ((gI w o 7)))) q2_o ((gI ((sI w o 6 ((gI w o 7)))) o 6)).toNatClampNeg))))))) rfl).trans ?_
      refine (val_gf (w := (sI ((sI w o 6 ((gI w o 7)))) o 5 ((fn_76 ((gI ((sI w o 6 ((gI w o 7)))) q2_o ((gI ((sI w o 6 ((gI w o 7)))) o 6)).toNatClampNeg)))))) rfl hk_o rfl).trans ?_
      show val (80, d + 1, 83, [some (.ref o), none], [.int (gI ((sI ((sI w o 6 ((gI w o 7)))) o 5 ((fn_76 ((gI ((sI w o 6 ((gI w o 7)))) q2_o ((gI ((sI w o 6 ((gI w o 7)))) o 6)).toNatClampNeg)))))) o 5)], (sI ((sI w o 6 ((gI w o 7)))) o 5 ((fn_76 ((gI ((sI w o 6 ((gI w o 7)))) q2_o ((gI ((sI w o 6 ((gI w o 7)))) o 6)).toNatClampNeg)))))) = _
      by_cases hc439 : ¬ (gI ((sI ((sI w o 6 ((gI w o 7)))) o 5 ((fn_76 ((gI ((sI w o 6 ((gI w o 7)))) q2_o ((gI ((sI w o 6 ((gI w o 7)))) o 6)).toNatClampNeg)))))) o 5) = 0
      · refine ((val_if_ne rfl).trans (if_pos hc439)).trans ?_
        show val (80, d + 1, 87, [some (.ref o), none], [], (sI ((sI w o 6 ((gI w o 7)))) o 5 ((fn_76 ((gI ((sI w o 6 ((gI w o 7)))) q2_o ((gI ((sI w o 6 ((gI w o 7)))) o 6)).toNatClampNeg)))))) = _
        refine Eq.trans ?_ (if_pos hc439).symm
        refine (val_g (c2 := (80, d + 1, 88, [some (.ref o), none], [.ref o], (sI ((sI w o 6 ((gI w o 7)))) o 5 ((fn_76 ((gI ((sI w o 6 ((gI w o 7)))) q2_o ((gI ((sI w o 6 ((gI w o 7)))) o 6)).toNatClampNeg))))))) rfl).trans ?_
        refine (val_g (c2 := (80, d + 1, 89, [some (.ref o), none], [.ref o, .ref o], (sI ((sI w o 6 ((gI w o 7)))) o 5 ((fn_76 ((gI ((sI w o 6 ((gI w o 7)))) q2_o ((gI ((sI w o 6 ((gI w o 7)))) o 6)).toNatClampNeg))))))) rfl).trans ?_
        refine (val_gf (w := (sI ((sI w o 6 ((gI w o 7)))) o 5 ((fn_76 ((gI ((sI w o 6 ((gI w o 7)))) q2_o ((gI ((sI w o 6 ((gI w o 7)))) o 6)).toNatClampNeg)))))) rfl hk_o rfl).trans ?_
        show val (80, d + 1, 92, [some (.ref o), none], [.int (gI ((sI ((sI w o 6 ((gI w o 7)))) o 5 ((fn_76 ((gI ((sI w o 6 ((gI w o 7)))) q2_o ((gI ((sI w o 6 ((gI w o 7)))) o 6)).toNatClampNeg)))))) o 7), .ref o], (sI ((sI w o 6 ((gI w o 7)))) o 5 ((fn_76 ((gI ((sI w o 6 ((gI w o 7)))) q2_o ((gI ((sI w o 6 ((gI w o 7)))) o 6)).toNatClampNeg)))))) = _
        refine (val_g (c2 := (80, d + 1, 93, [some (.ref o), none], [.int 1, .int (gI ((sI ((sI w o 6 ((gI w o 7)))) o 5 ((fn_76 ((gI ((sI w o 6 ((gI w o 7)))) q2_o ((gI ((sI w o 6 ((gI w o 7)))) o 6)).toNatClampNeg)))))) o 7), .ref o], (sI ((sI w o 6 ((gI w o 7)))) o 5 ((fn_76 ((gI ((sI w o 6 ((gI w o 7)))) q2_o ((gI ((sI w o 6 ((gI w o 7)))) o 6)).toNatClampNeg))))))) rfl).trans ?_
        refine (val_g (c2 := (80, d + 1, 94, [some (.ref o), none], [.int ((gI ((sI ((sI w o 6 ((gI w o 7)))) o 5 ((fn_76 ((gI ((sI w o 6 ((gI w o 7)))) q2_o ((gI ((sI w o 6 ((gI w o 7)))) o 6)).toNatClampNeg)))))) o 7) + 1), .ref o], (sI ((sI w o 6 ((gI w o 7)))) o 5 ((fn_76 ((gI ((sI w o 6 ((gI w o 7)))) q2_o ((gI ((sI w o 6 ((gI w o 7)))) o 6)).toNatClampNeg))))))) rfl).trans ?_
        refine (val_pf (w := (sI ((sI w o 6 ((gI w o 7)))) o 5 ((fn_76 ((gI ((sI w o 6 ((gI w o 7)))) q2_o ((gI ((sI w o 6 ((gI w o 7)))) o 6)).toNatClampNeg)))))) rfl hk_o rfl).trans ?_
        show val (80, d + 1, 97, [some (.ref o), none], [], (sI ((sI ((sI w o 6 ((gI w o 7)))) o 5 ((fn_76 ((gI ((sI w o 6 ((gI w o 7)))) q2_o ((gI ((sI w o 6 ((gI w o 7)))) o 6)).toNatClampNeg)))))) o 7 (((gI ((sI ((sI w o 6 ((gI w o 7)))) o 5 ((fn_76 ((gI ((sI w o 6 ((gI w o 7)))) q2_o ((gI ((sI w o 6 ((gI w o 7)))) o 6)).toNatClampNeg)))))) o 7) + 1)))) = _
        refine (val_g (c2 := (80, d + 1, 98, [some (.ref o), none], [.ref o], (sI ((sI ((sI w o 6 ((gI w o 7)))) o 5 ((fn_76 ((gI ((sI w o 6 ((gI w o 7)))) q2_o ((gI ((sI w o 6 ((gI w o 7)))) o 6)).toNatClampNeg)))))) o 7 (((gI ((sI ((sI w o 6 ((gI w o 7)))) o 5 ((fn_76 ((gI ((sI w o 6 ((gI w o 7)))) q2_o ((gI ((sI w o 6 ((gI w o 7)))) o 6)).toNatClampNeg)))))) o 7) + 1))))) rfl).trans ?_
        refine (val_gf (w := (sI ((sI ((sI w o 6 ((gI w o 7)))) o 5 ((fn_76 ((gI ((sI w o 6 ((gI w o 7)))) q2_o ((gI ((sI w o 6 ((gI w o 7)))) o 6)).toNatClampNeg)))))) o 7 (((gI ((sI ((sI w o 6 ((gI w o 7)))) o 5 ((fn_76 ((gI ((sI w o 6 ((gI w o 7)))) q2_o ((gI ((sI w o 6 ((gI w o 7)))) o 6)).toNatClampNeg)))))) o 7) + 1)))) rfl hk_o rfl).trans ?_
        show val (80, d + 1, 101, [some (.ref o), none], [.int (gI ((sI ((sI ((sI w o 6 ((gI w o 7)))) o 5 ((fn_76 ((gI ((sI w o 6 ((gI w o 7)))) q2_o ((gI ((sI w o 6 ((gI w o 7)))) o 6)).toNatClampNeg)))))) o 7 (((gI ((sI ((sI w o 6 ((gI w o 7)))) o 5 ((fn_76 ((gI ((sI w o 6 ((gI w o 7)))) q2_o ((gI ((sI w o 6 ((gI w o 7)))) o 6)).toNatClampNeg)))))) o 7) + 1)))) o 5)], (sI ((sI ((sI w o 6 ((gI w o 7)))) o 5 ((fn_76 ((gI ((sI w o 6 ((gI w o 7)))) q2_o ((gI ((sI w o 6 ((gI w o 7)))) o 6)).toNatClampNeg)))))) o 7 (((gI ((sI ((sI w o 6 ((gI w o 7)))) o 5 ((fn_76 ((gI ((sI w o 6 ((gI w o 7)))) q2_o ((gI ((sI w o 6 ((gI w o 7)))) o 6)).toNatClampNeg)))))) o 7) + 1)))) = _
        refine (val_g (c2 := (80, d + 1, 102, [some (.ref o), none], [.int 2, .int (gI ((sI ((sI ((sI w o 6 ((gI w o 7)))) o 5 ((fn_76 ((gI ((sI w o 6 ((gI w o 7)))) q2_o ((gI ((sI w o 6 ((gI w o 7)))) o 6)).toNatClampNeg)))))) o 7 (((gI ((sI ((sI w o 6 ((gI w o 7)))) o 5 ((fn_76 ((gI ((sI w o 6 ((gI w o 7)))) q2_o ((gI ((sI w o 6 ((gI w o 7)))) o 6)).toNatClampNeg)))))) o 7) + 1)))) o 5)], (sI ((sI ((sI w o 6 ((gI w o 7)))) o 5 ((fn_76 ((gI ((sI w o 6 ((gI w o 7)))) q2_o ((gI ((sI w o 6 ((gI w o 7)))) o 6)).toNatClampNeg)))))) o 7 (((gI ((sI ((sI w o 6 ((gI w o 7)))) o 5 ((fn_76 ((gI ((sI w o 6 ((gI w o 7)))) q2_o ((gI ((sI w o 6 ((gI w o 7)))) o 6)).toNatClampNeg)))))) o 7) + 1))))) rfl).trans ?_
        by_cases hc440 : (gI ((sI ((sI ((sI w o 6 ((gI w o 7)))) o 5 ((fn_76 ((gI ((sI w o 6 ((gI w o 7)))) q2_o ((gI ((sI w o 6 ((gI w o 7)))) o 6)).toNatClampNeg)))))) o 7 (((gI ((sI ((sI w o 6 ((gI w o 7)))) o 5 ((fn_76 ((gI ((sI w o 6 ((gI w o 7)))) q2_o ((gI ((sI w o 6 ((gI w o 7)))) o 6)).toNatClampNeg)))))) o 7) + 1)))) o 5) = 2
        · refine ((val_ic_eq rfl).trans (if_pos hc440)).trans ?_
          show val (80, d + 1, 113, [some (.ref o), none], [], (sI ((sI ((sI w o 6 ((gI w o 7)))) o 5 ((fn_76 ((gI ((sI w o 6 ((gI w o 7)))) q2_o ((gI ((sI w o 6 ((gI w o 7)))) o 6)).toNatClampNeg)))))) o 7 (((gI ((sI ((sI w o 6 ((gI w o 7)))) o 5 ((fn_76 ((gI ((sI w o 6 ((gI w o 7)))) q2_o ((gI ((sI w o 6 ((gI w o 7)))) o 6)).toNatClampNeg)))))) o 7) + 1)))) = _
          refine Eq.trans ?_ (if_pos hc440).symm
          refine (val_g (c2 := (80, d + 1, 114, [some (.ref o), none], [.int 1], (sI ((sI ((sI w o 6 ((gI w o 7)))) o 5 ((fn_76 ((gI ((sI w o 6 ((gI w o 7)))) q2_o ((gI ((sI w o 6 ((gI w o 7)))) o 6)).toNatClampNeg)))))) o 7 (((gI ((sI ((sI w o 6 ((gI w o 7)))) o 5 ((fn_76 ((gI ((sI w o 6 ((gI w o 7)))) q2_o ((gI ((sI w o 6 ((gI w o 7)))) o 6)).toNatClampNeg)))))) o 7) + 1))))) rfl).trans ?_
          refine (val_g (c2 := (80, d + 1, 118, [some (.ref o), none], [.int 1], (sI ((sI ((sI w o 6 ((gI w o 7)))) o 5 ((fn_76 ((gI ((sI w o 6 ((gI w o 7)))) q2_o ((gI ((sI w o 6 ((gI w o 7)))) o 6)).toNatClampNeg)))))) o 7 (((gI ((sI ((sI w o 6 ((gI w o 7)))) o 5 ((fn_76 ((gI ((sI w o 6 ((gI w o 7)))) q2_o ((gI ((sI w o 6 ((gI w o 7)))) o 6)).toNatClampNeg)))))) o 7) + 1))))) rfl).trans ?_
          refine (val_g (c2 := (80, d + 1, 119, [some (.ref o), some (.int 1)], [], (sI ((sI ((sI w o 6 ((gI w o 7)))) o 5 ((fn_76 ((gI ((sI w o 6 ((gI w o 7)))) q2_o ((gI ((sI w o 6 ((gI w o 7)))) o 6)).toNatClampNeg)))))) o 7 (((gI ((sI ((sI w o 6 ((gI w o 7)))) o 5 ((fn_76 ((gI ((sI w o 6 ((gI w o 7)))) q2_o ((gI ((sI w o 6 ((gI w o 7)))) o 6)).toNatClampNeg)))))) o 7) + 1))))) rfl).trans ?_
          rfl
        · refine ((val_ic_eq rfl).trans (if_neg hc440)).trans ?_
          show val (80, d + 1, 105, [some (.ref o), none], [], (sI ((sI ((sI w o 6 ((gI w o 7)))) o 5 ((fn_76 ((gI ((sI w o 6 ((gI w o 7)))) q2_o ((gI ((sI w o 6 ((gI w o 7)))) o 6)).toNatClampNeg)))))) o 7 (((gI ((sI ((sI w o 6 ((gI w o 7)))) o 5 ((fn_76 ((gI ((sI w o 6 ((gI w o 7)))) q2_o ((gI ((sI w o 6 ((gI w o 7)))) o 6)).toNatClampNeg)))))) o 7) + 1)))) = _
          refine Eq.trans ?_ (if_neg hc440).symm
          refine (val_g (c2 := (80, d + 1, 106, [some (.ref o), none], [.ref o], (sI ((sI ((sI w o 6 ((gI w o 7)))) o 5 ((fn_76 ((gI ((sI w o 6 ((gI w o 7)))) q2_o ((gI ((sI w o 6 ((gI w o 7)))) o 6)).toNatClampNeg)))))) o 7 (((gI ((sI ((sI w o 6 ((gI w o 7)))) o 5 ((fn_76 ((gI ((sI w o 6 ((gI w o 7)))) q2_o ((gI ((sI w o 6 ((gI w o 7)))) o 6)).toNatClampNeg)))))) o 7) + 1))))) rfl).trans ?_
          refine (val_gf (w := (sI ((sI ((sI w o 6 ((gI w o 7)))) o 5 ((fn_76 ((gI ((sI w o 6 ((gI w o 7)))) q2_o ((gI ((sI w o 6 ((gI w o 7)))) o 6)).toNatClampNeg)))))) o 7 (((gI ((sI ((sI w o 6 ((gI w o 7)))) o 5 ((fn_76 ((gI ((sI w o 6 ((gI w o 7)))) q2_o ((gI ((sI w o 6 ((gI w o 7)))) o 6)).toNatClampNeg)))))) o 7) + 1)))) rfl hk_o rfl).trans ?_
          show val (80, d + 1, 109, [some (.ref o), none], [.int (gI ((sI ((sI ((sI w o 6 ((gI w o 7)))) o 5 ((fn_76 ((gI ((sI w o 6 ((gI w o 7)))) q2_o ((gI ((sI w o 6 ((gI w o 7)))) o 6)).toNatClampNeg)))))) o 7 (((gI ((sI ((sI w o 6 ((gI w o 7)))) o 5 ((fn_76 ((gI ((sI w o 6 ((gI w o 7)))) q2_o ((gI ((sI w o 6 ((gI w o 7)))) o 6)).toNatClampNeg)))))) o 7) + 1)))) o 5)], (sI ((sI ((sI w o 6 ((gI w o 7)))) o 5 ((fn_76 ((gI ((sI w o 6 ((gI w o 7)))) q2_o ((gI ((sI w o 6 ((gI w o 7)))) o 6)).toNatClampNeg)))))) o 7 (((gI ((sI ((sI w o 6 ((gI w o 7)))) o 5 ((fn_76 ((gI ((sI w o 6 ((gI w o 7)))) q2_o ((gI ((sI w o 6 ((gI w o 7)))) o 6)).toNatClampNeg)))))) o 7) + 1)))) = _
          refine (val_g (c2 := (80, d + 1, 110, [some (.ref o), none], [.int 3, .int (gI ((sI ((sI ((sI w o 6 ((gI w o 7)))) o 5 ((fn_76 ((gI ((sI w o 6 ((gI w o 7)))) q2_o ((gI ((sI w o 6 ((gI w o 7)))) o 6)).toNatClampNeg)))))) o 7 (((gI ((sI ((sI w o 6 ((gI w o 7)))) o 5 ((fn_76 ((gI ((sI w o 6 ((gI w o 7)))) q2_o ((gI ((sI w o 6 ((gI w o 7)))) o 6)).toNatClampNeg)))))) o 7) + 1)))) o 5)], (sI ((sI ((sI w o 6 ((gI w o 7)))) o 5 ((fn_76 ((gI ((sI w o 6 ((gI w o 7)))) q2_o ((gI ((sI w o 6 ((gI w o 7)))) o 6)).toNatClampNeg)))))) o 7 (((gI ((sI ((sI w o 6 ((gI w o 7)))) o 5 ((fn_76 ((gI ((sI w o 6 ((gI w o 7)))) q2_o ((gI ((sI w o 6 ((gI w o 7)))) o 6)).toNatClampNeg)))))) o 7) + 1))))) rfl).trans ?_
          by_cases hc441 : ¬ (gI ((sI ((sI ((sI w o 6 ((gI w o 7)))) o 5 ((fn_76 ((gI ((sI w o 6 ((gI w o 7)))) q2_o ((gI ((sI w o 6 ((gI w o 7)))) o 6)).toNatClampNeg)))))) o 7 (((gI ((sI ((sI w o 6 ((gI w o 7)))) o 5 ((fn_76 ((gI ((sI w o 6 ((gI w o 7)))) q2_o ((gI ((sI w o 6 ((gI w o 7)))) o 6)).toNatClampNeg)))))) o 7) + 1)))) o 5) = 3
          · refine ((val_ic_ne rfl).trans (if_pos hc441)).trans ?_
            show val (80, d + 1, 117, [some (.ref o), none], [], (sI ((sI ((sI w o 6 ((gI w o 7)))) o 5 ((fn_76 ((gI ((sI w o 6 ((gI w o 7)))) q2_o ((gI ((sI w o 6 ((gI w o 7)))) o 6)).toNatClampNeg)))))) o 7 (((gI ((sI ((sI w o 6 ((gI w o 7)))) o 5 ((fn_76 ((gI ((sI w o 6 ((gI w o 7)))) q2_o ((gI ((sI w o 6 ((gI w o 7)))) o 6)).toNatClampNeg)))))) o 7) + 1)))) = _
            refine Eq.trans ?_ (if_pos hc441).symm
            refine (val_g (c2 := (80, d + 1, 118, [some (.ref o), none], [.int 0], (sI ((sI ((sI w o 6 ((gI w o 7)))) o 5 ((fn_76 ((gI ((sI w o 6 ((gI w o 7)))) q2_o ((gI ((sI w o 6 ((gI w o 7)))) o 6)).toNatClampNeg)))))) o 7 (((gI ((sI ((sI w o 6 ((gI w o 7)))) o 5 ((fn_76 ((gI ((sI w o 6 ((gI w o 7)))) q2_o ((gI ((sI w o 6 ((gI w o 7)))) o 6)).toNatClampNeg)))))) o 7) + 1))))) rfl).trans ?_
            refine (val_g (c2 := (80, d + 1, 119, [some (.ref o), some (.int 0)], [], (sI ((sI ((sI w o 6 ((gI w o 7)))) o 5 ((fn_76 ((gI ((sI w o 6 ((gI w o 7)))) q2_o ((gI ((sI w o 6 ((gI w o 7)))) o 6)).toNatClampNeg)))))) o 7 (((gI ((sI ((sI w o 6 ((gI w o 7)))) o 5 ((fn_76 ((gI ((sI w o 6 ((gI w o 7)))) q2_o ((gI ((sI w o 6 ((gI w o 7)))) o 6)).toNatClampNeg)))))) o 7) + 1))))) rfl).trans ?_
            rfl
          · refine ((val_ic_ne rfl).trans (if_neg hc441)).trans ?_
            show val (80, d + 1, 113, [some (.ref o), none], [], (sI ((sI ((sI w o 6 ((gI w o 7)))) o 5 ((fn_76 ((gI ((sI w o 6 ((gI w o 7)))) q2_o ((gI ((sI w o 6 ((gI w o 7)))) o 6)).toNatClampNeg)))))) o 7 (((gI ((sI ((sI w o 6 ((gI w o 7)))) o 5 ((fn_76 ((gI ((sI w o 6 ((gI w o 7)))) q2_o ((gI ((sI w o 6 ((gI w o 7)))) o 6)).toNatClampNeg)))))) o 7) + 1)))) = _
            refine Eq.trans ?_ (if_neg hc441).symm
            refine (val_g (c2 := (80, d + 1, 114, [some (.ref o), none], [.int 1], (sI ((sI ((sI w o 6 ((gI w o 7)))) o 5 ((fn_76 ((gI ((sI w o 6 ((gI w o 7)))) q2_o ((gI ((sI w o 6 ((gI w o 7)))) o 6)).toNatClampNeg)))))) o 7 (((gI ((sI ((sI w o 6 ((gI w o 7)))) o 5 ((fn_76 ((gI ((sI w o 6 ((gI w o 7)))) q2_o ((gI ((sI w o 6 ((gI w o 7)))) o 6)).toNatClampNeg)))))) o 7) + 1))))) rfl).trans ?_
            refine (val_g (c2 := (80, d + 1, 118, [some (.ref o), none], [.int 1], (sI ((sI ((sI w o 6 ((gI w o 7)))) o 5 ((fn_76 ((gI ((sI w o 6 ((gI w o 7)))) q2_o ((gI ((sI w o 6 ((gI w o 7)))) o 6)).toNatClampNeg)))))) o 7 (((gI ((sI ((sI w o 6 ((gI w o 7)))) o 5 ((fn_76 ((gI ((sI w o 6 ((gI w o 7)))) q2_o ((gI ((sI w o 6 ((gI w o 7)))) o 6)).toNatClampNeg)))))) o 7) + 1))))) rfl).trans ?_
            refine (val_g (c2 := (80, d + 1, 119, [some (.ref o), some (.int 1)], [], (sI ((sI ((sI w o 6 ((gI w o 7)))) o 5 ((fn_76 ((gI ((sI w o 6 ((gI w o 7)))) q2_o ((gI ((sI w o 6 ((gI w o 7)))) o 6)).toNatClampNeg)))))) o 7 (((gI ((sI ((sI w o 6 ((gI w o 7)))) o 5 ((fn_76 ((gI ((sI w o 6 ((gI w o 7)))) q2_o ((gI ((sI w o 6 ((gI w o 7)))) o 6)).toNatClampNeg)))))) o 7) + 1))))) rfl).trans ?_
            rfl
      · refine ((val_if_ne rfl).trans (if_neg hc439)).trans ?_
        show val (80, d + 1, 86, [some (.ref o), none], [], (sI ((sI w o 6 ((gI w o 7)))) o 5 ((fn_76 ((gI ((sI w o 6 ((gI w o 7)))) q2_o ((gI ((sI w o 6 ((gI w o 7)))) o 6)).toNatClampNeg)))))) = _
        refine Eq.trans ?_ (if_neg hc439).symm
        exact val_r rfl
  · refine ((val_ic_ge rfl).trans (if_neg hc434)).trans ?_
    show val (80, d + 1, 11, [some (.ref o), none], [], w) = _
    refine Eq.trans ?_ (if_neg hc434).symm
    refine (val_g (c2 := (80, d + 1, 12, [some (.ref o), none], [.ref o], w)) rfl).trans ?_
    refine (val_gf rfl hk_o (fvR hr2_o)).trans ?_
    show val (80, d + 1, 15, [some (.ref o), none], [.ref q2_o], w) = _
    refine (val_g (c2 := (80, d + 1, 16, [some (.ref o), none], [.ref o, .ref q2_o], w)) rfl).trans ?_
    refine (val_gf rfl hk_o rfl).trans ?_
    show val (80, d + 1, 19, [some (.ref o), none], [.int (gI w o 7), .ref q2_o], w) = _
    refine (val_bal rfl hk_q2_o rfl (hy8 hc434)).trans ?_
    show val (80, d + 1, 20, [some (.ref o), none], [.int (gI w q2_o ((gI w o 7)).toNatClampNeg)], w) = _
    refine (val_call (w1 := w) (pc2 := 23) rfl rfl rfl rfl rfl (Nat.le_of_ble_eq_true rfl) (Nat.le_of_ble_eq_true rfl) rfl (ev_76 (d) w ((gI w q2_o ((gI w o 7)).toNatClampNeg))) rfl).trans ?_
    show val (80, d + 1, 23, [some (.ref o), none], [.int (fn_76 ((gI w q2_o ((gI w o 7)).toNatClampNeg)))], w) = _
    refine (val_g (c2 := (80, d + 1, 24, [some (.ref o), none], [.int 1, .int (fn_76 ((gI w q2_o ((gI w o 7)).toNatClampNeg)))], w)) rfl).trans ?_
    by_cases hc442 : ¬ (fn_76 ((gI w q2_o ((gI w o 7)).toNatClampNeg))) = 1
    · refine ((val_ic_ne rfl).trans (if_pos hc442)).trans ?_
      show val (80, d + 1, 40, [some (.ref o), none], [], w) = _
      refine Eq.trans ?_ (if_pos hc442).symm
      refine (val_g (c2 := (80, d + 1, 41, [some (.ref o), none], [.ref o], w)) rfl).trans ?_
      refine (val_g (c2 := (80, d + 1, 42, [some (.ref o), none], [.ref o, .ref o], w)) rfl).trans ?_
      refine (val_gf rfl hk_o rfl).trans ?_
      show val (80, d + 1, 45, [some (.ref o), none], [.int (gI w o 7), .ref o], w) = _
      refine (val_pf rfl hk_o rfl).trans ?_
      show val (80, d + 1, 48, [some (.ref o), none], [], (sI w o 6 ((gI w o 7)))) = _
      refine (val_g (c2 := (80, d + 1, 49, [some (.ref o), none], [.ref o], (sI w o 6 ((gI w o 7))))) rfl).trans ?_
      refine (val_g (c2 := (80, d + 1, 50, [some (.ref o), none], [.ref o, .ref o], (sI w o 6 ((gI w o 7))))) rfl).trans ?_
      refine (val_gf (w := (sI w o 6 ((gI w o 7)))) rfl hk_o rfl).trans ?_
      show val (80, d + 1, 53, [some (.ref o), none], [.int (gI ((sI w o 6 ((gI w o 7)))) o 6), .ref o], (sI w o 6 ((gI w o 7)))) = _
      refine (val_g (c2 := (80, d + 1, 54, [some (.ref o), none], [.ref o, .int (gI ((sI w o 6 ((gI w o 7)))) o 6), .ref o], (sI w o 6 ((gI w o 7))))) rfl).trans ?_
      refine (val_gf (w := (sI w o 6 ((gI w o 7)))) rfl hk_o rfl).trans ?_
      show val (80, d + 1, 57, [some (.ref o), none], [.int (gI ((sI w o 6 ((gI w o 7)))) o 3), .int (gI ((sI w o 6 ((gI w o 7)))) o 6), .ref o], (sI w o 6 ((gI w o 7)))) = _
      by_cases hc443 : (gI ((sI w o 6 ((gI w o 7)))) o 3) ≤ (gI ((sI w o 6 ((gI w o 7)))) o 6)
      · refine ((val_ic_ge rfl).trans (if_pos hc443)).trans ?_
        show val (80, d + 1, 75, [some (.ref o), none], [.ref o], (sI w o 6 ((gI w o 7)))) = _
        refine Eq.trans ?_ (if_pos hc443).symm
        refine (val_g (c2 := (80, d + 1, 76, [some (.ref o), none], [.int 0, .ref o], (sI w o 6 ((gI w o 7))))) rfl).trans ?_
        refine (val_pf (w := (sI w o 6 ((gI w o 7)))) rfl hk_o rfl).trans ?_
        show val (80, d + 1, 79, [some (.ref o), none], [], (sI ((sI w o 6 ((gI w o 7)))) o 5 0)) = _
        refine (val_g (c2 := (80, d + 1, 80, [some (.ref o), none], [.ref o], (sI ((sI w o 6 ((gI w o 7)))) o 5 0))) rfl).trans ?_
        refine (val_gf (w := (sI ((sI w o 6 ((gI w o 7)))) o 5 0)) rfl hk_o rfl).trans ?_
        show val (80, d + 1, 83, [some (.ref o), none], [.int (gI ((sI ((sI w o 6 ((gI w o 7)))) o 5 0)) o 5)], (sI ((sI w o 6 ((gI w o 7)))) o 5 0)) = _
        by_cases hc444 : ¬ (gI ((sI ((sI w o 6 ((gI w o 7)))) o 5 0)) o 5) = 0
        · refine ((val_if_ne rfl).trans (if_pos hc444)).trans ?_
          show val (80, d + 1, 87, [some (.ref o), none], [], (sI ((sI w o 6 ((gI w o 7)))) o 5 0)) = _
          refine Eq.trans ?_ (if_pos hc444).symm
          refine (val_g (c2 := (80, d + 1, 88, [some (.ref o), none], [.ref o], (sI ((sI w o 6 ((gI w o 7)))) o 5 0))) rfl).trans ?_
          refine (val_g (c2 := (80, d + 1, 89, [some (.ref o), none], [.ref o, .ref o], (sI ((sI w o 6 ((gI w o 7)))) o 5 0))) rfl).trans ?_
          refine (val_gf (w := (sI ((sI w o 6 ((gI w o 7)))) o 5 0)) rfl hk_o rfl).trans ?_
          show val (80, d + 1, 92, [some (.ref o), none], [.int (gI ((sI ((sI w o 6 ((gI w o 7)))) o 5 0)) o 7), .ref o], (sI ((sI w o 6 ((gI w o 7)))) o 5 0)) = _
          refine (val_g (c2 := (80, d + 1, 93, [some (.ref o), none], [.int 1, .int (gI ((sI ((sI w o 6 ((gI w o 7)))) o 5 0)) o 7), .ref o], (sI ((sI w o 6 ((gI w o 7)))) o 5 0))) rfl).trans ?_
          refine (val_g (c2 := (80, d + 1, 94, [some (.ref o), none], [.int ((gI ((sI ((sI w o 6 ((gI w o 7)))) o 5 0)) o 7) + 1), .ref o], (sI ((sI w o 6 ((gI w o 7)))) o 5 0))) rfl).trans ?_
          refine (val_pf (w := (sI ((sI w o 6 ((gI w o 7)))) o 5 0)) rfl hk_o rfl).trans ?_
          show val (80, d + 1, 97, [some (.ref o), none], [], (sI ((sI ((sI w o 6 ((gI w o 7)))) o 5 0)) o 7 (((gI ((sI ((sI w o 6 ((gI w o 7)))) o 5 0)) o 7) + 1)))) = _
          refine (val_g (c2 := (80, d + 1, 98, [some (.ref o), none], [.ref o], (sI ((sI ((sI w o 6 ((gI w o 7)))) o 5 0)) o 7 (((gI ((sI ((sI w o 6 ((gI w o 7)))) o 5 0)) o 7) + 1))))) rfl).trans ?_
          refine (val_gf (w := (sI ((sI ((sI w o 6 ((gI w o 7)))) o 5 0)) o 7 (((gI ((sI ((sI w o 6 ((gI w o 7)))) o 5 0)) o 7) + 1)))) rfl hk_o rfl).trans ?_
          show val (80, d + 1, 101, [some (.ref o), none], [.int (gI ((sI ((sI ((sI w o 6 ((gI w o 7)))) o 5 0)) o 7 (((gI ((sI ((sI w o 6 ((gI w o 7)))) o 5 0)) o 7) + 1)))) o 5)], (sI ((sI ((sI w o 6 ((gI w o 7)))) o 5 0)) o 7 (((gI ((sI ((sI w o 6 ((gI w o 7)))) o 5 0)) o 7) + 1)))) = _
          refine (val_g (c2 := (80, d + 1, 102, [some (.ref o), none], [.int 2, .int (gI ((sI ((sI ((sI w o 6 ((gI w o 7)))) o 5 0)) o 7 (((gI ((sI ((sI w o 6 ((gI w o 7)))) o 5 0)) o 7) + 1)))) o 5)], (sI ((sI ((sI w o 6 ((gI w o 7)))) o 5 0)) o 7 (((gI ((sI ((sI w o 6 ((gI w o 7)))) o 5 0)) o 7) + 1))))) rfl).trans ?_
          by_cases hc445 : (gI ((sI ((sI ((sI w o 6 ((gI w o 7)))) o 5 0)) o 7 (((gI ((sI ((sI w o 6 ((gI w o 7)))) o 5 0)) o 7) + 1)))) o 5) = 2
          · refine ((val_ic_eq rfl).trans (if_pos hc445)).trans ?_
            show val (80, d + 1, 113, [some (.ref o), none], [], (sI ((sI ((sI w o 6 ((gI w o 7)))) o 5 0)) o 7 (((gI ((sI ((sI w o 6 ((gI w o 7)))) o 5 0)) o 7) + 1)))) = _
            refine Eq.trans ?_ (if_pos hc445).symm
            refine (val_g (c2 := (80, d + 1, 114, [some (.ref o), none], [.int 1], (sI ((sI ((sI w o 6 ((gI w o 7)))) o 5 0)) o 7 (((gI ((sI ((sI w o 6 ((gI w o 7)))) o 5 0)) o 7) + 1))))) rfl).trans ?_
            refine (val_g (c2 := (80, d + 1, 118, [some (.ref o), none], [.int 1], (sI ((sI ((sI w o 6 ((gI w o 7)))) o 5 0)) o 7 (((gI ((sI ((sI w o 6 ((gI w o 7)))) o 5 0)) o 7) + 1))))) rfl).trans ?_
            refine (val_g (c2 := (80, d + 1, 119, [some (.ref o), some (.int 1)], [], (sI ((sI ((sI w o 6 ((gI w o 7)))) o 5 0)) o 7 (((gI ((sI ((sI w o 6 ((gI w o 7)))) o 5 0)) o 7) + 1))))) rfl).trans ?_
            rfl
          · refine ((val_ic_eq rfl).trans (if_neg hc445)).trans ?_
            show val (80, d + 1, 105, [some (.ref o), none], [], (sI ((sI ((sI w o 6 ((gI w o 7)))) o 5 0)) o 7 (((gI ((sI ((sI w o 6 ((gI w o 7)))) o 5 0)) o 7) + 1)))) = _
            refine Eq.trans ?_ (if_neg hc445).symm
            refine (val_g (c2 := (80, d + 1, 106, [some (.ref o), none], [.ref o], (sI ((sI ((sI w o 6 ((gI w o 7)))) o 5 0)) o 7 (((gI ((sI ((sI w o 6 ((gI w o 7)))) o 5 0)) o 7) + 1))))) rfl).trans ?_
            refine (val_gf (w := (sI ((sI ((sI w o 6 ((gI w o 7)))) o 5 0)) o 7 (((gI ((sI ((sI w o 6 ((gI w o 7)))) o 5 0)) o 7) + 1)))) rfl hk_o rfl).trans ?_
            show val (80, d + 1, 109, [some (.ref o), none], [.int (gI ((sI ((sI ((sI w o 6 ((gI w o 7)))) o 5 0)) o 7 (((gI ((sI ((sI w o 6 ((gI w o 7)))) o 5 0)) o 7) + 1)))) o 5)], (sI ((sI ((sI w o 6 ((gI w o 7)))) o 5 0)) o 7 (((gI ((sI ((sI w o 6 ((gI w o 7)))) o 5 0)) o 7) + 1)))) = _
            refine (val_g (c2 := (80, d + 1, 110, [some (.ref o), none], [.int 3, .int (gI ((sI ((sI ((sI w o 6 ((gI w o 7)))) o 5 0)) o 7 (((gI ((sI ((sI w o 6 ((gI w o 7)))) o 5 0)) o 7) + 1)))) o 5)], (sI ((sI ((sI w o 6 ((gI w o 7)))) o 5 0)) o 7 (((gI ((sI ((sI w o 6 ((gI w o 7)))) o 5 0)) o 7) + 1))))) rfl).trans ?_
            by_cases hc446 : ¬ (gI ((sI ((sI ((sI w o 6 ((gI w o 7)))) o 5 0)) o 7 (((gI ((sI ((sI w o 6 ((gI w o 7)))) o 5 0)) o 7) + 1)))) o 5) = 3
            · refine ((val_ic_ne rfl).trans (if_pos hc446)).trans ?_
              show val (80, d + 1, 117, [some (.ref o), none], [], (sI ((sI ((sI w o 6 ((gI w o 7)))) o 5 0)) o 7 (((gI ((sI ((sI w o 6 ((gI w o 7)))) o 5 0)) o 7) + 1)))) = _
              refine Eq.trans ?_ (if_pos hc446).symm
              refine (val_g (c2 := (80, d + 1, 118, [some (.ref o), none], [.int 0], (sI ((sI ((sI w o 6 ((gI w o 7)))) o 5 0)) o 7 (((gI ((sI ((sI w o 6 ((gI w o 7)))) o 5 0)) o 7) + 1))))) rfl).trans ?_
              refine (val_g (c2 := (80, d + 1, 119, [some (.ref o), some (.int 0)], [], (sI ((sI ((sI w o 6 ((gI w o 7)))) o 5 0)) o 7 (((gI ((sI ((sI w o 6 ((gI w o 7)))) o 5 0)) o 7) + 1))))) rfl).trans ?_
              rfl
            · refine ((val_ic_ne rfl).trans (if_neg hc446)).trans ?_
              show val (80, d + 1, 113, [some (.ref o), none], [], (sI ((sI ((sI w o 6 ((gI w o 7)))) o 5 0)) o 7 (((gI ((sI ((sI w o 6 ((gI w o 7)))) o 5 0)) o 7) + 1)))) = _
              refine Eq.trans ?_ (if_neg hc446).symm
              refine (val_g (c2 := (80, d + 1, 114, [some (.ref o), none], [.int 1], (sI ((sI ((sI w o 6 ((gI w o 7)))) o 5 0)) o 7 (((gI ((sI ((sI w o 6 ((gI w o 7)))) o 5 0)) o 7) + 1))))) rfl).trans ?_
              refine (val_g (c2 := (80, d + 1, 118, [some (.ref o), none], [.int 1], (sI ((sI ((sI w o 6 ((gI w o 7)))) o 5 0)) o 7 (((gI ((sI ((sI w o 6 ((gI w o 7)))) o 5 0)) o 7) + 1))))) rfl).trans ?_
              refine (val_g (c2 := (80, d + 1, 119, [some (.ref o), some (.int 1)], [], (sI ((sI ((sI w o 6 ((gI w o 7)))) o 5 0)) o 7 (((gI ((sI ((sI w o 6 ((gI w o 7)))) o 5 0)) o 7) + 1))))) rfl).trans ?_
              rfl
        · refine ((val_if_ne rfl).trans (if_neg hc444)).trans ?_
          show val (80, d + 1, 86, [some (.ref o), none], [], (sI ((sI w o 6 ((gI w o 7)))) o 5 0)) = _
          refine Eq.trans ?_ (if_neg hc444).symm
          exact val_r rfl
      · refine ((val_ic_ge rfl).trans (if_neg hc443)).trans ?_
        show val (80, d + 1, 60, [some (.ref o), none], [.ref o], (sI w o 6 ((gI w o 7)))) = _
        refine Eq.trans ?_ (if_neg hc443).symm
        refine (val_g (c2 := (80, d + 1, 61, [some (.ref o), none], [.ref o, .ref o], (sI w o 6 ((gI w o 7))))) rfl).trans ?_
        refine (val_gf (w := (sI w o 6 ((gI w o 7)))) rfl hk_o (fvR hr2_o)).trans ?_
        show val (80, d + 1, 64, [some (.ref o), none], [.ref q2_o, .ref o], (sI w o 6 ((gI w o 7)))) = _
        refine (val_g (c2 := (80, d + 1, 65, [some (.ref o), none], [.ref o, .ref q2_o, .ref o], (sI w o 6 ((gI w o 7))))) rfl).trans ?_
        refine (val_gf (w := (sI w o 6 ((gI w o 7)))) rfl hk_o rfl).trans ?_
        show val (80, d + 1, 68, [some (.ref o), none], [.int (gI ((sI w o 6 ((gI w o 7)))) o 6), .ref q2_o, .ref o], (sI w o 6 ((gI w o 7)))) = _
        refine (val_bal (w := (sI w o 6 ((gI w o 7)))) rfl hk_q2_o rfl (hy9 hc434 hc442 hc443)).trans ?_
        show val (80, d + 1, 69, [some (.ref o), none], [.int (gI ((sI w o 6 ((gI w o 7)))) q2_o ((gI ((sI w o 6 ((gI w o 7)))) o 6)).toNatClampNeg), .ref o], (sI w o 6 ((gI w o 7)))) = _
        refine (val_call (w1 := (sI w o 6 ((gI w o 7)))) (pc2 := 72) rfl rfl rfl rfl rfl (Nat.le_of_ble_eq_true rfl) (Nat.le_of_ble_eq_true rfl) rfl (ev_76 (d) (sI w o 6 ((gI w o 7))) ((gI ((sI w o 6 ((gI w o 7)))) q2_o ((gI ((sI w o 6 ((gI w o 7)))) o 6)).toNatClampNeg))) rfl).trans ?_
        show val (80, d + 1, 72, [some (.ref o), none], [.int (fn_76 ((gI ((sI w o 6 ((gI w o 7)))) q2_o ((gI ((sI w o 6 ((gI w o 7)))) o 6)).toNatClampNeg))), .ref o], (sI w o 6 ((gI w o 7)))) = _
        refine (val_g (c2 := (80, d + 1, 76, [some (.ref o), none], [.int (fn_76 ((gI ((sI w o 6 ((gI w o 7)))) q2_o ((gI ((sI w o 6 ((gI w o 7)))) o 6)).toNatClampNeg))), .ref o], (sI w o 6 ((gI w o 7))))) rfl).trans ?_
        refine (val_pf (w := (sI w o 6 ((gI w o 7)))) rfl hk_o rfl).trans ?_
        show val (80, d + 1, 79, [some (.ref o), none], [], (sI ((sI w o 6 ((gI w o 7)))) o 5 ((fn_76 ((gI ((sI w o 6 ((gI w o 7)))) q2_o ((gI ((sI w o 6 ((gI w o 7)))) o 6)).toNatClampNeg)))))) = _
        refine (val_g (c2 := (80, d + 1, 80, [some (.ref o), none], [.ref o], (sI ((sI w o 6 ((gI w o 7)))) o 5 ((fn_76 ((gI ((sI w o 6 ((gI w o 7)))) q2_o ((gI ((sI w o 6 ((gI w o 7)))) o 6)).toNatClampNeg))))))) rfl).trans ?_
        refine (val_gf (w := (sI ((sI w o 6 ((gI w o 7)))) o 5 ((fn_76 ((gI ((sI w o 6 ((gI w o 7)))) q2_o ((gI ((sI w o 6 ((gI w o 7)))) o 6)).toNatClampNeg)))))) rfl hk_o rfl).trans ?_
        show val (80, d + 1, 83, [some (.ref o), none], [.int (gI ((sI ((sI w o 6 ((gI w o 7)))) o 5 ((fn_76 ((gI ((sI w o 6 ((gI w o 7)))) q2_o ((gI ((sI w o 6 ((gI w o 7)))) o 6)).toNatClampNeg)))))) o 5)], (sI ((sI w o 6 ((gI w o 7)))) o 5 ((fn_76 ((gI ((sI w o 6 ((gI w o 7)))) q2_o ((gI ((sI w o 6 ((gI w o 7)))) o 6)).toNatClampNeg)))))) = _
        by_cases hc447 : ¬ (gI ((sI ((sI w o 6 ((gI w o 7)))) o 5 ((fn_76 ((gI ((sI w o 6 ((gI w o 7)))) q2_o ((gI ((sI w o 6 ((gI w o 7)))) o 6)).toNatClampNeg)))))) o 5) = 0
        · refine ((val_if_ne rfl).trans (if_pos hc447)).trans ?_
          show val (80, d + 1, 87, [some (.ref o), none], [], (sI ((sI w o 6 ((gI w o 7)))) o 5 ((fn_76 ((gI ((sI w o 6 ((gI w o 7)))) q2_o ((gI ((sI w o 6 ((gI w o 7)))) o 6)).toNatClampNeg)))))) = _
          refine Eq.trans ?_ (if_pos hc447).symm
          refine (val_g (c2 := (80, d + 1, 88, [some (.ref o), none], [.ref o], (sI ((sI w o 6 ((gI w o 7)))) o 5 ((fn_76 ((gI ((sI w o 6 ((gI w o 7)))) q2_o ((gI ((sI w o 6 ((gI w o 7)))) o 6)).toNatClampNeg))))))) rfl).trans ?_
          refine (val_g (c2 := (80, d + 1, 89, [some (.ref o), none], [.ref o, .ref o], (sI ((sI w o 6 ((gI w o 7)))) o 5 ((fn_76 ((gI ((sI w o 6 ((gI w o 7)))) q2_o ((gI ((sI w o 6 ((gI w o 7)))) o 6)).toNatClampNeg))))))) rfl).trans ?_
          refine (val_gf (w := (sI ((sI w o 6 ((gI w o 7)))) o 5 ((fn_76 ((gI ((sI w o 6 ((gI w o 7)))) q2_o ((gI ((sI w o 6 ((gI w o 7)))) o 6)).toNatClampNeg)))))) rfl hk_o rfl).trans ?_
          show val (80, d + 1, 92, [some (.ref o), none], [.int (gI ((sI ((sI w o 6 ((gI w o 7)))) o 5 ((fn_76 ((gI ((sI w o 6 ((gI w o 7)))) q2_o ((gI ((sI w o 6 ((gI w o 7)))) o 6)).toNatClampNeg)))))) o 7), .ref o], (sI ((sI w o 6 ((gI w o 7)))) o 5 ((fn_76 ((gI ((sI w o 6 ((gI w o 7)))) q2_o ((gI ((sI w o 6 ((gI w o 7)))) o 6)).toNatClampNeg)))))) = _
          refine (val_g (c2 := (80, d + 1, 93, [some (.ref o), none], [.int 1, .int (gI ((sI ((sI w o 6 ((gI w o 7)))) o 5 ((fn_76 ((gI ((sI w o 6 ((gI w o 7)))) q2_o ((gI ((sI w o 6 ((gI w o 7)))) o 6)).toNatClampNeg)))))) o 7), .ref o], (sI ((sI w o 6 ((gI w o 7)))) o 5 ((fn_76 ((gI ((sI w o 6 ((gI w o 7)))) q2_o ((gI ((sI w o 6 ((gI w o 7)))) o 6)).toNatClampNeg))))))) rfl).trans ?_
          refine (val_g (c2 := (80, d + 1, 94, [some (.ref o), none], [.int ((gI ((sI ((sI w o 6 ((gI w o 7)))) o 5 ((fn_76 ((gI ((sI w o 6 ((gI w o 7)))) q2_o ((gI ((sI w o 6 ((gI w o 7)))) o 6)).toNatClampNeg)))))) o 7) + 1), .ref o], (sI ((sI w o 6 ((gI w o 7)))) o 5 ((fn_76 ((gI ((sI w o 6 ((gI w o 7)))) q2_o ((gI ((sI w o 6 ((gI w o 7)))) o 6)).toNatClampNeg))))))) rfl).trans ?_
          refine (val_pf (w := (sI ((sI w o 6 ((gI w o 7)))) o 5 ((fn_76 ((gI ((sI w o 6 ((gI w o 7)))) q2_o ((gI ((sI w o 6 ((gI w o 7)))) o 6)).toNatClampNeg)))))) rfl hk_o rfl).trans ?_
          show val (80, d + 1, 97, [some (.ref o), none], [], (sI ((sI ((sI w o 6 ((gI w o 7)))) o 5 ((fn_76 ((gI ((sI w o 6 ((gI w o 7)))) q2_o ((gI ((sI w o 6 ((gI w o 7)))) o 6)).toNatClampNeg)))))) o 7 (((gI ((sI ((sI w o 6 ((gI w o 7)))) o 5 ((fn_76 ((gI ((sI w o 6 ((gI w o 7)))) q2_o ((gI ((sI w o 6 ((gI w o 7)))) o 6)).toNatClampNeg)))))) o 7) + 1)))) = _
          refine (val_g (c2 := (80, d + 1, 98, [some (.ref o), none], [.ref o], (sI ((sI ((sI w o 6 ((gI w o 7)))) o 5 ((fn_76 ((gI ((sI w o 6 ((gI w o 7)))) q2_o ((gI ((sI w o 6 ((gI w o 7)))) o 6)).toNatClampNeg)))))) o 7 (((gI ((sI ((sI w o 6 ((gI w o 7)))) o 5 ((fn_76 ((gI ((sI w o 6 ((gI w o 7)))) q2_o ((gI ((sI w o 6 ((gI w o 7)))) o 6)).toNatClampNeg)))))) o 7) + 1))))) rfl).trans ?_
          refine (val_gf (w := (sI ((sI ((sI w o 6 ((gI w o 7)))) o 5 ((fn_76 ((gI ((sI w o 6 ((gI w o 7)))) q2_o ((gI ((sI w o 6 ((gI w o 7)))) o 6)).toNatClampNeg)))))) o 7 (((gI ((sI ((sI w o 6 ((gI w o 7)))) o 5 ((fn_76 ((gI ((sI w o 6 ((gI w o 7)))) q2_o ((gI ((sI w o 6 ((gI w o 7)))) o 6)).toNatClampNeg)))))) o 7) + 1)))) rfl hk_o rfl).trans ?_
          show val (80, d + 1, 101, [some (.ref o), none], [.int (gI ((sI ((sI ((sI w o 6 ((gI w o 7)))) o 5 ((fn_76 ((gI ((sI w o 6 ((gI w o 7)))) q2_o ((gI ((sI w o 6 ((gI w o 7)))) o 6)).toNatClampNeg)))))) o 7 (((gI ((sI ((sI w o 6 ((gI w o 7)))) o 5 ((fn_76 ((gI ((sI w o 6 ((gI w o 7)))) q2_o ((gI ((sI w o 6 ((gI w o 7)))) o 6)).toNatClampNeg)))))) o 7) + 1)))) o 5)], (sI ((sI ((sI w o 6 ((gI w o 7)))) o 5 ((fn_76 ((gI ((sI w o 6 ((gI w o 7)))) q2_o ((gI ((sI w o 6 ((gI w o 7)))) o 6)).toNatClampNeg)))))) o 7 (((gI ((sI ((sI w o 6 ((gI w o 7)))) o 5 ((fn_76 ((gI ((sI w o 6 ((gI w o 7)))) q2_o ((gI ((sI w o 6 ((gI w o 7)))) o 6)).toNatClampNeg)))))) o 7) + 1)))) = _
          refine (val_g (c2 := (80, d + 1, 102, [some (.ref o), none], [.int 2, .int (gI ((sI ((sI ((sI w o 6 ((gI w o 7)))) o 5 ((fn_76 ((gI ((sI w o 6 ((gI w o 7)))) q2_o ((gI ((sI w o 6 ((gI w o 7)))) o 6)).toNatClampNeg)))))) o 7 (((gI ((sI ((sI w o 6 ((gI w o 7)))) o 5 ((fn_76 ((gI ((sI w o 6 ((gI w o 7)))) q2_o ((gI ((sI w o 6 ((gI w o 7)))) o 6)).toNatClampNeg)))))) o 7) + 1)))) o 5)], (sI ((sI ((sI w o 6 ((gI w o 7)))) o 5 ((fn_76 ((gI ((sI w o 6 ((gI w o 7)))) q2_o ((gI ((sI w o 6 ((gI w o 7)))) o 6)).toNatClampNeg)))))) o 7 (((gI ((sI ((sI w o 6 ((gI w o 7)))) o 5 ((fn_76 ((gI ((sI w o 6 ((gI w o 7)))) q2_o ((gI ((sI w o 6 ((gI w o 7)))) o 6)).toNatClampNeg)))))) o 7) + 1))))) rfl).trans ?_
          by_cases hc448 : (gI ((sI ((sI ((sI w o 6 ((gI w o 7)))) o 5 ((fn_76 ((gI ((sI w o 6 ((gI w o 7)))) q2_o ((gI ((sI w o 6 ((gI w o 7)))) o 6)).toNatClampNeg)))))) o 7 (((gI ((sI ((sI w o 6 ((gI w o 7)))) o 5 ((fn_76 ((gI ((sI w o 6 ((gI w o 7)))) q2_o ((gI ((sI w o 6 ((gI w o 7)))) o 6)).toNatClampNeg)))))) o 7) + 1)))) o 5) = 2
          · refine ((val_ic_eq rfl).trans (if_pos hc448)).trans ?_
            show val (80, d + 1, 113, [some (.ref o), none], [], (sI ((sI ((sI w o 6 ((gI w o 7)))) o 5 ((fn_76 ((gI ((sI w o 6 ((gI w o 7)))) q2_o ((gI ((sI w o 6 ((gI w o 7)))) o 6)).toNatClampNeg)))))) o 7 (((gI ((sI ((sI w o 6 ((gI w o 7)))) o 5 ((fn_76 ((gI ((sI w o 6 ((gI w o 7)))) q2_o ((gI ((sI w o 6 ((gI w o 7)))) o 6)).toNatClampNeg)))))) o 7) + 1)))) = _
            refine Eq.trans ?_ (if_pos hc448).symm
            refine (val_g (c2 := (80, d + 1, 114, [some (.ref o), none], [.int 1], (sI ((sI ((sI w o 6 ((gI w o 7)))) o 5 ((fn_76 ((gI ((sI w o 6 ((gI w o 7)))) q2_o ((gI ((sI w o 6 ((gI w o 7)))) o 6)).toNatClampNeg)))))) o 7 (((gI ((sI ((sI w o 6 ((gI w o 7)))) o 5 ((fn_76 ((gI ((sI w o 6 ((gI w o 7)))) q2_o ((gI ((sI w o 6 ((gI w o 7)))) o 6)).toNatClampNeg)))))) o 7) + 1))))) rfl).trans ?_
            refine (val_g (c2 := (80, d + 1, 118, [some (.ref o), none], [.int 1], (sI ((sI ((sI w o 6 ((gI w o 7)))) o 5 ((fn_76 ((gI ((sI w o 6 ((gI w o 7)))) q2_o ((gI ((sI w o 6 ((gI w o 7)))) o 6)).toNatClampNeg)))))) o 7 (((gI ((sI ((sI w o 6 ((gI w o 7)))) o 5 ((fn_76 ((gI ((sI w o 6 ((gI w o 7)))) q2_o ((gI ((sI w o 6 ((gI w o 7)))) o 6)).toNatClampNeg)))))) o 7) + 1))))) rfl).trans ?_
            refine (val_g (c2 := (80, d + 1, 119, [some (.ref o), some (.int 1)], [], (sI ((sI ((sI w o 6 ((gI w o 7)))) o 5 ((fn_76 ((gI ((sI w o 6 ((gI w o 7)))) q2_o ((gI ((sI w o 6 ((gI w o 7)))) o 6)).toNatClampNeg)))))) o 7 (((gI ((sI ((sI w o 6 ((gI w o 7)))) o 5 ((fn_76 ((gI ((sI w o 6 ((gI w o 7)))) q2_o ((gI ((sI w o 6 ((gI w o 7)))) o 6)).toNatClampNeg)))))) o 7) + 1))))) rfl).trans ?_
            rfl
          · refine ((val_ic_eq rfl).trans (if_neg hc448)).trans ?_
            show val (80, d + 1, 105, [some (.ref o), none], [], (sI ((sI ((sI w o 6 ((gI w o 7)))) o 5 ((fn_76 ((gI ((sI w o 6 ((gI w o 7)))) q2_o ((gI ((sI w o 6 ((gI w o 7)))) o 6)).toNatClampNeg)))))) o 7 (((gI ((sI ((sI w o 6 ((gI w o 7)))) o 5 ((fn_76 ((gI ((sI w o 6 ((gI w o 7)))) q2_o ((gI ((sI w o 6 ((gI w o 7)))) o 6)).toNatClampNeg)))))) o 7) + 1)))) = _
            refine Eq.trans ?_ (if_neg hc448).symm
            refine (val_g (c2 := (80, d + 1, 106, [some (.ref o), none], [.ref o], (sI ((sI ((sI w o 6 ((gI w o 7)))) o 5 ((fn_76 ((gI ((sI w o 6 ((gI w o 7)))) q2_o ((gI ((sI w o 6 ((gI w o 7)))) o 6)).toNatClampNeg)))))) o 7 (((gI ((sI ((sI w o 6 ((gI w o 7)))) o 5 ((fn_76 ((gI ((sI w o 6 ((gI w o 7)))) q2_o ((gI ((sI w o 6 ((gI w o 7)))) o 6)).toNatClampNeg)))))) o 7) + 1))))) rfl).trans ?_
            refine (val_gf (w := (sI ((sI ((sI w o 6 ((gI w o 7)))) o 5 ((fn_76 ((gI ((sI w o 6 ((gI w o 7)))) q2_o ((gI ((sI w o 6 ((gI w o 7)))) o 6)).toNatClampNeg)))))) o 7 (((gI ((sI ((sI w o 6 ((gI w o 7)))) o 5 ((fn_76 ((gI ((sI w o 6 ((gI w o 7)))) q2_o ((gI ((sI w o 6 ((gI w o 7)))) o 6)).toNatClampNeg)))))) o 7) + 1)))) rfl hk_o rfl).trans ?_
            show val (80, d + 1, 109, [some (.ref o), none], [.int (gI ((sI ((sI ((sI w o 6 ((gI w o 7)))) o 5 ((fn_76 ((gI ((sI w o 6 ((gI w o 7)))) q2_o ((gI ((sI w o 6 ((gI w o 7)))) o 6)).toNatClampNeg)))))) o 7 (((gI ((sI ((sI w o 6 ((gI w o 7)))) o 5 ((fn_76 ((gI ((sI w o 6 ((gI w o 7)))) q2_o ((gI ((sI w o 6 ((gI w o 7)))) o 6)).toNatClampNeg)))))) o 7) + 1)))) o 5)], (sI ((sI ((sI w o 6 ((gI w o 7)))) o 5 ((fn_76 ((gI ((sI w o 6 ((gI w o 7)))) q2_o ((gI ((sI w o 6 ((gI w o 7)))) o 6)).toNatClampNeg)))))) o 7 (((gI ((sI ((sI w o 6 ((gI w o 7)))) o 5 ((fn_76 ((gI ((sI w o 6 ((gI w o 7)))) q2_o ((gI ((sI w o 6 ((gI w o 7)))) o 6)).toNatClampNeg)))))) o 7) + 1)))) = _
            refine (val_g (c2 := (80, d + 1, 110, [some (.ref o), none], [.int 3, .int (gI ((sI ((sI ((sI w o 6 ((gI w o 7)))) o 5 ((fn_76 ((gI ((sI w o 6 ((gI w o 7)))) q2_o ((gI ((sI w o 6 ((gI w o 7)))) o 6)).toNatClampNeg)))))) o 7 (((gI ((sI ((sI w o 6 ((gI w o 7)))) o 5 ((fn_76 ((gI ((sI w o 6 ((gI w o 7)))) q2_o ((gI ((sI w o 6 ((gI w o 7)))) o 6)).toNatClampNeg)))))) o 7) + 1)))) o 5)], (sI ((sI ((sI w o 6 ((gI w o 7)))) o 5 ((fn_76 ((gI ((sI w o 6 ((gI w o 7)))) q2_o ((gI ((sI w o 6 ((gI w o 7)))) o 6)).toNatClampNeg)))))) o 7 (((gI ((sI ((sI w o 6 ((gI w o 7)))) o 5 ((fn_76 ((gI ((sI w o 6 ((gI w o 7)))) q2_o ((gI ((sI w o 6 ((gI w o 7)))) o 6)).toNatClampNeg)))))) o 7) + 1))))) rfl).trans ?_
            by_cases hc449 : ¬ (gI ((sI ((sI ((sI w o 6 ((gI w o 7)))) o 5 ((fn_76 ((gI ((sI w o 6 ((gI w o 7)))) q2_o ((gI ((sI w o 6 ((gI w o 7)))) o 6)).toNatClampNeg)))))) o 7 (((gI ((sI ((sI w o 6 ((gI w o 7)))) o 5 ((fn_76 ((gI ((sI w o 6 ((gI w o 7)))) q2_o ((gI ((sI w o 6 ((gI w o 7)))) o 6)).toNatClampNeg)))))) o 7) + 1)))) o 5) = 3
            · refine ((val_ic_ne rfl).trans (if_pos hc449)).trans ?_
              show val (80, d + 1, 117, [some (.ref o), none], [], (sI ((sI ((sI w o 6 ((gI w o 7)))) o 5 ((fn_76 ((gI ((sI w o 6 ((gI w o 7)))) q2_o ((gI ((sI w o 6 ((gI w o 7)))) o 6)).toNatClampNeg)))))) o 7 (((gI ((sI ((sI w o 6 ((gI w o 7)))) o 5 ((fn_76 ((gI ((sI w o 6 ((gI w o 7)))) q2_o ((gI ((sI w o 6 ((gI w o 7)))) o 6)).toNatClampNeg)))))) o 7) + 1)))) = _
              refine Eq.trans ?_ (if_pos hc449).symm
              refine (val_g (c2 := (80, d + 1, 118, [some (.ref o), none], [.int 0], (sI ((sI ((sI w o 6 ((gI w o 7)))) o 5 ((fn_76 ((gI ((sI w o 6 ((gI w o 7)))) q2_o ((gI ((sI w o 6 ((gI w o 7)))) o 6)).toNatClampNeg)))))) o 7 (((gI ((sI ((sI w o 6 ((gI w o 7)))) o 5 ((fn_76 ((gI ((sI w o 6 ((gI w o 7)))) q2_o ((gI ((sI w o 6 ((gI w o 7)))) o 6)).toNatClampNeg)))))) o 7) + 1))))) rfl).trans ?_
              refine (val_g (c2 := (80, d + 1, 119, [some (.ref o), some (.int 0)], [], (sI ((sI ((sI w o 6 ((gI w o 7)))) o 5 ((fn_76 ((gI ((sI w o 6 ((gI w o 7)))) q2_o ((gI ((sI w o 6 ((gI w o 7)))) o 6)).toNatClampNeg)))))) o 7 (((gI ((sI ((sI w o 6 ((gI w o 7)))) o 5 ((fn_76 ((gI ((sI w o 6 ((gI w o 7)))) q2_o ((gI ((sI w o 6 ((gI w o 7)))) o 6)).toNatClampNeg)))))) o 7) + 1))))) rfl).trans ?_
              rfl
            · refine ((val_ic_ne rfl).trans (if_neg hc449)).trans ?_
              show val (80, d + 1, 113, [some (.ref o), none], [], (sI ((sI ((sI w o 6 ((gI w o 7)))) o 5 ((fn_76 ((gI ((sI w o 6 ((gI w o 7)))) q2_o ((gI ((sI w o 6 ((gI w o 7)))) o 6)).toNatClampNeg)))))) o 7 (((gI ((sI ((sI w o 6 ((gI w o 7)))) o 5 ((fn_76 ((gI ((sI w o 6 ((gI w o 7)))) q2_o ((gI ((sI w o 6 ((gI w o 7)))) o 6)).toNatClampNeg)))))) o 7) + 1)))) = _
              refine Eq.trans ?_ (if_neg hc449).symm
              refine (val_g (c2 := (80, d + 1, 114, [some (.ref o), none], [.int 1], (sI ((sI ((sI w o 6 ((gI w o 7)))) o 5 ((fn_76 ((gI ((sI w o 6 ((gI w o 7)))) q2_o ((gI ((sI w o 6 ((gI w o 7)))) o 6)).toNatClampNeg)))))) o 7 (((gI ((sI ((sI w o 6 ((gI w o 7)))) o 5 ((fn_76 ((gI ((sI w o 6 ((gI w o 7)))) q2_o ((gI ((sI w o 6 ((gI w o 7)))) o 6)).toNatClampNeg)))))) o 7) + 1))))) rfl).trans ?_
              refine (val_g (c2 := (80, d + 1, 118, [some (.ref o), none], [.int 1], (sI ((sI ((sI w o 6 ((gI w o 7)))) o 5 ((fn_76 ((gI ((sI w o 6 ((gI w o 7)))) q2_o ((gI ((sI w o 6 ((gI w o 7)))) o 6)).toNatClampNeg)))))) o 7 (((gI ((sI ((sI w o 6 ((gI w o 7)))) o 5 ((fn_76 ((gI ((sI w o 6 ((gI w o 7)))) q2_o ((gI ((sI w o 6 ((gI w o 7)))) o 6)).toNatClampNeg)))))) o 7) + 1))))) rfl).trans ?_
              refine (val_g (c2 := (80, d + 1, 119, [some (.ref o), some (.int 1)], [], (sI ((sI ((sI w o 6 ((gI w o 7)))) o 5 ((fn_76 ((gI ((sI w o 6 ((gI w o 7)))) q2_o ((gI ((sI w o 6 ((gI w o 7)))) o 6)).toNatClampNeg)))))) o 7 (((gI ((sI ((sI w o 6 ((gI w o 7)))) o 5 ((fn_76 ((gI ((sI w o 6 ((gI w o 7)))) q2_o ((gI ((sI w o 6 ((gI w o 7)))) o 6)).toNatClampNeg)))))) o 7) + 1))))) rfl).trans ?_
              rfl
        · refine ((val_if_ne rfl).trans (if_neg hc447)).trans ?_
          show val (80, d + 1, 86, [some (.ref o), none], [], (sI ((sI w o 6 ((gI w o 7)))) o 5 ((fn_76 ((gI ((sI w o 6 ((gI w o 7)))) q2_o ((gI ((sI w o 6 ((gI w o 7)))) o 6)).toNatClampNeg)))))) = _
          refine Eq.trans ?_ (if_neg hc447).symm
          exact val_r rfl
    · refine ((val_ic_ne rfl).trans (if_neg hc442)).trans ?_
      show val (80, d + 1, 27, [some (.ref o), none], [], w) = _
      refine Eq.trans ?_ (if_neg hc442).symm
      refine (val_g (c2 := (80, d + 1, 28, [some (.ref o), none], [.ref o], w)) rfl).trans ?_
      refine (val_g (c2 := (80, d + 1, 29, [some (.ref o), none], [.ref o, .ref o], w)) rfl).trans ?_
      refine (val_gf rfl hk_o rfl).trans ?_
      show val (80, d + 1, 32, [some (.ref o), none], [.int (gI w o 7), .ref o], w) = _
      refine (val_g (c2 := (80, d + 1, 33, [some (.ref o), none], [.int 1, .int (gI w o 7), .ref o], w)) rfl).trans ?_
      refine (val_g (c2 := (80, d + 1, 34, [some (.ref o), none], [.int ((gI w o 7) + 1), .ref o], w)) rfl).trans ?_
      refine (val_pf rfl hk_o rfl).trans ?_
      show val (80, d + 1, 37, [some (.ref o), none], [], (sI w o 7 (((gI w o 7) + 1)))) = _
      refine (val_g (c2 := (80, d + 1, 0, [some (.ref o), none], [], (sI w o 7 (((gI w o 7) + 1))))) rfl).trans ?_
      rfl
theorem tr_80_119 (d : Nat) (w : Wd) (l0 : Nat) (l1 : Int32)    (m_l0 : Nat) (hk_l0 : wK w l0 = (4, m_l0)) (q2_l0 : Nat) (hr2_l0 : gR w l0 2 = some q2_l0) (m_q2_l0 : Nat) (hk_q2_l0 : wK w q2_l0 = (21, m_q2_l0)) (hy7 : (¬ (l1 = 0)) → (¬ ((gI w l0 3) ≤ (gI w l0 7))) → inB ((gI w l0 7)) m_q2_l0 = true) : val (80, d + 1, 119, [some (.ref l0), some (.int l1)], [], w) = (if l1 = 0 then some (none, w) else (if (gI w l0 3) ≤ (gI w l0 7) then some (none, w) else (if ¬ (fn_76 ((gI w q2_l0 ((gI w l0 7)).toNatClampNeg))) = (gI w l0 5) then some (none, w) else val (80, d + 1, 119, [some (.ref l0), some (.int l1)], [], (sI w l0 7 (((gI w l0 7) + 1))))))) := by
  refine (val_g (c2 := (80, d + 1, 120, [some (.ref l0), some (.int l1)], [.int l1], w)) rfl).trans ?_
  by_cases hc450 : l1 = 0
  · refine ((val_if_eq rfl).trans (if_pos hc450)).trans ?_
    show val (80, d + 1, 166, [some (.ref l0), some (.int l1)], [], w) = _
    refine Eq.trans ?_ (if_pos hc450).symm
    exact val_r rfl
  · refine ((val_if_eq rfl).trans (if_neg hc450)).trans ?_
    show val (80, d + 1, 123, [some (.ref l0), some (.int l1)], [], w) = _
    refine Eq.trans ?_ (if_neg hc450).symm
    refine (val_g (c2 := (80, d + 1, 124, [some (.ref l0), some (.int l1)], [.ref l0], w)) rfl).trans ?_
    refine (val_gf rfl hk_l0 rfl).trans ?_
    show val (80, d + 1, 127, [some (.ref l0), some (.int l1)], [.int (gI w l0 7)], w) = _
    refine (val_g (c2 := (80, d + 1, 128, [some (.ref l0), some (.int l1)], [.ref l0, .int (gI w l0 7)], w)) rfl).trans ?_
    refine (val_gf rfl hk_l0 rfl).trans ?_
    show val (80, d + 1, 131, [some (.ref l0), some (.int l1)], [.int (gI w l0 3), .int (gI w l0 7)], w) = _
    by_cases hc451 : (gI w l0 3) ≤ (gI w l0 7)
    · refine ((val_ic_ge rfl).trans (if_pos hc451)).trans ?_
      show val (80, d + 1, 166, [some (.ref l0), some (.int l1)], [], w) = _
      refine Eq.trans ?_ (if_pos hc451).symm
      exact val_r rfl
    · refine ((val_ic_ge rfl).trans (if_neg hc451)).trans ?_
      show val (80, d + 1, 134, [some (.ref l0), some (.int l1)], [], w) = _
      refine Eq.trans ?_ (if_neg hc451).symm
      refine (val_g (c2 := (80, d + 1, 135, [some (.ref l0), some (.int l1)], [.ref l0], w)) rfl).trans ?_
      refine (val_gf rfl hk_l0 (fvR hr2_l0)).trans ?_
      show val (80, d + 1, 138, [some (.ref l0), some (.int l1)], [.ref q2_l0], w) = _
      refine (val_g (c2 := (80, d + 1, 139, [some (.ref l0), some (.int l1)], [.ref l0, .ref q2_l0], w)) rfl).trans ?_
      refine (val_gf rfl hk_l0 rfl).trans ?_
      show val (80, d + 1, 142, [some (.ref l0), some (.int l1)], [.int (gI w l0 7), .ref q2_l0], w) = _
      refine (val_bal rfl hk_q2_l0 rfl (hy7 hc450 hc451)).trans ?_
      show val (80, d + 1, 143, [some (.ref l0), some (.int l1)], [.int (gI w q2_l0 ((gI w l0 7)).toNatClampNeg)], w) = _
      refine (val_call (w1 := w) (pc2 := 146) rfl rfl rfl rfl rfl (Nat.le_of_ble_eq_true rfl) (Nat.le_of_ble_eq_true rfl) rfl (ev_76 (d) w ((gI w q2_l0 ((gI w l0 7)).toNatClampNeg))) rfl).trans ?_
      show val (80, d + 1, 146, [some (.ref l0), some (.int l1)], [.int (fn_76 ((gI w q2_l0 ((gI w l0 7)).toNatClampNeg)))], w) = _
      refine (val_g (c2 := (80, d + 1, 147, [some (.ref l0), some (.int l1)], [.ref l0, .int (fn_76 ((gI w q2_l0 ((gI w l0 7)).toNatClampNeg)))], w)) rfl).trans ?_
      refine (val_gf rfl hk_l0 rfl).trans ?_
      show val (80, d + 1, 150, [some (.ref l0), some (.int l1)], [.int (gI w l0 5), .int (fn_76 ((gI w q2_l0 ((gI w l0 7)).toNatClampNeg)))], w) = _
      by_cases hc452 : ¬ (fn_76 ((gI w q2_l0 ((gI w l0 7)).toNatClampNeg))) = (gI w l0 5)
      · refine ((val_ic_ne rfl).trans (if_pos hc452)).trans ?_
        show val (80, d + 1, 166, [some (.ref l0), some (.int l1)], [], w) = _
        refine Eq.trans ?_ (if_pos hc452).symm
        exact val_r rfl
      · refine ((val_ic_ne rfl).trans (if_neg hc452)).trans ?_
        show val (80, d + 1, 153, [some (.ref l0), some (.int l1)], [], w) = _
        refine Eq.trans ?_ (if_neg hc452).symm
        refine (val_g (c2 := (80, d + 1, 154, [some (.ref l0), some (.int l1)], [.ref l0], w)) rfl).trans ?_
        refine (val_g (c2 := (80, d + 1, 155, [some (.ref l0), some (.int l1)], [.ref l0, .ref l0], w)) rfl).trans ?_
        refine (val_gf rfl hk_l0 rfl).trans ?_
        show val (80, d + 1, 158, [some (.ref l0), some (.int l1)], [.int (gI w l0 7), .ref l0], w) = _
        refine (val_g (c2 := (80, d + 1, 159, [some (.ref l0), some (.int l1)], [.int 1, .int (gI w l0 7), .ref l0], w)) rfl).trans ?_
        refine (val_g (c2 := (80, d + 1, 160, [some (.ref l0), some (.int l1)], [.int ((gI w l0 7) + 1), .ref l0], w)) rfl).trans ?_
        refine (val_pf rfl hk_l0 rfl).trans ?_
        show val (80, d + 1, 163, [some (.ref l0), some (.int l1)], [], (sI w l0 7 (((gI w l0 7) + 1)))) = _
        refine (val_g (c2 := (80, d + 1, 119, [some (.ref l0), some (.int l1)], [], (sI w l0 7 (((gI w l0 7) + 1))))) rfl).trans ?_
        rfl
/-- BelfryHouse$Reader.number()I -/
theorem tr_81 (d : Nat) (w : Wd) (o : Nat)    (m_o : Nat) (hk_o : wK w o = (4, m_o)) : val (81, d, 0, [some (.ref o), none, none], [], w) = (if ¬ (gI w o 5) = 3 then some (some (.int (-1)), w) else (if ((gI w o 7) - (gI w o 6)) ≤ 8 then val (81, d, 31, [some (.ref o), some (.int 0), some (.int (gI w o 6))], [], w) else some (some (.int (-1)), w))) := by
  refine (val_g (c2 := (81, d, 1, [some (.ref o), none, none], [.ref o], w)) rfl).trans ?_
  refine (val_gf rfl hk_o rfl).trans ?_
  show val (81, d, 4, [some (.ref o), none, none], [.int (gI w o 5)], w) = _
  refine (val_g (c2 := (81, d, 5, [some (.ref o), none, none], [.int 3, .int (gI w o 5)], w)) rfl).trans ?_
  by_cases hc456 : ¬ (gI w o 5) = 3
  · refine ((val_ic_ne rfl).trans (if_pos hc456)).trans ?_
    show val (81, d, 22, [some (.ref o), none, none], [], w) = _
    refine Eq.trans ?_ (if_pos hc456).symm
    refine (val_g (c2 := (81, d, 23, [some (.ref o), none, none], [.int (-1)], w)) rfl).trans ?_
    exact val_r rfl
  · refine ((val_ic_ne rfl).trans (if_neg hc456)).trans ?_
    show val (81, d, 8, [some (.ref o), none, none], [], w) = _
    refine Eq.trans ?_ (if_neg hc456).symm
    refine (val_g (c2 := (81, d, 9, [some (.ref o), none, none], [.ref o], w)) rfl).trans ?_
    refine (val_gf rfl hk_o rfl).trans ?_
    show val (81, d, 12, [some (.ref o), none, none], [.int (gI w o 7)], w) = _
    refine (val_g (c2 := (81, d, 13, [some (.ref o), none, none], [.ref o, .int (gI w o 7)], w)) rfl).trans ?_
    refine (val_gf rfl hk_o rfl).trans ?_
    show val (81, d, 16, [some (.ref o), none, none], [.int (gI w o 6), .int (gI w o 7)], w) = _
    refine (val_g (c2 := (81, d, 17, [some (.ref o), none, none], [.int ((gI w o 7) - (gI w o 6))], w)) rfl).trans ?_
    refine (val_g (c2 := (81, d, 19, [some (.ref o), none, none], [.int 8, .int ((gI w o 7) - (gI w o 6))], w)) rfl).trans ?_
    by_cases hc457 : ((gI w o 7) - (gI w o 6)) ≤ 8
    · refine ((val_ic_le rfl).trans (if_pos hc457)).trans ?_
      show val (81, d, 24, [some (.ref o), none, none], [], w) = _
      refine Eq.trans ?_ (if_pos hc457).symm
      refine (val_g (c2 := (81, d, 25, [some (.ref o), none, none], [.int 0], w)) rfl).trans ?_
      refine (val_g (c2 := (81, d, 26, [some (.ref o), some (.int 0), none], [], w)) rfl).trans ?_
      refine (val_g (c2 := (81, d, 27, [some (.ref o), some (.int 0), none], [.ref o], w)) rfl).trans ?_
      refine (val_gf rfl hk_o rfl).trans ?_
      show val (81, d, 30, [some (.ref o), some (.int 0), none], [.int (gI w o 6)], w) = _
      refine (val_g (c2 := (81, d, 31, [some (.ref o), some (.int 0), some (.int (gI w o 6))], [], w)) rfl).trans ?_
      rfl
    · refine ((val_ic_le rfl).trans (if_neg hc457)).trans ?_
      show val (81, d, 22, [some (.ref o), none, none], [], w) = _
      refine Eq.trans ?_ (if_neg hc457).symm
      refine (val_g (c2 := (81, d, 23, [some (.ref o), none, none], [.int (-1)], w)) rfl).trans ?_
      exact val_r rfl
theorem tr_81_31 (d : Nat) (w : Wd) (l0 : Nat) (l1 : Int32) (l2 : Int32)    (m_l0 : Nat) (hk_l0 : wK w l0 = (4, m_l0)) (q2_l0 : Nat) (hr2_l0 : gR w l0 2 = some q2_l0) (m_q2_l0 : Nat) (hk_q2_l0 : wK w q2_l0 = (21, m_q2_l0)) (hy7 : (¬ ((gI w l0 7) ≤ l2)) → inB l2 m_q2_l0 = true) : val (81, d, 31, [some (.ref l0), some (.int l1), some (.int l2)], [], w) = (if (gI w l0 7) ≤ l2 then some (some (.int l1), w) else val (81, d, 31, [some (.ref l0), some (.int (((l1 * 10) + (gI w q2_l0 (l2).toNatClampNeg)) - 48)), some (.int (l2 + 1))], [], w)) := by
  refine (val_g (c2 := (81, d, 32, [some (.ref l0), some (.int l1), some (.int l2)], [.int l2], w)) rfl).trans ?_
  refine (val_g (c2 := (81, d, 33, [some (.ref l0), some (.int l1), some (.int l2)], [.ref l0, .int l2], w)) rfl).trans ?_
  refine (val_gf rfl hk_l0 rfl).trans ?_
  show val (81, d, 36, [some (.ref l0), some (.int l1), some (.int l2)], [.int (gI w l0 7), .int l2], w) = _
  by_cases hc458 : (gI w l0 7) ≤ l2
  · refine ((val_ic_ge rfl).trans (if_pos hc458)).trans ?_
    show val (81, d, 60, [some (.ref l0), some (.int l1), some (.int l2)], [], w) = _
    refine Eq.trans ?_ (if_pos hc458).symm
    refine (val_g (c2 := (81, d, 61, [some (.ref l0), some (.int l1), some (.int l2)], [.int l1], w)) rfl).trans ?_
    exact val_r rfl
  · refine ((val_ic_ge rfl).trans (if_neg hc458)).trans ?_
    show val (81, d, 39, [some (.ref l0), some (.int l1), some (.int l2)], [], w) = _
    refine Eq.trans ?_ (if_neg hc458).symm
    refine (val_g (c2 := (81, d, 40, [some (.ref l0), some (.int l1), some (.int l2)], [.int l1], w)) rfl).trans ?_
    refine (val_g (c2 := (81, d, 42, [some (.ref l0), some (.int l1), some (.int l2)], [.int 10, .int l1], w)) rfl).trans ?_
    refine (val_g (c2 := (81, d, 43, [some (.ref l0), some (.int l1), some (.int l2)], [.int (l1 * 10)], w)) rfl).trans ?_
    refine (val_g (c2 := (81, d, 44, [some (.ref l0), some (.int l1), some (.int l2)], [.ref l0, .int (l1 * 10)], w)) rfl).trans ?_
    refine (val_gf rfl hk_l0 (fvR hr2_l0)).trans ?_
    show val (81, d, 47, [some (.ref l0), some (.int l1), some (.int l2)], [.ref q2_l0, .int (l1 * 10)], w) = _
    refine (val_g (c2 := (81, d, 48, [some (.ref l0), some (.int l1), some (.int l2)], [.int l2, .ref q2_l0, .int (l1 * 10)], w)) rfl).trans ?_
    refine (val_bal rfl hk_q2_l0 rfl (hy7 hc458)).trans ?_
    show val (81, d, 49, [some (.ref l0), some (.int l1), some (.int l2)], [.int (gI w q2_l0 (l2).toNatClampNeg), .int (l1 * 10)], w) = _
    refine (val_g (c2 := (81, d, 50, [some (.ref l0), some (.int l1), some (.int l2)], [.int ((l1 * 10) + (gI w q2_l0 (l2).toNatClampNeg))], w)) rfl).trans ?_
    refine (val_g (c2 := (81, d, 52, [some (.ref l0), some (.int l1), some (.int l2)], [.int 48, .int ((l1 * 10) + (gI w q2_l0 (l2).toNatClampNeg))], w)) rfl).trans ?_
    refine (val_g (c2 := (81, d, 53, [some (.ref l0), some (.int l1), some (.int l2)], [.int (((l1 * 10) + (gI w q2_l0 (l2).toNatClampNeg)) - 48)], w)) rfl).trans ?_
    refine (val_g (c2 := (81, d, 54, [some (.ref l0), some (.int (((l1 * 10) + (gI w q2_l0 (l2).toNatClampNeg)) - 48)), some (.int l2)], [], w)) rfl).trans ?_
    refine (val_g (c2 := (81, d, 57, [some (.ref l0), some (.int (((l1 * 10) + (gI w q2_l0 (l2).toNatClampNeg)) - 48)), some (.int (l2 + 1))], [], w)) rfl).trans ?_
    refine (val_g (c2 := (81, d, 31, [some (.ref l0), some (.int (((l1 * 10) + (gI w q2_l0 (l2).toNatClampNeg)) - 48)), some (.int (l2 + 1))], [], w)) rfl).trans ?_
    rfl
/-- BelfryHouse$Reader.isWord(Ljava/lang/String;)Z -/
theorem tr_82 (d : Nat) (w : Wd) (o : Nat) (p0 : Nat)    (m_o : Nat) (hk_o : wK w o = (4, m_o)) : val (82, d + 4, 0, [some (.ref o), some (.ref p0), none], [], w) = (if ¬ (gI w o 5) = 2 then some (some (.int 0), w) else val (82, d + 4, 18, [some (.ref o), some (.ref p0), none], [.ref p0, .int ((gI w o 7) - (gI w o 6))], w)) := by
  refine (val_g (c2 := (82, d + 4, 1, [some (.ref o), some (.ref p0), none], [.ref o], w)) rfl).trans ?_
  refine (val_gf rfl hk_o rfl).trans ?_
  show val (82, d + 4, 4, [some (.ref o), some (.ref p0), none], [.int (gI w o 5)], w) = _
  refine (val_g (c2 := (82, d + 4, 5, [some (.ref o), some (.ref p0), none], [.int 2, .int (gI w o 5)], w)) rfl).trans ?_
  by_cases hc463 : ¬ (gI w o 5) = 2
  · refine ((val_ic_ne rfl).trans (if_pos hc463)).trans ?_
    show val (82, d + 4, 24, [some (.ref o), some (.ref p0), none], [], w) = _
    refine Eq.trans ?_ (if_pos hc463).symm
    refine (val_g (c2 := (82, d + 4, 25, [some (.ref o), some (.ref p0), none], [.int 0], w)) rfl).trans ?_
    exact val_r rfl
  · refine ((val_ic_ne rfl).trans (if_neg hc463)).trans ?_
    show val (82, d + 4, 8, [some (.ref o), some (.ref p0), none], [], w) = _
    refine Eq.trans ?_ (if_neg hc463).symm
    refine (val_g (c2 := (82, d + 4, 9, [some (.ref o), some (.ref p0), none], [.ref o], w)) rfl).trans ?_
    refine (val_gf rfl hk_o rfl).trans ?_
    show val (82, d + 4, 12, [some (.ref o), some (.ref p0), none], [.int (gI w o 7)], w) = _
    refine (val_g (c2 := (82, d + 4, 13, [some (.ref o), some (.ref p0), none], [.ref o, .int (gI w o 7)], w)) rfl).trans ?_
    refine (val_gf rfl hk_o rfl).trans ?_
    show val (82, d + 4, 16, [some (.ref o), some (.ref p0), none], [.int (gI w o 6), .int (gI w o 7)], w) = _
    refine (val_g (c2 := (82, d + 4, 17, [some (.ref o), some (.ref p0), none], [.int ((gI w o 7) - (gI w o 6))], w)) rfl).trans ?_
    refine (val_g (c2 := (82, d + 4, 18, [some (.ref o), some (.ref p0), none], [.ref p0, .int ((gI w o 7) - (gI w o 6))], w)) rfl).trans ?_
    rfl
theorem tr_82_21 (d : Nat) (w : Wd) (l0 : Nat) (l1 : Nat) (s0 : Int32) (s1 : Int32)     : val (82, d + 4, 21, [some (.ref l0), some (.ref l1), none], [.int s0, .int s1], w) = (if s1 = s0 then val (82, d + 4, 28, [some (.ref l0), some (.ref l1), some (.int 0)], [], w) else some (some (.int 0), w)) := by
  by_cases hc464 : s1 = s0
  · refine ((val_ic_eq rfl).trans (if_pos hc464)).trans ?_
    show val (82, d + 4, 26, [some (.ref l0), some (.ref l1), none], [], w) = _
    refine Eq.trans ?_ (if_pos hc464).symm
    refine (val_g (c2 := (82, d + 4, 27, [some (.ref l0), some (.ref l1), none], [.int 0], w)) rfl).trans ?_
    refine (val_g (c2 := (82, d + 4, 28, [some (.ref l0), some (.ref l1), some (.int 0)], [], w)) rfl).trans ?_
    rfl
  · refine ((val_ic_eq rfl).trans (if_neg hc464)).trans ?_
    show val (82, d + 4, 24, [some (.ref l0), some (.ref l1), none], [], w) = _
    refine Eq.trans ?_ (if_neg hc464).symm
    refine (val_g (c2 := (82, d + 4, 25, [some (.ref l0), some (.ref l1), none], [.int 0], w)) rfl).trans ?_
    exact val_r rfl
theorem tr_82_28 (d : Nat) (w : Wd) (l0 : Nat) (l1 : Nat) (l2 : Int32)     : val (82, d + 4, 28, [some (.ref l0), some (.ref l1), some (.int l2)], [], w) = val (82, d + 4, 30, [some (.ref l0), some (.ref l1), some (.int l2)], [.ref l1, .int l2], w) := by
  refine (val_g (c2 := (82, d + 4, 29, [some (.ref l0), some (.ref l1), some (.int l2)], [.int l2], w)) rfl).trans ?_
  refine (val_g (c2 := (82, d + 4, 30, [some (.ref l0), some (.ref l1), some (.int l2)], [.ref l1, .int l2], w)) rfl).trans ?_
  rfl
theorem tr_82_33 (d : Nat) (w : Wd) (l0 : Nat) (l1 : Nat) (l2 : Int32) (s0 : Int32) (s1 : Int32)    (m_l0 : Nat) (hk_l0 : wK w l0 = (4, m_l0)) (q2_l0 : Nat) (hr2_l0 : gR w l0 2 = some q2_l0) (m_q2_l0 : Nat) (hk_q2_l0 : wK w q2_l0 = (21, m_q2_l0)) (hy7 : (¬ (s0 ≤ s1)) → inB (((gI w l0 6) + l2)) m_q2_l0 = true) : val (82, d + 4, 33, [some (.ref l0), some (.ref l1), some (.int l2)], [.int s0, .int s1], w) = (if s0 ≤ s1 then some (some (.int 1), w) else val (82, d + 4, 49, [some (.ref l0), some (.ref l1), some (.int l2)], [.int l2, .ref l1, .int (gI w q2_l0 (((gI w l0 6) + l2)).toNatClampNeg)], w)) := by
  by_cases hc465 : s0 ≤ s1
  · refine ((val_ic_ge rfl).trans (if_pos hc465)).trans ?_
    show val (82, d + 4, 63, [some (.ref l0), some (.ref l1), some (.int l2)], [], w) = _
    refine Eq.trans ?_ (if_pos hc465).symm
    refine (val_g (c2 := (82, d + 4, 64, [some (.ref l0), some (.ref l1), some (.int l2)], [.int 1], w)) rfl).trans ?_
    exact val_r rfl
  · refine ((val_ic_ge rfl).trans (if_neg hc465)).trans ?_
    show val (82, d + 4, 36, [some (.ref l0), some (.ref l1), some (.int l2)], [], w) = _
    refine Eq.trans ?_ (if_neg hc465).symm
    refine (val_g (c2 := (82, d + 4, 37, [some (.ref l0), some (.ref l1), some (.int l2)], [.ref l0], w)) rfl).trans ?_
    refine (val_gf rfl hk_l0 (fvR hr2_l0)).trans ?_
    show val (82, d + 4, 40, [some (.ref l0), some (.ref l1), some (.int l2)], [.ref q2_l0], w) = _
    refine (val_g (c2 := (82, d + 4, 41, [some (.ref l0), some (.ref l1), some (.int l2)], [.ref l0, .ref q2_l0], w)) rfl).trans ?_
    refine (val_gf rfl hk_l0 rfl).trans ?_
    show val (82, d + 4, 44, [some (.ref l0), some (.ref l1), some (.int l2)], [.int (gI w l0 6), .ref q2_l0], w) = _
    refine (val_g (c2 := (82, d + 4, 45, [some (.ref l0), some (.ref l1), some (.int l2)], [.int l2, .int (gI w l0 6), .ref q2_l0], w)) rfl).trans ?_
    refine (val_g (c2 := (82, d + 4, 46, [some (.ref l0), some (.ref l1), some (.int l2)], [.int ((gI w l0 6) + l2), .ref q2_l0], w)) rfl).trans ?_
    refine (val_bal rfl hk_q2_l0 rfl (hy7 hc465)).trans ?_
    show val (82, d + 4, 47, [some (.ref l0), some (.ref l1), some (.int l2)], [.int (gI w q2_l0 (((gI w l0 6) + l2)).toNatClampNeg)], w) = _
    refine (val_g (c2 := (82, d + 4, 48, [some (.ref l0), some (.ref l1), some (.int l2)], [.ref l1, .int (gI w q2_l0 (((gI w l0 6) + l2)).toNatClampNeg)], w)) rfl).trans ?_
    refine (val_g (c2 := (82, d + 4, 49, [some (.ref l0), some (.ref l1), some (.int l2)], [.int l2, .ref l1, .int (gI w q2_l0 (((gI w l0 6) + l2)).toNatClampNeg)], w)) rfl).trans ?_
    rfl
theorem tr_82_52 (d : Nat) (w : Wd) (l0 : Nat) (l1 : Nat) (l2 : Int32) (s0 : Int32) (s1 : Int32)     : val (82, d + 4, 52, [some (.ref l0), some (.ref l1), some (.int l2)], [.int s0, .int s1], w) = (if s1 = s0 then val (82, d + 4, 28, [some (.ref l0), some (.ref l1), some (.int (l2 + 1))], [], w) else some (some (.int 0), w)) := by
  by_cases hc466 : s1 = s0
  · refine ((val_ic_eq rfl).trans (if_pos hc466)).trans ?_
    show val (82, d + 4, 57, [some (.ref l0), some (.ref l1), some (.int l2)], [], w) = _
    refine Eq.trans ?_ (if_pos hc466).symm
    refine (val_g (c2 := (82, d + 4, 60, [some (.ref l0), some (.ref l1), some (.int (l2 + 1))], [], w)) rfl).trans ?_
    refine (val_g (c2 := (82, d + 4, 28, [some (.ref l0), some (.ref l1), some (.int (l2 + 1))], [], w)) rfl).trans ?_
    rfl
  · refine ((val_ic_eq rfl).trans (if_neg hc466)).trans ?_
    show val (82, d + 4, 55, [some (.ref l0), some (.ref l1), some (.int l2)], [], w) = _
    refine Eq.trans ?_ (if_neg hc466).symm
    refine (val_g (c2 := (82, d + 4, 56, [some (.ref l0), some (.ref l1), some (.int l2)], [.int 0], w)) rfl).trans ?_
    exact val_r rfl
/-- BelfryHouse$Reader.takesWord(Ljava/lang/String;)Z -/
theorem tr_83 (d : Nat) (w : Wd) (o : Nat) (p0 : Nat)     : val (83, d + 5, 0, [some (.ref o), some (.ref p0), none], [], w) = val (83, d + 5, 2, [some (.ref o), some (.ref p0), none], [.ref p0, .ref o], w) := by
  refine (val_g (c2 := (83, d + 5, 1, [some (.ref o), some (.ref p0), none], [.ref o], w)) rfl).trans ?_
  refine (val_g (c2 := (83, d + 5, 2, [some (.ref o), some (.ref p0), none], [.ref p0, .ref o], w)) rfl).trans ?_
  rfl
theorem tr_83_5 (d : Nat) (w : Wd) (l0 : Nat) (l1 : Nat) (s0 : Int32)     : val (83, d + 5, 5, [some (.ref l0), some (.ref l1), none], [.int s0], w) = (if s0 = 0 then val (83, d + 5, 14, [some (.ref l0), some (.ref l1), some (.int s0)], [], w) else val (83, d + 5, 11, [some (.ref l0), some (.ref l1), some (.int s0)], [.ref l0], w)) := by
  refine (val_g (c2 := (83, d + 5, 6, [some (.ref l0), some (.ref l1), some (.int s0)], [], w)) rfl).trans ?_
  refine (val_g (c2 := (83, d + 5, 7, [some (.ref l0), some (.ref l1), some (.int s0)], [.int s0], w)) rfl).trans ?_
  by_cases hc468 : s0 = 0
  · refine ((val_if_eq rfl).trans (if_pos hc468)).trans ?_
    show val (83, d + 5, 14, [some (.ref l0), some (.ref l1), some (.int s0)], [], w) = _
    refine Eq.trans ?_ (if_pos hc468).symm
    rfl
  · refine ((val_if_eq rfl).trans (if_neg hc468)).trans ?_
    show val (83, d + 5, 10, [some (.ref l0), some (.ref l1), some (.int s0)], [], w) = _
    refine Eq.trans ?_ (if_neg hc468).symm
    refine (val_g (c2 := (83, d + 5, 11, [some (.ref l0), some (.ref l1), some (.int s0)], [.ref l0], w)) rfl).trans ?_
    rfl
theorem tr_83_14 (d : Nat) (w : Wd) (l0 : Nat) (l1 : Nat) (l2 : Int32)    (hy1 : narB 1 l2 = true) : val (83, d + 5, 14, [some (.ref l0), some (.ref l1), some (.int l2)], [], w) = some (some (.int l2), w) := by
  refine (val_g (c2 := (83, d + 5, 15, [some (.ref l0), some (.ref l1), some (.int l2)], [.int l2], w)) rfl).trans ?_
  exact val_r (if_pos hy1)
/-- BelfryHouse$Reader.takesSign(C)Z -/
theorem tr_84 (d : Nat) (w : Wd) (o : Nat) (x0 : Int32)    (m_o : Nat) (hk_o : wK w o = (4, m_o)) (q2_o : Nat) (hr2_o : gR w o 2 = some q2_o) (m_q2_o : Nat) (hk_q2_o : wK w q2_o = (21, m_q2_o)) (hy7 : (¬ (¬ (gI w o 5) = 4)) → inB ((gI w o 6)) m_q2_o = true) : val (84, d + 2, 0, [some (.ref o), some (.int x0), none], [], w) = (if ¬ (gI w o 5) = 4 then val (84, d + 2, 35, [some (.ref o), some (.int x0), some (.int 0)], [], w) else (if ¬ (gI w q2_o ((gI w o 6)).toNatClampNeg) = x0 then val (84, d + 2, 35, [some (.ref o), some (.int x0), some (.int 0)], [], w) else val (84, d + 2, 32, [some (.ref o), some (.int x0), some (.int 1)], [.ref o], w))) := by
  refine (val_g (c2 := (84, d + 2, 1, [some (.ref o), some (.int x0), none], [.ref o], w)) rfl).trans ?_
  refine (val_gf rfl hk_o rfl).trans ?_
  show val (84, d + 2, 4, [some (.ref o), some (.int x0), none], [.int (gI w o 5)], w) = _
  refine (val_g (c2 := (84, d + 2, 5, [some (.ref o), some (.int x0), none], [.int 4, .int (gI w o 5)], w)) rfl).trans ?_
  by_cases hc471 : ¬ (gI w o 5) = 4
  · refine ((val_ic_ne rfl).trans (if_pos hc471)).trans ?_
    show val (84, d + 2, 25, [some (.ref o), some (.int x0), none], [], w) = _
    refine Eq.trans ?_ (if_pos hc471).symm
    refine (val_g (c2 := (84, d + 2, 26, [some (.ref o), some (.int x0), none], [.int 0], w)) rfl).trans ?_
    refine (val_g (c2 := (84, d + 2, 27, [some (.ref o), some (.int x0), some (.int 0)], [], w)) rfl).trans ?_
    refine (val_g (c2 := (84, d + 2, 28, [some (.ref o), some (.int x0), some (.int 0)], [.int 0], w)) rfl).trans ?_
    refine ((val_if_eq rfl).trans (if_pos (by decide))).trans ?_
    show val (84, d + 2, 35, [some (.ref o), some (.int x0), some (.int 0)], [], w) = _
    rfl
  · refine ((val_ic_ne rfl).trans (if_neg hc471)).trans ?_
    show val (84, d + 2, 8, [some (.ref o), some (.int x0), none], [], w) = _
    refine Eq.trans ?_ (if_neg hc471).symm
    refine (val_g (c2 := (84, d + 2, 9, [some (.ref o), some (.int x0), none], [.ref o], w)) rfl).trans ?_
    refine (val_gf rfl hk_o (fvR hr2_o)).trans ?_
    show val (84, d + 2, 12, [some (.ref o), some (.int x0), none], [.ref q2_o], w) = _
    refine (val_g (c2 := (84, d + 2, 13, [some (.ref o), some (.int x0), none], [.ref o, .ref q2_o], w)) rfl).trans ?_
    refine (val_gf rfl hk_o rfl).trans ?_
    show val (84, d + 2, 16, [some (.ref o), some (.int x0), none], [.int (gI w o 6), .ref q2_o], w) = _
    refine (val_bal rfl hk_q2_o rfl (hy7 hc471)).trans ?_
    show val (84, d + 2, 17, [some (.ref o), some (.int x0), none], [.int (gI w q2_o ((gI w o 6)).toNatClampNeg)], w) = _
    refine (val_g (c2 := (84, d + 2, 18, [some (.ref o), some (.int x0), none], [.int x0, .int (gI w q2_o ((gI w o 6)).toNatClampNeg)], w)) rfl).trans ?_
    by_cases hc472 : ¬ (gI w q2_o ((gI w o 6)).toNatClampNeg) = x0
    · refine ((val_ic_ne rfl).trans (if_pos hc472)).trans ?_
      show val (84, d + 2, 25, [some (.ref o), some (.int x0), none], [], w) = _
      refine Eq.trans ?_ (if_pos hc472).symm
      refine (val_g (c2 := (84, d + 2, 26, [some (.ref o), some (.int x0), none], [.int 0], w)) rfl).trans ?_
      refine (val_g (c2 := (84, d + 2, 27, [some (.ref o), some (.int x0), some (.int 0)], [], w)) rfl).trans ?_
      refine (val_g (c2 := (84, d + 2, 28, [some (.ref o), some (.int x0), some (.int 0)], [.int 0], w)) rfl).trans ?_
      refine ((val_if_eq rfl).trans (if_pos (by decide))).trans ?_
      show val (84, d + 2, 35, [some (.ref o), some (.int x0), some (.int 0)], [], w) = _
      rfl
    · refine ((val_ic_ne rfl).trans (if_neg hc472)).trans ?_
      show val (84, d + 2, 21, [some (.ref o), some (.int x0), none], [], w) = _
      refine Eq.trans ?_ (if_neg hc472).symm
      refine (val_g (c2 := (84, d + 2, 22, [some (.ref o), some (.int x0), none], [.int 1], w)) rfl).trans ?_
      refine (val_g (c2 := (84, d + 2, 26, [some (.ref o), some (.int x0), none], [.int 1], w)) rfl).trans ?_
      refine (val_g (c2 := (84, d + 2, 27, [some (.ref o), some (.int x0), some (.int 1)], [], w)) rfl).trans ?_
      refine (val_g (c2 := (84, d + 2, 28, [some (.ref o), some (.int x0), some (.int 1)], [.int 1], w)) rfl).trans ?_
      refine ((val_if_eq rfl).trans (if_neg (by decide))).trans ?_
      show val (84, d + 2, 31, [some (.ref o), some (.int x0), some (.int 1)], [], w) = _
      refine (val_g (c2 := (84, d + 2, 32, [some (.ref o), some (.int x0), some (.int 1)], [.ref o], w)) rfl).trans ?_
      rfl
theorem tr_84_35 (d : Nat) (w : Wd) (l0 : Nat) (l1 : Int32) (l2 : Int32)    (hy1 : narB 1 l2 = true) : val (84, d + 2, 35, [some (.ref l0), some (.int l1), some (.int l2)], [], w) = some (some (.int l2), w) := by
  refine (val_g (c2 := (84, d + 2, 36, [some (.ref l0), some (.int l1), some (.int l2)], [.int l2], w)) rfl).trans ?_
  exact val_r (if_pos hy1)
/-- BelfryHouse$Reader.numberWithin(III)I -/
theorem tr_85 (d : Nat) (w : Wd) (o : Nat) (x0 : Int32) (x1 : Int32) (x2 : Int32)     : val (85, d + 2, 0, [some (.ref o), some (.int x0), some (.int x1), some (.int x2), none], [], w) = val (85, d + 2, 1, [some (.ref o), some (.int x0), some (.int x1), some (.int x2), none], [.ref o], w) := by
  refine (val_g (c2 := (85, d + 2, 1, [some (.ref o), some (.int x0), some (.int x1), some (.int x2), none], [.ref o], w)) rfl).trans ?_
  rfl
theorem tr_85_4 (d : Nat) (w : Wd) (l0 : Nat) (l1 : Int32) (l2 : Int32) (l3 : Int32) (s0 : Int32)     : val (85, d + 2, 4, [some (.ref l0), some (.int l1), some (.int l2), some (.int l3), none], [.int s0], w) = (if s0 < l1 then val (85, d + 2, 25, [some (.ref l0), some (.int l1), some (.int l2), some (.int l3), some (.int s0)], [.ref l0], w) else (if l2 < s0 then val (85, d + 2, 25, [some (.ref l0), some (.int l1), some (.int l2), some (.int l3), some (.int s0)], [.ref l0], w) else (if ¬ s0 = l3 then val (85, d + 2, 31, [some (.ref l0), some (.int l1), some (.int l2), some (.int l3), some (.int s0)], [.ref l0], w) else val (85, d + 2, 25, [some (.ref l0), some (.int l1), some (.int l2), some (.int l3), some (.int s0)], [.ref l0], w)))) := by
  refine (val_g (c2 := (85, d + 2, 6, [some (.ref l0), some (.int l1), some (.int l2), some (.int l3), some (.int s0)], [], w)) rfl).trans ?_
  refine (val_g (c2 := (85, d + 2, 8, [some (.ref l0), some (.int l1), some (.int l2), some (.int l3), some (.int s0)], [.int s0], w)) rfl).trans ?_
  refine (val_g (c2 := (85, d + 2, 9, [some (.ref l0), some (.int l1), some (.int l2), some (.int l3), some (.int s0)], [.int l1, .int s0], w)) rfl).trans ?_
  by_cases hc476 : s0 < l1
  · refine ((val_ic_lt rfl).trans (if_pos hc476)).trans ?_
    show val (85, d + 2, 24, [some (.ref l0), some (.int l1), some (.int l2), some (.int l3), some (.int s0)], [], w) = _
    refine Eq.trans ?_ (if_pos hc476).symm
    refine (val_g (c2 := (85, d + 2, 25, [some (.ref l0), some (.int l1), some (.int l2), some (.int l3), some (.int s0)], [.ref l0], w)) rfl).trans ?_
    rfl
  · refine ((val_ic_lt rfl).trans (if_neg hc476)).trans ?_
    show val (85, d + 2, 12, [some (.ref l0), some (.int l1), some (.int l2), some (.int l3), some (.int s0)], [], w) = _
    refine Eq.trans ?_ (if_neg hc476).symm
    refine (val_g (c2 := (85, d + 2, 14, [some (.ref l0), some (.int l1), some (.int l2), some (.int l3), some (.int s0)], [.int s0], w)) rfl).trans ?_
    refine (val_g (c2 := (85, d + 2, 15, [some (.ref l0), some (.int l1), some (.int l2), some (.int l3), some (.int s0)], [.int l2, .int s0], w)) rfl).trans ?_
    by_cases hc477 : l2 < s0
    · refine ((val_ic_gt rfl).trans (if_pos hc477)).trans ?_
      show val (85, d + 2, 24, [some (.ref l0), some (.int l1), some (.int l2), some (.int l3), some (.int s0)], [], w) = _
      refine Eq.trans ?_ (if_pos hc477).symm
      refine (val_g (c2 := (85, d + 2, 25, [some (.ref l0), some (.int l1), some (.int l2), some (.int l3), some (.int s0)], [.ref l0], w)) rfl).trans ?_
      rfl
    · refine ((val_ic_gt rfl).trans (if_neg hc477)).trans ?_
      show val (85, d + 2, 18, [some (.ref l0), some (.int l1), some (.int l2), some (.int l3), some (.int s0)], [], w) = _
      refine Eq.trans ?_ (if_neg hc477).symm
      refine (val_g (c2 := (85, d + 2, 20, [some (.ref l0), some (.int l1), some (.int l2), some (.int l3), some (.int s0)], [.int s0], w)) rfl).trans ?_
      refine (val_g (c2 := (85, d + 2, 21, [some (.ref l0), some (.int l1), some (.int l2), some (.int l3), some (.int s0)], [.int l3, .int s0], w)) rfl).trans ?_
      by_cases hc478 : ¬ s0 = l3
      · refine ((val_ic_ne rfl).trans (if_pos hc478)).trans ?_
        show val (85, d + 2, 30, [some (.ref l0), some (.int l1), some (.int l2), some (.int l3), some (.int s0)], [], w) = _
        refine Eq.trans ?_ (if_pos hc478).symm
        refine (val_g (c2 := (85, d + 2, 31, [some (.ref l0), some (.int l1), some (.int l2), some (.int l3), some (.int s0)], [.ref l0], w)) rfl).trans ?_
        rfl
      · refine ((val_ic_ne rfl).trans (if_neg hc478)).trans ?_
        show val (85, d + 2, 24, [some (.ref l0), some (.int l1), some (.int l2), some (.int l3), some (.int s0)], [], w) = _
        refine Eq.trans ?_ (if_neg hc478).symm
        refine (val_g (c2 := (85, d + 2, 25, [some (.ref l0), some (.int l1), some (.int l2), some (.int l3), some (.int s0)], [.ref l0], w)) rfl).trans ?_
        rfl
theorem tr_85_28 (d : Nat) (w : Wd) (l0 : Nat) (l1 : Int32) (l2 : Int32) (l3 : Int32) (l4 : Int32)     : val (85, d + 2, 28, [some (.ref l0), some (.int l1), some (.int l2), some (.int l3), some (.int l4)], [], w) = some (some (.int l1), w) := by
  refine (val_g (c2 := (85, d + 2, 29, [some (.ref l0), some (.int l1), some (.int l2), some (.int l3), some (.int l4)], [.int l1], w)) rfl).trans ?_
  exact val_r rfl
theorem tr_85_34 (d : Nat) (w : Wd) (l0 : Nat) (l1 : Int32) (l2 : Int32) (l3 : Int32) (l4 : Int32)     : val (85, d + 2, 34, [some (.ref l0), some (.int l1), some (.int l2), some (.int l3), some (.int l4)], [], w) = some (some (.int l4), w) := by
  refine (val_g (c2 := (85, d + 2, 36, [some (.ref l0), some (.int l1), some (.int l2), some (.int l3), some (.int l4)], [.int l4], w)) rfl).trans ?_
  exact val_r rfl
/-- BelfryHouse$Reader.readMethod()V -/
theorem tr_87 (d : Nat) (w : Wd) (o : Nat)     : val (87, d + 9, 0, [some (.ref o), none], [], w) = val (87, d + 9, 1, [some (.ref o), none], [.ref o], w) := by
  refine (val_g (c2 := (87, d + 9, 1, [some (.ref o), none], [.ref o], w)) rfl).trans ?_
  rfl
theorem tr_87_4 (d : Nat) (w : Wd) (l0 : Nat)     : val (87, d + 9, 4, [some (.ref l0), none], [], w) = val (87, d + 9, 6, [some (.ref l0), some (.int 0)], [], w) := by
  refine (val_g (c2 := (87, d + 9, 5, [some (.ref l0), none], [.int 0], w)) rfl).trans ?_
  refine (val_g (c2 := (87, d + 9, 6, [some (.ref l0), some (.int 0)], [], w)) rfl).trans ?_
  rfl
theorem tr_87_6 (d : Nat) (w : Wd) (l0 : Nat) (l1 : Int32)    (m_l0 : Nat) (hk_l0 : wK w l0 = (4, m_l0)) : val (87, d + 9, 6, [some (.ref l0), some (.int l1)], [], w) = (if 20 < l1 then some (none, w) else (if 0 ≤ (gI w l0 1) then some (none, w) else (if l1 = 0 then (if ¬ l1 = 20 then val (87, d + 9, 44, [some (.ref l0), some (.int l1)], [.ref l0], w) else val (87, d + 9, 37, [some (.ref l0), some (.int l1)], [.ref l0], w)) else (if (gI w l0 5) = 0 then some (none, w) else (if ¬ l1 = 20 then val (87, d + 9, 44, [some (.ref l0), some (.int l1)], [.ref l0], w) else val (87, d + 9, 37, [some (.ref l0), some (.int l1)], [.ref l0], w)))))) := by
  refine (val_g (c2 := (87, d + 9, 7, [some (.ref l0), some (.int l1)], [.int l1], w)) rfl).trans ?_
  refine (val_g (c2 := (87, d + 9, 9, [some (.ref l0), some (.int l1)], [.int 20, .int l1], w)) rfl).trans ?_
  by_cases hc485 : 20 < l1
  · refine ((val_ic_gt rfl).trans (if_pos hc485)).trans ?_
    show val (87, d + 9, 53, [some (.ref l0), some (.int l1)], [], w) = _
    refine Eq.trans ?_ (if_pos hc485).symm
    exact val_r rfl
  · refine ((val_ic_gt rfl).trans (if_neg hc485)).trans ?_
    show val (87, d + 9, 12, [some (.ref l0), some (.int l1)], [], w) = _
    refine Eq.trans ?_ (if_neg hc485).symm
    refine (val_g (c2 := (87, d + 9, 13, [some (.ref l0), some (.int l1)], [.ref l0], w)) rfl).trans ?_
    refine (val_gf rfl hk_l0 rfl).trans ?_
    show val (87, d + 9, 16, [some (.ref l0), some (.int l1)], [.int (gI w l0 1)], w) = _
    by_cases hc486 : 0 ≤ (gI w l0 1)
    · refine ((val_if_ge rfl).trans (if_pos hc486)).trans ?_
      show val (87, d + 9, 53, [some (.ref l0), some (.int l1)], [], w) = _
      refine Eq.trans ?_ (if_pos hc486).symm
      exact val_r rfl
    · refine ((val_if_ge rfl).trans (if_neg hc486)).trans ?_
      show val (87, d + 9, 19, [some (.ref l0), some (.int l1)], [], w) = _
      refine Eq.trans ?_ (if_neg hc486).symm
      refine (val_g (c2 := (87, d + 9, 20, [some (.ref l0), some (.int l1)], [.int l1], w)) rfl).trans ?_
      by_cases hc487 : l1 = 0
      · refine ((val_if_eq rfl).trans (if_pos hc487)).trans ?_
        show val (87, d + 9, 30, [some (.ref l0), some (.int l1)], [], w) = _
        refine Eq.trans ?_ (if_pos hc487).symm
        refine (val_g (c2 := (87, d + 9, 31, [some (.ref l0), some (.int l1)], [.int l1], w)) rfl).trans ?_
        refine (val_g (c2 := (87, d + 9, 33, [some (.ref l0), some (.int l1)], [.int 20, .int l1], w)) rfl).trans ?_
        by_cases hc488 : ¬ l1 = 20
        · refine ((val_ic_ne rfl).trans (if_pos hc488)).trans ?_
          show val (87, d + 9, 43, [some (.ref l0), some (.int l1)], [], w) = _
          refine Eq.trans ?_ (if_pos hc488).symm
          refine (val_g (c2 := (87, d + 9, 44, [some (.ref l0), some (.int l1)], [.ref l0], w)) rfl).trans ?_
          rfl
        · refine ((val_ic_ne rfl).trans (if_neg hc488)).trans ?_
          show val (87, d + 9, 36, [some (.ref l0), some (.int l1)], [], w) = _
          refine Eq.trans ?_ (if_neg hc488).symm
          refine (val_g (c2 := (87, d + 9, 37, [some (.ref l0), some (.int l1)], [.ref l0], w)) rfl).trans ?_
          rfl
      · refine ((val_if_eq rfl).trans (if_neg hc487)).trans ?_
        show val (87, d + 9, 23, [some (.ref l0), some (.int l1)], [], w) = _
        refine Eq.trans ?_ (if_neg hc487).symm
        refine (val_g (c2 := (87, d + 9, 24, [some (.ref l0), some (.int l1)], [.ref l0], w)) rfl).trans ?_
        refine (val_gf rfl hk_l0 rfl).trans ?_
        show val (87, d + 9, 27, [some (.ref l0), some (.int l1)], [.int (gI w l0 5)], w) = _
        by_cases hc489 : (gI w l0 5) = 0
        · refine ((val_if_eq rfl).trans (if_pos hc489)).trans ?_
          show val (87, d + 9, 53, [some (.ref l0), some (.int l1)], [], w) = _
          refine Eq.trans ?_ (if_pos hc489).symm
          exact val_r rfl
        · refine ((val_if_eq rfl).trans (if_neg hc489)).trans ?_
          show val (87, d + 9, 30, [some (.ref l0), some (.int l1)], [], w) = _
          refine Eq.trans ?_ (if_neg hc489).symm
          refine (val_g (c2 := (87, d + 9, 31, [some (.ref l0), some (.int l1)], [.int l1], w)) rfl).trans ?_
          refine (val_g (c2 := (87, d + 9, 33, [some (.ref l0), some (.int l1)], [.int 20, .int l1], w)) rfl).trans ?_
          by_cases hc490 : ¬ l1 = 20
          · refine ((val_ic_ne rfl).trans (if_pos hc490)).trans ?_
            show val (87, d + 9, 43, [some (.ref l0), some (.int l1)], [], w) = _
            refine Eq.trans ?_ (if_pos hc490).symm
            refine (val_g (c2 := (87, d + 9, 44, [some (.ref l0), some (.int l1)], [.ref l0], w)) rfl).trans ?_
            rfl
          · refine ((val_ic_ne rfl).trans (if_neg hc490)).trans ?_
            show val (87, d + 9, 36, [some (.ref l0), some (.int l1)], [], w) = _
            refine Eq.trans ?_ (if_neg hc490).symm
            refine (val_g (c2 := (87, d + 9, 37, [some (.ref l0), some (.int l1)], [.ref l0], w)) rfl).trans ?_
            rfl
theorem tr_87_40 (d : Nat) (w : Wd) (l0 : Nat) (l1 : Int32)     : val (87, d + 9, 40, [some (.ref l0), some (.int l1)], [], w) = val (87, d + 9, 47, [some (.ref l0), some (.int l1)], [], w) := by
  refine (val_g (c2 := (87, d + 9, 47, [some (.ref l0), some (.int l1)], [], w)) rfl).trans ?_
  rfl
theorem tr_87_47 (d : Nat) (w : Wd) (l0 : Nat) (l1 : Int32)     : val (87, d + 9, 47, [some (.ref l0), some (.int l1)], [], w) = val (87, d + 9, 6, [some (.ref l0), some (.int (l1 + 1))], [], w) := by
  refine (val_g (c2 := (87, d + 9, 50, [some (.ref l0), some (.int (l1 + 1))], [], w)) rfl).trans ?_
  refine (val_g (c2 := (87, d + 9, 6, [some (.ref l0), some (.int (l1 + 1))], [], w)) rfl).trans ?_
  rfl
/-- BelfryHouse$Reader.readRule()V -/
theorem tr_88_3 (d : Nat) (w : Wd) (l0 : Nat) (s0 : Nat)     : val (88, d + 8, 3, [some (.ref l0), none, none, none], [.ref s0], w) = val (88, d + 8, 4, [some (.ref l0), none, none, none], [.ref s0, .ref s0], w) := by
  refine (val_g (c2 := (88, d + 8, 4, [some (.ref l0), none, none, none], [.ref s0, .ref s0], w)) rfl).trans ?_
  rfl
theorem tr_88_7 (d : Nat) (w : Wd) (l0 : Nat) (s0 : Nat)     : val (88, d + 8, 7, [some (.ref l0), none, none, none], [.ref s0], w) = val (88, d + 8, 11, [some (.ref l0), some (.ref s0), none, none], [.ref 2, .ref l0], w) := by
  refine (val_g (c2 := (88, d + 8, 8, [some (.ref l0), some (.ref s0), none, none], [], w)) rfl).trans ?_
  refine (val_g (c2 := (88, d + 8, 9, [some (.ref l0), some (.ref s0), none, none], [.ref l0], w)) rfl).trans ?_
  refine (val_g (c2 := (88, d + 8, 11, [some (.ref l0), some (.ref s0), none, none], [.ref 2, .ref l0], w)) rfl).trans ?_
  rfl
theorem tr_88_14 (d : Nat) (w : Wd) (l0 : Nat) (l1 : Nat) (s0 : Int32)     : val (88, d + 8, 14, [some (.ref l0), some (.ref l1), none, none], [.int s0], w) = val (88, d + 8, 17, [some (.ref l0), some (.ref l1), some (.int s0), some (.int 0)], [], w) := by
  refine (val_g (c2 := (88, d + 8, 15, [some (.ref l0), some (.ref l1), some (.int s0), none], [], w)) rfl).trans ?_
  refine (val_g (c2 := (88, d + 8, 16, [some (.ref l0), some (.ref l1), some (.int s0), none], [.int 0], w)) rfl).trans ?_
  refine (val_g (c2 := (88, d + 8, 17, [some (.ref l0), some (.ref l1), some (.int s0), some (.int 0)], [], w)) rfl).trans ?_
  rfl
theorem tr_88_17 (d : Nat) (w : Wd) (l0 : Nat) (l1 : Nat) (l2 : Int32) (l3 : Int32)    (m_l0 : Nat) (hk_l0 : wK w l0 = (4, m_l0)) : val (88, d + 8, 17, [some (.ref l0), some (.ref l1), some (.int l2), some (.int l3)], [], w) = (if 8 < l3 then (if 0 ≤ (gI w l0 1) then (if 0 ≤ (gI w l0 1) then val (88, d + 8, 109, [some (.ref l0), some (.ref l1), some (.int l2), some (.int l3)], [], w) else val (88, d + 8, 99, [some (.ref l0), some (.ref l1), some (.int l2), some (.int l3)], [.int 59, .ref l0], w)) else val (88, d + 8, 83, [some (.ref l0), some (.ref l1), some (.int l2), some (.int l3)], [.int 0, .ref l0, .ref l1], w)) else (if l2 = 0 then (if 0 ≤ (gI w l0 1) then (if 0 ≤ (gI w l0 1) then val (88, d + 8, 109, [some (.ref l0), some (.ref l1), some (.int l2), some (.int l3)], [], w) else val (88, d + 8, 99, [some (.ref l0), some (.ref l1), some (.int l2), some (.int l3)], [.int 59, .ref l0], w)) else val (88, d + 8, 83, [some (.ref l0), some (.ref l1), some (.int l2), some (.int l3)], [.int 0, .ref l0, .ref l1], w)) else (if ¬ l3 = 8 then val (88, d + 8, 42, [some (.ref l0), some (.ref l1), some (.int l2), some (.int l3)], [.ref l1, .ref l0], w) else val (88, d + 8, 34, [some (.ref l0), some (.ref l1), some (.int l2), some (.int l3)], [.ref l0], w)))) := by
  refine (val_g (c2 := (88, d + 8, 18, [some (.ref l0), some (.ref l1), some (.int l2), some (.int l3)], [.int l3], w)) rfl).trans ?_
  refine (val_g (c2 := (88, d + 8, 20, [some (.ref l0), some (.ref l1), some (.int l2), some (.int l3)], [.int 8, .int l3], w)) rfl).trans ?_
  by_cases hc503 : 8 < l3
  · refine ((val_ic_gt rfl).trans (if_pos hc503)).trans ?_
    show val (88, d + 8, 73, [some (.ref l0), some (.ref l1), some (.int l2), some (.int l3)], [], w) = _
    refine Eq.trans ?_ (if_pos hc503).symm
    refine (val_g (c2 := (88, d + 8, 74, [some (.ref l0), some (.ref l1), some (.int l2), some (.int l3)], [.ref l0], w)) rfl).trans ?_
    refine (val_gf rfl hk_l0 rfl).trans ?_
    show val (88, d + 8, 77, [some (.ref l0), some (.ref l1), some (.int l2), some (.int l3)], [.int (gI w l0 1)], w) = _
    by_cases hc504 : 0 ≤ (gI w l0 1)
    · refine ((val_if_ge rfl).trans (if_pos hc504)).trans ?_
      show val (88, d + 8, 89, [some (.ref l0), some (.ref l1), some (.int l2), some (.int l3)], [], w) = _
      refine Eq.trans ?_ (if_pos hc504).symm
      refine (val_g (c2 := (88, d + 8, 90, [some (.ref l0), some (.ref l1), some (.int l2), some (.int l3)], [.ref l0], w)) rfl).trans ?_
      refine (val_gf rfl hk_l0 rfl).trans ?_
      show val (88, d + 8, 93, [some (.ref l0), some (.ref l1), some (.int l2), some (.int l3)], [.int (gI w l0 1)], w) = _
      by_cases hc505 : 0 ≤ (gI w l0 1)
      · refine ((val_if_ge rfl).trans (if_pos hc505)).trans ?_
        show val (88, d + 8, 109, [some (.ref l0), some (.ref l1), some (.int l2), some (.int l3)], [], w) = _
        refine Eq.trans ?_ (if_pos hc505).symm
        rfl
      · refine ((val_if_ge rfl).trans (if_neg hc505)).trans ?_
        show val (88, d + 8, 96, [some (.ref l0), some (.ref l1), some (.int l2), some (.int l3)], [], w) = _
        refine Eq.trans ?_ (if_neg hc505).symm
        refine (val_g (c2 := (88, d + 8, 97, [some (.ref l0), some (.ref l1), some (.int l2), some (.int l3)], [.ref l0], w)) rfl).trans ?_
        refine (val_g (c2 := (88, d + 8, 99, [some (.ref l0), some (.ref l1), some (.int l2), some (.int l3)], [.int 59, .ref l0], w)) rfl).trans ?_
        rfl
    · refine ((val_if_ge rfl).trans (if_neg hc504)).trans ?_
      show val (88, d + 8, 80, [some (.ref l0), some (.ref l1), some (.int l2), some (.int l3)], [], w) = _
      refine Eq.trans ?_ (if_neg hc504).symm
      refine (val_g (c2 := (88, d + 8, 81, [some (.ref l0), some (.ref l1), some (.int l2), some (.int l3)], [.ref l1], w)) rfl).trans ?_
      refine (val_g (c2 := (88, d + 8, 82, [some (.ref l0), some (.ref l1), some (.int l2), some (.int l3)], [.ref l0, .ref l1], w)) rfl).trans ?_
      refine (val_g (c2 := (88, d + 8, 83, [some (.ref l0), some (.ref l1), some (.int l2), some (.int l3)], [.int 0, .ref l0, .ref l1], w)) rfl).trans ?_
      rfl
  · refine ((val_ic_gt rfl).trans (if_neg hc503)).trans ?_
    show val (88, d + 8, 23, [some (.ref l0), some (.ref l1), some (.int l2), some (.int l3)], [], w) = _
    refine Eq.trans ?_ (if_neg hc503).symm
    refine (val_g (c2 := (88, d + 8, 24, [some (.ref l0), some (.ref l1), some (.int l2), some (.int l3)], [.int l2], w)) rfl).trans ?_
    by_cases hc506 : l2 = 0
    · refine ((val_if_eq rfl).trans (if_pos hc506)).trans ?_
      show val (88, d + 8, 73, [some (.ref l0), some (.ref l1), some (.int l2), some (.int l3)], [], w) = _
      refine Eq.trans ?_ (if_pos hc506).symm
      refine (val_g (c2 := (88, d + 8, 74, [some (.ref l0), some (.ref l1), some (.int l2), some (.int l3)], [.ref l0], w)) rfl).trans ?_
      refine (val_gf rfl hk_l0 rfl).trans ?_
      show val (88, d + 8, 77, [some (.ref l0), some (.ref l1), some (.int l2), some (.int l3)], [.int (gI w l0 1)], w) = _
      by_cases hc507 : 0 ≤ (gI w l0 1)
      · refine ((val_if_ge rfl).trans (if_pos hc507)).trans ?_
        show val (88, d + 8, 89, [some (.ref l0), some (.ref l1), some (.int l2), some (.int l3)], [], w) = _
        refine Eq.trans ?_ (if_pos hc507).symm
        refine (val_g (c2 := (88, d + 8, 90, [some (.ref l0), some (.ref l1), some (.int l2), some (.int l3)], [.ref l0], w)) rfl).trans ?_
        refine (val_gf rfl hk_l0 rfl).trans ?_
        show val (88, d + 8, 93, [some (.ref l0), some (.ref l1), some (.int l2), some (.int l3)], [.int (gI w l0 1)], w) = _
        by_cases hc508 : 0 ≤ (gI w l0 1)
        · refine ((val_if_ge rfl).trans (if_pos hc508)).trans ?_
          show val (88, d + 8, 109, [some (.ref l0), some (.ref l1), some (.int l2), some (.int l3)], [], w) = _
          refine Eq.trans ?_ (if_pos hc508).symm
          rfl
        · refine ((val_if_ge rfl).trans (if_neg hc508)).trans ?_
          show val (88, d + 8, 96, [some (.ref l0), some (.ref l1), some (.int l2), some (.int l3)], [], w) = _
          refine Eq.trans ?_ (if_neg hc508).symm
          refine (val_g (c2 := (88, d + 8, 97, [some (.ref l0), some (.ref l1), some (.int l2), some (.int l3)], [.ref l0], w)) rfl).trans ?_
          refine (val_g (c2 := (88, d + 8, 99, [some (.ref l0), some (.ref l1), some (.int l2), some (.int l3)], [.int 59, .ref l0], w)) rfl).trans ?_
          rfl
      · refine ((val_if_ge rfl).trans (if_neg hc507)).trans ?_
        show val (88, d + 8, 80, [some (.ref l0), some (.ref l1), some (.int l2), some (.int l3)], [], w) = _
        refine Eq.trans ?_ (if_neg hc507).symm
        refine (val_g (c2 := (88, d + 8, 81, [some (.ref l0), some (.ref l1), some (.int l2), some (.int l3)], [.ref l1], w)) rfl).trans ?_
        refine (val_g (c2 := (88, d + 8, 82, [some (.ref l0), some (.ref l1), some (.int l2), some (.int l3)], [.ref l0, .ref l1], w)) rfl).trans ?_
        refine (val_g (c2 := (88, d + 8, 83, [some (.ref l0), some (.ref l1), some (.int l2), some (.int l3)], [.int 0, .ref l0, .ref l1], w)) rfl).trans ?_
        rfl
    · refine ((val_if_eq rfl).trans (if_neg hc506)).trans ?_
      show val (88, d + 8, 27, [some (.ref l0), some (.ref l1), some (.int l2), some (.int l3)], [], w) = _
      refine Eq.trans ?_ (if_neg hc506).symm
      refine (val_g (c2 := (88, d + 8, 28, [some (.ref l0), some (.ref l1), some (.int l2), some (.int l3)], [.int l3], w)) rfl).trans ?_
      refine (val_g (c2 := (88, d + 8, 30, [some (.ref l0), some (.ref l1), some (.int l2), some (.int l3)], [.int 8, .int l3], w)) rfl).trans ?_
      by_cases hc509 : ¬ l3 = 8
      · refine ((val_ic_ne rfl).trans (if_pos hc509)).trans ?_
        show val (88, d + 8, 40, [some (.ref l0), some (.ref l1), some (.int l2), some (.int l3)], [], w) = _
        refine Eq.trans ?_ (if_pos hc509).symm
        refine (val_g (c2 := (88, d + 8, 41, [some (.ref l0), some (.ref l1), some (.int l2), some (.int l3)], [.ref l0], w)) rfl).trans ?_
        refine (val_g (c2 := (88, d + 8, 42, [some (.ref l0), some (.ref l1), some (.int l2), some (.int l3)], [.ref l1, .ref l0], w)) rfl).trans ?_
        rfl
      · refine ((val_ic_ne rfl).trans (if_neg hc509)).trans ?_
        show val (88, d + 8, 33, [some (.ref l0), some (.ref l1), some (.int l2), some (.int l3)], [], w) = _
        refine Eq.trans ?_ (if_neg hc509).symm
        refine (val_g (c2 := (88, d + 8, 34, [some (.ref l0), some (.ref l1), some (.int l2), some (.int l3)], [.ref l0], w)) rfl).trans ?_
        rfl
theorem tr_88_37 (d : Nat) (w : Wd) (l0 : Nat) (l1 : Nat) (l2 : Int32) (l3 : Int32)     : val (88, d + 8, 37, [some (.ref l0), some (.ref l1), some (.int l2), some (.int l3)], [], w) = val (88, d + 8, 45, [some (.ref l0), some (.ref l1), some (.int l2), some (.int l3)], [], w) := by
  refine (val_g (c2 := (88, d + 8, 45, [some (.ref l0), some (.ref l1), some (.int l2), some (.int l3)], [], w)) rfl).trans ?_
  rfl
theorem tr_88_45 (d : Nat) (w : Wd) (l0 : Nat) (l1 : Nat) (l2 : Int32) (l3 : Int32)    (m_l0 : Nat) (hk_l0 : wK w l0 = (4, m_l0)) : val (88, d + 8, 45, [some (.ref l0), some (.ref l1), some (.int l2), some (.int l3)], [], w) = (if 0 ≤ (gI w l0 1) then val (88, d + 8, 17, [some (.ref l0), some (.ref l1), some (.int 0), some (.int (l3 + 1))], [], w) else val (88, d + 8, 55, [some (.ref l0), some (.ref l1), some (.int l2), some (.int l3)], [.ref 10, .ref l0], w)) := by
  refine (val_g (c2 := (88, d + 8, 46, [some (.ref l0), some (.ref l1), some (.int l2), some (.int l3)], [.ref l0], w)) rfl).trans ?_
  refine (val_gf rfl hk_l0 rfl).trans ?_
  show val (88, d + 8, 49, [some (.ref l0), some (.ref l1), some (.int l2), some (.int l3)], [.int (gI w l0 1)], w) = _
  by_cases hc510 : 0 ≤ (gI w l0 1)
  · refine ((val_if_ge rfl).trans (if_pos hc510)).trans ?_
    show val (88, d + 8, 65, [some (.ref l0), some (.ref l1), some (.int l2), some (.int l3)], [], w) = _
    refine Eq.trans ?_ (if_pos hc510).symm
    refine (val_g (c2 := (88, d + 8, 66, [some (.ref l0), some (.ref l1), some (.int l2), some (.int l3)], [.int 0], w)) rfl).trans ?_
    refine (val_g (c2 := (88, d + 8, 67, [some (.ref l0), some (.ref l1), some (.int 0), some (.int l3)], [], w)) rfl).trans ?_
    refine (val_g (c2 := (88, d + 8, 70, [some (.ref l0), some (.ref l1), some (.int 0), some (.int (l3 + 1))], [], w)) rfl).trans ?_
    refine (val_g (c2 := (88, d + 8, 17, [some (.ref l0), some (.ref l1), some (.int 0), some (.int (l3 + 1))], [], w)) rfl).trans ?_
    rfl
  · refine ((val_if_ge rfl).trans (if_neg hc510)).trans ?_
    show val (88, d + 8, 52, [some (.ref l0), some (.ref l1), some (.int l2), some (.int l3)], [], w) = _
    refine Eq.trans ?_ (if_neg hc510).symm
    refine (val_g (c2 := (88, d + 8, 53, [some (.ref l0), some (.ref l1), some (.int l2), some (.int l3)], [.ref l0], w)) rfl).trans ?_
    refine (val_g (c2 := (88, d + 8, 55, [some (.ref l0), some (.ref l1), some (.int l2), some (.int l3)], [.ref 10, .ref l0], w)) rfl).trans ?_
    rfl
theorem tr_88_58 (d : Nat) (w : Wd) (l0 : Nat) (l1 : Nat) (l2 : Int32) (l3 : Int32) (s0 : Int32)     : val (88, d + 8, 58, [some (.ref l0), some (.ref l1), some (.int l2), some (.int l3)], [.int s0], w) = (if s0 = 0 then val (88, d + 8, 17, [some (.ref l0), some (.ref l1), some (.int 0), some (.int (l3 + 1))], [], w) else val (88, d + 8, 17, [some (.ref l0), some (.ref l1), some (.int 1), some (.int (l3 + 1))], [], w)) := by
  by_cases hc511 : s0 = 0
  · refine ((val_if_eq rfl).trans (if_pos hc511)).trans ?_
    show val (88, d + 8, 65, [some (.ref l0), some (.ref l1), some (.int l2), some (.int l3)], [], w) = _
    refine Eq.trans ?_ (if_pos hc511).symm
    refine (val_g (c2 := (88, d + 8, 66, [some (.ref l0), some (.ref l1), some (.int l2), some (.int l3)], [.int 0], w)) rfl).trans ?_
    refine (val_g (c2 := (88, d + 8, 67, [some (.ref l0), some (.ref l1), some (.int 0), some (.int l3)], [], w)) rfl).trans ?_
    refine (val_g (c2 := (88, d + 8, 70, [some (.ref l0), some (.ref l1), some (.int 0), some (.int (l3 + 1))], [], w)) rfl).trans ?_
    refine (val_g (c2 := (88, d + 8, 17, [some (.ref l0), some (.ref l1), some (.int 0), some (.int (l3 + 1))], [], w)) rfl).trans ?_
    rfl
  · refine ((val_if_eq rfl).trans (if_neg hc511)).trans ?_
    show val (88, d + 8, 61, [some (.ref l0), some (.ref l1), some (.int l2), some (.int l3)], [], w) = _
    refine Eq.trans ?_ (if_neg hc511).symm
    refine (val_g (c2 := (88, d + 8, 62, [some (.ref l0), some (.ref l1), some (.int l2), some (.int l3)], [.int 1], w)) rfl).trans ?_
    refine (val_g (c2 := (88, d + 8, 66, [some (.ref l0), some (.ref l1), some (.int l2), some (.int l3)], [.int 1], w)) rfl).trans ?_
    refine (val_g (c2 := (88, d + 8, 67, [some (.ref l0), some (.ref l1), some (.int 1), some (.int l3)], [], w)) rfl).trans ?_
    refine (val_g (c2 := (88, d + 8, 70, [some (.ref l0), some (.ref l1), some (.int 1), some (.int (l3 + 1))], [], w)) rfl).trans ?_
    refine (val_g (c2 := (88, d + 8, 17, [some (.ref l0), some (.ref l1), some (.int 1), some (.int (l3 + 1))], [], w)) rfl).trans ?_
    rfl
theorem tr_88_86 (d : Nat) (w : Wd) (l0 : Nat) (l1 : Nat) (l2 : Int32) (l3 : Int32) (s0 : Int32) (s1 : Nat)    (m_s1 : Nat) (hk_s1 : wK w s1 = (6, m_s1)) (m_l0 : Nat) (hk_l0 : wK w l0 = (4, m_l0)) : val (88, d + 8, 86, [some (.ref l0), some (.ref l1), some (.int l2), some (.int l3)], [.int s0, .ref s1], w) = (if 0 ≤ (gI ((sI w s1 5 s0)) l0 1) then val (88, d + 8, 109, [some (.ref l0), some (.ref l1), some (.int l2), some (.int l3)], [], (sI w s1 5 s0)) else val (88, d + 8, 99, [some (.ref l0), some (.ref l1), some (.int l2), some (.int l3)], [.int 59, .ref l0], (sI w s1 5 s0))) := by
  refine (val_pf rfl hk_s1 rfl).trans ?_
  show val (88, d + 8, 89, [some (.ref l0), some (.ref l1), some (.int l2), some (.int l3)], [], (sI w s1 5 s0)) = _
  refine (val_g (c2 := (88, d + 8, 90, [some (.ref l0), some (.ref l1), some (.int l2), some (.int l3)], [.ref l0], (sI w s1 5 s0))) rfl).trans ?_
  refine (val_gf (w := (sI w s1 5 s0)) rfl hk_l0 rfl).trans ?_
  show val (88, d + 8, 93, [some (.ref l0), some (.ref l1), some (.int l2), some (.int l3)], [.int (gI ((sI w s1 5 s0)) l0 1)], (sI w s1 5 s0)) = _
  by_cases hc512 : 0 ≤ (gI ((sI w s1 5 s0)) l0 1)
  · refine ((val_if_ge rfl).trans (if_pos hc512)).trans ?_
    show val (88, d + 8, 109, [some (.ref l0), some (.ref l1), some (.int l2), some (.int l3)], [], (sI w s1 5 s0)) = _
    refine Eq.trans ?_ (if_pos hc512).symm
    rfl
  · refine ((val_if_ge rfl).trans (if_neg hc512)).trans ?_
    show val (88, d + 8, 96, [some (.ref l0), some (.ref l1), some (.int l2), some (.int l3)], [], (sI w s1 5 s0)) = _
    refine Eq.trans ?_ (if_neg hc512).symm
    refine (val_g (c2 := (88, d + 8, 97, [some (.ref l0), some (.ref l1), some (.int l2), some (.int l3)], [.ref l0], (sI w s1 5 s0))) rfl).trans ?_
    refine (val_g (c2 := (88, d + 8, 99, [some (.ref l0), some (.ref l1), some (.int l2), some (.int l3)], [.int 59, .ref l0], (sI w s1 5 s0))) rfl).trans ?_
    rfl
theorem tr_88_102 (d : Nat) (w : Wd) (l0 : Nat) (l1 : Nat) (l2 : Int32) (l3 : Int32) (s0 : Int32)     : val (88, d + 8, 102, [some (.ref l0), some (.ref l1), some (.int l2), some (.int l3)], [.int s0], w) = (if ¬ s0 = 0 then val (88, d + 8, 109, [some (.ref l0), some (.ref l1), some (.int l2), some (.int l3)], [], w) else val (88, d + 8, 106, [some (.ref l0), some (.ref l1), some (.int l2), some (.int l3)], [.ref l0], w)) := by
  by_cases hc513 : ¬ s0 = 0
  · refine ((val_if_ne rfl).trans (if_pos hc513)).trans ?_
    show val (88, d + 8, 109, [some (.ref l0), some (.ref l1), some (.int l2), some (.int l3)], [], w) = _
    refine Eq.trans ?_ (if_pos hc513).symm
    rfl
  · refine ((val_if_ne rfl).trans (if_neg hc513)).trans ?_
    show val (88, d + 8, 105, [some (.ref l0), some (.ref l1), some (.int l2), some (.int l3)], [], w) = _
    refine Eq.trans ?_ (if_neg hc513).symm
    refine (val_g (c2 := (88, d + 8, 106, [some (.ref l0), some (.ref l1), some (.int l2), some (.int l3)], [.ref l0], w)) rfl).trans ?_
    rfl
theorem tr_88_109 (d : Nat) (w : Wd) (l0 : Nat) (l1 : Nat) (l2 : Int32) (l3 : Int32)    (m_l0 : Nat) (hk_l0 : wK w l0 = (4, m_l0)) (q0_l0 : Nat) (hr0_l0 : gR w l0 0 = some q0_l0) : val (88, d + 8, 109, [some (.ref l0), some (.ref l1), some (.int l2), some (.int l3)], [], w) = val (88, d + 8, 114, [some (.ref l0), some (.ref l1), some (.int l2), some (.int l3)], [.ref l1, .ref q0_l0], w) := by
  refine (val_g (c2 := (88, d + 8, 110, [some (.ref l0), some (.ref l1), some (.int l2), some (.int l3)], [.ref l0], w)) rfl).trans ?_
  refine (val_gf rfl hk_l0 (fvR hr0_l0)).trans ?_
  show val (88, d + 8, 113, [some (.ref l0), some (.ref l1), some (.int l2), some (.int l3)], [.ref q0_l0], w) = _
  refine (val_g (c2 := (88, d + 8, 114, [some (.ref l0), some (.ref l1), some (.int l2), some (.int l3)], [.ref l1, .ref q0_l0], w)) rfl).trans ?_
  rfl
theorem tr_88_117 (d : Nat) (w : Wd) (l0 : Nat) (l1 : Nat) (l2 : Int32) (l3 : Int32)     : val (88, d + 8, 117, [some (.ref l0), some (.ref l1), some (.int l2), some (.int l3)], [], w) = some (none, w) := by
  exact val_r rfl
/-- BelfryHouse$Reader.readCond(LBelfryHouse$Rule;)V -/
theorem tr_89 (d : Nat) (w : Wd) (o : Nat) (p0 : Nat)     : val (89, d + 7, 0, [some (.ref o), some (.ref p0), none, none], [], w) = val (89, d + 7, 3, [some (.ref o), some (.ref p0), none, none], [.ref 3, .ref o], w) := by
  refine (val_g (c2 := (89, d + 7, 1, [some (.ref o), some (.ref p0), none, none], [.ref o], w)) rfl).trans ?_
  refine (val_g (c2 := (89, d + 7, 3, [some (.ref o), some (.ref p0), none, none], [.ref 3, .ref o], w)) rfl).trans ?_
  rfl
theorem tr_89_6 (d : Nat) (w : Wd) (l0 : Nat) (l1 : Nat) (s0 : Int32)    (m_l0 : Nat) (hk_l0 : wK w l0 = (4, m_l0)) : val (89, d + 7, 6, [some (.ref l0), some (.ref l1), none, none], [.int s0], w) = (if ¬ (gI w l0 5) = 3 then val (89, d + 7, 27, [some (.ref l0), some (.ref l1), some (.int s0), none], [.ref 6, .ref l0], w) else val (89, d + 7, 18, [some (.ref l0), some (.ref l1), some (.int s0), none], [.int s0, .ref l1, .ref l0], w)) := by
  refine (val_g (c2 := (89, d + 7, 7, [some (.ref l0), some (.ref l1), some (.int s0), none], [], w)) rfl).trans ?_
  refine (val_g (c2 := (89, d + 7, 8, [some (.ref l0), some (.ref l1), some (.int s0), none], [.ref l0], w)) rfl).trans ?_
  refine (val_gf rfl hk_l0 rfl).trans ?_
  show val (89, d + 7, 11, [some (.ref l0), some (.ref l1), some (.int s0), none], [.int (gI w l0 5)], w) = _
  refine (val_g (c2 := (89, d + 7, 12, [some (.ref l0), some (.ref l1), some (.int s0), none], [.int 3, .int (gI w l0 5)], w)) rfl).trans ?_
  by_cases hc519 : ¬ (gI w l0 5) = 3
  · refine ((val_ic_ne rfl).trans (if_pos hc519)).trans ?_
    show val (89, d + 7, 24, [some (.ref l0), some (.ref l1), some (.int s0), none], [], w) = _
    refine Eq.trans ?_ (if_pos hc519).symm
    refine (val_g (c2 := (89, d + 7, 25, [some (.ref l0), some (.ref l1), some (.int s0), none], [.ref l0], w)) rfl).trans ?_
    refine (val_g (c2 := (89, d + 7, 27, [some (.ref l0), some (.ref l1), some (.int s0), none], [.ref 6, .ref l0], w)) rfl).trans ?_
    rfl
  · refine ((val_ic_ne rfl).trans (if_neg hc519)).trans ?_
    show val (89, d + 7, 15, [some (.ref l0), some (.ref l1), some (.int s0), none], [], w) = _
    refine Eq.trans ?_ (if_neg hc519).symm
    refine (val_g (c2 := (89, d + 7, 16, [some (.ref l0), some (.ref l1), some (.int s0), none], [.ref l0], w)) rfl).trans ?_
    refine (val_g (c2 := (89, d + 7, 17, [some (.ref l0), some (.ref l1), some (.int s0), none], [.ref l1, .ref l0], w)) rfl).trans ?_
    refine (val_g (c2 := (89, d + 7, 18, [some (.ref l0), some (.ref l1), some (.int s0), none], [.int s0, .ref l1, .ref l0], w)) rfl).trans ?_
    rfl
theorem tr_89_21 (d : Nat) (w : Wd) (l0 : Nat) (l1 : Nat) (l2 : Int32)     : val (89, d + 7, 21, [some (.ref l0), some (.ref l1), some (.int l2), none], [], w) = val (89, d + 7, 125, [some (.ref l0), some (.ref l1), some (.int l2), none], [], w) := by
  refine (val_g (c2 := (89, d + 7, 125, [some (.ref l0), some (.ref l1), some (.int l2), none], [], w)) rfl).trans ?_
  rfl
theorem tr_89_30 (d : Nat) (w : Wd) (l0 : Nat) (l1 : Nat) (l2 : Int32) (s0 : Int32)     : val (89, d + 7, 30, [some (.ref l0), some (.ref l1), some (.int l2), none], [.int s0], w) = (if s0 = 0 then val (89, d + 7, 47, [some (.ref l0), some (.ref l1), some (.int l2), none], [.ref 7, .ref l0], w) else val (89, d + 7, 38, [some (.ref l0), some (.ref l1), some (.int l2), none], [.int 0, .int 0, .int 2, .int l2, .ref l1], w)) := by
  by_cases hc520 : s0 = 0
  · refine ((val_if_eq rfl).trans (if_pos hc520)).trans ?_
    show val (89, d + 7, 44, [some (.ref l0), some (.ref l1), some (.int l2), none], [], w) = _
    refine Eq.trans ?_ (if_pos hc520).symm
    refine (val_g (c2 := (89, d + 7, 45, [some (.ref l0), some (.ref l1), some (.int l2), none], [.ref l0], w)) rfl).trans ?_
    refine (val_g (c2 := (89, d + 7, 47, [some (.ref l0), some (.ref l1), some (.int l2), none], [.ref 7, .ref l0], w)) rfl).trans ?_
    rfl
  · refine ((val_if_eq rfl).trans (if_neg hc520)).trans ?_
    show val (89, d + 7, 33, [some (.ref l0), some (.ref l1), some (.int l2), none], [], w) = _
    refine Eq.trans ?_ (if_neg hc520).symm
    refine (val_g (c2 := (89, d + 7, 34, [some (.ref l0), some (.ref l1), some (.int l2), none], [.ref l1], w)) rfl).trans ?_
    refine (val_g (c2 := (89, d + 7, 35, [some (.ref l0), some (.ref l1), some (.int l2), none], [.int l2, .ref l1], w)) rfl).trans ?_
    refine (val_g (c2 := (89, d + 7, 36, [some (.ref l0), some (.ref l1), some (.int l2), none], [.int 2, .int l2, .ref l1], w)) rfl).trans ?_
    refine (val_g (c2 := (89, d + 7, 37, [some (.ref l0), some (.ref l1), some (.int l2), none], [.int 0, .int 2, .int l2, .ref l1], w)) rfl).trans ?_
    refine (val_g (c2 := (89, d + 7, 38, [some (.ref l0), some (.ref l1), some (.int l2), none], [.int 0, .int 0, .int 2, .int l2, .ref l1], w)) rfl).trans ?_
    rfl
theorem tr_89_41 (d : Nat) (w : Wd) (l0 : Nat) (l1 : Nat) (l2 : Int32)     : val (89, d + 7, 41, [some (.ref l0), some (.ref l1), some (.int l2), none], [], w) = val (89, d + 7, 125, [some (.ref l0), some (.ref l1), some (.int l2), none], [], w) := by
  refine (val_g (c2 := (89, d + 7, 125, [some (.ref l0), some (.ref l1), some (.int l2), none], [], w)) rfl).trans ?_
  rfl
theorem tr_89_50 (d : Nat) (w : Wd) (l0 : Nat) (l1 : Nat) (l2 : Int32) (s0 : Int32)     : val (89, d + 7, 50, [some (.ref l0), some (.ref l1), some (.int l2), none], [.int s0], w) = (if s0 = 0 then val (89, d + 7, 67, [some (.ref l0), some (.ref l1), some (.int l2), none], [.ref 8, .ref l0], w) else val (89, d + 7, 58, [some (.ref l0), some (.ref l1), some (.int l2), none], [.int 0, .int 0, .int 3, .int l2, .ref l1], w)) := by
  by_cases hc521 : s0 = 0
  · refine ((val_if_eq rfl).trans (if_pos hc521)).trans ?_
    show val (89, d + 7, 64, [some (.ref l0), some (.ref l1), some (.int l2), none], [], w) = _
    refine Eq.trans ?_ (if_pos hc521).symm
    refine (val_g (c2 := (89, d + 7, 65, [some (.ref l0), some (.ref l1), some (.int l2), none], [.ref l0], w)) rfl).trans ?_
    refine (val_g (c2 := (89, d + 7, 67, [some (.ref l0), some (.ref l1), some (.int l2), none], [.ref 8, .ref l0], w)) rfl).trans ?_
    rfl
  · refine ((val_if_eq rfl).trans (if_neg hc521)).trans ?_
    show val (89, d + 7, 53, [some (.ref l0), some (.ref l1), some (.int l2), none], [], w) = _
    refine Eq.trans ?_ (if_neg hc521).symm
    refine (val_g (c2 := (89, d + 7, 54, [some (.ref l0), some (.ref l1), some (.int l2), none], [.ref l1], w)) rfl).trans ?_
    refine (val_g (c2 := (89, d + 7, 55, [some (.ref l0), some (.ref l1), some (.int l2), none], [.int l2, .ref l1], w)) rfl).trans ?_
    refine (val_g (c2 := (89, d + 7, 56, [some (.ref l0), some (.ref l1), some (.int l2), none], [.int 3, .int l2, .ref l1], w)) rfl).trans ?_
    refine (val_g (c2 := (89, d + 7, 57, [some (.ref l0), some (.ref l1), some (.int l2), none], [.int 0, .int 3, .int l2, .ref l1], w)) rfl).trans ?_
    refine (val_g (c2 := (89, d + 7, 58, [some (.ref l0), some (.ref l1), some (.int l2), none], [.int 0, .int 0, .int 3, .int l2, .ref l1], w)) rfl).trans ?_
    rfl
theorem tr_89_61 (d : Nat) (w : Wd) (l0 : Nat) (l1 : Nat) (l2 : Int32)     : val (89, d + 7, 61, [some (.ref l0), some (.ref l1), some (.int l2), none], [], w) = val (89, d + 7, 125, [some (.ref l0), some (.ref l1), some (.int l2), none], [], w) := by
  refine (val_g (c2 := (89, d + 7, 125, [some (.ref l0), some (.ref l1), some (.int l2), none], [], w)) rfl).trans ?_
  rfl
theorem tr_89_70 (d : Nat) (w : Wd) (l0 : Nat) (l1 : Nat) (l2 : Int32) (s0 : Int32)     : val (89, d + 7, 70, [some (.ref l0), some (.ref l1), some (.int l2), none], [.int s0], w) = (if s0 = 0 then val (89, d + 7, 87, [some (.ref l0), some (.ref l1), some (.int l2), none], [.ref 9, .ref l0], w) else val (89, d + 7, 78, [some (.ref l0), some (.ref l1), some (.int l2), none], [.int 0, .int 0, .int 4, .int l2, .ref l1], w)) := by
  by_cases hc522 : s0 = 0
  · refine ((val_if_eq rfl).trans (if_pos hc522)).trans ?_
    show val (89, d + 7, 84, [some (.ref l0), some (.ref l1), some (.int l2), none], [], w) = _
    refine Eq.trans ?_ (if_pos hc522).symm
    refine (val_g (c2 := (89, d + 7, 85, [some (.ref l0), some (.ref l1), some (.int l2), none], [.ref l0], w)) rfl).trans ?_
    refine (val_g (c2 := (89, d + 7, 87, [some (.ref l0), some (.ref l1), some (.int l2), none], [.ref 9, .ref l0], w)) rfl).trans ?_
    rfl
  · refine ((val_if_eq rfl).trans (if_neg hc522)).trans ?_
    show val (89, d + 7, 73, [some (.ref l0), some (.ref l1), some (.int l2), none], [], w) = _
    refine Eq.trans ?_ (if_neg hc522).symm
    refine (val_g (c2 := (89, d + 7, 74, [some (.ref l0), some (.ref l1), some (.int l2), none], [.ref l1], w)) rfl).trans ?_
    refine (val_g (c2 := (89, d + 7, 75, [some (.ref l0), some (.ref l1), some (.int l2), none], [.int l2, .ref l1], w)) rfl).trans ?_
    refine (val_g (c2 := (89, d + 7, 76, [some (.ref l0), some (.ref l1), some (.int l2), none], [.int 4, .int l2, .ref l1], w)) rfl).trans ?_
    refine (val_g (c2 := (89, d + 7, 77, [some (.ref l0), some (.ref l1), some (.int l2), none], [.int 0, .int 4, .int l2, .ref l1], w)) rfl).trans ?_
    refine (val_g (c2 := (89, d + 7, 78, [some (.ref l0), some (.ref l1), some (.int l2), none], [.int 0, .int 0, .int 4, .int l2, .ref l1], w)) rfl).trans ?_
    rfl
theorem tr_89_81 (d : Nat) (w : Wd) (l0 : Nat) (l1 : Nat) (l2 : Int32)     : val (89, d + 7, 81, [some (.ref l0), some (.ref l1), some (.int l2), none], [], w) = val (89, d + 7, 125, [some (.ref l0), some (.ref l1), some (.int l2), none], [], w) := by
  refine (val_g (c2 := (89, d + 7, 125, [some (.ref l0), some (.ref l1), some (.int l2), none], [], w)) rfl).trans ?_
  rfl
theorem tr_89_90 (d : Nat) (w : Wd) (l0 : Nat) (l1 : Nat) (l2 : Int32) (s0 : Int32)     : val (89, d + 7, 90, [some (.ref l0), some (.ref l1), some (.int l2), none], [.int s0], w) = (if s0 = 0 then val (89, d + 7, 122, [some (.ref l0), some (.ref l1), some (.int l2), none], [.ref l0], w) else val (89, d + 7, 98, [some (.ref l0), some (.ref l1), some (.int l2), none], [.int (-1), .int 99, .int 1, .ref l0], w)) := by
  by_cases hc523 : s0 = 0
  · refine ((val_if_eq rfl).trans (if_pos hc523)).trans ?_
    show val (89, d + 7, 121, [some (.ref l0), some (.ref l1), some (.int l2), none], [], w) = _
    refine Eq.trans ?_ (if_pos hc523).symm
    refine (val_g (c2 := (89, d + 7, 122, [some (.ref l0), some (.ref l1), some (.int l2), none], [.ref l0], w)) rfl).trans ?_
    rfl
  · refine ((val_if_eq rfl).trans (if_neg hc523)).trans ?_
    show val (89, d + 7, 93, [some (.ref l0), some (.ref l1), some (.int l2), none], [], w) = _
    refine Eq.trans ?_ (if_neg hc523).symm
    refine (val_g (c2 := (89, d + 7, 94, [some (.ref l0), some (.ref l1), some (.int l2), none], [.ref l0], w)) rfl).trans ?_
    refine (val_g (c2 := (89, d + 7, 95, [some (.ref l0), some (.ref l1), some (.int l2), none], [.int 1, .ref l0], w)) rfl).trans ?_
    refine (val_g (c2 := (89, d + 7, 97, [some (.ref l0), some (.ref l1), some (.int l2), none], [.int 99, .int 1, .ref l0], w)) rfl).trans ?_
    refine (val_g (c2 := (89, d + 7, 98, [some (.ref l0), some (.ref l1), some (.int l2), none], [.int (-1), .int 99, .int 1, .ref l0], w)) rfl).trans ?_
    rfl
theorem tr_89_101 (d : Nat) (w : Wd) (l0 : Nat) (l1 : Nat) (l2 : Int32) (s0 : Int32)     : val (89, d + 7, 101, [some (.ref l0), some (.ref l1), some (.int l2), none], [.int s0], w) = val (89, d + 7, 112, [some (.ref l0), some (.ref l1), some (.int l2), some (.int s0)], [.int (-1), .int (s0 - 1), .int 0, .ref l0, .int s0, .int 5, .int l2, .ref l1], w) := by
  refine (val_g (c2 := (89, d + 7, 102, [some (.ref l0), some (.ref l1), some (.int l2), some (.int s0)], [], w)) rfl).trans ?_
  refine (val_g (c2 := (89, d + 7, 103, [some (.ref l0), some (.ref l1), some (.int l2), some (.int s0)], [.ref l1], w)) rfl).trans ?_
  refine (val_g (c2 := (89, d + 7, 104, [some (.ref l0), some (.ref l1), some (.int l2), some (.int s0)], [.int l2, .ref l1], w)) rfl).trans ?_
  refine (val_g (c2 := (89, d + 7, 105, [some (.ref l0), some (.ref l1), some (.int l2), some (.int s0)], [.int 5, .int l2, .ref l1], w)) rfl).trans ?_
  refine (val_g (c2 := (89, d + 7, 106, [some (.ref l0), some (.ref l1), some (.int l2), some (.int s0)], [.int s0, .int 5, .int l2, .ref l1], w)) rfl).trans ?_
  refine (val_g (c2 := (89, d + 7, 107, [some (.ref l0), some (.ref l1), some (.int l2), some (.int s0)], [.ref l0, .int s0, .int 5, .int l2, .ref l1], w)) rfl).trans ?_
  refine (val_g (c2 := (89, d + 7, 108, [some (.ref l0), some (.ref l1), some (.int l2), some (.int s0)], [.int 0, .ref l0, .int s0, .int 5, .int l2, .ref l1], w)) rfl).trans ?_
  refine (val_g (c2 := (89, d + 7, 109, [some (.ref l0), some (.ref l1), some (.int l2), some (.int s0)], [.int s0, .int 0, .ref l0, .int s0, .int 5, .int l2, .ref l1], w)) rfl).trans ?_
  refine (val_g (c2 := (89, d + 7, 110, [some (.ref l0), some (.ref l1), some (.int l2), some (.int s0)], [.int 1, .int s0, .int 0, .ref l0, .int s0, .int 5, .int l2, .ref l1], w)) rfl).trans ?_
  refine (val_g (c2 := (89, d + 7, 111, [some (.ref l0), some (.ref l1), some (.int l2), some (.int s0)], [.int (s0 - 1), .int 0, .ref l0, .int s0, .int 5, .int l2, .ref l1], w)) rfl).trans ?_
  refine (val_g (c2 := (89, d + 7, 112, [some (.ref l0), some (.ref l1), some (.int l2), some (.int s0)], [.int (-1), .int (s0 - 1), .int 0, .ref l0, .int s0, .int 5, .int l2, .ref l1], w)) rfl).trans ?_
  rfl
theorem tr_89_118 (d : Nat) (w : Wd) (l0 : Nat) (l1 : Nat) (l2 : Int32) (l3 : Int32)     : val (89, d + 7, 118, [some (.ref l0), some (.ref l1), some (.int l2), some (.int l3)], [], w) = val (89, d + 7, 125, [some (.ref l0), some (.ref l1), some (.int l2), some (.int l3)], [], w) := by
  refine (val_g (c2 := (89, d + 7, 125, [some (.ref l0), some (.ref l1), some (.int l2), some (.int l3)], [], w)) rfl).trans ?_
  rfl
theorem tr_89_125 (d : Nat) (w : Wd) (l0 : Nat) (l1 : Nat) (l2 : Int32)     : val (89, d + 7, 125, [some (.ref l0), some (.ref l1), some (.int l2), none], [], w) = some (none, w) := by
  exact val_r rfl
/-- BelfryHouse$Reader.readPlacing(LBelfryHouse$Rule;Z)V -/
theorem tr_90 (d : Nat) (w : Wd) (o : Nat) (p0 : Nat) (x1 : Int32)    (m_o : Nat) (hk_o : wK w o = (4, m_o)) : val (90, d + 6, 0, [some (.ref o), some (.ref p0), some (.int x1), none], [], w) = val (90, d + 6, 7, [some (.ref o), some (.ref p0), some (.int x1), none], [.int (-1), .int (gI w o 4), .int 1, .ref o], w) := by
  refine (val_g (c2 := (90, d + 6, 1, [some (.ref o), some (.ref p0), some (.int x1), none], [.ref o], w)) rfl).trans ?_
  refine (val_g (c2 := (90, d + 6, 2, [some (.ref o), some (.ref p0), some (.int x1), none], [.int 1, .ref o], w)) rfl).trans ?_
  refine (val_g (c2 := (90, d + 6, 3, [some (.ref o), some (.ref p0), some (.int x1), none], [.ref o, .int 1, .ref o], w)) rfl).trans ?_
  refine (val_gf rfl hk_o rfl).trans ?_
  show val (90, d + 6, 6, [some (.ref o), some (.ref p0), some (.int x1), none], [.int (gI w o 4), .int 1, .ref o], w) = _
  refine (val_g (c2 := (90, d + 6, 7, [some (.ref o), some (.ref p0), some (.int x1), none], [.int (-1), .int (gI w o 4), .int 1, .ref o], w)) rfl).trans ?_
  rfl
theorem tr_90_10 (d : Nat) (w : Wd) (l0 : Nat) (l1 : Nat) (l2 : Int32) (s0 : Int32)     : val (90, d + 6, 10, [some (.ref l0), some (.ref l1), some (.int l2), none], [.int s0], w) = val (90, d + 6, 14, [some (.ref l0), some (.ref l1), some (.int l2), some (.int s0)], [.ref 4, .ref l0], w) := by
  refine (val_g (c2 := (90, d + 6, 11, [some (.ref l0), some (.ref l1), some (.int l2), some (.int s0)], [], w)) rfl).trans ?_
  refine (val_g (c2 := (90, d + 6, 12, [some (.ref l0), some (.ref l1), some (.int l2), some (.int s0)], [.ref l0], w)) rfl).trans ?_
  refine (val_g (c2 := (90, d + 6, 14, [some (.ref l0), some (.ref l1), some (.int l2), some (.int s0)], [.ref 4, .ref l0], w)) rfl).trans ?_
  rfl
theorem tr_90_17 (d : Nat) (w : Wd) (l0 : Nat) (l1 : Nat) (l2 : Int32) (l3 : Int32) (s0 : Int32)    (m_l0 : Nat) (hk_l0 : wK w l0 = (4, m_l0)) : val (90, d + 6, 17, [some (.ref l0), some (.ref l1), some (.int l2), some (.int l3)], [.int s0], w) = (if s0 = 0 then val (90, d + 6, 43, [some (.ref l0), some (.ref l1), some (.int l2), some (.int l3)], [.ref 5, .ref l0], w) else val (90, d + 6, 31, [some (.ref l0), some (.ref l1), some (.int l2), some (.int l3)], [.int (-1), .int (gI w l0 4), .int 1, .ref l0, .int l3, .int 0, .int l2, .ref l1], w)) := by
  by_cases hc526 : s0 = 0
  · refine ((val_if_eq rfl).trans (if_pos hc526)).trans ?_
    show val (90, d + 6, 40, [some (.ref l0), some (.ref l1), some (.int l2), some (.int l3)], [], w) = _
    refine Eq.trans ?_ (if_pos hc526).symm
    refine (val_g (c2 := (90, d + 6, 41, [some (.ref l0), some (.ref l1), some (.int l2), some (.int l3)], [.ref l0], w)) rfl).trans ?_
    refine (val_g (c2 := (90, d + 6, 43, [some (.ref l0), some (.ref l1), some (.int l2), some (.int l3)], [.ref 5, .ref l0], w)) rfl).trans ?_
    rfl
  · refine ((val_if_eq rfl).trans (if_neg hc526)).trans ?_
    show val (90, d + 6, 20, [some (.ref l0), some (.ref l1), some (.int l2), some (.int l3)], [], w) = _
    refine Eq.trans ?_ (if_neg hc526).symm
    refine (val_g (c2 := (90, d + 6, 21, [some (.ref l0), some (.ref l1), some (.int l2), some (.int l3)], [.ref l1], w)) rfl).trans ?_
    refine (val_g (c2 := (90, d + 6, 22, [some (.ref l0), some (.ref l1), some (.int l2), some (.int l3)], [.int l2, .ref l1], w)) rfl).trans ?_
    refine (val_g (c2 := (90, d + 6, 23, [some (.ref l0), some (.ref l1), some (.int l2), some (.int l3)], [.int 0, .int l2, .ref l1], w)) rfl).trans ?_
    refine (val_g (c2 := (90, d + 6, 24, [some (.ref l0), some (.ref l1), some (.int l2), some (.int l3)], [.int l3, .int 0, .int l2, .ref l1], w)) rfl).trans ?_
    refine (val_g (c2 := (90, d + 6, 25, [some (.ref l0), some (.ref l1), some (.int l2), some (.int l3)], [.ref l0, .int l3, .int 0, .int l2, .ref l1], w)) rfl).trans ?_
    refine (val_g (c2 := (90, d + 6, 26, [some (.ref l0), some (.ref l1), some (.int l2), some (.int l3)], [.int 1, .ref l0, .int l3, .int 0, .int l2, .ref l1], w)) rfl).trans ?_
    refine (val_g (c2 := (90, d + 6, 27, [some (.ref l0), some (.ref l1), some (.int l2), some (.int l3)], [.ref l0, .int 1, .ref l0, .int l3, .int 0, .int l2, .ref l1], w)) rfl).trans ?_
    refine (val_gf rfl hk_l0 rfl).trans ?_
    show val (90, d + 6, 30, [some (.ref l0), some (.ref l1), some (.int l2), some (.int l3)], [.int (gI w l0 4), .int 1, .ref l0, .int l3, .int 0, .int l2, .ref l1], w) = _
    refine (val_g (c2 := (90, d + 6, 31, [some (.ref l0), some (.ref l1), some (.int l2), some (.int l3)], [.int (-1), .int (gI w l0 4), .int 1, .ref l0, .int l3, .int 0, .int l2, .ref l1], w)) rfl).trans ?_
    rfl
theorem tr_90_37 (d : Nat) (w : Wd) (l0 : Nat) (l1 : Nat) (l2 : Int32) (l3 : Int32)     : val (90, d + 6, 37, [some (.ref l0), some (.ref l1), some (.int l2), some (.int l3)], [], w) = val (90, d + 6, 73, [some (.ref l0), some (.ref l1), some (.int l2), some (.int l3)], [], w) := by
  refine (val_g (c2 := (90, d + 6, 73, [some (.ref l0), some (.ref l1), some (.int l2), some (.int l3)], [], w)) rfl).trans ?_
  rfl
theorem tr_90_46 (d : Nat) (w : Wd) (l0 : Nat) (l1 : Nat) (l2 : Int32) (l3 : Int32) (s0 : Int32)    (m_l0 : Nat) (hk_l0 : wK w l0 = (4, m_l0)) : val (90, d + 6, 46, [some (.ref l0), some (.ref l1), some (.int l2), some (.int l3)], [.int s0], w) = (if s0 = 0 then val (90, d + 6, 70, [some (.ref l0), some (.ref l1), some (.int l2), some (.int l3)], [.ref l0], w) else val (90, d + 6, 60, [some (.ref l0), some (.ref l1), some (.int l2), some (.int l3)], [.int l3, .int (gI w l0 4), .int 1, .ref l0, .int l3, .int 1, .int l2, .ref l1], w)) := by
  by_cases hc527 : s0 = 0
  · refine ((val_if_eq rfl).trans (if_pos hc527)).trans ?_
    show val (90, d + 6, 69, [some (.ref l0), some (.ref l1), some (.int l2), some (.int l3)], [], w) = _
    refine Eq.trans ?_ (if_pos hc527).symm
    refine (val_g (c2 := (90, d + 6, 70, [some (.ref l0), some (.ref l1), some (.int l2), some (.int l3)], [.ref l0], w)) rfl).trans ?_
    rfl
  · refine ((val_if_eq rfl).trans (if_neg hc527)).trans ?_
    show val (90, d + 6, 49, [some (.ref l0), some (.ref l1), some (.int l2), some (.int l3)], [], w) = _
    refine Eq.trans ?_ (if_neg hc527).symm
    refine (val_g (c2 := (90, d + 6, 50, [some (.ref l0), some (.ref l1), some (.int l2), some (.int l3)], [.ref l1], w)) rfl).trans ?_
    refine (val_g (c2 := (90, d + 6, 51, [some (.ref l0), some (.ref l1), some (.int l2), some (.int l3)], [.int l2, .ref l1], w)) rfl).trans ?_
    refine (val_g (c2 := (90, d + 6, 52, [some (.ref l0), some (.ref l1), some (.int l2), some (.int l3)], [.int 1, .int l2, .ref l1], w)) rfl).trans ?_
    refine (val_g (c2 := (90, d + 6, 53, [some (.ref l0), some (.ref l1), some (.int l2), some (.int l3)], [.int l3, .int 1, .int l2, .ref l1], w)) rfl).trans ?_
    refine (val_g (c2 := (90, d + 6, 54, [some (.ref l0), some (.ref l1), some (.int l2), some (.int l3)], [.ref l0, .int l3, .int 1, .int l2, .ref l1], w)) rfl).trans ?_
    refine (val_g (c2 := (90, d + 6, 55, [some (.ref l0), some (.ref l1), some (.int l2), some (.int l3)], [.int 1, .ref l0, .int l3, .int 1, .int l2, .ref l1], w)) rfl).trans ?_
    refine (val_g (c2 := (90, d + 6, 56, [some (.ref l0), some (.ref l1), some (.int l2), some (.int l3)], [.ref l0, .int 1, .ref l0, .int l3, .int 1, .int l2, .ref l1], w)) rfl).trans ?_
    refine (val_gf rfl hk_l0 rfl).trans ?_
    show val (90, d + 6, 59, [some (.ref l0), some (.ref l1), some (.int l2), some (.int l3)], [.int (gI w l0 4), .int 1, .ref l0, .int l3, .int 1, .int l2, .ref l1], w) = _
    refine (val_g (c2 := (90, d + 6, 60, [some (.ref l0), some (.ref l1), some (.int l2), some (.int l3)], [.int l3, .int (gI w l0 4), .int 1, .ref l0, .int l3, .int 1, .int l2, .ref l1], w)) rfl).trans ?_
    rfl
theorem tr_90_66 (d : Nat) (w : Wd) (l0 : Nat) (l1 : Nat) (l2 : Int32) (l3 : Int32)     : val (90, d + 6, 66, [some (.ref l0), some (.ref l1), some (.int l2), some (.int l3)], [], w) = val (90, d + 6, 73, [some (.ref l0), some (.ref l1), some (.int l2), some (.int l3)], [], w) := by
  refine (val_g (c2 := (90, d + 6, 73, [some (.ref l0), some (.ref l1), some (.int l2), some (.int l3)], [], w)) rfl).trans ?_
  rfl
theorem tr_90_73 (d : Nat) (w : Wd) (l0 : Nat) (l1 : Nat) (l2 : Int32) (l3 : Int32)     : val (90, d + 6, 73, [some (.ref l0), some (.ref l1), some (.int l2), some (.int l3)], [], w) = some (none, w) := by
  exact val_r rfl
/-- BelfryHouse$Reader.readChange(I)I -/
theorem tr_91 (d : Nat) (w : Wd) (o : Nat) (x0 : Int32)    (m_o : Nat) (hk_o : wK w o = (4, m_o)) : val (91, d + 6, 0, [some (.ref o), some (.int x0), none, none], [], w) = val (91, d + 6, 4, [some (.ref o), some (.int x0), none, none], [.int (gI w o 4)], w) := by
  refine (val_g (c2 := (91, d + 6, 1, [some (.ref o), some (.int x0), none, none], [.ref o], w)) rfl).trans ?_
  refine (val_gf rfl hk_o rfl).trans ?_
  show val (91, d + 6, 4, [some (.ref o), some (.int x0), none, none], [.int (gI w o 4)], w) = _
  rfl
theorem tr_91_7 (d : Nat) (w : Wd) (l0 : Nat) (l1 : Int32) (s0 : Int32)    (m_l0 : Nat) (hk_l0 : wK w l0 = (4, m_l0)) (q0_l0 : Nat) (hr0_l0 : gR w l0 0 = some q0_l0) (m_q0_l0 : Nat) (hk_q0_l0 : wK w q0_l0 = (3, m_q0_l0)) : val (91, d + 6, 7, [some (.ref l0), some (.int l1), none, none], [.int s0], w) = (if 40 ≤ (gI w q0_l0 2) then val (91, d + 6, 27, [some (.ref l0), some (.int l1), some (.int s0), none], [.ref l0], w) else (if l1 < 6 then val (91, d + 6, 48, [some (.ref l0), some (.int l1), some (.int s0), none], [.ref 11, .ref l0], (sI w q0_l0 2 (((gI w q0_l0 2) + 1)))) else val (91, d + 6, 27, [some (.ref l0), some (.int l1), some (.int s0), none], [.ref l0], w))) := by
  refine (val_g (c2 := (91, d + 6, 8, [some (.ref l0), some (.int l1), some (.int s0), none], [], w)) rfl).trans ?_
  refine (val_g (c2 := (91, d + 6, 9, [some (.ref l0), some (.int l1), some (.int s0), none], [.ref l0], w)) rfl).trans ?_
  refine (val_gf rfl hk_l0 (fvR hr0_l0)).trans ?_
  show val (91, d + 6, 12, [some (.ref l0), some (.int l1), some (.int s0), none], [.ref q0_l0], w) = _
  refine (val_gf rfl hk_q0_l0 rfl).trans ?_
  show val (91, d + 6, 15, [some (.ref l0), some (.int l1), some (.int s0), none], [.int (gI w q0_l0 2)], w) = _
  refine (val_g (c2 := (91, d + 6, 17, [some (.ref l0), some (.int l1), some (.int s0), none], [.int 40, .int (gI w q0_l0 2)], w)) rfl).trans ?_
  by_cases hc538 : 40 ≤ (gI w q0_l0 2)
  · refine ((val_ic_ge rfl).trans (if_pos hc538)).trans ?_
    show val (91, d + 6, 26, [some (.ref l0), some (.int l1), some (.int s0), none], [], w) = _
    refine Eq.trans ?_ (if_pos hc538).symm
    refine (val_g (c2 := (91, d + 6, 27, [some (.ref l0), some (.int l1), some (.int s0), none], [.ref l0], w)) rfl).trans ?_
    rfl
  · refine ((val_ic_ge rfl).trans (if_neg hc538)).trans ?_
    show val (91, d + 6, 20, [some (.ref l0), some (.int l1), some (.int s0), none], [], w) = _
    refine Eq.trans ?_ (if_neg hc538).symm
    refine (val_g (c2 := (91, d + 6, 21, [some (.ref l0), some (.int l1), some (.int s0), none], [.int l1], w)) rfl).trans ?_
    refine (val_g (c2 := (91, d + 6, 23, [some (.ref l0), some (.int l1), some (.int s0), none], [.int 6, .int l1], w)) rfl).trans ?_
    by_cases hc539 : l1 < 6
    · refine ((val_ic_lt rfl).trans (if_pos hc539)).trans ?_
      show val (91, d + 6, 32, [some (.ref l0), some (.int l1), some (.int s0), none], [], w) = _
      refine Eq.trans ?_ (if_pos hc539).symm
      refine (val_g (c2 := (91, d + 6, 33, [some (.ref l0), some (.int l1), some (.int s0), none], [.ref l0], w)) rfl).trans ?_
      refine (val_gf rfl hk_l0 (fvR hr0_l0)).trans ?_
      show val (91, d + 6, 36, [some (.ref l0), some (.int l1), some (.int s0), none], [.ref q0_l0], w) = _
      refine (val_g (c2 := (91, d + 6, 37, [some (.ref l0), some (.int l1), some (.int s0), none], [.ref q0_l0, .ref q0_l0], w)) rfl).trans ?_
      refine (val_gf rfl hk_q0_l0 rfl).trans ?_
      show val (91, d + 6, 40, [some (.ref l0), some (.int l1), some (.int s0), none], [.int (gI w q0_l0 2), .ref q0_l0], w) = _
      refine (val_g (c2 := (91, d + 6, 41, [some (.ref l0), some (.int l1), some (.int s0), none], [.int 1, .int (gI w q0_l0 2), .ref q0_l0], w)) rfl).trans ?_
      refine (val_g (c2 := (91, d + 6, 42, [some (.ref l0), some (.int l1), some (.int s0), none], [.int ((gI w q0_l0 2) + 1), .ref q0_l0], w)) rfl).trans ?_
      refine (val_pf rfl hk_q0_l0 rfl).trans ?_
      show val (91, d + 6, 45, [some (.ref l0), some (.int l1), some (.int s0), none], [], (sI w q0_l0 2 (((gI w q0_l0 2) + 1)))) = _
      refine (val_g (c2 := (91, d + 6, 46, [some (.ref l0), some (.int l1), some (.int s0), none], [.ref l0], (sI w q0_l0 2 (((gI w q0_l0 2) + 1))))) rfl).trans ?_
      refine (val_g (c2 := (91, d + 6, 48, [some (.ref l0), some (.int l1), some (.int s0), none], [.ref 11, .ref l0], (sI w q0_l0 2 (((gI w q0_l0 2) + 1))))) rfl).trans ?_
      rfl
    · refine ((val_ic_lt rfl).trans (if_neg hc539)).trans ?_
      show val (91, d + 6, 26, [some (.ref l0), some (.int l1), some (.int s0), none], [], w) = _
      refine Eq.trans ?_ (if_neg hc539).symm
      refine (val_g (c2 := (91, d + 6, 27, [some (.ref l0), some (.int l1), some (.int s0), none], [.ref l0], w)) rfl).trans ?_
      rfl
theorem tr_91_30 (d : Nat) (w : Wd) (l0 : Nat) (l1 : Int32) (l2 : Int32)     : val (91, d + 6, 30, [some (.ref l0), some (.int l1), some (.int l2), none], [], w) = some (some (.int l2), w) := by
  refine (val_g (c2 := (91, d + 6, 31, [some (.ref l0), some (.int l1), some (.int l2), none], [.int l2], w)) rfl).trans ?_
  exact val_r rfl
theorem tr_91_51 (d : Nat) (w : Wd) (l0 : Nat) (l1 : Int32) (l2 : Int32) (s0 : Int32)    (m_l0 : Nat) (hk_l0 : wK w l0 = (4, m_l0)) : val (91, d + 6, 51, [some (.ref l0), some (.int l1), some (.int l2), none], [.int s0], w) = (if s0 = 0 then val (91, d + 6, 71, [some (.ref l0), some (.int l1), some (.int l2), none], [.ref 12, .ref l0], w) else val (91, d + 6, 64, [some (.ref l0), some (.int l1), some (.int l2), none], [.int (gI w l0 4), .int 0, .int l2, .int (gI w l0 4)], w)) := by
  by_cases hc540 : s0 = 0
  · refine ((val_if_eq rfl).trans (if_pos hc540)).trans ?_
    show val (91, d + 6, 68, [some (.ref l0), some (.int l1), some (.int l2), none], [], w) = _
    refine Eq.trans ?_ (if_pos hc540).symm
    refine (val_g (c2 := (91, d + 6, 69, [some (.ref l0), some (.int l1), some (.int l2), none], [.ref l0], w)) rfl).trans ?_
    refine (val_g (c2 := (91, d + 6, 71, [some (.ref l0), some (.int l1), some (.int l2), none], [.ref 12, .ref l0], w)) rfl).trans ?_
    rfl
  · refine ((val_if_eq rfl).trans (if_neg hc540)).trans ?_
    show val (91, d + 6, 54, [some (.ref l0), some (.int l1), some (.int l2), none], [], w) = _
    refine Eq.trans ?_ (if_neg hc540).symm
    refine (val_g (c2 := (91, d + 6, 55, [some (.ref l0), some (.int l1), some (.int l2), none], [.ref l0], w)) rfl).trans ?_
    refine (val_gf rfl hk_l0 rfl).trans ?_
    show val (91, d + 6, 58, [some (.ref l0), some (.int l1), some (.int l2), none], [.int (gI w l0 4)], w) = _
    refine (val_g (c2 := (91, d + 6, 59, [some (.ref l0), some (.int l1), some (.int l2), none], [.int l2, .int (gI w l0 4)], w)) rfl).trans ?_
    refine (val_g (c2 := (91, d + 6, 60, [some (.ref l0), some (.int l1), some (.int l2), none], [.int 0, .int l2, .int (gI w l0 4)], w)) rfl).trans ?_
    refine (val_g (c2 := (91, d + 6, 61, [some (.ref l0), some (.int l1), some (.int l2), none], [.ref l0, .int 0, .int l2, .int (gI w l0 4)], w)) rfl).trans ?_
    refine (val_gf rfl hk_l0 rfl).trans ?_
    show val (91, d + 6, 64, [some (.ref l0), some (.int l1), some (.int l2), none], [.int (gI w l0 4), .int 0, .int l2, .int (gI w l0 4)], w) = _
    rfl
theorem tr_91_67 (d : Nat) (w : Wd) (l0 : Nat) (l1 : Int32) (l2 : Int32) (s0 : Int32)     : val (91, d + 6, 67, [some (.ref l0), some (.int l1), some (.int l2), none], [.int s0], w) = some (some (.int s0), w) := by
  exact val_r rfl
theorem tr_91_74 (d : Nat) (w : Wd) (l0 : Nat) (l1 : Int32) (l2 : Int32) (s0 : Int32)     : val (91, d + 6, 74, [some (.ref l0), some (.int l1), some (.int l2), none], [.int s0], w) = (if s0 = 0 then val (91, d + 6, 86, [some (.ref l0), some (.int l1), some (.int l2), none], [.ref 13, .ref l0], w) else val (91, d + 6, 79, [some (.ref l0), some (.int l1), some (.int l2), none], [.int l2, .ref l0], w)) := by
  by_cases hc541 : s0 = 0
  · refine ((val_if_eq rfl).trans (if_pos hc541)).trans ?_
    show val (91, d + 6, 83, [some (.ref l0), some (.int l1), some (.int l2), none], [], w) = _
    refine Eq.trans ?_ (if_pos hc541).symm
    refine (val_g (c2 := (91, d + 6, 84, [some (.ref l0), some (.int l1), some (.int l2), none], [.ref l0], w)) rfl).trans ?_
    refine (val_g (c2 := (91, d + 6, 86, [some (.ref l0), some (.int l1), some (.int l2), none], [.ref 13, .ref l0], w)) rfl).trans ?_
    rfl
  · refine ((val_if_eq rfl).trans (if_neg hc541)).trans ?_
    show val (91, d + 6, 77, [some (.ref l0), some (.int l1), some (.int l2), none], [], w) = _
    refine Eq.trans ?_ (if_neg hc541).symm
    refine (val_g (c2 := (91, d + 6, 78, [some (.ref l0), some (.int l1), some (.int l2), none], [.ref l0], w)) rfl).trans ?_
    refine (val_g (c2 := (91, d + 6, 79, [some (.ref l0), some (.int l1), some (.int l2), none], [.int l2, .ref l0], w)) rfl).trans ?_
    rfl
theorem tr_91_82 (d : Nat) (w : Wd) (l0 : Nat) (l1 : Int32) (l2 : Int32) (s0 : Int32)     : val (91, d + 6, 82, [some (.ref l0), some (.int l1), some (.int l2), none], [.int s0], w) = some (some (.int s0), w) := by
  exact val_r rfl
theorem tr_91_89 (d : Nat) (w : Wd) (l0 : Nat) (l1 : Int32) (l2 : Int32) (s0 : Int32)     : val (91, d + 6, 89, [some (.ref l0), some (.int l1), some (.int l2), none], [.int s0], w) = (if s0 = 0 then val (91, d + 6, 101, [some (.ref l0), some (.int l1), some (.int l2), none], [.ref 14, .ref l0], w) else val (91, d + 6, 94, [some (.ref l0), some (.int l1), some (.int l2), none], [.int l2, .ref l0], w)) := by
  by_cases hc542 : s0 = 0
  · refine ((val_if_eq rfl).trans (if_pos hc542)).trans ?_
    show val (91, d + 6, 98, [some (.ref l0), some (.int l1), some (.int l2), none], [], w) = _
    refine Eq.trans ?_ (if_pos hc542).symm
    refine (val_g (c2 := (91, d + 6, 99, [some (.ref l0), some (.int l1), some (.int l2), none], [.ref l0], w)) rfl).trans ?_
    refine (val_g (c2 := (91, d + 6, 101, [some (.ref l0), some (.int l1), some (.int l2), none], [.ref 14, .ref l0], w)) rfl).trans ?_
    rfl
  · refine ((val_if_eq rfl).trans (if_neg hc542)).trans ?_
    show val (91, d + 6, 92, [some (.ref l0), some (.int l1), some (.int l2), none], [], w) = _
    refine Eq.trans ?_ (if_neg hc542).symm
    refine (val_g (c2 := (91, d + 6, 93, [some (.ref l0), some (.int l1), some (.int l2), none], [.ref l0], w)) rfl).trans ?_
    refine (val_g (c2 := (91, d + 6, 94, [some (.ref l0), some (.int l1), some (.int l2), none], [.int l2, .ref l0], w)) rfl).trans ?_
    rfl
theorem tr_91_97 (d : Nat) (w : Wd) (l0 : Nat) (l1 : Int32) (l2 : Int32) (s0 : Int32)     : val (91, d + 6, 97, [some (.ref l0), some (.int l1), some (.int l2), none], [.int s0], w) = some (some (.int s0), w) := by
  exact val_r rfl
theorem tr_91_104 (d : Nat) (w : Wd) (l0 : Nat) (l1 : Int32) (l2 : Int32) (s0 : Int32)     : val (91, d + 6, 104, [some (.ref l0), some (.int l1), some (.int l2), none], [.int s0], w) = (if s0 = 0 then val (91, d + 6, 116, [some (.ref l0), some (.int l1), some (.int l2), none], [.ref 15, .ref l0], w) else val (91, d + 6, 109, [some (.ref l0), some (.int l1), some (.int l2), none], [.int l2, .ref l0], w)) := by
  by_cases hc543 : s0 = 0
  · refine ((val_if_eq rfl).trans (if_pos hc543)).trans ?_
    show val (91, d + 6, 113, [some (.ref l0), some (.int l1), some (.int l2), none], [], w) = _
    refine Eq.trans ?_ (if_pos hc543).symm
    refine (val_g (c2 := (91, d + 6, 114, [some (.ref l0), some (.int l1), some (.int l2), none], [.ref l0], w)) rfl).trans ?_
    refine (val_g (c2 := (91, d + 6, 116, [some (.ref l0), some (.int l1), some (.int l2), none], [.ref 15, .ref l0], w)) rfl).trans ?_
    rfl
  · refine ((val_if_eq rfl).trans (if_neg hc543)).trans ?_
    show val (91, d + 6, 107, [some (.ref l0), some (.int l1), some (.int l2), none], [], w) = _
    refine Eq.trans ?_ (if_neg hc543).symm
    refine (val_g (c2 := (91, d + 6, 108, [some (.ref l0), some (.int l1), some (.int l2), none], [.ref l0], w)) rfl).trans ?_
    refine (val_g (c2 := (91, d + 6, 109, [some (.ref l0), some (.int l1), some (.int l2), none], [.int l2, .ref l0], w)) rfl).trans ?_
    rfl
theorem tr_91_112 (d : Nat) (w : Wd) (l0 : Nat) (l1 : Int32) (l2 : Int32) (s0 : Int32)     : val (91, d + 6, 112, [some (.ref l0), some (.int l1), some (.int l2), none], [.int s0], w) = some (some (.int s0), w) := by
  exact val_r rfl
theorem tr_91_119 (d : Nat) (w : Wd) (l0 : Nat) (l1 : Int32) (l2 : Int32) (s0 : Int32)     : val (91, d + 6, 119, [some (.ref l0), some (.int l1), some (.int l2), none], [.int s0], w) = (if s0 = 0 then val (91, d + 6, 127, [some (.ref l0), some (.int l1), some (.int l2), none], [.ref 16, .ref l0], w) else some (some (.int l2), w)) := by
  by_cases hc544 : s0 = 0
  · refine ((val_if_eq rfl).trans (if_pos hc544)).trans ?_
    show val (91, d + 6, 124, [some (.ref l0), some (.int l1), some (.int l2), none], [], w) = _
    refine Eq.trans ?_ (if_pos hc544).symm
    refine (val_g (c2 := (91, d + 6, 125, [some (.ref l0), some (.int l1), some (.int l2), none], [.ref l0], w)) rfl).trans ?_
    refine (val_g (c2 := (91, d + 6, 127, [some (.ref l0), some (.int l1), some (.int l2), none], [.ref 16, .ref l0], w)) rfl).trans ?_
    rfl
  · refine ((val_if_eq rfl).trans (if_neg hc544)).trans ?_
    show val (91, d + 6, 122, [some (.ref l0), some (.int l1), some (.int l2), none], [], w) = _
    refine Eq.trans ?_ (if_neg hc544).symm
    refine (val_g (c2 := (91, d + 6, 123, [some (.ref l0), some (.int l1), some (.int l2), none], [.int l2], w)) rfl).trans ?_
    exact val_r rfl
theorem tr_91_130 (d : Nat) (w : Wd) (l0 : Nat) (l1 : Int32) (l2 : Int32) (s0 : Int32)     : val (91, d + 6, 130, [some (.ref l0), some (.int l1), some (.int l2), none], [.int s0], w) = (if s0 = 0 then val (91, d + 6, 154, [some (.ref l0), some (.int l1), some (.int l2), none], [.ref 17, .ref l0], w) else val (91, d + 6, 137, [some (.ref l0), some (.int l1), some (.int l2), none], [.int (l1 + 1), .ref l0], w)) := by
  by_cases hc545 : s0 = 0
  · refine ((val_if_eq rfl).trans (if_pos hc545)).trans ?_
    show val (91, d + 6, 151, [some (.ref l0), some (.int l1), some (.int l2), none], [], w) = _
    refine Eq.trans ?_ (if_pos hc545).symm
    refine (val_g (c2 := (91, d + 6, 152, [some (.ref l0), some (.int l1), some (.int l2), none], [.ref l0], w)) rfl).trans ?_
    refine (val_g (c2 := (91, d + 6, 154, [some (.ref l0), some (.int l1), some (.int l2), none], [.ref 17, .ref l0], w)) rfl).trans ?_
    rfl
  · refine ((val_if_eq rfl).trans (if_neg hc545)).trans ?_
    show val (91, d + 6, 133, [some (.ref l0), some (.int l1), some (.int l2), none], [], w) = _
    refine Eq.trans ?_ (if_neg hc545).symm
    refine (val_g (c2 := (91, d + 6, 134, [some (.ref l0), some (.int l1), some (.int l2), none], [.ref l0], w)) rfl).trans ?_
    refine (val_g (c2 := (91, d + 6, 135, [some (.ref l0), some (.int l1), some (.int l2), none], [.int l1, .ref l0], w)) rfl).trans ?_
    refine (val_g (c2 := (91, d + 6, 136, [some (.ref l0), some (.int l1), some (.int l2), none], [.int 1, .int l1, .ref l0], w)) rfl).trans ?_
    refine (val_g (c2 := (91, d + 6, 137, [some (.ref l0), some (.int l1), some (.int l2), none], [.int (l1 + 1), .ref l0], w)) rfl).trans ?_
    rfl
theorem tr_91_140 (d : Nat) (w : Wd) (l0 : Nat) (l1 : Int32) (l2 : Int32) (s0 : Int32)    (m_l0 : Nat) (hk_l0 : wK w l0 = (4, m_l0)) : val (91, d + 6, 140, [some (.ref l0), some (.int l1), some (.int l2), none], [.int s0], w) = val (91, d + 6, 147, [some (.ref l0), some (.int l1), some (.int l2), some (.int s0)], [.int s0, .int s0, .int (gI w l0 4)], w) := by
  refine (val_g (c2 := (91, d + 6, 141, [some (.ref l0), some (.int l1), some (.int l2), some (.int s0)], [], w)) rfl).trans ?_
  refine (val_g (c2 := (91, d + 6, 142, [some (.ref l0), some (.int l1), some (.int l2), some (.int s0)], [.ref l0], w)) rfl).trans ?_
  refine (val_gf rfl hk_l0 rfl).trans ?_
  show val (91, d + 6, 145, [some (.ref l0), some (.int l1), some (.int l2), some (.int s0)], [.int (gI w l0 4)], w) = _
  refine (val_g (c2 := (91, d + 6, 146, [some (.ref l0), some (.int l1), some (.int l2), some (.int s0)], [.int s0, .int (gI w l0 4)], w)) rfl).trans ?_
  refine (val_g (c2 := (91, d + 6, 147, [some (.ref l0), some (.int l1), some (.int l2), some (.int s0)], [.int s0, .int s0, .int (gI w l0 4)], w)) rfl).trans ?_
  rfl
theorem tr_91_150 (d : Nat) (w : Wd) (l0 : Nat) (l1 : Int32) (l2 : Int32) (l3 : Int32) (s0 : Int32)     : val (91, d + 6, 150, [some (.ref l0), some (.int l1), some (.int l2), some (.int l3)], [.int s0], w) = some (some (.int s0), w) := by
  exact val_r rfl
theorem tr_91_157 (d : Nat) (w : Wd) (l0 : Nat) (l1 : Int32) (l2 : Int32) (s0 : Int32)    (m_l0 : Nat) (hk_l0 : wK w l0 = (4, m_l0)) : val (91, d + 6, 157, [some (.ref l0), some (.int l1), some (.int l2), none], [.int s0], w) = (if s0 = 0 then val (91, d + 6, 178, [some (.ref l0), some (.int l1), some (.int l2), none], [.int 40, .ref l0], w) else val (91, d + 6, 168, [some (.ref l0), some (.int l1), some (.int l2), none], [.int (l1 + 1), .ref l0, .int (gI w l0 4)], w)) := by
  by_cases hc546 : s0 = 0
  · refine ((val_if_eq rfl).trans (if_pos hc546)).trans ?_
    show val (91, d + 6, 175, [some (.ref l0), some (.int l1), some (.int l2), none], [], w) = _
    refine Eq.trans ?_ (if_pos hc546).symm
    refine (val_g (c2 := (91, d + 6, 176, [some (.ref l0), some (.int l1), some (.int l2), none], [.ref l0], w)) rfl).trans ?_
    refine (val_g (c2 := (91, d + 6, 178, [some (.ref l0), some (.int l1), some (.int l2), none], [.int 40, .ref l0], w)) rfl).trans ?_
    rfl
  · refine ((val_if_eq rfl).trans (if_neg hc546)).trans ?_
    show val (91, d + 6, 160, [some (.ref l0), some (.int l1), some (.int l2), none], [], w) = _
    refine Eq.trans ?_ (if_neg hc546).symm
    refine (val_g (c2 := (91, d + 6, 161, [some (.ref l0), some (.int l1), some (.int l2), none], [.ref l0], w)) rfl).trans ?_
    refine (val_gf rfl hk_l0 rfl).trans ?_
    show val (91, d + 6, 164, [some (.ref l0), some (.int l1), some (.int l2), none], [.int (gI w l0 4)], w) = _
    refine (val_g (c2 := (91, d + 6, 165, [some (.ref l0), some (.int l1), some (.int l2), none], [.ref l0, .int (gI w l0 4)], w)) rfl).trans ?_
    refine (val_g (c2 := (91, d + 6, 166, [some (.ref l0), some (.int l1), some (.int l2), none], [.int l1, .ref l0, .int (gI w l0 4)], w)) rfl).trans ?_
    refine (val_g (c2 := (91, d + 6, 167, [some (.ref l0), some (.int l1), some (.int l2), none], [.int 1, .int l1, .ref l0, .int (gI w l0 4)], w)) rfl).trans ?_
    refine (val_g (c2 := (91, d + 6, 168, [some (.ref l0), some (.int l1), some (.int l2), none], [.int (l1 + 1), .ref l0, .int (gI w l0 4)], w)) rfl).trans ?_
    rfl
theorem tr_91_174 (d : Nat) (w : Wd) (l0 : Nat) (l1 : Int32) (l2 : Int32) (s0 : Int32)     : val (91, d + 6, 174, [some (.ref l0), some (.int l1), some (.int l2), none], [.int s0], w) = some (some (.int s0), w) := by
  exact val_r rfl
theorem tr_91_181 (d : Nat) (w : Wd) (l0 : Nat) (l1 : Int32) (l2 : Int32) (s0 : Int32)     : val (91, d + 6, 181, [some (.ref l0), some (.int l1), some (.int l2), none], [.int s0], w) = (if s0 = 0 then val (91, d + 6, 191, [some (.ref l0), some (.int l1), some (.int l2), none], [.ref l0], w) else val (91, d + 6, 186, [some (.ref l0), some (.int l1), some (.int l2), none], [.int l1, .ref l0], w)) := by
  by_cases hc547 : s0 = 0
  · refine ((val_if_eq rfl).trans (if_pos hc547)).trans ?_
    show val (91, d + 6, 190, [some (.ref l0), some (.int l1), some (.int l2), none], [], w) = _
    refine Eq.trans ?_ (if_pos hc547).symm
    refine (val_g (c2 := (91, d + 6, 191, [some (.ref l0), some (.int l1), some (.int l2), none], [.ref l0], w)) rfl).trans ?_
    rfl
  · refine ((val_if_eq rfl).trans (if_neg hc547)).trans ?_
    show val (91, d + 6, 184, [some (.ref l0), some (.int l1), some (.int l2), none], [], w) = _
    refine Eq.trans ?_ (if_neg hc547).symm
    refine (val_g (c2 := (91, d + 6, 185, [some (.ref l0), some (.int l1), some (.int l2), none], [.ref l0], w)) rfl).trans ?_
    refine (val_g (c2 := (91, d + 6, 186, [some (.ref l0), some (.int l1), some (.int l2), none], [.int l1, .ref l0], w)) rfl).trans ?_
    rfl
theorem tr_91_189 (d : Nat) (w : Wd) (l0 : Nat) (l1 : Int32) (l2 : Int32) (s0 : Int32)     : val (91, d + 6, 189, [some (.ref l0), some (.int l1), some (.int l2), none], [.int s0], w) = some (some (.int s0), w) := by
  exact val_r rfl
theorem tr_91_194 (d : Nat) (w : Wd) (l0 : Nat) (l1 : Int32) (l2 : Int32)     : val (91, d + 6, 194, [some (.ref l0), some (.int l1), some (.int l2), none], [], w) = some (some (.int l2), w) := by
  refine (val_g (c2 := (91, d + 6, 195, [some (.ref l0), some (.int l1), some (.int l2), none], [.int l2], w)) rfl).trans ?_
  exact val_r rfl
/-- BelfryHouse$Reader.readSome(I)I -/
theorem tr_92 (d : Nat) (w : Wd) (o : Nat) (x0 : Int32)     : val (92, d + 3, 0, [some (.ref o), some (.int x0), none, none], [], w) = val (92, d + 3, 4, [some (.ref o), some (.int x0), none, none], [.int (x0 + 1), .ref o], w) := by
  refine (val_g (c2 := (92, d + 3, 1, [some (.ref o), some (.int x0), none, none], [.ref o], w)) rfl).trans ?_
  refine (val_g (c2 := (92, d + 3, 2, [some (.ref o), some (.int x0), none, none], [.int x0, .ref o], w)) rfl).trans ?_
  refine (val_g (c2 := (92, d + 3, 3, [some (.ref o), some (.int x0), none, none], [.int 1, .int x0, .ref o], w)) rfl).trans ?_
  refine (val_g (c2 := (92, d + 3, 4, [some (.ref o), some (.int x0), none, none], [.int (x0 + 1), .ref o], w)) rfl).trans ?_
  rfl
theorem tr_92_7 (d : Nat) (w : Wd) (l0 : Nat) (l1 : Int32) (s0 : Int32)     : val (92, d + 3, 7, [some (.ref l0), some (.int l1), none, none], [.int s0], w) = val (92, d + 3, 10, [some (.ref l0), some (.int l1), some (.int s0), some (.int 1)], [], w) := by
  refine (val_g (c2 := (92, d + 3, 8, [some (.ref l0), some (.int l1), some (.int s0), none], [], w)) rfl).trans ?_
  refine (val_g (c2 := (92, d + 3, 9, [some (.ref l0), some (.int l1), some (.int s0), none], [.int 1], w)) rfl).trans ?_
  refine (val_g (c2 := (92, d + 3, 10, [some (.ref l0), some (.int l1), some (.int s0), some (.int 1)], [], w)) rfl).trans ?_
  rfl
theorem tr_92_10 (d : Nat) (w : Wd) (l0 : Nat) (l1 : Int32) (l2 : Int32) (l3 : Int32)    (m_l0 : Nat) (hk_l0 : wK w l0 = (4, m_l0)) : val (92, d + 3, 10, [some (.ref l0), some (.int l1), some (.int l2), some (.int l3)], [], w) = (if 40 < l3 then (if 0 ≤ (gI w l0 1) then val (92, d + 3, 74, [some (.ref l0), some (.int l1), some (.int l2), some (.int l3)], [], w) else val (92, d + 3, 64, [some (.ref l0), some (.int l1), some (.int l2), some (.int l3)], [.int 41, .ref l0], w)) else (if 0 ≤ (gI w l0 1) then (if 0 ≤ (gI w l0 1) then val (92, d + 3, 74, [some (.ref l0), some (.int l1), some (.int l2), some (.int l3)], [], w) else val (92, d + 3, 64, [some (.ref l0), some (.int l1), some (.int l2), some (.int l3)], [.int 41, .ref l0], w)) else val (92, d + 3, 26, [some (.ref l0), some (.int l1), some (.int l2), some (.int l3)], [.int 44, .ref l0], w))) := by
  refine (val_g (c2 := (92, d + 3, 11, [some (.ref l0), some (.int l1), some (.int l2), some (.int l3)], [.int l3], w)) rfl).trans ?_
  refine (val_g (c2 := (92, d + 3, 13, [some (.ref l0), some (.int l1), some (.int l2), some (.int l3)], [.int 40, .int l3], w)) rfl).trans ?_
  by_cases hc555 : 40 < l3
  · refine ((val_ic_gt rfl).trans (if_pos hc555)).trans ?_
    show val (92, d + 3, 54, [some (.ref l0), some (.int l1), some (.int l2), some (.int l3)], [], w) = _
    refine Eq.trans ?_ (if_pos hc555).symm
    refine (val_g (c2 := (92, d + 3, 55, [some (.ref l0), some (.int l1), some (.int l2), some (.int l3)], [.ref l0], w)) rfl).trans ?_
    refine (val_gf rfl hk_l0 rfl).trans ?_
    show val (92, d + 3, 58, [some (.ref l0), some (.int l1), some (.int l2), some (.int l3)], [.int (gI w l0 1)], w) = _
    by_cases hc556 : 0 ≤ (gI w l0 1)
    · refine ((val_if_ge rfl).trans (if_pos hc556)).trans ?_
      show val (92, d + 3, 74, [some (.ref l0), some (.int l1), some (.int l2), some (.int l3)], [], w) = _
      refine Eq.trans ?_ (if_pos hc556).symm
      rfl
    · refine ((val_if_ge rfl).trans (if_neg hc556)).trans ?_
      show val (92, d + 3, 61, [some (.ref l0), some (.int l1), some (.int l2), some (.int l3)], [], w) = _
      refine Eq.trans ?_ (if_neg hc556).symm
      refine (val_g (c2 := (92, d + 3, 62, [some (.ref l0), some (.int l1), some (.int l2), some (.int l3)], [.ref l0], w)) rfl).trans ?_
      refine (val_g (c2 := (92, d + 3, 64, [some (.ref l0), some (.int l1), some (.int l2), some (.int l3)], [.int 41, .ref l0], w)) rfl).trans ?_
      rfl
  · refine ((val_ic_gt rfl).trans (if_neg hc555)).trans ?_
    show val (92, d + 3, 16, [some (.ref l0), some (.int l1), some (.int l2), some (.int l3)], [], w) = _
    refine Eq.trans ?_ (if_neg hc555).symm
    refine (val_g (c2 := (92, d + 3, 17, [some (.ref l0), some (.int l1), some (.int l2), some (.int l3)], [.ref l0], w)) rfl).trans ?_
    refine (val_gf rfl hk_l0 rfl).trans ?_
    show val (92, d + 3, 20, [some (.ref l0), some (.int l1), some (.int l2), some (.int l3)], [.int (gI w l0 1)], w) = _
    by_cases hc557 : 0 ≤ (gI w l0 1)
    · refine ((val_if_ge rfl).trans (if_pos hc557)).trans ?_
      show val (92, d + 3, 54, [some (.ref l0), some (.int l1), some (.int l2), some (.int l3)], [], w) = _
      refine Eq.trans ?_ (if_pos hc557).symm
      refine (val_g (c2 := (92, d + 3, 55, [some (.ref l0), some (.int l1), some (.int l2), some (.int l3)], [.ref l0], w)) rfl).trans ?_
      refine (val_gf rfl hk_l0 rfl).trans ?_
      show val (92, d + 3, 58, [some (.ref l0), some (.int l1), some (.int l2), some (.int l3)], [.int (gI w l0 1)], w) = _
      by_cases hc558 : 0 ≤ (gI w l0 1)
      · refine ((val_if_ge rfl).trans (if_pos hc558)).trans ?_
        show val (92, d + 3, 74, [some (.ref l0), some (.int l1), some (.int l2), some (.int l3)], [], w) = _
        refine Eq.trans ?_ (if_pos hc558).symm
        rfl
      · refine ((val_if_ge rfl).trans (if_neg hc558)).trans ?_
        show val (92, d + 3, 61, [some (.ref l0), some (.int l1), some (.int l2), some (.int l3)], [], w) = _
        refine Eq.trans ?_ (if_neg hc558).symm
        refine (val_g (c2 := (92, d + 3, 62, [some (.ref l0), some (.int l1), some (.int l2), some (.int l3)], [.ref l0], w)) rfl).trans ?_
        refine (val_g (c2 := (92, d + 3, 64, [some (.ref l0), some (.int l1), some (.int l2), some (.int l3)], [.int 41, .ref l0], w)) rfl).trans ?_
        rfl
    · refine ((val_if_ge rfl).trans (if_neg hc557)).trans ?_
      show val (92, d + 3, 23, [some (.ref l0), some (.int l1), some (.int l2), some (.int l3)], [], w) = _
      refine Eq.trans ?_ (if_neg hc557).symm
      refine (val_g (c2 := (92, d + 3, 24, [some (.ref l0), some (.int l1), some (.int l2), some (.int l3)], [.ref l0], w)) rfl).trans ?_
      refine (val_g (c2 := (92, d + 3, 26, [some (.ref l0), some (.int l1), some (.int l2), some (.int l3)], [.int 44, .ref l0], w)) rfl).trans ?_
      rfl
theorem tr_92_29 (d : Nat) (w : Wd) (l0 : Nat) (l1 : Int32) (l2 : Int32) (l3 : Int32) (s0 : Int32)    (m_l0 : Nat) (hk_l0 : wK w l0 = (4, m_l0)) : val (92, d + 3, 29, [some (.ref l0), some (.int l1), some (.int l2), some (.int l3)], [.int s0], w) = (if s0 = 0 then (if 0 ≤ (gI w l0 1) then val (92, d + 3, 74, [some (.ref l0), some (.int l1), some (.int l2), some (.int l3)], [], w) else val (92, d + 3, 64, [some (.ref l0), some (.int l1), some (.int l2), some (.int l3)], [.int 41, .ref l0], w)) else val (92, d + 3, 41, [some (.ref l0), some (.int l1), some (.int l2), some (.int l3)], [.int (l1 + 1), .ref l0, .int l2, .int (gI w l0 4)], w)) := by
  by_cases hc559 : s0 = 0
  · refine ((val_if_eq rfl).trans (if_pos hc559)).trans ?_
    show val (92, d + 3, 54, [some (.ref l0), some (.int l1), some (.int l2), some (.int l3)], [], w) = _
    refine Eq.trans ?_ (if_pos hc559).symm
    refine (val_g (c2 := (92, d + 3, 55, [some (.ref l0), some (.int l1), some (.int l2), some (.int l3)], [.ref l0], w)) rfl).trans ?_
    refine (val_gf rfl hk_l0 rfl).trans ?_
    show val (92, d + 3, 58, [some (.ref l0), some (.int l1), some (.int l2), some (.int l3)], [.int (gI w l0 1)], w) = _
    by_cases hc560 : 0 ≤ (gI w l0 1)
    · refine ((val_if_ge rfl).trans (if_pos hc560)).trans ?_
      show val (92, d + 3, 74, [some (.ref l0), some (.int l1), some (.int l2), some (.int l3)], [], w) = _
      refine Eq.trans ?_ (if_pos hc560).symm
      rfl
    · refine ((val_if_ge rfl).trans (if_neg hc560)).trans ?_
      show val (92, d + 3, 61, [some (.ref l0), some (.int l1), some (.int l2), some (.int l3)], [], w) = _
      refine Eq.trans ?_ (if_neg hc560).symm
      refine (val_g (c2 := (92, d + 3, 62, [some (.ref l0), some (.int l1), some (.int l2), some (.int l3)], [.ref l0], w)) rfl).trans ?_
      refine (val_g (c2 := (92, d + 3, 64, [some (.ref l0), some (.int l1), some (.int l2), some (.int l3)], [.int 41, .ref l0], w)) rfl).trans ?_
      rfl
  · refine ((val_if_eq rfl).trans (if_neg hc559)).trans ?_
    show val (92, d + 3, 32, [some (.ref l0), some (.int l1), some (.int l2), some (.int l3)], [], w) = _
    refine Eq.trans ?_ (if_neg hc559).symm
    refine (val_g (c2 := (92, d + 3, 33, [some (.ref l0), some (.int l1), some (.int l2), some (.int l3)], [.ref l0], w)) rfl).trans ?_
    refine (val_gf rfl hk_l0 rfl).trans ?_
    show val (92, d + 3, 36, [some (.ref l0), some (.int l1), some (.int l2), some (.int l3)], [.int (gI w l0 4)], w) = _
    refine (val_g (c2 := (92, d + 3, 37, [some (.ref l0), some (.int l1), some (.int l2), some (.int l3)], [.int l2, .int (gI w l0 4)], w)) rfl).trans ?_
    refine (val_g (c2 := (92, d + 3, 38, [some (.ref l0), some (.int l1), some (.int l2), some (.int l3)], [.ref l0, .int l2, .int (gI w l0 4)], w)) rfl).trans ?_
    refine (val_g (c2 := (92, d + 3, 39, [some (.ref l0), some (.int l1), some (.int l2), some (.int l3)], [.int l1, .ref l0, .int l2, .int (gI w l0 4)], w)) rfl).trans ?_
    refine (val_g (c2 := (92, d + 3, 40, [some (.ref l0), some (.int l1), some (.int l2), some (.int l3)], [.int 1, .int l1, .ref l0, .int l2, .int (gI w l0 4)], w)) rfl).trans ?_
    refine (val_g (c2 := (92, d + 3, 41, [some (.ref l0), some (.int l1), some (.int l2), some (.int l3)], [.int (l1 + 1), .ref l0, .int l2, .int (gI w l0 4)], w)) rfl).trans ?_
    rfl
theorem tr_92_47 (d : Nat) (w : Wd) (l0 : Nat) (l1 : Int32) (l2 : Int32) (l3 : Int32) (s0 : Int32)     : val (92, d + 3, 47, [some (.ref l0), some (.int l1), some (.int l2), some (.int l3)], [.int s0], w) = val (92, d + 3, 10, [some (.ref l0), some (.int l1), some (.int s0), some (.int (l3 + 1))], [], w) := by
  refine (val_g (c2 := (92, d + 3, 48, [some (.ref l0), some (.int l1), some (.int s0), some (.int l3)], [], w)) rfl).trans ?_
  refine (val_g (c2 := (92, d + 3, 51, [some (.ref l0), some (.int l1), some (.int s0), some (.int (l3 + 1))], [], w)) rfl).trans ?_
  refine (val_g (c2 := (92, d + 3, 10, [some (.ref l0), some (.int l1), some (.int s0), some (.int (l3 + 1))], [], w)) rfl).trans ?_
  rfl
theorem tr_92_67 (d : Nat) (w : Wd) (l0 : Nat) (l1 : Int32) (l2 : Int32) (l3 : Int32) (s0 : Int32)     : val (92, d + 3, 67, [some (.ref l0), some (.int l1), some (.int l2), some (.int l3)], [.int s0], w) = (if ¬ s0 = 0 then val (92, d + 3, 74, [some (.ref l0), some (.int l1), some (.int l2), some (.int l3)], [], w) else val (92, d + 3, 71, [some (.ref l0), some (.int l1), some (.int l2), some (.int l3)], [.ref l0], w)) := by
  by_cases hc561 : ¬ s0 = 0
  · refine ((val_if_ne rfl).trans (if_pos hc561)).trans ?_
    show val (92, d + 3, 74, [some (.ref l0), some (.int l1), some (.int l2), some (.int l3)], [], w) = _
    refine Eq.trans ?_ (if_pos hc561).symm
    rfl
  · refine ((val_if_ne rfl).trans (if_neg hc561)).trans ?_
    show val (92, d + 3, 70, [some (.ref l0), some (.int l1), some (.int l2), some (.int l3)], [], w) = _
    refine Eq.trans ?_ (if_neg hc561).symm
    refine (val_g (c2 := (92, d + 3, 71, [some (.ref l0), some (.int l1), some (.int l2), some (.int l3)], [.ref l0], w)) rfl).trans ?_
    rfl
theorem tr_92_74 (d : Nat) (w : Wd) (l0 : Nat) (l1 : Int32) (l2 : Int32) (l3 : Int32)     : val (92, d + 3, 74, [some (.ref l0), some (.int l1), some (.int l2), some (.int l3)], [], w) = some (some (.int l2), w) := by
  refine (val_g (c2 := (92, d + 3, 75, [some (.ref l0), some (.int l1), some (.int l2), some (.int l3)], [.int l2], w)) rfl).trans ?_
  exact val_r rfl
/-- BelfryHouse$Reader.readPlaces(I)I -/
theorem tr_93 (d : Nat) (w : Wd) (o : Nat) (x0 : Int32)    (m_o : Nat) (hk_o : wK w o = (4, m_o)) : val (93, d + 3, 0, [some (.ref o), some (.int x0), none, none, none, none], [], w) = (if (gI w o 5) = 3 then val (93, d + 3, 24, [some (.ref o), some (.int x0), some (.int x0), some (.int 0), some (.int (gI w o 6)), none], [], w) else val (93, d + 3, 9, [some (.ref o), some (.int x0), none, none, none, none], [.ref o], w)) := by
  refine (val_g (c2 := (93, d + 3, 1, [some (.ref o), some (.int x0), none, none, none, none], [.ref o], w)) rfl).trans ?_
  refine (val_gf rfl hk_o rfl).trans ?_
  show val (93, d + 3, 4, [some (.ref o), some (.int x0), none, none, none, none], [.int (gI w o 5)], w) = _
  refine (val_g (c2 := (93, d + 3, 5, [some (.ref o), some (.int x0), none, none, none, none], [.int 3, .int (gI w o 5)], w)) rfl).trans ?_
  by_cases hc573 : (gI w o 5) = 3
  · refine ((val_ic_eq rfl).trans (if_pos hc573)).trans ?_
    show val (93, d + 3, 14, [some (.ref o), some (.int x0), none, none, none, none], [], w) = _
    refine Eq.trans ?_ (if_pos hc573).symm
    refine (val_g (c2 := (93, d + 3, 15, [some (.ref o), some (.int x0), none, none, none, none], [.int x0], w)) rfl).trans ?_
    refine (val_g (c2 := (93, d + 3, 16, [some (.ref o), some (.int x0), some (.int x0), none, none, none], [], w)) rfl).trans ?_
    refine (val_g (c2 := (93, d + 3, 17, [some (.ref o), some (.int x0), some (.int x0), none, none, none], [.int 0], w)) rfl).trans ?_
    refine (val_g (c2 := (93, d + 3, 18, [some (.ref o), some (.int x0), some (.int x0), some (.int 0), none, none], [], w)) rfl).trans ?_
    refine (val_g (c2 := (93, d + 3, 19, [some (.ref o), some (.int x0), some (.int x0), some (.int 0), none, none], [.ref o], w)) rfl).trans ?_
    refine (val_gf rfl hk_o rfl).trans ?_
    show val (93, d + 3, 22, [some (.ref o), some (.int x0), some (.int x0), some (.int 0), none, none], [.int (gI w o 6)], w) = _
    refine (val_g (c2 := (93, d + 3, 24, [some (.ref o), some (.int x0), some (.int x0), some (.int 0), some (.int (gI w o 6)), none], [], w)) rfl).trans ?_
    rfl
  · refine ((val_ic_eq rfl).trans (if_neg hc573)).trans ?_
    show val (93, d + 3, 8, [some (.ref o), some (.int x0), none, none, none, none], [], w) = _
    refine Eq.trans ?_ (if_neg hc573).symm
    refine (val_g (c2 := (93, d + 3, 9, [some (.ref o), some (.int x0), none, none, none, none], [.ref o], w)) rfl).trans ?_
    rfl
theorem tr_93_12 (d : Nat) (w : Wd) (l0 : Nat) (l1 : Int32)     : val (93, d + 3, 12, [some (.ref l0), some (.int l1), none, none, none, none], [], w) = some (some (.int l1), w) := by
  refine (val_g (c2 := (93, d + 3, 13, [some (.ref l0), some (.int l1), none, none, none, none], [.int l1], w)) rfl).trans ?_
  exact val_r rfl
theorem tr_93_24 (d : Nat) (w : Wd) (l0 : Nat) (l1 : Int32) (l2 : Int32) (l3 : Int32) (l4 : Int32) (l5 : Option Value)   (m_l0 : Nat) (hk_l0 : wK w l0 = (4, m_l0)) (q2_l0 : Nat) (hr2_l0 : gR w l0 2 = some q2_l0) (m_q2_l0 : Nat) (hk_q2_l0 : wK w q2_l0 = (21, m_q2_l0)) (hy7 : (¬ ((gI w l0 7) ≤ l4)) → inB l4 m_q2_l0 = true) : val (93, d + 3, 24, [some (.ref l0), some (.int l1), some (.int l2), some (.int l3), some (.int l4), l5], [], w) = (if (gI w l0 7) ≤ l4 then (if (((gI w l0 4) - l3) &&& 1) = 0 then val (93, d + 3, 117, [some (.ref l0), some (.int l1), some (.int l2), some (.int l3), some (.int l4), l5], [.ref l0], w) else val (93, d + 3, 110, [some (.ref l0), some (.int l1), some (.int l2), some (.int l3), some (.int l4), l5], [.ref l0], w)) else (if ((gI w q2_l0 (l4).toNatClampNeg) - 48) ≤ l3 then val (93, d + 3, 70, [some (.ref l0), some (.int l1), some (.int l2), some (.int l3), some (.int l4), some (.int ((gI w q2_l0 (l4).toNatClampNeg) - 48))], [.ref l0], w) else (if (gI w l0 4) < ((gI w q2_l0 (l4).toNatClampNeg) - 48) then val (93, d + 3, 70, [some (.ref l0), some (.int l1), some (.int l2), some (.int l3), some (.int l4), some (.int ((gI w q2_l0 (l4).toNatClampNeg) - 48))], [.ref l0], w) else (if ¬ ((((gI w q2_l0 (l4).toNatClampNeg) - 48) - l3) &&& 1) = 0 then val (93, d + 3, 85, [some (.ref l0), some (.int l1), some (.int l2), some (.int l3), some (.int l4), some (.int ((gI w q2_l0 (l4).toNatClampNeg) - 48))], [.int (((gI w q2_l0 (l4).toNatClampNeg) - 48) - 1), .int l3, .int l2, .int (gI w l0 4)], w) else val (93, d + 3, 70, [some (.ref l0), some (.int l1), some (.int l2), some (.int l3), some (.int l4), some (.int ((gI w q2_l0 (l4).toNatClampNeg) - 48))], [.ref l0], w))))) := by
  refine (val_g (c2 := (93, d + 3, 26, [some (.ref l0), some (.int l1), some (.int l2), some (.int l3), some (.int l4), l5], [.int l4], w)) rfl).trans ?_
  refine (val_g (c2 := (93, d + 3, 27, [some (.ref l0), some (.int l1), some (.int l2), some (.int l3), some (.int l4), l5], [.ref l0, .int l4], w)) rfl).trans ?_
  refine (val_gf rfl hk_l0 rfl).trans ?_
  show val (93, d + 3, 30, [some (.ref l0), some (.int l1), some (.int l2), some (.int l3), some (.int l4), l5], [.int (gI w l0 7), .int l4], w) = _
  by_cases hc574 : (gI w l0 7) ≤ l4
  · refine ((val_ic_ge rfl).trans (if_pos hc574)).trans ?_
    show val (93, d + 3, 98, [some (.ref l0), some (.int l1), some (.int l2), some (.int l3), some (.int l4), l5], [], w) = _
    refine Eq.trans ?_ (if_pos hc574).symm
    refine (val_g (c2 := (93, d + 3, 99, [some (.ref l0), some (.int l1), some (.int l2), some (.int l3), some (.int l4), l5], [.ref l0], w)) rfl).trans ?_
    refine (val_gf rfl hk_l0 rfl).trans ?_
    show val (93, d + 3, 102, [some (.ref l0), some (.int l1), some (.int l2), some (.int l3), some (.int l4), l5], [.int (gI w l0 4)], w) = _
    refine (val_g (c2 := (93, d + 3, 103, [some (.ref l0), some (.int l1), some (.int l2), some (.int l3), some (.int l4), l5], [.int l3, .int (gI w l0 4)], w)) rfl).trans ?_
    refine (val_g (c2 := (93, d + 3, 104, [some (.ref l0), some (.int l1), some (.int l2), some (.int l3), some (.int l4), l5], [.int ((gI w l0 4) - l3)], w)) rfl).trans ?_
    refine (val_g (c2 := (93, d + 3, 105, [some (.ref l0), some (.int l1), some (.int l2), some (.int l3), some (.int l4), l5], [.int 1, .int ((gI w l0 4) - l3)], w)) rfl).trans ?_
    refine (val_g (c2 := (93, d + 3, 106, [some (.ref l0), some (.int l1), some (.int l2), some (.int l3), some (.int l4), l5], [.int (((gI w l0 4) - l3) &&& 1)], w)) rfl).trans ?_
    by_cases hc575 : (((gI w l0 4) - l3) &&& 1) = 0
    · refine ((val_if_eq rfl).trans (if_pos hc575)).trans ?_
      show val (93, d + 3, 116, [some (.ref l0), some (.int l1), some (.int l2), some (.int l3), some (.int l4), l5], [], w) = _
      refine Eq.trans ?_ (if_pos hc575).symm
      refine (val_g (c2 := (93, d + 3, 117, [some (.ref l0), some (.int l1), some (.int l2), some (.int l3), some (.int l4), l5], [.ref l0], w)) rfl).trans ?_
      rfl
    · refine ((val_if_eq rfl).trans (if_neg hc575)).trans ?_
      show val (93, d + 3, 109, [some (.ref l0), some (.int l1), some (.int l2), some (.int l3), some (.int l4), l5], [], w) = _
      refine Eq.trans ?_ (if_neg hc575).symm
      refine (val_g (c2 := (93, d + 3, 110, [some (.ref l0), some (.int l1), some (.int l2), some (.int l3), some (.int l4), l5], [.ref l0], w)) rfl).trans ?_
      rfl
  · refine ((val_ic_ge rfl).trans (if_neg hc574)).trans ?_
    show val (93, d + 3, 33, [some (.ref l0), some (.int l1), some (.int l2), some (.int l3), some (.int l4), l5], [], w) = _
    refine Eq.trans ?_ (if_neg hc574).symm
    refine (val_g (c2 := (93, d + 3, 34, [some (.ref l0), some (.int l1), some (.int l2), some (.int l3), some (.int l4), l5], [.ref l0], w)) rfl).trans ?_
    refine (val_gf rfl hk_l0 (fvR hr2_l0)).trans ?_
    show val (93, d + 3, 37, [some (.ref l0), some (.int l1), some (.int l2), some (.int l3), some (.int l4), l5], [.ref q2_l0], w) = _
    refine (val_g (c2 := (93, d + 3, 39, [some (.ref l0), some (.int l1), some (.int l2), some (.int l3), some (.int l4), l5], [.int l4, .ref q2_l0], w)) rfl).trans ?_
    refine (val_bal rfl hk_q2_l0 rfl (hy7 hc574)).trans ?_
    show val (93, d + 3, 40, [some (.ref l0), some (.int l1), some (.int l2), some (.int l3), some (.int l4), l5], [.int (gI w q2_l0 (l4).toNatClampNeg)], w) = _
    refine (val_g (c2 := (93, d + 3, 42, [some (.ref l0), some (.int l1), some (.int l2), some (.int l3), some (.int l4), l5], [.int 48, .int (gI w q2_l0 (l4).toNatClampNeg)], w)) rfl).trans ?_
    refine (val_g (c2 := (93, d + 3, 43, [some (.ref l0), some (.int l1), some (.int l2), some (.int l3), some (.int l4), l5], [.int ((gI w q2_l0 (l4).toNatClampNeg) - 48)], w)) rfl).trans ?_
    refine (val_g (c2 := (93, d + 3, 45, [some (.ref l0), some (.int l1), some (.int l2), some (.int l3), some (.int l4), some (.int ((gI w q2_l0 (l4).toNatClampNeg) - 48))], [], w)) rfl).trans ?_
    refine (val_g (c2 := (93, d + 3, 47, [some (.ref l0), some (.int l1), some (.int l2), some (.int l3), some (.int l4), some (.int ((gI w q2_l0 (l4).toNatClampNeg) - 48))], [.int ((gI w q2_l0 (l4).toNatClampNeg) - 48)], w)) rfl).trans ?_
    refine (val_g (c2 := (93, d + 3, 48, [some (.ref l0), some (.int l1), some (.int l2), some (.int l3), some (.int l4), some (.int ((gI w q2_l0 (l4).toNatClampNeg) - 48))], [.int l3, .int ((gI w q2_l0 (l4).toNatClampNeg) - 48)], w)) rfl).trans ?_
    by_cases hc576 : ((gI w q2_l0 (l4).toNatClampNeg) - 48) ≤ l3
    · refine ((val_ic_le rfl).trans (if_pos hc576)).trans ?_
      show val (93, d + 3, 69, [some (.ref l0), some (.int l1), some (.int l2), some (.int l3), some (.int l4), some (.int ((gI w q2_l0 (l4).toNatClampNeg) - 48))], [], w) = _
      refine Eq.trans ?_ (if_pos hc576).symm
      refine (val_g (c2 := (93, d + 3, 70, [some (.ref l0), some (.int l1), some (.int l2), some (.int l3), some (.int l4), some (.int ((gI w q2_l0 (l4).toNatClampNeg) - 48))], [.ref l0], w)) rfl).trans ?_
      rfl
    · refine ((val_ic_le rfl).trans (if_neg hc576)).trans ?_
      show val (93, d + 3, 51, [some (.ref l0), some (.int l1), some (.int l2), some (.int l3), some (.int l4), some (.int ((gI w q2_l0 (l4).toNatClampNeg) - 48))], [], w) = _
      refine Eq.trans ?_ (if_neg hc576).symm
      refine (val_g (c2 := (93, d + 3, 53, [some (.ref l0), some (.int l1), some (.int l2), some (.int l3), some (.int l4), some (.int ((gI w q2_l0 (l4).toNatClampNeg) - 48))], [.int ((gI w q2_l0 (l4).toNatClampNeg) - 48)], w)) rfl).trans ?_
      refine (val_g (c2 := (93, d + 3, 54, [some (.ref l0), some (.int l1), some (.int l2), some (.int l3), some (.int l4), some (.int ((gI w q2_l0 (l4).toNatClampNeg) - 48))], [.ref l0, .int ((gI w q2_l0 (l4).toNatClampNeg) - 48)], w)) rfl).trans ?_
      refine (val_gf rfl hk_l0 rfl).trans ?_
      show val (93, d + 3, 57, [some (.ref l0), some (.int l1), some (.int l2), some (.int l3), some (.int l4), some (.int ((gI w q2_l0 (l4).toNatClampNeg) - 48))], [.int (gI w l0 4), .int ((gI w q2_l0 (l4).toNatClampNeg) - 48)], w) = _
      by_cases hc577 : (gI w l0 4) < ((gI w q2_l0 (l4).toNatClampNeg) - 48)
      · refine ((val_ic_gt rfl).trans (if_pos hc577)).trans ?_
        show val (93, d + 3, 69, [some (.ref l0), some (.int l1), some (.int l2), some (.int l3), some (.int l4), some (.int ((gI w q2_l0 (l4).toNatClampNeg) - 48))], [], w) = _
        refine Eq.trans ?_ (if_pos hc577).symm
        refine (val_g (c2 := (93, d + 3, 70, [some (.ref l0), some (.int l1), some (.int l2), some (.int l3), some (.int l4), some (.int ((gI w q2_l0 (l4).toNatClampNeg) - 48))], [.ref l0], w)) rfl).trans ?_
        rfl
      · refine ((val_ic_gt rfl).trans (if_neg hc577)).trans ?_
        show val (93, d + 3, 60, [some (.ref l0), some (.int l1), some (.int l2), some (.int l3), some (.int l4), some (.int ((gI w q2_l0 (l4).toNatClampNeg) - 48))], [], w) = _
        refine Eq.trans ?_ (if_neg hc577).symm
        refine (val_g (c2 := (93, d + 3, 62, [some (.ref l0), some (.int l1), some (.int l2), some (.int l3), some (.int l4), some (.int ((gI w q2_l0 (l4).toNatClampNeg) - 48))], [.int ((gI w q2_l0 (l4).toNatClampNeg) - 48)], w)) rfl).trans ?_
        refine (val_g (c2 := (93, d + 3, 63, [some (.ref l0), some (.int l1), some (.int l2), some (.int l3), some (.int l4), some (.int ((gI w q2_l0 (l4).toNatClampNeg) - 48))], [.int l3, .int ((gI w q2_l0 (l4).toNatClampNeg) - 48)], w)) rfl).trans ?_
        refine (val_g (c2 := (93, d + 3, 64, [some (.ref l0), some (.int l1), some (.int l2), some (.int l3), some (.int l4), some (.int ((gI w q2_l0 (l4).toNatClampNeg) - 48))], [.int (((gI w q2_l0 (l4).toNatClampNeg) - 48) - l3)], w)) rfl).trans ?_
        refine (val_g (c2 := (93, d + 3, 65, [some (.ref l0), some (.int l1), some (.int l2), some (.int l3), some (.int l4), some (.int ((gI w q2_l0 (l4).toNatClampNeg) - 48))], [.int 1, .int (((gI w q2_l0 (l4).toNatClampNeg) - 48) - l3)], w)) rfl).trans ?_
        refine (val_g (c2 := (93, d + 3, 66, [some (.ref l0), some (.int l1), some (.int l2), some (.int l3), some (.int l4), some (.int ((gI w q2_l0 (l4).toNatClampNeg) - 48))], [.int ((((gI w q2_l0 (l4).toNatClampNeg) - 48) - l3) &&& 1)], w)) rfl).trans ?_
        by_cases hc578 : ¬ ((((gI w q2_l0 (l4).toNatClampNeg) - 48) - l3) &&& 1) = 0
        · refine ((val_if_ne rfl).trans (if_pos hc578)).trans ?_
          show val (93, d + 3, 75, [some (.ref l0), some (.int l1), some (.int l2), some (.int l3), some (.int l4), some (.int ((gI w q2_l0 (l4).toNatClampNeg) - 48))], [], w) = _
          refine Eq.trans ?_ (if_pos hc578).symm
          refine (val_g (c2 := (93, d + 3, 76, [some (.ref l0), some (.int l1), some (.int l2), some (.int l3), some (.int l4), some (.int ((gI w q2_l0 (l4).toNatClampNeg) - 48))], [.ref l0], w)) rfl).trans ?_
          refine (val_gf rfl hk_l0 rfl).trans ?_
          show val (93, d + 3, 79, [some (.ref l0), some (.int l1), some (.int l2), some (.int l3), some (.int l4), some (.int ((gI w q2_l0 (l4).toNatClampNeg) - 48))], [.int (gI w l0 4)], w) = _
          refine (val_g (c2 := (93, d + 3, 80, [some (.ref l0), some (.int l1), some (.int l2), some (.int l3), some (.int l4), some (.int ((gI w q2_l0 (l4).toNatClampNeg) - 48))], [.int l2, .int (gI w l0 4)], w)) rfl).trans ?_
          refine (val_g (c2 := (93, d + 3, 81, [some (.ref l0), some (.int l1), some (.int l2), some (.int l3), some (.int l4), some (.int ((gI w q2_l0 (l4).toNatClampNeg) - 48))], [.int l3, .int l2, .int (gI w l0 4)], w)) rfl).trans ?_
          refine (val_g (c2 := (93, d + 3, 83, [some (.ref l0), some (.int l1), some (.int l2), some (.int l3), some (.int l4), some (.int ((gI w q2_l0 (l4).toNatClampNeg) - 48))], [.int ((gI w q2_l0 (l4).toNatClampNeg) - 48), .int l3, .int l2, .int (gI w l0 4)], w)) rfl).trans ?_
          refine (val_g (c2 := (93, d + 3, 84, [some (.ref l0), some (.int l1), some (.int l2), some (.int l3), some (.int l4), some (.int ((gI w q2_l0 (l4).toNatClampNeg) - 48))], [.int 1, .int ((gI w q2_l0 (l4).toNatClampNeg) - 48), .int l3, .int l2, .int (gI w l0 4)], w)) rfl).trans ?_
          refine (val_g (c2 := (93, d + 3, 85, [some (.ref l0), some (.int l1), some (.int l2), some (.int l3), some (.int l4), some (.int ((gI w q2_l0 (l4).toNatClampNeg) - 48))], [.int (((gI w q2_l0 (l4).toNatClampNeg) - 48) - 1), .int l3, .int l2, .int (gI w l0 4)], w)) rfl).trans ?_
          rfl
        · refine ((val_if_ne rfl).trans (if_neg hc578)).trans ?_
          show val (93, d + 3, 69, [some (.ref l0), some (.int l1), some (.int l2), some (.int l3), some (.int l4), some (.int ((gI w q2_l0 (l4).toNatClampNeg) - 48))], [], w) = _
          refine Eq.trans ?_ (if_neg hc578).symm
          refine (val_g (c2 := (93, d + 3, 70, [some (.ref l0), some (.int l1), some (.int l2), some (.int l3), some (.int l4), some (.int ((gI w q2_l0 (l4).toNatClampNeg) - 48))], [.ref l0], w)) rfl).trans ?_
          rfl
theorem tr_93_73 (d : Nat) (w : Wd) (l0 : Nat) (l1 : Int32) (l2 : Int32) (l3 : Int32) (l4 : Int32) (l5 : Int32)     : val (93, d + 3, 73, [some (.ref l0), some (.int l1), some (.int l2), some (.int l3), some (.int l4), some (.int l5)], [], w) = some (some (.int l1), w) := by
  refine (val_g (c2 := (93, d + 3, 74, [some (.ref l0), some (.int l1), some (.int l2), some (.int l3), some (.int l4), some (.int l5)], [.int l1], w)) rfl).trans ?_
  exact val_r rfl
theorem tr_93_88 (d : Nat) (w : Wd) (l0 : Nat) (l1 : Int32) (l2 : Int32) (l3 : Int32) (l4 : Int32) (l5 : Int32) (s0 : Int32)     : val (93, d + 3, 88, [some (.ref l0), some (.int l1), some (.int l2), some (.int l3), some (.int l4), some (.int l5)], [.int s0], w) = val (93, d + 3, 24, [some (.ref l0), some (.int l1), some (.int s0), some (.int l5), some (.int (l4 + 1)), some (.int l5)], [], w) := by
  refine (val_g (c2 := (93, d + 3, 89, [some (.ref l0), some (.int l1), some (.int s0), some (.int l3), some (.int l4), some (.int l5)], [], w)) rfl).trans ?_
  refine (val_g (c2 := (93, d + 3, 91, [some (.ref l0), some (.int l1), some (.int s0), some (.int l3), some (.int l4), some (.int l5)], [.int l5], w)) rfl).trans ?_
  refine (val_g (c2 := (93, d + 3, 92, [some (.ref l0), some (.int l1), some (.int s0), some (.int l5), some (.int l4), some (.int l5)], [], w)) rfl).trans ?_
  refine (val_g (c2 := (93, d + 3, 95, [some (.ref l0), some (.int l1), some (.int s0), some (.int l5), some (.int (l4 + 1)), some (.int l5)], [], w)) rfl).trans ?_
  refine (val_g (c2 := (93, d + 3, 24, [some (.ref l0), some (.int l1), some (.int s0), some (.int l5), some (.int (l4 + 1)), some (.int l5)], [], w)) rfl).trans ?_
  rfl
theorem tr_93_113 (d : Nat) (w : Wd) (l0 : Nat) (l1 : Int32) (l2 : Int32) (l3 : Int32) (l4 : Int32) (l5 : Option Value)    : val (93, d + 3, 113, [some (.ref l0), some (.int l1), some (.int l2), some (.int l3), some (.int l4), l5], [], w) = val (93, d + 3, 120, [some (.ref l0), some (.int l1), some (.int l2), some (.int l3), some (.int l4), l5], [], w) := by
  refine (val_g (c2 := (93, d + 3, 120, [some (.ref l0), some (.int l1), some (.int l2), some (.int l3), some (.int l4), l5], [], w)) rfl).trans ?_
  rfl
theorem tr_93_120 (d : Nat) (w : Wd) (l0 : Nat) (l1 : Int32) (l2 : Int32) (l3 : Int32) (l4 : Int32) (l5 : Option Value)   (m_l0 : Nat) (hk_l0 : wK w l0 = (4, m_l0)) : val (93, d + 3, 120, [some (.ref l0), some (.int l1), some (.int l2), some (.int l3), some (.int l4), l5], [], w) = val (93, d + 3, 130, [some (.ref l0), some (.int l1), some (.int l2), some (.int l3), some (.int l4), l5], [.int (gI w l0 4), .int l3, .int l2, .int (gI w l0 4)], w) := by
  refine (val_g (c2 := (93, d + 3, 121, [some (.ref l0), some (.int l1), some (.int l2), some (.int l3), some (.int l4), l5], [.ref l0], w)) rfl).trans ?_
  refine (val_gf rfl hk_l0 rfl).trans ?_
  show val (93, d + 3, 124, [some (.ref l0), some (.int l1), some (.int l2), some (.int l3), some (.int l4), l5], [.int (gI w l0 4)], w) = _
  refine (val_g (c2 := (93, d + 3, 125, [some (.ref l0), some (.int l1), some (.int l2), some (.int l3), some (.int l4), l5], [.int l2, .int (gI w l0 4)], w)) rfl).trans ?_
  refine (val_g (c2 := (93, d + 3, 126, [some (.ref l0), some (.int l1), some (.int l2), some (.int l3), some (.int l4), l5], [.int l3, .int l2, .int (gI w l0 4)], w)) rfl).trans ?_
  refine (val_g (c2 := (93, d + 3, 127, [some (.ref l0), some (.int l1), some (.int l2), some (.int l3), some (.int l4), l5], [.ref l0, .int l3, .int l2, .int (gI w l0 4)], w)) rfl).trans ?_
  refine (val_gf rfl hk_l0 rfl).trans ?_
  show val (93, d + 3, 130, [some (.ref l0), some (.int l1), some (.int l2), some (.int l3), some (.int l4), l5], [.int (gI w l0 4), .int l3, .int l2, .int (gI w l0 4)], w) = _
  rfl
theorem tr_93_133 (d : Nat) (w : Wd) (l0 : Nat) (l1 : Int32) (l2 : Int32) (l3 : Int32) (l4 : Int32) (s0 : Int32) (l5 : Option Value)    : val (93, d + 3, 133, [some (.ref l0), some (.int l1), some (.int l2), some (.int l3), some (.int l4), l5], [.int s0], w) = some (some (.int s0), w) := by
  exact val_r rfl
/-- BelfryHouse$Reader.readJump(I)I -/
theorem tr_94 (d : Nat) (w : Wd) (o : Nat) (x0 : Int32)    (m_o : Nat) (hk_o : wK w o = (4, m_o)) : val (94, d + 3, 0, [some (.ref o), some (.int x0), none, none], [], w) = val (94, d + 3, 7, [some (.ref o), some (.int x0), none, none], [.int (-1), .int (gI w o 4), .int 1, .ref o], w) := by
  refine (val_g (c2 := (94, d + 3, 1, [some (.ref o), some (.int x0), none, none], [.ref o], w)) rfl).trans ?_
  refine (val_g (c2 := (94, d + 3, 2, [some (.ref o), some (.int x0), none, none], [.int 1, .ref o], w)) rfl).trans ?_
  refine (val_g (c2 := (94, d + 3, 3, [some (.ref o), some (.int x0), none, none], [.ref o, .int 1, .ref o], w)) rfl).trans ?_
  refine (val_gf rfl hk_o rfl).trans ?_
  show val (94, d + 3, 6, [some (.ref o), some (.int x0), none, none], [.int (gI w o 4), .int 1, .ref o], w) = _
  refine (val_g (c2 := (94, d + 3, 7, [some (.ref o), some (.int x0), none, none], [.int (-1), .int (gI w o 4), .int 1, .ref o], w)) rfl).trans ?_
  rfl
theorem tr_94_10 (d : Nat) (w : Wd) (l0 : Nat) (l1 : Int32) (s0 : Int32)    (m_l0 : Nat) (hk_l0 : wK w l0 = (4, m_l0)) : val (94, d + 3, 10, [some (.ref l0), some (.int l1), none, none], [.int s0], w) = val (94, d + 3, 18, [some (.ref l0), some (.int l1), some (.int s0), none], [.int s0, .int (gI w l0 4), .int 1, .ref l0], w) := by
  refine (val_g (c2 := (94, d + 3, 11, [some (.ref l0), some (.int l1), some (.int s0), none], [], w)) rfl).trans ?_
  refine (val_g (c2 := (94, d + 3, 12, [some (.ref l0), some (.int l1), some (.int s0), none], [.ref l0], w)) rfl).trans ?_
  refine (val_g (c2 := (94, d + 3, 13, [some (.ref l0), some (.int l1), some (.int s0), none], [.int 1, .ref l0], w)) rfl).trans ?_
  refine (val_g (c2 := (94, d + 3, 14, [some (.ref l0), some (.int l1), some (.int s0), none], [.ref l0, .int 1, .ref l0], w)) rfl).trans ?_
  refine (val_gf rfl hk_l0 rfl).trans ?_
  show val (94, d + 3, 17, [some (.ref l0), some (.int l1), some (.int s0), none], [.int (gI w l0 4), .int 1, .ref l0], w) = _
  refine (val_g (c2 := (94, d + 3, 18, [some (.ref l0), some (.int l1), some (.int s0), none], [.int s0, .int (gI w l0 4), .int 1, .ref l0], w)) rfl).trans ?_
  rfl
theorem tr_94_21 (d : Nat) (w : Wd) (l0 : Nat) (l1 : Int32) (l2 : Int32) (s0 : Int32)    (m_l0 : Nat) (hk_l0 : wK w l0 = (4, m_l0)) : val (94, d + 3, 21, [some (.ref l0), some (.int l1), some (.int l2), none], [.int s0], w) = val (94, d + 3, 33, [some (.ref l0), some (.int l1), some (.int l2), some (.int s0)], [.int (s0 - 1), .int (l2 - 1), .int l1, .int (gI w l0 4)], w) := by
  refine (val_g (c2 := (94, d + 3, 22, [some (.ref l0), some (.int l1), some (.int l2), some (.int s0)], [], w)) rfl).trans ?_
  refine (val_g (c2 := (94, d + 3, 23, [some (.ref l0), some (.int l1), some (.int l2), some (.int s0)], [.ref l0], w)) rfl).trans ?_
  refine (val_gf rfl hk_l0 rfl).trans ?_
  show val (94, d + 3, 26, [some (.ref l0), some (.int l1), some (.int l2), some (.int s0)], [.int (gI w l0 4)], w) = _
  refine (val_g (c2 := (94, d + 3, 27, [some (.ref l0), some (.int l1), some (.int l2), some (.int s0)], [.int l1, .int (gI w l0 4)], w)) rfl).trans ?_
  refine (val_g (c2 := (94, d + 3, 28, [some (.ref l0), some (.int l1), some (.int l2), some (.int s0)], [.int l2, .int l1, .int (gI w l0 4)], w)) rfl).trans ?_
  refine (val_g (c2 := (94, d + 3, 29, [some (.ref l0), some (.int l1), some (.int l2), some (.int s0)], [.int 1, .int l2, .int l1, .int (gI w l0 4)], w)) rfl).trans ?_
  refine (val_g (c2 := (94, d + 3, 30, [some (.ref l0), some (.int l1), some (.int l2), some (.int s0)], [.int (l2 - 1), .int l1, .int (gI w l0 4)], w)) rfl).trans ?_
  refine (val_g (c2 := (94, d + 3, 31, [some (.ref l0), some (.int l1), some (.int l2), some (.int s0)], [.int s0, .int (l2 - 1), .int l1, .int (gI w l0 4)], w)) rfl).trans ?_
  refine (val_g (c2 := (94, d + 3, 32, [some (.ref l0), some (.int l1), some (.int l2), some (.int s0)], [.int 1, .int s0, .int (l2 - 1), .int l1, .int (gI w l0 4)], w)) rfl).trans ?_
  refine (val_g (c2 := (94, d + 3, 33, [some (.ref l0), some (.int l1), some (.int l2), some (.int s0)], [.int (s0 - 1), .int (l2 - 1), .int l1, .int (gI w l0 4)], w)) rfl).trans ?_
  rfl
theorem tr_94_36 (d : Nat) (w : Wd) (l0 : Nat) (l1 : Int32) (l2 : Int32) (l3 : Int32) (s0 : Int32)     : val (94, d + 3, 36, [some (.ref l0), some (.int l1), some (.int l2), some (.int l3)], [.int s0], w) = some (some (.int s0), w) := by
  exact val_r rfl
/-- BelfryHouse$Reader.readTurn(I)I -/
theorem tr_95 (d : Nat) (w : Wd) (o : Nat) (x0 : Int32)    (m_o : Nat) (hk_o : wK w o = (4, m_o)) : val (95, d + 3, 0, [some (.ref o), some (.int x0), none, none], [], w) = val (95, d + 3, 7, [some (.ref o), some (.int x0), none, none], [.int (-1), .int (gI w o 4), .int 1, .ref o], w) := by
  refine (val_g (c2 := (95, d + 3, 1, [some (.ref o), some (.int x0), none, none], [.ref o], w)) rfl).trans ?_
  refine (val_g (c2 := (95, d + 3, 2, [some (.ref o), some (.int x0), none, none], [.int 1, .ref o], w)) rfl).trans ?_
  refine (val_g (c2 := (95, d + 3, 3, [some (.ref o), some (.int x0), none, none], [.ref o, .int 1, .ref o], w)) rfl).trans ?_
  refine (val_gf rfl hk_o rfl).trans ?_
  show val (95, d + 3, 6, [some (.ref o), some (.int x0), none, none], [.int (gI w o 4), .int 1, .ref o], w) = _
  refine (val_g (c2 := (95, d + 3, 7, [some (.ref o), some (.int x0), none, none], [.int (-1), .int (gI w o 4), .int 1, .ref o], w)) rfl).trans ?_
  rfl
theorem tr_95_10 (d : Nat) (w : Wd) (l0 : Nat) (l1 : Int32) (s0 : Int32)    (m_l0 : Nat) (hk_l0 : wK w l0 = (4, m_l0)) : val (95, d + 3, 10, [some (.ref l0), some (.int l1), none, none], [.int s0], w) = val (95, d + 3, 20, [some (.ref l0), some (.int l1), some (.int s0), none], [.int (-1), .int (gI w l0 4), .int (s0 + 1), .ref l0], w) := by
  refine (val_g (c2 := (95, d + 3, 11, [some (.ref l0), some (.int l1), some (.int s0), none], [], w)) rfl).trans ?_
  refine (val_g (c2 := (95, d + 3, 12, [some (.ref l0), some (.int l1), some (.int s0), none], [.ref l0], w)) rfl).trans ?_
  refine (val_g (c2 := (95, d + 3, 13, [some (.ref l0), some (.int l1), some (.int s0), none], [.int s0, .ref l0], w)) rfl).trans ?_
  refine (val_g (c2 := (95, d + 3, 14, [some (.ref l0), some (.int l1), some (.int s0), none], [.int 1, .int s0, .ref l0], w)) rfl).trans ?_
  refine (val_g (c2 := (95, d + 3, 15, [some (.ref l0), some (.int l1), some (.int s0), none], [.int (s0 + 1), .ref l0], w)) rfl).trans ?_
  refine (val_g (c2 := (95, d + 3, 16, [some (.ref l0), some (.int l1), some (.int s0), none], [.ref l0, .int (s0 + 1), .ref l0], w)) rfl).trans ?_
  refine (val_gf rfl hk_l0 rfl).trans ?_
  show val (95, d + 3, 19, [some (.ref l0), some (.int l1), some (.int s0), none], [.int (gI w l0 4), .int (s0 + 1), .ref l0], w) = _
  refine (val_g (c2 := (95, d + 3, 20, [some (.ref l0), some (.int l1), some (.int s0), none], [.int (-1), .int (gI w l0 4), .int (s0 + 1), .ref l0], w)) rfl).trans ?_
  rfl
theorem tr_95_23 (d : Nat) (w : Wd) (l0 : Nat) (l1 : Int32) (l2 : Int32) (s0 : Int32)    (m_l0 : Nat) (hk_l0 : wK w l0 = (4, m_l0)) : val (95, d + 3, 23, [some (.ref l0), some (.int l1), some (.int l2), none], [.int s0], w) = (if 0 ≤ (gI w l0 1) then some (some (.int l1), w) else val (95, d + 3, 42, [some (.ref l0), some (.int l1), some (.int l2), some (.int s0)], [.int (s0 - 1), .int (l2 - 1), .int l1, .int (gI w l0 4)], w)) := by
  refine (val_g (c2 := (95, d + 3, 24, [some (.ref l0), some (.int l1), some (.int l2), some (.int s0)], [], w)) rfl).trans ?_
  refine (val_g (c2 := (95, d + 3, 25, [some (.ref l0), some (.int l1), some (.int l2), some (.int s0)], [.ref l0], w)) rfl).trans ?_
  refine (val_gf rfl hk_l0 rfl).trans ?_
  show val (95, d + 3, 28, [some (.ref l0), some (.int l1), some (.int l2), some (.int s0)], [.int (gI w l0 1)], w) = _
  by_cases hc580 : 0 ≤ (gI w l0 1)
  · refine ((val_if_ge rfl).trans (if_pos hc580)).trans ?_
    show val (95, d + 3, 48, [some (.ref l0), some (.int l1), some (.int l2), some (.int s0)], [], w) = _
    refine Eq.trans ?_ (if_pos hc580).symm
    refine (val_g (c2 := (95, d + 3, 49, [some (.ref l0), some (.int l1), some (.int l2), some (.int s0)], [.int l1], w)) rfl).trans ?_
    exact val_r rfl
  · refine ((val_if_ge rfl).trans (if_neg hc580)).trans ?_
    show val (95, d + 3, 31, [some (.ref l0), some (.int l1), some (.int l2), some (.int s0)], [], w) = _
    refine Eq.trans ?_ (if_neg hc580).symm
    refine (val_g (c2 := (95, d + 3, 32, [some (.ref l0), some (.int l1), some (.int l2), some (.int s0)], [.ref l0], w)) rfl).trans ?_
    refine (val_gf rfl hk_l0 rfl).trans ?_
    show val (95, d + 3, 35, [some (.ref l0), some (.int l1), some (.int l2), some (.int s0)], [.int (gI w l0 4)], w) = _
    refine (val_g (c2 := (95, d + 3, 36, [some (.ref l0), some (.int l1), some (.int l2), some (.int s0)], [.int l1, .int (gI w l0 4)], w)) rfl).trans ?_
    refine (val_g (c2 := (95, d + 3, 37, [some (.ref l0), some (.int l1), some (.int l2), some (.int s0)], [.int l2, .int l1, .int (gI w l0 4)], w)) rfl).trans ?_
    refine (val_g (c2 := (95, d + 3, 38, [some (.ref l0), some (.int l1), some (.int l2), some (.int s0)], [.int 1, .int l2, .int l1, .int (gI w l0 4)], w)) rfl).trans ?_
    refine (val_g (c2 := (95, d + 3, 39, [some (.ref l0), some (.int l1), some (.int l2), some (.int s0)], [.int (l2 - 1), .int l1, .int (gI w l0 4)], w)) rfl).trans ?_
    refine (val_g (c2 := (95, d + 3, 40, [some (.ref l0), some (.int l1), some (.int l2), some (.int s0)], [.int s0, .int (l2 - 1), .int l1, .int (gI w l0 4)], w)) rfl).trans ?_
    refine (val_g (c2 := (95, d + 3, 41, [some (.ref l0), some (.int l1), some (.int l2), some (.int s0)], [.int 1, .int s0, .int (l2 - 1), .int l1, .int (gI w l0 4)], w)) rfl).trans ?_
    refine (val_g (c2 := (95, d + 3, 42, [some (.ref l0), some (.int l1), some (.int l2), some (.int s0)], [.int (s0 - 1), .int (l2 - 1), .int l1, .int (gI w l0 4)], w)) rfl).trans ?_
    rfl
theorem tr_95_45 (d : Nat) (w : Wd) (l0 : Nat) (l1 : Int32) (l2 : Int32) (l3 : Int32) (s0 : Int32)     : val (95, d + 3, 45, [some (.ref l0), some (.int l1), some (.int l2), some (.int l3)], [.int s0], w) = some (some (.int s0), w) := by
  refine (val_g (c2 := (95, d + 3, 49, [some (.ref l0), some (.int l1), some (.int l2), some (.int l3)], [.int s0], w)) rfl).trans ?_
  exact val_r rfl
/-- BelfryHouse$Reals.missingBits(J)I -/
theorem tr_106 (d : Nat) (w : Wd) (x0 : Int64)     : val (106, d, 0, [some (.long x0), none, none], [], w) = val (106, d, 2, [some (.long x0), none, some (.int 0)], [], w) := by
  refine (val_g (c2 := (106, d, 1, [some (.long x0), none, none], [.int 0], w)) rfl).trans ?_
  refine (val_g (c2 := (106, d, 2, [some (.long x0), none, some (.int 0)], [], w)) rfl).trans ?_
  rfl
theorem tr_106_2 (d : Nat) (w : Wd) (l0 : Int64) (l2 : Int32)     : val (106, d, 2, [some (.long l0), none, some (.int l2)], [], w) = (if 52 ≤ l2 then some (some (.int l2), w) else (if 0 ≤ (cmpL ((shlL l0 l2)) 4503599627370496) then some (some (.int l2), w) else val (106, d, 2, [some (.long l0), none, some (.int (l2 + 1))], [], w))) := by
  refine (val_g (c2 := (106, d, 3, [some (.long l0), none, some (.int l2)], [.int l2], w)) rfl).trans ?_
  refine (val_g (c2 := (106, d, 5, [some (.long l0), none, some (.int l2)], [.int 52, .int l2], w)) rfl).trans ?_
  by_cases hc583 : 52 ≤ l2
  · refine ((val_ic_ge rfl).trans (if_pos hc583)).trans ?_
    show val (106, d, 24, [some (.long l0), none, some (.int l2)], [], w) = _
    refine Eq.trans ?_ (if_pos hc583).symm
    refine (val_g (c2 := (106, d, 25, [some (.long l0), none, some (.int l2)], [.int l2], w)) rfl).trans ?_
    exact val_r rfl
  · refine ((val_ic_ge rfl).trans (if_neg hc583)).trans ?_
    show val (106, d, 8, [some (.long l0), none, some (.int l2)], [], w) = _
    refine Eq.trans ?_ (if_neg hc583).symm
    refine (val_g (c2 := (106, d, 9, [some (.long l0), none, some (.int l2)], [.long l0], w)) rfl).trans ?_
    refine (val_g (c2 := (106, d, 10, [some (.long l0), none, some (.int l2)], [.int l2, .long l0], w)) rfl).trans ?_
    refine (val_g (c2 := (106, d, 11, [some (.long l0), none, some (.int l2)], [.long (shlL l0 l2)], w)) rfl).trans ?_
    refine (val_g (c2 := (106, d, 14, [some (.long l0), none, some (.int l2)], [.long 4503599627370496, .long (shlL l0 l2)], w)) rfl).trans ?_
    refine (val_g (c2 := (106, d, 15, [some (.long l0), none, some (.int l2)], [.int (cmpL ((shlL l0 l2)) 4503599627370496)], w)) rfl).trans ?_
    by_cases hc584 : 0 ≤ (cmpL ((shlL l0 l2)) 4503599627370496)
    · refine ((val_if_ge rfl).trans (if_pos hc584)).trans ?_
      show val (106, d, 24, [some (.long l0), none, some (.int l2)], [], w) = _
      refine Eq.trans ?_ (if_pos hc584).symm
      refine (val_g (c2 := (106, d, 25, [some (.long l0), none, some (.int l2)], [.int l2], w)) rfl).trans ?_
      exact val_r rfl
    · refine ((val_if_ge rfl).trans (if_neg hc584)).trans ?_
      show val (106, d, 18, [some (.long l0), none, some (.int l2)], [], w) = _
      refine Eq.trans ?_ (if_neg hc584).symm
      refine (val_g (c2 := (106, d, 21, [some (.long l0), none, some (.int (l2 + 1))], [], w)) rfl).trans ?_
      refine (val_g (c2 := (106, d, 2, [some (.long l0), none, some (.int (l2 + 1))], [], w)) rfl).trans ?_
      rfl
