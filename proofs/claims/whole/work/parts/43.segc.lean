/-! methods in segments; printed by program (wip/gen/p41.py, seg.py) -/
/-- BelfryHouse$Reals.rounded(JIJ)J -/
theorem tr_108 (d : Nat) (w : Wd) (x0 : Int64) (x1 : Int32) (x2 : Int64)     : val (108, d + 1, 0, [some (.long x0), none, some (.int x1), some (.long x2), none, none, none, none, none, none, none, none], [], w) = val (108, d + 1, 16, [some (.long x0), none, some (.int x1), some (.long x2), none, some (.long x2), none, some (.int ((x1 + 62) + 1023)), some (.int 0), none, none, none], [], w) := by
  refine (val_g (c2 := (108, d + 1, 1, [some (.long x0), none, some (.int x1), some (.long x2), none, none, none, none, none, none, none, none], [.long x2], w)) rfl).trans ?_
  refine (val_g (c2 := (108, d + 1, 3, [some (.long x0), none, some (.int x1), some (.long x2), none, some (.long x2), none, none, none, none, none, none], [], w)) rfl).trans ?_
  refine (val_g (c2 := (108, d + 1, 4, [some (.long x0), none, some (.int x1), some (.long x2), none, some (.long x2), none, none, none, none, none, none], [.int x1], w)) rfl).trans ?_
  refine (val_g (c2 := (108, d + 1, 6, [some (.long x0), none, some (.int x1), some (.long x2), none, some (.long x2), none, none, none, none, none, none], [.int 62, .int x1], w)) rfl).trans ?_
  refine (val_g (c2 := (108, d + 1, 7, [some (.long x0), none, some (.int x1), some (.long x2), none, some (.long x2), none, none, none, none, none, none], [.int (x1 + 62)], w)) rfl).trans ?_
  refine (val_g (c2 := (108, d + 1, 10, [some (.long x0), none, some (.int x1), some (.long x2), none, some (.long x2), none, none, none, none, none, none], [.int 1023, .int (x1 + 62)], w)) rfl).trans ?_
  refine (val_g (c2 := (108, d + 1, 11, [some (.long x0), none, some (.int x1), some (.long x2), none, some (.long x2), none, none, none, none, none, none], [.int ((x1 + 62) + 1023)], w)) rfl).trans ?_
  refine (val_g (c2 := (108, d + 1, 13, [some (.long x0), none, some (.int x1), some (.long x2), none, some (.long x2), none, some (.int ((x1 + 62) + 1023)), none, none, none, none], [], w)) rfl).trans ?_
  refine (val_g (c2 := (108, d + 1, 14, [some (.long x0), none, some (.int x1), some (.long x2), none, some (.long x2), none, some (.int ((x1 + 62) + 1023)), none, none, none, none], [.int 0], w)) rfl).trans ?_
  refine (val_g (c2 := (108, d + 1, 16, [some (.long x0), none, some (.int x1), some (.long x2), none, some (.long x2), none, some (.int ((x1 + 62) + 1023)), some (.int 0), none, none, none], [], w)) rfl).trans ?_
  rfl
theorem tr_108_16 (d : Nat) (w : Wd) (l0 : Int64) (l2 : Int32) (l3 : Int64) (l5 : Int64) (l7 : Int32) (l8 : Int32)     : val (108, d + 1, 16, [some (.long l0), none, some (.int l2), some (.long l3), none, some (.long l5), none, some (.int l7), some (.int l8), none, none, none], [], w) = (if 62 ≤ l8 then (if l7 < 2047 then (if 0 < l7 then (if 0 < (cmpL ((l5 &&& 1023)) 512) then some (some (.long (l0 ||| ((shlL ((Int32.toInt64 ((l7 - 1)))) 52) + ((ushL l5 10) + 1)))), w) else (if ¬ (cmpL ((l5 &&& 1023)) 512) = 0 then some (some (.long (l0 ||| ((shlL ((Int32.toInt64 ((l7 - 1)))) 52) + (ushL l5 10)))), w) else (if (cmpL (((ushL l5 10) &&& 1)) 0) = 0 then some (some (.long (l0 ||| ((shlL ((Int32.toInt64 ((l7 - 1)))) 52) + (ushL l5 10)))), w) else some (some (.long (l0 ||| ((shlL ((Int32.toInt64 ((l7 - 1)))) 52) + ((ushL l5 10) + 1)))), w)))) else (if 0 < (cmpL (((fn_107 l5 ((1 - l7))) &&& 1023)) 512) then some (some (.long (l0 ||| ((shlL ((Int32.toInt64 ((1 - 1)))) 52) + ((ushL ((fn_107 l5 ((1 - l7)))) 10) + 1)))), w) else (if ¬ (cmpL (((fn_107 l5 ((1 - l7))) &&& 1023)) 512) = 0 then some (some (.long (l0 ||| ((shlL ((Int32.toInt64 ((1 - 1)))) 52) + (ushL ((fn_107 l5 ((1 - l7)))) 10)))), w) else (if (cmpL (((ushL ((fn_107 l5 ((1 - l7)))) 10) &&& 1)) 0) = 0 then some (some (.long (l0 ||| ((shlL ((Int32.toInt64 ((1 - 1)))) 52) + (ushL ((fn_107 l5 ((1 - l7)))) 10)))), w) else some (some (.long (l0 ||| ((shlL ((Int32.toInt64 ((1 - 1)))) 52) + ((ushL ((fn_107 l5 ((1 - l7)))) 10) + 1)))), w))))) else some (some (.long (l0 ||| 9218868437227405312)), w)) else (if 0 ≤ (cmpL l5 4611686018427387904) then (if l7 < 2047 then (if 0 < l7 then (if 0 < (cmpL ((l5 &&& 1023)) 512) then some (some (.long (l0 ||| ((shlL ((Int32.toInt64 ((l7 - 1)))) 52) + ((ushL l5 10) + 1)))), w) else (if ¬ (cmpL ((l5 &&& 1023)) 512) = 0 then some (some (.long (l0 ||| ((shlL ((Int32.toInt64 ((l7 - 1)))) 52) + (ushL l5 10)))), w) else (if (cmpL (((ushL l5 10) &&& 1)) 0) = 0 then some (some (.long (l0 ||| ((shlL ((Int32.toInt64 ((l7 - 1)))) 52) + (ushL l5 10)))), w) else some (some (.long (l0 ||| ((shlL ((Int32.toInt64 ((l7 - 1)))) 52) + ((ushL l5 10) + 1)))), w)))) else (if 0 < (cmpL (((fn_107 l5 ((1 - l7))) &&& 1023)) 512) then some (some (.long (l0 ||| ((shlL ((Int32.toInt64 ((1 - 1)))) 52) + ((ushL ((fn_107 l5 ((1 - l7)))) 10) + 1)))), w) else (if ¬ (cmpL (((fn_107 l5 ((1 - l7))) &&& 1023)) 512) = 0 then some (some (.long (l0 ||| ((shlL ((Int32.toInt64 ((1 - 1)))) 52) + (ushL ((fn_107 l5 ((1 - l7)))) 10)))), w) else (if (cmpL (((ushL ((fn_107 l5 ((1 - l7)))) 10) &&& 1)) 0) = 0 then some (some (.long (l0 ||| ((shlL ((Int32.toInt64 ((1 - 1)))) 52) + (ushL ((fn_107 l5 ((1 - l7)))) 10)))), w) else some (some (.long (l0 ||| ((shlL ((Int32.toInt64 ((1 - 1)))) 52) + ((ushL ((fn_107 l5 ((1 - l7)))) 10) + 1)))), w))))) else some (some (.long (l0 ||| 9218868437227405312)), w)) else val (108, d + 1, 16, [some (.long l0), none, some (.int l2), some (.long l3), none, some (.long (shlL l5 1)), none, some (.int (l7 + (-1))), some (.int (l8 + 1)), none, none, none], [], w))) := by
  refine (val_g (c2 := (108, d + 1, 18, [some (.long l0), none, some (.int l2), some (.long l3), none, some (.long l5), none, some (.int l7), some (.int l8), none, none, none], [.int l8], w)) rfl).trans ?_
  refine (val_g (c2 := (108, d + 1, 20, [some (.long l0), none, some (.int l2), some (.long l3), none, some (.long l5), none, some (.int l7), some (.int l8), none, none, none], [.int 62, .int l8], w)) rfl).trans ?_
  by_cases hc583 : 62 ≤ l8
  · refine ((val_ic_ge rfl).trans (if_pos hc583)).trans ?_
    show val (108, d + 1, 47, [some (.long l0), none, some (.int l2), some (.long l3), none, some (.long l5), none, some (.int l7), some (.int l8), none, none, none], [], w) = _
    refine Eq.trans ?_ (if_pos hc583).symm
    refine (val_g (c2 := (108, d + 1, 49, [some (.long l0), none, some (.int l2), some (.long l3), none, some (.long l5), none, some (.int l7), some (.int l8), none, none, none], [.int l7], w)) rfl).trans ?_
    refine (val_g (c2 := (108, d + 1, 52, [some (.long l0), none, some (.int l2), some (.long l3), none, some (.long l5), none, some (.int l7), some (.int l8), none, none, none], [.int 2047, .int l7], w)) rfl).trans ?_
    by_cases hc584 : l7 < 2047
    · refine ((val_ic_lt rfl).trans (if_pos hc584)).trans ?_
      show val (108, d + 1, 61, [some (.long l0), none, some (.int l2), some (.long l3), none, some (.long l5), none, some (.int l7), some (.int l8), none, none, none], [], w) = _
      refine Eq.trans ?_ (if_pos hc584).symm
      refine (val_g (c2 := (108, d + 1, 63, [some (.long l0), none, some (.int l2), some (.long l3), none, some (.long l5), none, some (.int l7), some (.int l8), none, none, none], [.int l7], w)) rfl).trans ?_
      by_cases hc585 : 0 < l7
      · refine ((val_if_gt rfl).trans (if_pos hc585)).trans ?_
        show val (108, d + 1, 80, [some (.long l0), none, some (.int l2), some (.long l3), none, some (.long l5), none, some (.int l7), some (.int l8), none, none, none], [], w) = _
        refine Eq.trans ?_ (if_pos hc585).symm
        refine (val_g (c2 := (108, d + 1, 82, [some (.long l0), none, some (.int l2), some (.long l3), none, some (.long l5), none, some (.int l7), some (.int l8), none, none, none], [.long l5], w)) rfl).trans ?_
        refine (val_g (c2 := (108, d + 1, 84, [some (.long l0), none, some (.int l2), some (.long l3), none, some (.long l5), none, some (.int l7), some (.int l8), none, none, none], [.int 10, .long l5], w)) rfl).trans ?_
        refine (val_g (c2 := (108, d + 1, 85, [some (.long l0), none, some (.int l2), some (.long l3), none, some (.long l5), none, some (.int l7), some (.int l8), none, none, none], [.long (ushL l5 10)], w)) rfl).trans ?_
        refine (val_g (c2 := (108, d + 1, 87, [some (.long l0), none, some (.int l2), some (.long l3), none, some (.long l5), none, some (.int l7), some (.long (ushL l5 10)), none, none, none], [], w)) rfl).trans ?_
        refine (val_g (c2 := (108, d + 1, 89, [some (.long l0), none, some (.int l2), some (.long l3), none, some (.long l5), none, some (.int l7), some (.long (ushL l5 10)), none, none, none], [.long l5], w)) rfl).trans ?_
        refine (val_g (c2 := (108, d + 1, 92, [some (.long l0), none, some (.int l2), some (.long l3), none, some (.long l5), none, some (.int l7), some (.long (ushL l5 10)), none, none, none], [.long 1023, .long l5], w)) rfl).trans ?_
        refine (val_g (c2 := (108, d + 1, 93, [some (.long l0), none, some (.int l2), some (.long l3), none, some (.long l5), none, some (.int l7), some (.long (ushL l5 10)), none, none, none], [.long (l5 &&& 1023)], w)) rfl).trans ?_
        refine (val_g (c2 := (108, d + 1, 95, [some (.long l0), none, some (.int l2), some (.long l3), none, some (.long l5), none, some (.int l7), some (.long (ushL l5 10)), none, some (.long (l5 &&& 1023)), none], [], w)) rfl).trans ?_
        refine (val_g (c2 := (108, d + 1, 97, [some (.long l0), none, some (.int l2), some (.long l3), none, some (.long l5), none, some (.int l7), some (.long (ushL l5 10)), none, some (.long (l5 &&& 1023)), none], [.long (l5 &&& 1023)], w)) rfl).trans ?_
        refine (val_g (c2 := (108, d + 1, 100, [some (.long l0), none, some (.int l2), some (.long l3), none, some (.long l5), none, some (.int l7), some (.long (ushL l5 10)), none, some (.long (l5 &&& 1023)), none], [.long 512, .long (l5 &&& 1023)], w)) rfl).trans ?_
        refine (val_g (c2 := (108, d + 1, 101, [some (.long l0), none, some (.int l2), some (.long l3), none, some (.long l5), none, some (.int l7), some (.long (ushL l5 10)), none, some (.long (l5 &&& 1023)), none], [.int (cmpL ((l5 &&& 1023)) 512)], w)) rfl).trans ?_
        by_cases hc586 : 0 < (cmpL ((l5 &&& 1023)) 512)
        · refine ((val_if_gt rfl).trans (if_pos hc586)).trans ?_
          show val (108, d + 1, 122, [some (.long l0), none, some (.int l2), some (.long l3), none, some (.long l5), none, some (.int l7), some (.long (ushL l5 10)), none, some (.long (l5 &&& 1023)), none], [], w) = _
          refine Eq.trans ?_ (if_pos hc586).symm
          refine (val_g (c2 := (108, d + 1, 124, [some (.long l0), none, some (.int l2), some (.long l3), none, some (.long l5), none, some (.int l7), some (.long (ushL l5 10)), none, some (.long (l5 &&& 1023)), none], [.long (ushL l5 10)], w)) rfl).trans ?_
          refine (val_g (c2 := (108, d + 1, 125, [some (.long l0), none, some (.int l2), some (.long l3), none, some (.long l5), none, some (.int l7), some (.long (ushL l5 10)), none, some (.long (l5 &&& 1023)), none], [.long 1, .long (ushL l5 10)], w)) rfl).trans ?_
          refine (val_g (c2 := (108, d + 1, 126, [some (.long l0), none, some (.int l2), some (.long l3), none, some (.long l5), none, some (.int l7), some (.long (ushL l5 10)), none, some (.long (l5 &&& 1023)), none], [.long ((ushL l5 10) + 1)], w)) rfl).trans ?_
          refine (val_g (c2 := (108, d + 1, 128, [some (.long l0), none, some (.int l2), some (.long l3), none, some (.long l5), none, some (.int l7), some (.long ((ushL l5 10) + 1)), none, some (.long (l5 &&& 1023)), none], [], w)) rfl).trans ?_
          refine (val_g (c2 := (108, d + 1, 129, [some (.long l0), none, some (.int l2), some (.long l3), none, some (.long l5), none, some (.int l7), some (.long ((ushL l5 10) + 1)), none, some (.long (l5 &&& 1023)), none], [.long l0], w)) rfl).trans ?_
          refine (val_g (c2 := (108, d + 1, 131, [some (.long l0), none, some (.int l2), some (.long l3), none, some (.long l5), none, some (.int l7), some (.long ((ushL l5 10) + 1)), none, some (.long (l5 &&& 1023)), none], [.int l7, .long l0], w)) rfl).trans ?_
          refine (val_g (c2 := (108, d + 1, 132, [some (.long l0), none, some (.int l2), some (.long l3), none, some (.long l5), none, some (.int l7), some (.long ((ushL l5 10) + 1)), none, some (.long (l5 &&& 1023)), none], [.int 1, .int l7, .long l0], w)) rfl).trans ?_
          refine (val_g (c2 := (108, d + 1, 133, [some (.long l0), none, some (.int l2), some (.long l3), none, some (.long l5), none, some (.int l7), some (.long ((ushL l5 10) + 1)), none, some (.long (l5 &&& 1023)), none], [.int (l7 - 1), .long l0], w)) rfl).trans ?_
          refine (val_g (c2 := (108, d + 1, 134, [some (.long l0), none, some (.int l2), some (.long l3), none, some (.long l5), none, some (.int l7), some (.long ((ushL l5 10) + 1)), none, some (.long (l5 &&& 1023)), none], [.long (Int32.toInt64 ((l7 - 1))), .long l0], w)) rfl).trans ?_
          refine (val_g (c2 := (108, d + 1, 136, [some (.long l0), none, some (.int l2), some (.long l3), none, some (.long l5), none, some (.int l7), some (.long ((ushL l5 10) + 1)), none, some (.long (l5 &&& 1023)), none], [.int 52, .long (Int32.toInt64 ((l7 - 1))), .long l0], w)) rfl).trans ?_
          refine (val_g (c2 := (108, d + 1, 137, [some (.long l0), none, some (.int l2), some (.long l3), none, some (.long l5), none, some (.int l7), some (.long ((ushL l5 10) + 1)), none, some (.long (l5 &&& 1023)), none], [.long (shlL ((Int32.toInt64 ((l7 - 1)))) 52), .long l0], w)) rfl).trans ?_
          refine (val_g (c2 := (108, d + 1, 139, [some (.long l0), none, some (.int l2), some (.long l3), none, some (.long l5), none, some (.int l7), some (.long ((ushL l5 10) + 1)), none, some (.long (l5 &&& 1023)), none], [.long ((ushL l5 10) + 1), .long (shlL ((Int32.toInt64 ((l7 - 1)))) 52), .long l0], w)) rfl).trans ?_
          refine (val_g (c2 := (108, d + 1, 140, [some (.long l0), none, some (.int l2), some (.long l3), none, some (.long l5), none, some (.int l7), some (.long ((ushL l5 10) + 1)), none, some (.long (l5 &&& 1023)), none], [.long ((shlL ((Int32.toInt64 ((l7 - 1)))) 52) + ((ushL l5 10) + 1)), .long l0], w)) rfl).trans ?_
          refine (val_g (c2 := (108, d + 1, 141, [some (.long l0), none, some (.int l2), some (.long l3), none, some (.long l5), none, some (.int l7), some (.long ((ushL l5 10) + 1)), none, some (.long (l5 &&& 1023)), none], [.long (l0 ||| ((shlL ((Int32.toInt64 ((l7 - 1)))) 52) + ((ushL l5 10) + 1)))], w)) rfl).trans ?_
          exact val_r rfl
        · refine ((val_if_gt rfl).trans (if_neg hc586)).trans ?_
          show val (108, d + 1, 104, [some (.long l0), none, some (.int l2), some (.long l3), none, some (.long l5), none, some (.int l7), some (.long (ushL l5 10)), none, some (.long (l5 &&& 1023)), none], [], w) = _
          refine Eq.trans ?_ (if_neg hc586).symm
          refine (val_g (c2 := (108, d + 1, 106, [some (.long l0), none, some (.int l2), some (.long l3), none, some (.long l5), none, some (.int l7), some (.long (ushL l5 10)), none, some (.long (l5 &&& 1023)), none], [.long (l5 &&& 1023)], w)) rfl).trans ?_
          refine (val_g (c2 := (108, d + 1, 109, [some (.long l0), none, some (.int l2), some (.long l3), none, some (.long l5), none, some (.int l7), some (.long (ushL l5 10)), none, some (.long (l5 &&& 1023)), none], [.long 512, .long (l5 &&& 1023)], w)) rfl).trans ?_
          refine (val_g (c2 := (108, d + 1, 110, [some (.long l0), none, some (.int l2), some (.long l3), none, some (.long l5), none, some (.int l7), some (.long (ushL l5 10)), none, some (.long (l5 &&& 1023)), none], [.int (cmpL ((l5 &&& 1023)) 512)], w)) rfl).trans ?_
          by_cases hc587 : ¬ (cmpL ((l5 &&& 1023)) 512) = 0
          · refine ((val_if_ne rfl).trans (if_pos hc587)).trans ?_
            show val (108, d + 1, 128, [some (.long l0), none, some (.int l2), some (.long l3), none, some (.long l5), none, some (.int l7), some (.long (ushL l5 10)), none, some (.long (l5 &&& 1023)), none], [], w) = _
            refine Eq.trans ?_ (if_pos hc587).symm
            refine (val_g (c2 := (108, d + 1, 129, [some (.long l0), none, some (.int l2), some (.long l3), none, some (.long l5), none, some (.int l7), some (.long (ushL l5 10)), none, some (.long (l5 &&& 1023)), none], [.long l0], w)) rfl).trans ?_
            refine (val_g (c2 := (108, d + 1, 131, [some (.long l0), none, some (.int l2), some (.long l3), none, some (.long l5), none, some (.int l7), some (.long (ushL l5 10)), none, some (.long (l5 &&& 1023)), none], [.int l7, .long l0], w)) rfl).trans ?_
            refine (val_g (c2 := (108, d + 1, 132, [some (.long l0), none, some (.int l2), some (.long l3), none, some (.long l5), none, some (.int l7), some (.long (ushL l5 10)), none, some (.long (l5 &&& 1023)), none], [.int 1, .int l7, .long l0], w)) rfl).trans ?_
            refine (val_g (c2 := (108, d + 1, 133, [some (.long l0), none, some (.int l2), some (.long l3), none, some (.long l5), none, some (.int l7), some (.long (ushL l5 10)), none, some (.long (l5 &&& 1023)), none], [.int (l7 - 1), .long l0], w)) rfl).trans ?_
            refine (val_g (c2 := (108, d + 1, 134, [some (.long l0), none, some (.int l2), some (.long l3), none, some (.long l5), none, some (.int l7), some (.long (ushL l5 10)), none, some (.long (l5 &&& 1023)), none], [.long (Int32.toInt64 ((l7 - 1))), .long l0], w)) rfl).trans ?_
            refine (val_g (c2 := (108, d + 1, 136, [some (.long l0), none, some (.int l2), some (.long l3), none, some (.long l5), none, some (.int l7), some (.long (ushL l5 10)), none, some (.long (l5 &&& 1023)), none], [.int 52, .long (Int32.toInt64 ((l7 - 1))), .long l0], w)) rfl).trans ?_
            refine (val_g (c2 := (108, d + 1, 137, [some (.long l0), none, some (.int l2), some (.long l3), none, some (.long l5), none, some (.int l7), some (.long (ushL l5 10)), none, some (.long (l5 &&& 1023)), none], [.long (shlL ((Int32.toInt64 ((l7 - 1)))) 52), .long l0], w)) rfl).trans ?_
            refine (val_g (c2 := (108, d + 1, 139, [some (.long l0), none, some (.int l2), some (.long l3), none, some (.long l5), none, some (.int l7), some (.long (ushL l5 10)), none, some (.long (l5 &&& 1023)), none], [.long (ushL l5 10), .long (shlL ((Int32.toInt64 ((l7 - 1)))) 52), .long l0], w)) rfl).trans ?_
            refine (val_g (c2 := (108, d + 1, 140, [some (.long l0), none, some (.int l2), some (.long l3), none, some (.long l5), none, some (.int l7), some (.long (ushL l5 10)), none, some (.long (l5 &&& 1023)), none], [.long ((shlL ((Int32.toInt64 ((l7 - 1)))) 52) + (ushL l5 10)), .long l0], w)) rfl).trans ?_
            refine (val_g (c2 := (108, d + 1, 141, [some (.long l0), none, some (.int l2), some (.long l3), none, some (.long l5), none, some (.int l7), some (.long (ushL l5 10)), none, some (.long (l5 &&& 1023)), none], [.long (l0 ||| ((shlL ((Int32.toInt64 ((l7 - 1)))) 52) + (ushL l5 10)))], w)) rfl).trans ?_
            exact val_r rfl
          · refine ((val_if_ne rfl).trans (if_neg hc587)).trans ?_
            show val (108, d + 1, 113, [some (.long l0), none, some (.int l2), some (.long l3), none, some (.long l5), none, some (.int l7), some (.long (ushL l5 10)), none, some (.long (l5 &&& 1023)), none], [], w) = _
            refine Eq.trans ?_ (if_neg hc587).symm
            refine (val_g (c2 := (108, d + 1, 115, [some (.long l0), none, some (.int l2), some (.long l3), none, some (.long l5), none, some (.int l7), some (.long (ushL l5 10)), none, some (.long (l5 &&& 1023)), none], [.long (ushL l5 10)], w)) rfl).trans ?_
            refine (val_g (c2 := (108, d + 1, 116, [some (.long l0), none, some (.int l2), some (.long l3), none, some (.long l5), none, some (.int l7), some (.long (ushL l5 10)), none, some (.long (l5 &&& 1023)), none], [.long 1, .long (ushL l5 10)], w)) rfl).trans ?_
            refine (val_g (c2 := (108, d + 1, 117, [some (.long l0), none, some (.int l2), some (.long l3), none, some (.long l5), none, some (.int l7), some (.long (ushL l5 10)), none, some (.long (l5 &&& 1023)), none], [.long ((ushL l5 10) &&& 1)], w)) rfl).trans ?_
            refine (val_g (c2 := (108, d + 1, 118, [some (.long l0), none, some (.int l2), some (.long l3), none, some (.long l5), none, some (.int l7), some (.long (ushL l5 10)), none, some (.long (l5 &&& 1023)), none], [.long 0, .long ((ushL l5 10) &&& 1)], w)) rfl).trans ?_
            refine (val_g (c2 := (108, d + 1, 119, [some (.long l0), none, some (.int l2), some (.long l3), none, some (.long l5), none, some (.int l7), some (.long (ushL l5 10)), none, some (.long (l5 &&& 1023)), none], [.int (cmpL (((ushL l5 10) &&& 1)) 0)], w)) rfl).trans ?_
            by_cases hc588 : (cmpL (((ushL l5 10) &&& 1)) 0) = 0
            · refine ((val_if_eq rfl).trans (if_pos hc588)).trans ?_
              show val (108, d + 1, 128, [some (.long l0), none, some (.int l2), some (.long l3), none, some (.long l5), none, some (.int l7), some (.long (ushL l5 10)), none, some (.long (l5 &&& 1023)), none], [], w) = _
              refine Eq.trans ?_ (if_pos hc588).symm
              refine (val_g (c2 := (108, d + 1, 129, [some (.long l0), none, some (.int l2), some (.long l3), none, some (.long l5), none, some (.int l7), some (.long (ushL l5 10)), none, some (.long (l5 &&& 1023)), none], [.long l0], w)) rfl).trans ?_
              refine (val_g (c2 := (108, d + 1, 131, [some (.long l0), none, some (.int l2), some (.long l3), none, some (.long l5), none, some (.int l7), some (.long (ushL l5 10)), none, some (.long (l5 &&& 1023)), none], [.int l7, .long l0], w)) rfl).trans ?_
              refine (val_g (c2 := (108, d + 1, 132, [some (.long l0), none, some (.int l2), some (.long l3), none, some (.long l5), none, some (.int l7), some (.long (ushL l5 10)), none, some (.long (l5 &&& 1023)), none], [.int 1, .int l7, .long l0], w)) rfl).trans ?_
              refine (val_g (c2 := (108, d + 1, 133, [some (.long l0), none, some (.int l2), some (.long l3), none, some (.long l5), none, some (.int l7), some (.long (ushL l5 10)), none, some (.long (l5 &&& 1023)), none], [.int (l7 - 1), .long l0], w)) rfl).trans ?_
              refine (val_g (c2 := (108, d + 1, 134, [some (.long l0), none, some (.int l2), some (.long l3), none, some (.long l5), none, some (.int l7), some (.long (ushL l5 10)), none, some (.long (l5 &&& 1023)), none], [.long (Int32.toInt64 ((l7 - 1))), .long l0], w)) rfl).trans ?_
              refine (val_g (c2 := (108, d + 1, 136, [some (.long l0), none, some (.int l2), some (.long l3), none, some (.long l5), none, some (.int l7), some (.long (ushL l5 10)), none, some (.long (l5 &&& 1023)), none], [.int 52, .long (Int32.toInt64 ((l7 - 1))), .long l0], w)) rfl).trans ?_
              refine (val_g (c2 := (108, d + 1, 137, [some (.long l0), none, some (.int l2), some (.long l3), none, some (.long l5), none, some (.int l7), some (.long (ushL l5 10)), none, some (.long (l5 &&& 1023)), none], [.long (shlL ((Int32.toInt64 ((l7 - 1)))) 52), .long l0], w)) rfl).trans ?_
              refine (val_g (c2 := (108, d + 1, 139, [some (.long l0), none, some (.int l2), some (.long l3), none, some (.long l5), none, some (.int l7), some (.long (ushL l5 10)), none, some (.long (l5 &&& 1023)), none], [.long (ushL l5 10), .long (shlL ((Int32.toInt64 ((l7 - 1)))) 52), .long l0], w)) rfl).trans ?_
              refine (val_g (c2 := (108, d + 1, 140, [some (.long l0), none, some (.int l2), some (.long l3), none, some (.long l5), none, some (.int l7), some (.long (ushL l5 10)), none, some (.long (l5 &&& 1023)), none], [.long ((shlL ((Int32.toInt64 ((l7 - 1)))) 52) + (ushL l5 10)), .long l0], w)) rfl).trans ?_
              refine (val_g (c2 := (108, d + 1, 141, [some (.long l0), none, some (.int l2), some (.long l3), none, some (.long l5), none, some (.int l7), some (.long (ushL l5 10)), none, some (.long (l5 &&& 1023)), none], [.long (l0 ||| ((shlL ((Int32.toInt64 ((l7 - 1)))) 52) + (ushL l5 10)))], w)) rfl).trans ?_
              exact val_r rfl
            · refine ((val_if_eq rfl).trans (if_neg hc588)).trans ?_
              show val (108, d + 1, 122, [some (.long l0), none, some (.int l2), some (.long l3), none, some (.long l5), none, some (.int l7), some (.long (ushL l5 10)), none, some (.long (l5 &&& 1023)), none], [], w) = _
              refine Eq.trans ?_ (if_neg hc588).symm
              refine (val_g (c2 := (108, d + 1, 124, [some (.long l0), none, some (.int l2), some (.long l3), none, some (.long l5), none, some (.int l7), some (.long (ushL l5 10)), none, some (.long (l5 &&& 1023)), none], [.long (ushL l5 10)], w)) rfl).trans ?_
              refine (val_g (c2 := (108, d + 1, 125, [some (.long l0), none, some (.int l2), some (.long l3), none, some (.long l5), none, some (.int l7), some (.long (ushL l5 10)), none, some (.long (l5 &&& 1023)), none], [.long 1, .long (ushL l5 10)], w)) rfl).trans ?_
              refine (val_g (c2 := (108, d + 1, 126, [some (.long l0), none, some (.int l2), some (.long l3), none, some (.long l5), none, some (.int l7), some (.long (ushL l5 10)), none, some (.long (l5 &&& 1023)), none], [.long ((ushL l5 10) + 1)], w)) rfl).trans ?_
              refine (val_g (c2 := (108, d + 1, 128, [some (.long l0), none, some (.int l2), some (.long l3), none, some (.long l5), none, some (.int l7), some (.long ((ushL l5 10) + 1)), none, some (.long (l5 &&& 1023)), none], [], w)) rfl).trans ?_
              refine (val_g (c2 := (108, d + 1, 129, [some (.long l0), none, some (.int l2), some (.long l3), none, some (.long l5), none, some (.int l7), some (.long ((ushL l5 10) + 1)), none, some (.long (l5 &&& 1023)), none], [.long l0], w)) rfl).trans ?_
              refine (val_g (c2 := (108, d + 1, 131, [some (.long l0), none, some (.int l2), some (.long l3), none, some (.long l5), none, some (.int l7), some (.long ((ushL l5 10) + 1)), none, some (.long (l5 &&& 1023)), none], [.int l7, .long l0], w)) rfl).trans ?_
              refine (val_g (c2 := (108, d + 1, 132, [some (.long l0), none, some (.int l2), some (.long l3), none, some (.long l5), none, some (.int l7), some (.long ((ushL l5 10) + 1)), none, some (.long (l5 &&& 1023)), none], [.int 1, .int l7, .long l0], w)) rfl).trans ?_
              refine (val_g (c2 := (108, d + 1, 133, [some (.long l0), none, some (.int l2), some (.long l3), none, some (.long l5), none, some (.int l7), some (.long ((ushL l5 10) + 1)), none, some (.long (l5 &&& 1023)), none], [.int (l7 - 1), .long l0], w)) rfl).trans ?_
              refine (val_g (c2 := (108, d + 1, 134, [some (.long l0), none, some (.int l2), some (.long l3), none, some (.long l5), none, some (.int l7), some (.long ((ushL l5 10) + 1)), none, some (.long (l5 &&& 1023)), none], [.long (Int32.toInt64 ((l7 - 1))), .long l0], w)) rfl).trans ?_
              refine (val_g (c2 := (108, d + 1, 136, [some (.long l0), none, some (.int l2), some (.long l3), none, some (.long l5), none, some (.int l7), some (.long ((ushL l5 10) + 1)), none, some (.long (l5 &&& 1023)), none], [.int 52, .long (Int32.toInt64 ((l7 - 1))), .long l0], w)) rfl).trans ?_
              refine (val_g (c2 := (108, d + 1, 137, [some (.long l0), none, some (.int l2), some (.long l3), none, some (.long l5), none, some (.int l7), some (.long ((ushL l5 10) + 1)), none, some (.long (l5 &&& 1023)), none], [.long (shlL ((Int32.toInt64 ((l7 - 1)))) 52), .long l0], w)) rfl).trans ?_
              refine (val_g (c2 := (108, d + 1, 139, [some (.long l0), none, some (.int l2), some (.long l3), none, some (.long l5), none, some (.int l7), some (.long ((ushL l5 10) + 1)), none, some (.long (l5 &&& 1023)), none], [.long ((ushL l5 10) + 1), .long (shlL ((Int32.toInt64 ((l7 - 1)))) 52), .long l0], w)) rfl).trans ?_
              refine (val_g (c2 := (108, d + 1, 140, [some (.long l0), none, some (.int l2), some (.long l3), none, some (.long l5), none, some (.int l7), some (.long ((ushL l5 10) + 1)), none, some (.long (l5 &&& 1023)), none], [.long ((shlL ((Int32.toInt64 ((l7 - 1)))) 52) + ((ushL l5 10) + 1)), .long l0], w)) rfl).trans ?_
              refine (val_g (c2 := (108, d + 1, 141, [some (.long l0), none, some (.int l2), some (.long l3), none, some (.long l5), none, some (.int l7), some (.long ((ushL l5 10) + 1)), none, some (.long (l5 &&& 1023)), none], [.long (l0 ||| ((shlL ((Int32.toInt64 ((l7 - 1)))) 52) + ((ushL l5 10) + 1)))], w)) rfl).trans ?_
              exact val_r rfl
      · refine ((val_if_gt rfl).trans (if_neg hc585)).trans ?_
        show val (108, d + 1, 66, [some (.long l0), none, some (.int l2), some (.long l3), none, some (.long l5), none, some (.int l7), some (.int l8), none, none, none], [], w) = _
        refine Eq.trans ?_ (if_neg hc585).symm
        refine (val_g (c2 := (108, d + 1, 68, [some (.long l0), none, some (.int l2), some (.long l3), none, some (.long l5), none, some (.int l7), some (.int l8), none, none, none], [.long l5], w)) rfl).trans ?_
        refine (val_g (c2 := (108, d + 1, 69, [some (.long l0), none, some (.int l2), some (.long l3), none, some (.long l5), none, some (.int l7), some (.int l8), none, none, none], [.int 1, .long l5], w)) rfl).trans ?_
        refine (val_g (c2 := (108, d + 1, 71, [some (.long l0), none, some (.int l2), some (.long l3), none, some (.long l5), none, some (.int l7), some (.int l8), none, none, none], [.int l7, .int 1, .long l5], w)) rfl).trans ?_
        refine (val_g (c2 := (108, d + 1, 72, [some (.long l0), none, some (.int l2), some (.long l3), none, some (.long l5), none, some (.int l7), some (.int l8), none, none, none], [.int (1 - l7), .long l5], w)) rfl).trans ?_
        refine (val_call (w1 := w) (pc2 := 75) rfl rfl rfl rfl rfl (Nat.le_of_ble_eq_true rfl) (Nat.le_of_ble_eq_true rfl) rfl (ev_107 (d) w l5 ((1 - l7))) rfl).trans ?_
        show val (108, d + 1, 75, [some (.long l0), none, some (.int l2), some (.long l3), none, some (.long l5), none, some (.int l7), some (.int l8), none, none, none], [.long (fn_107 l5 ((1 - l7)))], w) = _
        refine (val_g (c2 := (108, d + 1, 77, [some (.long l0), none, some (.int l2), some (.long l3), none, some (.long (fn_107 l5 ((1 - l7)))), none, some (.int l7), some (.int l8), none, none, none], [], w)) rfl).trans ?_
        refine (val_g (c2 := (108, d + 1, 78, [some (.long l0), none, some (.int l2), some (.long l3), none, some (.long (fn_107 l5 ((1 - l7)))), none, some (.int l7), some (.int l8), none, none, none], [.int 1], w)) rfl).trans ?_
        refine (val_g (c2 := (108, d + 1, 80, [some (.long l0), none, some (.int l2), some (.long l3), none, some (.long (fn_107 l5 ((1 - l7)))), none, some (.int 1), some (.int l8), none, none, none], [], w)) rfl).trans ?_
        refine (val_g (c2 := (108, d + 1, 82, [some (.long l0), none, some (.int l2), some (.long l3), none, some (.long (fn_107 l5 ((1 - l7)))), none, some (.int 1), some (.int l8), none, none, none], [.long (fn_107 l5 ((1 - l7)))], w)) rfl).trans ?_
        refine (val_g (c2 := (108, d + 1, 84, [some (.long l0), none, some (.int l2), some (.long l3), none, some (.long (fn_107 l5 ((1 - l7)))), none, some (.int 1), some (.int l8), none, none, none], [.int 10, .long (fn_107 l5 ((1 - l7)))], w)) rfl).trans ?_
        refine (val_g (c2 := (108, d + 1, 85, [some (.long l0), none, some (.int l2), some (.long l3), none, some (.long (fn_107 l5 ((1 - l7)))), none, some (.int 1), some (.int l8), none, none, none], [.long (ushL ((fn_107 l5 ((1 - l7)))) 10)], w)) rfl).trans ?_
        refine (val_g (c2 := (108, d + 1, 87, [some (.long l0), none, some (.int l2), some (.long l3), none, some (.long (fn_107 l5 ((1 - l7)))), none, some (.int 1), some (.long (ushL ((fn_107 l5 ((1 - l7)))) 10)), none, none, none], [], w)) rfl).trans ?_
        refine (val_g (c2 := (108, d + 1, 89, [some (.long l0), none, some (.int l2), some (.long l3), none, some (.long (fn_107 l5 ((1 - l7)))), none, some (.int 1), some (.long (ushL ((fn_107 l5 ((1 - l7)))) 10)), none, none, none], [.long (fn_107 l5 ((1 - l7)))], w)) rfl).trans ?_
        refine (val_g (c2 := (108, d + 1, 92, [some (.long l0), none, some (.int l2), some (.long l3), none, some (.long (fn_107 l5 ((1 - l7)))), none, some (.int 1), some (.long (ushL ((fn_107 l5 ((1 - l7)))) 10)), none, none, none], [.long 1023, .long (fn_107 l5 ((1 - l7)))], w)) rfl).trans ?_
        refine (val_g (c2 := (108, d + 1, 93, [some (.long l0), none, some (.int l2), some (.long l3), none, some (.long (fn_107 l5 ((1 - l7)))), none, some (.int 1), some (.long (ushL ((fn_107 l5 ((1 - l7)))) 10)), none, none, none], [.long ((fn_107 l5 ((1 - l7))) &&& 1023)], w)) rfl).trans ?_
        refine (val_g (c2 := (108, d + 1, 95, [some (.long l0), none, some (.int l2), some (.long l3), none, some (.long (fn_107 l5 ((1 - l7)))), none, some (.int 1), some (.long (ushL ((fn_107 l5 ((1 - l7)))) 10)), none, some (.long ((fn_107 l5 ((1 - l7))) &&& 1023)), none], [], w)) rfl).trans ?_
        refine (val_g (c2 := (108, d + 1, 97, [some (.long l0), none, some (.int l2), some (.long l3), none, some (.long (fn_107 l5 ((1 - l7)))), none, some (.int 1), some (.long (ushL ((fn_107 l5 ((1 - l7)))) 10)), none, some (.long ((fn_107 l5 ((1 - l7))) &&& 1023)), none], [.long ((fn_107 l5 ((1 - l7))) &&& 1023)], w)) rfl).trans ?_
        refine (val_g (c2 := (108, d + 1, 100, [some (.long l0), none, some (.int l2), some (.long l3), none, some (.long (fn_107 l5 ((1 - l7)))), none, some (.int 1), some (.long (ushL ((fn_107 l5 ((1 - l7)))) 10)), none, some (.long ((fn_107 l5 ((1 - l7))) &&& 1023)), none], [.long 512, .long ((fn_107 l5 ((1 - l7))) &&& 1023)], w)) rfl).trans ?_
        refine (val_g (c2 := (108, d + 1, 101, [some (.long l0), none, some (.int l2), some (.long l3), none, some (.long (fn_107 l5 ((1 - l7)))), none, some (.int 1), some (.long (ushL ((fn_107 l5 ((1 - l7)))) 10)), none, some (.long ((fn_107 l5 ((1 - l7))) &&& 1023)), none], [.int (cmpL (((fn_107 l5 ((1 - l7))) &&& 1023)) 512)], w)) rfl).trans ?_
        by_cases hc589 : 0 < (cmpL (((fn_107 l5 ((1 - l7))) &&& 1023)) 512)
        · refine ((val_if_gt rfl).trans (if_pos hc589)).trans ?_
          show val (108, d + 1, 122, [some (.long l0), none, some (.int l2), some (.long l3), none, some (.long (fn_107 l5 ((1 - l7)))), none, some (.int 1), some (.long (ushL ((fn_107 l5 ((1 - l7)))) 10)), none, some (.long ((fn_107 l5 ((1 - l7))) &&& 1023)), none], [], w) = _
          refine Eq.trans ?_ (if_pos hc589).symm
          refine (val_g (c2 := (108, d + 1, 124, [some (.long l0), none, some (.int l2), some (.long l3), none, some (.long (fn_107 l5 ((1 - l7)))), none, some (.int 1), some (.long (ushL ((fn_107 l5 ((1 - l7)))) 10)), none, some (.long ((fn_107 l5 ((1 - l7))) &&& 1023)), none], [.long (ushL ((fn_107 l5 ((1 - l7)))) 10)], w)) rfl).trans ?_
          refine (val_g (c2 := (108, d + 1, 125, [some (.long l0), none, some (.int l2), some (.long l3), none, some (.long (fn_107 l5 ((1 - l7)))), none, some (.int 1), some (.long (ushL ((fn_107 l5 ((1 - l7)))) 10)), none, some (.long ((fn_107 l5 ((1 - l7))) &&& 1023)), none], [.long 1, .long (ushL ((fn_107 l5 ((1 - l7)))) 10)], w)) rfl).trans ?_
          refine (val_g (c2 := (108, d + 1, 126, [some (.long l0), none, some (.int l2), some (.long l3), none, some (.long (fn_107 l5 ((1 - l7)))), none, some (.int 1), some (.long (ushL ((fn_107 l5 ((1 - l7)))) 10)), none, some (.long ((fn_107 l5 ((1 - l7))) &&& 1023)), none], [.long ((ushL ((fn_107 l5 ((1 - l7)))) 10) + 1)], w)) rfl).trans ?_
          refine (val_g (c2 := (108, d + 1, 128, [some (.long l0), none, some (.int l2), some (.long l3), none, some (.long (fn_107 l5 ((1 - l7)))), none, some (.int 1), some (.long ((ushL ((fn_107 l5 ((1 - l7)))) 10) + 1)), none, some (.long ((fn_107 l5 ((1 - l7))) &&& 1023)), none], [], w)) rfl).trans ?_
          refine (val_g (c2 := (108, d + 1, 129, [some (.long l0), none, some (.int l2), some (.long l3), none, some (.long (fn_107 l5 ((1 - l7)))), none, some (.int 1), some (.long ((ushL ((fn_107 l5 ((1 - l7)))) 10) + 1)), none, some (.long ((fn_107 l5 ((1 - l7))) &&& 1023)), none], [.long l0], w)) rfl).trans ?_
          refine (val_g (c2 := (108, d + 1, 131, [some (.long l0), none, some (.int l2), some (.long l3), none, some (.long (fn_107 l5 ((1 - l7)))), none, some (.int 1), some (.long ((ushL ((fn_107 l5 ((1 - l7)))) 10) + 1)), none, some (.long ((fn_107 l5 ((1 - l7))) &&& 1023)), none], [.int 1, .long l0], w)) rfl).trans ?_
          refine (val_g (c2 := (108, d + 1, 132, [some (.long l0), none, some (.int l2), some (.long l3), none, some (.long (fn_107 l5 ((1 - l7)))), none, some (.int 1), some (.long ((ushL ((fn_107 l5 ((1 - l7)))) 10) + 1)), none, some (.long ((fn_107 l5 ((1 - l7))) &&& 1023)), none], [.int 1, .int 1, .long l0], w)) rfl).trans ?_
          refine (val_g (c2 := (108, d + 1, 133, [some (.long l0), none, some (.int l2), some (.long l3), none, some (.long (fn_107 l5 ((1 - l7)))), none, some (.int 1), some (.long ((ushL ((fn_107 l5 ((1 - l7)))) 10) + 1)), none, some (.long ((fn_107 l5 ((1 - l7))) &&& 1023)), none], [.int (1 - 1), .long l0], w)) rfl).trans ?_
          refine (val_g (c2 := (108, d + 1, 134, [some (.long l0), none, some (.int l2), some (.long l3), none, some (.long (fn_107 l5 ((1 - l7)))), none, some (.int 1), some (.long ((ushL ((fn_107 l5 ((1 - l7)))) 10) + 1)), none, some (.long ((fn_107 l5 ((1 - l7))) &&& 1023)), none], [.long (Int32.toInt64 ((1 - 1))), .long l0], w)) rfl).trans ?_
          refine (val_g (c2 := (108, d + 1, 136, [some (.long l0), none, some (.int l2), some (.long l3), none, some (.long (fn_107 l5 ((1 - l7)))), none, some (.int 1), some (.long ((ushL ((fn_107 l5 ((1 - l7)))) 10) + 1)), none, some (.long ((fn_107 l5 ((1 - l7))) &&& 1023)), none], [.int 52, .long (Int32.toInt64 ((1 - 1))), .long l0], w)) rfl).trans ?_
          refine (val_g (c2 := (108, d + 1, 137, [some (.long l0), none, some (.int l2), some (.long l3), none, some (.long (fn_107 l5 ((1 - l7)))), none, some (.int 1), some (.long ((ushL ((fn_107 l5 ((1 - l7)))) 10) + 1)), none, some (.long ((fn_107 l5 ((1 - l7))) &&& 1023)), none], [.long (shlL ((Int32.toInt64 ((1 - 1)))) 52), .long l0], w)) rfl).trans ?_
          refine (val_g (c2 := (108, d + 1, 139, [some (.long l0), none, some (.int l2), some (.long l3), none, some (.long (fn_107 l5 ((1 - l7)))), none, some (.int 1), some (.long ((ushL ((fn_107 l5 ((1 - l7)))) 10) + 1)), none, some (.long ((fn_107 l5 ((1 - l7))) &&& 1023)), none], [.long ((ushL ((fn_107 l5 ((1 - l7)))) 10) + 1), .long (shlL ((Int32.toInt64 ((1 - 1)))) 52), .long l0], w)) rfl).trans ?_
          refine (val_g (c2 := (108, d + 1, 140, [some (.long l0), none, some (.int l2), some (.long l3), none, some (.long (fn_107 l5 ((1 - l7)))), none, some (.int 1), some (.long ((ushL ((fn_107 l5 ((1 - l7)))) 10) + 1)), none, some (.long ((fn_107 l5 ((1 - l7))) &&& 1023)), none], [.long ((shlL ((Int32.toInt64 ((1 - 1)))) 52) + ((ushL ((fn_107 l5 ((1 - l7)))) 10) + 1)), .long l0], w)) rfl).trans ?_
          refine (val_g (c2 := (108, d + 1, 141, [some (.long l0), none, some (.int l2), some (.long l3), none, some (.long (fn_107 l5 ((1 - l7)))), none, some (.int 1), some (.long ((ushL ((fn_107 l5 ((1 - l7)))) 10) + 1)), none, some (.long ((fn_107 l5 ((1 - l7))) &&& 1023)), none], [.long (l0 ||| ((shlL ((Int32.toInt64 ((1 - 1)))) 52) + ((ushL ((fn_107 l5 ((1 - l7)))) 10) + 1)))], w)) rfl).trans ?_
          exact val_r rfl
        · refine ((val_if_gt rfl).trans (if_neg hc589)).trans ?_
          show val (108, d + 1, 104, [some (.long l0), none, some (.int l2), some (.long l3), none, some (.long (fn_107 l5 ((1 - l7)))), none, some (.int 1), some (.long (ushL ((fn_107 l5 ((1 - l7)))) 10)), none, some (.long ((fn_107 l5 ((1 - l7))) &&& 1023)), none], [], w) = _
          refine Eq.trans ?_ (if_neg hc589).symm
          refine (val_g (c2 := (108, d + 1, 106, [some (.long l0), none, some (.int l2), some (.long l3), none, some (.long (fn_107 l5 ((1 - l7)))), none, some (.int 1), some (.long (ushL ((fn_107 l5 ((1 - l7)))) 10)), none, some (.long ((fn_107 l5 ((1 - l7))) &&& 1023)), none], [.long ((fn_107 l5 ((1 - l7))) &&& 1023)], w)) rfl).trans ?_
          refine (val_g (c2 := (108, d + 1, 109, [some (.long l0), none, some (.int l2), some (.long l3), none, some (.long (fn_107 l5 ((1 - l7)))), none, some (.int 1), some (.long (ushL ((fn_107 l5 ((1 - l7)))) 10)), none, some (.long ((fn_107 l5 ((1 - l7))) &&& 1023)), none], [.long 512, .long ((fn_107 l5 ((1 - l7))) &&& 1023)], w)) rfl).trans ?_
          refine (val_g (c2 := (108, d + 1, 110, [some (.long l0), none, some (.int l2), some (.long l3), none, some (.long (fn_107 l5 ((1 - l7)))), none, some (.int 1), some (.long (ushL ((fn_107 l5 ((1 - l7)))) 10)), none, some (.long ((fn_107 l5 ((1 - l7))) &&& 1023)), none], [.int (cmpL (((fn_107 l5 ((1 - l7))) &&& 1023)) 512)], w)) rfl).trans ?_
          by_cases hc590 : ¬ (cmpL (((fn_107 l5 ((1 - l7))) &&& 1023)) 512) = 0
          · refine ((val_if_ne rfl).trans (if_pos hc590)).trans ?_
            show val (108, d + 1, 128, [some (.long l0), none, some (.int l2), some (.long l3), none, some (.long (fn_107 l5 ((1 - l7)))), none, some (.int 1), some (.long (ushL ((fn_107 l5 ((1 - l7)))) 10)), none, some (.long ((fn_107 l5 ((1 - l7))) &&& 1023)), none], [], w) = _
            refine Eq.trans ?_ (if_pos hc590).symm
            refine (val_g (c2 := (108, d + 1, 129, [some (.long l0), none, some (.int l2), some (.long l3), none, some (.long (fn_107 l5 ((1 - l7)))), none, some (.int 1), some (.long (ushL ((fn_107 l5 ((1 - l7)))) 10)), none, some (.long ((fn_107 l5 ((1 - l7))) &&& 1023)), none], [.long l0], w)) rfl).trans ?_
            refine (val_g (c2 := (108, d + 1, 131, [some (.long l0), none, some (.int l2), some (.long l3), none, some (.long (fn_107 l5 ((1 - l7)))), none, some (.int 1), some (.long (ushL ((fn_107 l5 ((1 - l7)))) 10)), none, some (.long ((fn_107 l5 ((1 - l7))) &&& 1023)), none], [.int 1, .long l0], w)) rfl).trans ?_
            refine (val_g (c2 := (108, d + 1, 132, [some (.long l0), none, some (.int l2), some (.long l3), none, some (.long (fn_107 l5 ((1 - l7)))), none, some (.int 1), some (.long (ushL ((fn_107 l5 ((1 - l7)))) 10)), none, some (.long ((fn_107 l5 ((1 - l7))) &&& 1023)), none], [.int 1, .int 1, .long l0], w)) rfl).trans ?_
            refine (val_g (c2 := (108, d + 1, 133, [some (.long l0), none, some (.int l2), some (.long l3), none, some (.long (fn_107 l5 ((1 - l7)))), none, some (.int 1), some (.long (ushL ((fn_107 l5 ((1 - l7)))) 10)), none, some (.long ((fn_107 l5 ((1 - l7))) &&& 1023)), none], [.int (1 - 1), .long l0], w)) rfl).trans ?_
            refine (val_g (c2 := (108, d + 1, 134, [some (.long l0), none, some (.int l2), some (.long l3), none, some (.long (fn_107 l5 ((1 - l7)))), none, some (.int 1), some (.long (ushL ((fn_107 l5 ((1 - l7)))) 10)), none, some (.long ((fn_107 l5 ((1 - l7))) &&& 1023)), none], [.long (Int32.toInt64 ((1 - 1))), .long l0], w)) rfl).trans ?_
            refine (val_g (c2 := (108, d + 1, 136, [some (.long l0), none, some (.int l2), some (.long l3), none, some (.long (fn_107 l5 ((1 - l7)))), none, some (.int 1), some (.long (ushL ((fn_107 l5 ((1 - l7)))) 10)), none, some (.long ((fn_107 l5 ((1 - l7))) &&& 1023)), none], [.int 52, .long (Int32.toInt64 ((1 - 1))), .long l0], w)) rfl).trans ?_
            refine (val_g (c2 := (108, d + 1, 137, [some (.long l0), none, some (.int l2), some (.long l3), none, some (.long (fn_107 l5 ((1 - l7)))), none, some (.int 1), some (.long (ushL ((fn_107 l5 ((1 - l7)))) 10)), none, some (.long ((fn_107 l5 ((1 - l7))) &&& 1023)), none], [.long (shlL ((Int32.toInt64 ((1 - 1)))) 52), .long l0], w)) rfl).trans ?_
            refine (val_g (c2 := (108, d + 1, 139, [some (.long l0), none, some (.int l2), some (.long l3), none, some (.long (fn_107 l5 ((1 - l7)))), none, some (.int 1), some (.long (ushL ((fn_107 l5 ((1 - l7)))) 10)), none, some (.long ((fn_107 l5 ((1 - l7))) &&& 1023)), none], [.long (ushL ((fn_107 l5 ((1 - l7)))) 10), .long (shlL ((Int32.toInt64 ((1 - 1)))) 52), .long l0], w)) rfl).trans ?_
            refine (val_g (c2 := (108, d + 1, 140, [some (.long l0), none, some (.int l2), some (.long l3), none, some (.long (fn_107 l5 ((1 - l7)))), none, some (.int 1), some (.long (ushL ((fn_107 l5 ((1 - l7)))) 10)), none, some (.long ((fn_107 l5 ((1 - l7))) &&& 1023)), none], [.long ((shlL ((Int32.toInt64 ((1 - 1)))) 52) + (ushL ((fn_107 l5 ((1 - l7)))) 10)), .long l0], w)) rfl).trans ?_
            refine (val_g (c2 := (108, d + 1, 141, [some (.long l0), none, some (.int l2), some (.long l3), none, some (.long (fn_107 l5 ((1 - l7)))), none, some (.int 1), some (.long (ushL ((fn_107 l5 ((1 - l7)))) 10)), none, some (.long ((fn_107 l5 ((1 - l7))) &&& 1023)), none], [.long (l0 ||| ((shlL ((Int32.toInt64 ((1 - 1)))) 52) + (ushL ((fn_107 l5 ((1 - l7)))) 10)))], w)) rfl).trans ?_
            exact val_r rfl
          · refine ((val_if_ne rfl).trans (if_neg hc590)).trans ?_
            show val (108, d + 1, 113, [some (.long l0), none, some (.int l2), some (.long l3), none, some (.long (fn_107 l5 ((1 - l7)))), none, some (.int 1), some (.long (ushL ((fn_107 l5 ((1 - l7)))) 10)), none, some (.long ((fn_107 l5 ((1 - l7))) &&& 1023)), none], [], w) = _
            refine Eq.trans ?_ (if_neg hc590).symm
            refine (val_g (c2 := (108, d + 1, 115, [some (.long l0), none, some (.int l2), some (.long l3), none, some (.long (fn_107 l5 ((1 - l7)))), none, some (.int 1), some (.long (ushL ((fn_107 l5 ((1 - l7)))) 10)), none, some (.long ((fn_107 l5 ((1 - l7))) &&& 1023)), none], [.long (ushL ((fn_107 l5 ((1 - l7)))) 10)], w)) rfl).trans ?_
            refine (val_g (c2 := (108, d + 1, 116, [some (.long l0), none, some (.int l2), some (.long l3), none, some (.long (fn_107 l5 ((1 - l7)))), none, some (.int 1), some (.long (ushL ((fn_107 l5 ((1 - l7)))) 10)), none, some (.long ((fn_107 l5 ((1 - l7))) &&& 1023)), none], [.long 1, .long (ushL ((fn_107 l5 ((1 - l7)))) 10)], w)) rfl).trans ?_
            refine (val_g (c2 := (108, d + 1, 117, [some (.long l0), none, some (.int l2), some (.long l3), none, some (.long (fn_107 l5 ((1 - l7)))), none, some (.int 1), some (.long (ushL ((fn_107 l5 ((1 - l7)))) 10)), none, some (.long ((fn_107 l5 ((1 - l7))) &&& 1023)), none], [.long ((ushL ((fn_107 l5 ((1 - l7)))) 10) &&& 1)], w)) rfl).trans ?_
            refine (val_g (c2 := (108, d + 1, 118, [some (.long l0), none, some (.int l2), some (.long l3), none, some (.long (fn_107 l5 ((1 - l7)))), none, some (.int 1), some (.long (ushL ((fn_107 l5 ((1 - l7)))) 10)), none, some (.long ((fn_107 l5 ((1 - l7))) &&& 1023)), none], [.long 0, .long ((ushL ((fn_107 l5 ((1 - l7)))) 10) &&& 1)], w)) rfl).trans ?_
            refine (val_g (c2 := (108, d + 1, 119, [some (.long l0), none, some (.int l2), some (.long l3), none, some (.long (fn_107 l5 ((1 - l7)))), none, some (.int 1), some (.long (ushL ((fn_107 l5 ((1 - l7)))) 10)), none, some (.long ((fn_107 l5 ((1 - l7))) &&& 1023)), none], [.int (cmpL (((ushL ((fn_107 l5 ((1 - l7)))) 10) &&& 1)) 0)], w)) rfl).trans ?_
            by_cases hc591 : (cmpL (((ushL ((fn_107 l5 ((1 - l7)))) 10) &&& 1)) 0) = 0
            · refine ((val_if_eq rfl).trans (if_pos hc591)).trans ?_
              show val (108, d + 1, 128, [some (.long l0), none, some (.int l2), some (.long l3), none, some (.long (fn_107 l5 ((1 - l7)))), none, some (.int 1), some (.long (ushL ((fn_107 l5 ((1 - l7)))) 10)), none, some (.long ((fn_107 l5 ((1 - l7))) &&& 1023)), none], [], w) = _
              refine Eq.trans ?_ (if_pos hc591).symm
              refine (val_g (c2 := (108, d + 1, 129, [some (.long l0), none, some (.int l2), some (.long l3), none, some (.long (fn_107 l5 ((1 - l7)))), none, some (.int 1), some (.long (ushL ((fn_107 l5 ((1 - l7)))) 10)), none, some (.long ((fn_107 l5 ((1 - l7))) &&& 1023)), none], [.long l0], w)) rfl).trans ?_
              refine (val_g (c2 := (108, d + 1, 131, [some (.long l0), none, some (.int l2), some (.long l3), none, some (.long (fn_107 l5 ((1 - l7)))), none, some (.int 1), some (.long (ushL ((fn_107 l5 ((1 - l7)))) 10)), none, some (.long ((fn_107 l5 ((1 - l7))) &&& 1023)), none], [.int 1, .long l0], w)) rfl).trans ?_
              refine (val_g (c2 := (108, d + 1, 132, [some (.long l0), none, some (.int l2), some (.long l3), none, some (.long (fn_107 l5 ((1 - l7)))), none, some (.int 1), some (.long (ushL ((fn_107 l5 ((1 - l7)))) 10)), none, some (.long ((fn_107 l5 ((1 - l7))) &&& 1023)), none], [.int 1, .int 1, .long l0], w)) rfl).trans ?_
              refine (val_g (c2 := (108, d + 1, 133, [some (.long l0), none, some (.int l2), some (.long l3), none, some (.long (fn_107 l5 ((1 - l7)))), none, some (.int 1), some (.long (ushL ((fn_107 l5 ((1 - l7)))) 10)), none, some (.long ((fn_107 l5 ((1 - l7))) &&& 1023)), none], [.int (1 - 1), .long l0], w)) rfl).trans ?_
              refine (val_g (c2 := (108, d + 1, 134, [some (.long l0), none, some (.int l2), some (.long l3), none, some (.long (fn_107 l5 ((1 - l7)))), none, some (.int 1), some (.long (ushL ((fn_107 l5 ((1 - l7)))) 10)), none, some (.long ((fn_107 l5 ((1 - l7))) &&& 1023)), none], [.long (Int32.toInt64 ((1 - 1))), .long l0], w)) rfl).trans ?_
              refine (val_g (c2 := (108, d + 1, 136, [some (.long l0), none, some (.int l2), some (.long l3), none, some (.long (fn_107 l5 ((1 - l7)))), none, some (.int 1), some (.long (ushL ((fn_107 l5 ((1 - l7)))) 10)), none, some (.long ((fn_107 l5 ((1 - l7))) &&& 1023)), none], [.int 52, .long (Int32.toInt64 ((1 - 1))), .long l0], w)) rfl).trans ?_
              refine (val_g (c2 := (108, d + 1, 137, [some (.long l0), none, some (.int l2), some (.long l3), none, some (.long (fn_107 l5 ((1 - l7)))), none, some (.int 1), some (.long (ushL ((fn_107 l5 ((1 - l7)))) 10)), none, some (.long ((fn_107 l5 ((1 - l7))) &&& 1023)), none], [.long (shlL ((Int32.toInt64 ((1 - 1)))) 52), .long l0], w)) rfl).trans ?_
              refine (val_g (c2 := (108, d + 1, 139, [some (.long l0), none, some (.int l2), some (.long l3), none, some (.long (fn_107 l5 ((1 - l7)))), none, some (.int 1), some (.long (ushL ((fn_107 l5 ((1 - l7)))) 10)), none, some (.long ((fn_107 l5 ((1 - l7))) &&& 1023)), none], [.long (ushL ((fn_107 l5 ((1 - l7)))) 10), .long (shlL ((Int32.toInt64 ((1 - 1)))) 52), .long l0], w)) rfl).trans ?_
              refine (val_g (c2 := (108, d + 1, 140, [some (.long l0), none, some (.int l2), some (.long l3), none, some (.long (fn_107 l5 ((1 - l7)))), none, some (.int 1), some (.long (ushL ((fn_107 l5 ((1 - l7)))) 10)), none, some (.long ((fn_107 l5 ((1 - l7))) &&& 1023)), none], [.long ((shlL ((Int32.toInt64 ((1 - 1)))) 52) + (ushL ((fn_107 l5 ((1 - l7)))) 10)), .long l0], w)) rfl).trans ?_
              refine (val_g (c2 := (108, d + 1, 141, [some (.long l0), none, some (.int l2), some (.long l3), none, some (.long (fn_107 l5 ((1 - l7)))), none, some (.int 1), some (.long (ushL ((fn_107 l5 ((1 - l7)))) 10)), none, some (.long ((fn_107 l5 ((1 - l7))) &&& 1023)), none], [.long (l0 ||| ((shlL ((Int32.toInt64 ((1 - 1)))) 52) + (ushL ((fn_107 l5 ((1 - l7)))) 10)))], w)) rfl).trans ?_
              exact val_r rfl
            · refine ((val_if_eq rfl).trans (if_neg hc591)).trans ?_
              show val (108, d + 1, 122, [some (.long l0), none, some (.int l2), some (.long l3), none, some (.long (fn_107 l5 ((1 - l7)))), none, some (.int 1), some (.long (ushL ((fn_107 l5 ((1 - l7)))) 10)), none, some (.long ((fn_107 l5 ((1 - l7))) &&& 1023)), none], [], w) = _
              refine Eq.trans ?_ (if_neg hc591).symm
              refine (val_g (c2 := (108, d + 1, 124, [some (.long l0), none, some (.int l2), some (.long l3), none, some (.long (fn_107 l5 ((1 - l7)))), none, some (.int 1), some (.long (ushL ((fn_107 l5 ((1 - l7)))) 10)), none, some (.long ((fn_107 l5 ((1 - l7))) &&& 1023)), none], [.long (ushL ((fn_107 l5 ((1 - l7)))) 10)], w)) rfl).trans ?_
              refine (val_g (c2 := (108, d + 1, 125, [some (.long l0), none, some (.int l2), some (.long l3), none, some (.long (fn_107 l5 ((1 - l7)))), none, some (.int 1), some (.long (ushL ((fn_107 l5 ((1 - l7)))) 10)), none, some (.long ((fn_107 l5 ((1 - l7))) &&& 1023)), none], [.long 1, .long (ushL ((fn_107 l5 ((1 - l7)))) 10)], w)) rfl).trans ?_
              refine (val_g (c2 := (108, d + 1, 126, [some (.long l0), none, some (.int l2), some (.long l3), none, some (.long (fn_107 l5 ((1 - l7)))), none, some (.int 1), some (.long (ushL ((fn_107 l5 ((1 - l7)))) 10)), none, some (.long ((fn_107 l5 ((1 - l7))) &&& 1023)), none], [.long ((ushL ((fn_107 l5 ((1 - l7)))) 10) + 1)], w)) rfl).trans ?_
              refine (val_g (c2 := (108, d + 1, 128, [some (.long l0), none, some (.int l2), some (.long l3), none, some (.long (fn_107 l5 ((1 - l7)))), none, some (.int 1), some (.long ((ushL ((fn_107 l5 ((1 - l7)))) 10) + 1)), none, some (.long ((fn_107 l5 ((1 - l7))) &&& 1023)), none], [], w)) rfl).trans ?_
              refine (val_g (c2 := (108, d + 1, 129, [some (.long l0), none, some (.int l2), some (.long l3), none, some (.long (fn_107 l5 ((1 - l7)))), none, some (.int 1), some (.long ((ushL ((fn_107 l5 ((1 - l7)))) 10) + 1)), none, some (.long ((fn_107 l5 ((1 - l7))) &&& 1023)), none], [.long l0], w)) rfl).trans ?_
              refine (val_g (c2 := (108, d + 1, 131, [some (.long l0), none, some (.int l2), some (.long l3), none, some (.long (fn_107 l5 ((1 - l7)))), none, some (.int 1), some (.long ((ushL ((fn_107 l5 ((1 - l7)))) 10) + 1)), none, some (.long ((fn_107 l5 ((1 - l7))) &&& 1023)), none], [.int 1, .long l0], w)) rfl).trans ?_
              refine (val_g (c2 := (108, d + 1, 132, [some (.long l0), none, some (.int l2), some (.long l3), none, some (.long (fn_107 l5 ((1 - l7)))), none, some (.int 1), some (.long ((ushL ((fn_107 l5 ((1 - l7)))) 10) + 1)), none, some (.long ((fn_107 l5 ((1 - l7))) &&& 1023)), none], [.int 1, .int 1, .long l0], w)) rfl).trans ?_
              refine (val_g (c2 := (108, d + 1, 133, [some (.long l0), none, some (.int l2), some (.long l3), none, some (.long (fn_107 l5 ((1 - l7)))), none, some (.int 1), some (.long ((ushL ((fn_107 l5 ((1 - l7)))) 10) + 1)), none, some (.long ((fn_107 l5 ((1 - l7))) &&& 1023)), none], [.int (1 - 1), .long l0], w)) rfl).trans ?_
              refine (val_g (c2 := (108, d + 1, 134, [some (.long l0), none, some (.int l2), some (.long l3), none, some (.long (fn_107 l5 ((1 - l7)))), none, some (.int 1), some (.long ((ushL ((fn_107 l5 ((1 - l7)))) 10) + 1)), none, some (.long ((fn_107 l5 ((1 - l7))) &&& 1023)), none], [.long (Int32.toInt64 ((1 - 1))), .long l0], w)) rfl).trans ?_
              refine (val_g (c2 := (108, d + 1, 136, [some (.long l0), none, some (.int l2), some (.long l3), none, some (.long (fn_107 l5 ((1 - l7)))), none, some (.int 1), some (.long ((ushL ((fn_107 l5 ((1 - l7)))) 10) + 1)), none, some (.long ((fn_107 l5 ((1 - l7))) &&& 1023)), none], [.int 52, .long (Int32.toInt64 ((1 - 1))), .long l0], w)) rfl).trans ?_
              refine (val_g (c2 := (108, d + 1, 137, [some (.long l0), none, some (.int l2), some (.long l3), none, some (.long (fn_107 l5 ((1 - l7)))), none, some (.int 1), some (.long ((ushL ((fn_107 l5 ((1 - l7)))) 10) + 1)), none, some (.long ((fn_107 l5 ((1 - l7))) &&& 1023)), none], [.long (shlL ((Int32.toInt64 ((1 - 1)))) 52), .long l0], w)) rfl).trans ?_
              refine (val_g (c2 := (108, d + 1, 139, [some (.long l0), none, some (.int l2), some (.long l3), none, some (.long (fn_107 l5 ((1 - l7)))), none, some (.int 1), some (.long ((ushL ((fn_107 l5 ((1 - l7)))) 10) + 1)), none, some (.long ((fn_107 l5 ((1 - l7))) &&& 1023)), none], [.long ((ushL ((fn_107 l5 ((1 - l7)))) 10) + 1), .long (shlL ((Int32.toInt64 ((1 - 1)))) 52), .long l0], w)) rfl).trans ?_
              refine (val_g (c2 := (108, d + 1, 140, [some (.long l0), none, some (.int l2), some (.long l3), none, some (.long (fn_107 l5 ((1 - l7)))), none, some (.int 1), some (.long ((ushL ((fn_107 l5 ((1 - l7)))) 10) + 1)), none, some (.long ((fn_107 l5 ((1 - l7))) &&& 1023)), none], [.long ((shlL ((Int32.toInt64 ((1 - 1)))) 52) + ((ushL ((fn_107 l5 ((1 - l7)))) 10) + 1)), .long l0], w)) rfl).trans ?_
              refine (val_g (c2 := (108, d + 1, 141, [some (.long l0), none, some (.int l2), some (.long l3), none, some (.long (fn_107 l5 ((1 - l7)))), none, some (.int 1), some (.long ((ushL ((fn_107 l5 ((1 - l7)))) 10) + 1)), none, some (.long ((fn_107 l5 ((1 - l7))) &&& 1023)), none], [.long (l0 ||| ((shlL ((Int32.toInt64 ((1 - 1)))) 52) + ((ushL ((fn_107 l5 ((1 - l7)))) 10) + 1)))], w)) rfl).trans ?_
              exact val_r rfl
    · refine ((val_ic_lt rfl).trans (if_neg hc584)).trans ?_
      show val (108, d + 1, 55, [some (.long l0), none, some (.int l2), some (.long l3), none, some (.long l5), none, some (.int l7), some (.int l8), none, none, none], [], w) = _
      refine Eq.trans ?_ (if_neg hc584).symm
      refine (val_g (c2 := (108, d + 1, 56, [some (.long l0), none, some (.int l2), some (.long l3), none, some (.long l5), none, some (.int l7), some (.int l8), none, none, none], [.long l0], w)) rfl).trans ?_
      refine (val_g (c2 := (108, d + 1, 59, [some (.long l0), none, some (.int l2), some (.long l3), none, some (.long l5), none, some (.int l7), some (.int l8), none, none, none], [.long 9218868437227405312, .long l0], w)) rfl).trans ?_
      refine (val_g (c2 := (108, d + 1, 60, [some (.long l0), none, some (.int l2), some (.long l3), none, some (.long l5), none, some (.int l7), some (.int l8), none, none, none], [.long (l0 ||| 9218868437227405312)], w)) rfl).trans ?_
      exact val_r rfl
  · refine ((val_ic_ge rfl).trans (if_neg hc583)).trans ?_
    show val (108, d + 1, 23, [some (.long l0), none, some (.int l2), some (.long l3), none, some (.long l5), none, some (.int l7), some (.int l8), none, none, none], [], w) = _
    refine Eq.trans ?_ (if_neg hc583).symm
    refine (val_g (c2 := (108, d + 1, 25, [some (.long l0), none, some (.int l2), some (.long l3), none, some (.long l5), none, some (.int l7), some (.int l8), none, none, none], [.long l5], w)) rfl).trans ?_
    refine (val_g (c2 := (108, d + 1, 28, [some (.long l0), none, some (.int l2), some (.long l3), none, some (.long l5), none, some (.int l7), some (.int l8), none, none, none], [.long 4611686018427387904, .long l5], w)) rfl).trans ?_
    refine (val_g (c2 := (108, d + 1, 29, [some (.long l0), none, some (.int l2), some (.long l3), none, some (.long l5), none, some (.int l7), some (.int l8), none, none, none], [.int (cmpL l5 4611686018427387904)], w)) rfl).trans ?_
    by_cases hc592 : 0 ≤ (cmpL l5 4611686018427387904)
    · refine ((val_if_ge rfl).trans (if_pos hc592)).trans ?_
      show val (108, d + 1, 47, [some (.long l0), none, some (.int l2), some (.long l3), none, some (.long l5), none, some (.int l7), some (.int l8), none, none, none], [], w) = _
      refine Eq.trans ?_ (if_pos hc592).symm
      refine (val_g (c2 := (108, d + 1, 49, [some (.long l0), none, some (.int l2), some (.long l3), none, some (.long l5), none, some (.int l7), some (.int l8), none, none, none], [.int l7], w)) rfl).trans ?_
      refine (val_g (c2 := (108, d + 1, 52, [some (.long l0), none, some (.int l2), some (.long l3), none, some (.long l5), none, some (.int l7), some (.int l8), none, none, none], [.int 2047, .int l7], w)) rfl).trans ?_
      by_cases hc593 : l7 < 2047
      · refine ((val_ic_lt rfl).trans (if_pos hc593)).trans ?_
        show val (108, d + 1, 61, [some (.long l0), none, some (.int l2), some (.long l3), none, some (.long l5), none, some (.int l7), some (.int l8), none, none, none], [], w) = _
        refine Eq.trans ?_ (if_pos hc593).symm
        refine (val_g (c2 := (108, d + 1, 63, [some (.long l0), none, some (.int l2), some (.long l3), none, some (.long l5), none, some (.int l7), some (.int l8), none, none, none], [.int l7], w)) rfl).trans ?_
        by_cases hc594 : 0 < l7
        · refine ((val_if_gt rfl).trans (if_pos hc594)).trans ?_
          show val (108, d + 1, 80, [some (.long l0), none, some (.int l2), some (.long l3), none, some (.long l5), none, some (.int l7), some (.int l8), none, none, none], [], w) = _
          refine Eq.trans ?_ (if_pos hc594).symm
          refine (val_g (c2 := (108, d + 1, 82, [some (.long l0), none, some (.int l2), some (.long l3), none, some (.long l5), none, some (.int l7), some (.int l8), none, none, none], [.long l5], w)) rfl).trans ?_
          refine (val_g (c2 := (108, d + 1, 84, [some (.long l0), none, some (.int l2), some (.long l3), none, some (.long l5), none, some (.int l7), some (.int l8), none, none, none], [.int 10, .long l5], w)) rfl).trans ?_
          refine (val_g (c2 := (108, d + 1, 85, [some (.long l0), none, some (.int l2), some (.long l3), none, some (.long l5), none, some (.int l7), some (.int l8), none, none, none], [.long (ushL l5 10)], w)) rfl).trans ?_
          refine (val_g (c2 := (108, d + 1, 87, [some (.long l0), none, some (.int l2), some (.long l3), none, some (.long l5), none, some (.int l7), some (.long (ushL l5 10)), none, none, none], [], w)) rfl).trans ?_
          refine (val_g (c2 := (108, d + 1, 89, [some (.long l0), none, some (.int l2), some (.long l3), none, some (.long l5), none, some (.int l7), some (.long (ushL l5 10)), none, none, none], [.long l5], w)) rfl).trans ?_
          refine (val_g (c2 := (108, d + 1, 92, [some (.long l0), none, some (.int l2), some (.long l3), none, some (.long l5), none, some (.int l7), some (.long (ushL l5 10)), none, none, none], [.long 1023, .long l5], w)) rfl).trans ?_
          refine (val_g (c2 := (108, d + 1, 93, [some (.long l0), none, some (.int l2), some (.long l3), none, some (.long l5), none, some (.int l7), some (.long (ushL l5 10)), none, none, none], [.long (l5 &&& 1023)], w)) rfl).trans ?_
          refine (val_g (c2 := (108, d + 1, 95, [some (.long l0), none, some (.int l2), some (.long l3), none, some (.long l5), none, some (.int l7), some (.long (ushL l5 10)), none, some (.long (l5 &&& 1023)), none], [], w)) rfl).trans ?_
          refine (val_g (c2 := (108, d + 1, 97, [some (.long l0), none, some (.int l2), some (.long l3), none, some (.long l5), none, some (.int l7), some (.long (ushL l5 10)), none, some (.long (l5 &&& 1023)), none], [.long (l5 &&& 1023)], w)) rfl).trans ?_
          refine (val_g (c2 := (108, d + 1, 100, [some (.long l0), none, some (.int l2), some (.long l3), none, some (.long l5), none, some (.int l7), some (.long (ushL l5 10)), none, some (.long (l5 &&& 1023)), none], [.long 512, .long (l5 &&& 1023)], w)) rfl).trans ?_
          refine (val_g (c2 := (108, d + 1, 101, [some (.long l0), none, some (.int l2), some (.long l3), none, some (.long l5), none, some (.int l7), some (.long (ushL l5 10)), none, some (.long (l5 &&& 1023)), none], [.int (cmpL ((l5 &&& 1023)) 512)], w)) rfl).trans ?_
          by_cases hc595 : 0 < (cmpL ((l5 &&& 1023)) 512)
          · refine ((val_if_gt rfl).trans (if_pos hc595)).trans ?_
            show val (108, d + 1, 122, [some (.long l0), none, some (.int l2), some (.long l3), none, some (.long l5), none, some (.int l7), some (.long (ushL l5 10)), none, some (.long (l5 &&& 1023)), none], [], w) = _
            refine Eq.trans ?_ (if_pos hc595).symm
            refine (val_g (c2 := (108, d + 1, 124, [some (.long l0), none, some (.int l2), some (.long l3), none, some (.long l5), none, some (.int l7), some (.long (ushL l5 10)), none, some (.long (l5 &&& 1023)), none], [.long (ushL l5 10)], w)) rfl).trans ?_
            refine (val_g (c2 := (108, d + 1, 125, [some (.long l0), none, some (.int l2), some (.long l3), none, some (.long l5), none, some (.int l7), some (.long (ushL l5 10)), none, some (.long (l5 &&& 1023)), none], [.long 1, .long (ushL l5 10)], w)) rfl).trans ?_
            refine (val_g (c2 := (108, d + 1, 126, [some (.long l0), none, some (.int l2), some (.long l3), none, some (.long l5), none, some (.int l7), some (.long (ushL l5 10)), none, some (.long (l5 &&& 1023)), none], [.long ((ushL l5 10) + 1)], w)) rfl).trans ?_
            refine (val_g (c2 := (108, d + 1, 128, [some (.long l0), none, some (.int l2), some (.long l3), none, some (.long l5), none, some (.int l7), some (.long ((ushL l5 10) + 1)), none, some (.long (l5 &&& 1023)), none], [], w)) rfl).trans ?_
            refine (val_g (c2 := (108, d + 1, 129, [some (.long l0), none, some (.int l2), some (.long l3), none, some (.long l5), none, some (.int l7), some (.long ((ushL l5 10) + 1)), none, some (.long (l5 &&& 1023)), none], [.long l0], w)) rfl).trans ?_
            refine (val_g (c2 := (108, d + 1, 131, [some (.long l0), none, some (.int l2), some (.long l3), none, some (.long l5), none, some (.int l7), some (.long ((ushL l5 10) + 1)), none, some (.long (l5 &&& 1023)), none], [.int l7, .long l0], w)) rfl).trans ?_
            refine (val_g (c2 := (108, d + 1, 132, [some (.long l0), none, some (.int l2), some (.long l3), none, some (.long l5), none, some (.int l7), some (.long ((ushL l5 10) + 1)), none, some (.long (l5 &&& 1023)), none], [.int 1, .int l7, .long l0], w)) rfl).trans ?_
            refine (val_g (c2 := (108, d + 1, 133, [some (.long l0), none, some (.int l2), some (.long l3), none, some (.long l5), none, some (.int l7), some (.long ((ushL l5 10) + 1)), none, some (.long (l5 &&& 1023)), none], [.int (l7 - 1), .long l0], w)) rfl).trans ?_
            refine (val_g (c2 := (108, d + 1, 134, [some (.long l0), none, some (.int l2), some (.long l3), none, some (.long l5), none, some (.int l7), some (.long ((ushL l5 10) + 1)), none, some (.long (l5 &&& 1023)), none], [.long (Int32.toInt64 ((l7 - 1))), .long l0], w)) rfl).trans ?_
            refine (val_g (c2 := (108, d + 1, 136, [some (.long l0), none, some (.int l2), some (.long l3), none, some (.long l5), none, some (.int l7), some (.long ((ushL l5 10) + 1)), none, some (.long (l5 &&& 1023)), none], [.int 52, .long (Int32.toInt64 ((l7 - 1))), .long l0], w)) rfl).trans ?_
            refine (val_g (c2 := (108, d + 1, 137, [some (.long l0), none, some (.int l2), some (.long l3), none, some (.long l5), none, some (.int l7), some (.long ((ushL l5 10) + 1)), none, some (.long (l5 &&& 1023)), none], [.long (shlL ((Int32.toInt64 ((l7 - 1)))) 52), .long l0], w)) rfl).trans ?_
            refine (val_g (c2 := (108, d + 1, 139, [some (.long l0), none, some (.int l2), some (.long l3), none, some (.long l5), none, some (.int l7), some (.long ((ushL l5 10) + 1)), none, some (.long (l5 &&& 1023)), none], [.long ((ushL l5 10) + 1), .long (shlL ((Int32.toInt64 ((l7 - 1)))) 52), .long l0], w)) rfl).trans ?_
            refine (val_g (c2 := (108, d + 1, 140, [some (.long l0), none, some (.int l2), some (.long l3), none, some (.long l5), none, some (.int l7), some (.long ((ushL l5 10) + 1)), none, some (.long (l5 &&& 1023)), none], [.long ((shlL ((Int32.toInt64 ((l7 - 1)))) 52) + ((ushL l5 10) + 1)), .long l0], w)) rfl).trans ?_
            refine (val_g (c2 := (108, d + 1, 141, [some (.long l0), none, some (.int l2), some (.long l3), none, some (.long l5), none, some (.int l7), some (.long ((ushL l5 10) + 1)), none, some (.long (l5 &&& 1023)), none], [.long (l0 ||| ((shlL ((Int32.toInt64 ((l7 - 1)))) 52) + ((ushL l5 10) + 1)))], w)) rfl).trans ?_
            exact val_r rfl
          · refine ((val_if_gt rfl).trans (if_neg hc595)).trans ?_
            show val (108, d + 1, 104, [some (.long l0), none, some (.int l2), some (.long l3), none, some (.long l5), none, some (.int l7), some (.long (ushL l5 10)), none, some (.long (l5 &&& 1023)), none], [], w) = _
            refine Eq.trans ?_ (if_neg hc595).symm
            refine (val_g (c2 := (108, d + 1, 106, [some (.long l0), none, some (.int l2), some (.long l3), none, some (.long l5), none, some (.int l7), some (.long (ushL l5 10)), none, some (.long (l5 &&& 1023)), none], [.long (l5 &&& 1023)], w)) rfl).trans ?_
            refine (val_g (c2 := (108, d + 1, 109, [some (.long l0), none, some (.int l2), some (.long l3), none, some (.long l5), none, some (.int l7), some (.long (ushL l5 10)), none, some (.long (l5 &&& 1023)), none], [.long 512, .long (l5 &&& 1023)], w)) rfl).trans ?_
            refine (val_g (c2 := (108, d + 1, 110, [some (.long l0), none, some (.int l2), some (.long l3), none, some (.long l5), none, some (.int l7), some (.long (ushL l5 10)), none, some (.long (l5 &&& 1023)), none], [.int (cmpL ((l5 &&& 1023)) 512)], w)) rfl).trans ?_
            by_cases hc596 : ¬ (cmpL ((l5 &&& 1023)) 512) = 0
            · refine ((val_if_ne rfl).trans (if_pos hc596)).trans ?_
              show val (108, d + 1, 128, [some (.long l0), none, some (.int l2), some (.long l3), none, some (.long l5), none, some (.int l7), some (.long (ushL l5 10)), none, some (.long (l5 &&& 1023)), none], [], w) = _
              refine Eq.trans ?_ (if_pos hc596).symm
              refine (val_g (c2 := (108, d + 1, 129, [some (.long l0), none, some (.int l2), some (.long l3), none, some (.long l5), none, some (.int l7), some (.long (ushL l5 10)), none, some (.long (l5 &&& 1023)), none], [.long l0], w)) rfl).trans ?_
              refine (val_g (c2 := (108, d + 1, 131, [some (.long l0), none, some (.int l2), some (.long l3), none, some (.long l5), none, some (.int l7), some (.long (ushL l5 10)), none, some (.long (l5 &&& 1023)), none], [.int l7, .long l0], w)) rfl).trans ?_
              refine (val_g (c2 := (108, d + 1, 132, [some (.long l0), none, some (.int l2), some (.long l3), none, some (.long l5), none, some (.int l7), some (.long (ushL l5 10)), none, some (.long (l5 &&& 1023)), none], [.int 1, .int l7, .long l0], w)) rfl).trans ?_
              refine (val_g (c2 := (108, d + 1, 133, [some (.long l0), none, some (.int l2), some (.long l3), none, some (.long l5), none, some (.int l7), some (.long (ushL l5 10)), none, some (.long (l5 &&& 1023)), none], [.int (l7 - 1), .long l0], w)) rfl).trans ?_
              refine (val_g (c2 := (108, d + 1, 134, [some (.long l0), none, some (.int l2), some (.long l3), none, some (.long l5), none, some (.int l7), some (.long (ushL l5 10)), none, some (.long (l5 &&& 1023)), none], [.long (Int32.toInt64 ((l7 - 1))), .long l0], w)) rfl).trans ?_
              refine (val_g (c2 := (108, d + 1, 136, [some (.long l0), none, some (.int l2), some (.long l3), none, some (.long l5), none, some (.int l7), some (.long (ushL l5 10)), none, some (.long (l5 &&& 1023)), none], [.int 52, .long (Int32.toInt64 ((l7 - 1))), .long l0], w)) rfl).trans ?_
              refine (val_g (c2 := (108, d + 1, 137, [some (.long l0), none, some (.int l2), some (.long l3), none, some (.long l5), none, some (.int l7), some (.long (ushL l5 10)), none, some (.long (l5 &&& 1023)), none], [.long (shlL ((Int32.toInt64 ((l7 - 1)))) 52), .long l0], w)) rfl).trans ?_
              refine (val_g (c2 := (108, d + 1, 139, [some (.long l0), none, some (.int l2), some (.long l3), none, some (.long l5), none, some (.int l7), some (.long (ushL l5 10)), none, some (.long (l5 &&& 1023)), none], [.long (ushL l5 10), .long (shlL ((Int32.toInt64 ((l7 - 1)))) 52), .long l0], w)) rfl).trans ?_
              refine (val_g (c2 := (108, d + 1, 140, [some (.long l0), none, some (.int l2), some (.long l3), none, some (.long l5), none, some (.int l7), some (.long (ushL l5 10)), none, some (.long (l5 &&& 1023)), none], [.long ((shlL ((Int32.toInt64 ((l7 - 1)))) 52) + (ushL l5 10)), .long l0], w)) rfl).trans ?_
              refine (val_g (c2 := (108, d + 1, 141, [some (.long l0), none, some (.int l2), some (.long l3), none, some (.long l5), none, some (.int l7), some (.long (ushL l5 10)), none, some (.long (l5 &&& 1023)), none], [.long (l0 ||| ((shlL ((Int32.toInt64 ((l7 - 1)))) 52) + (ushL l5 10)))], w)) rfl).trans ?_
              exact val_r rfl
            · refine ((val_if_ne rfl).trans (if_neg hc596)).trans ?_
              show val (108, d + 1, 113, [some (.long l0), none, some (.int l2), some (.long l3), none, some (.long l5), none, some (.int l7), some (.long (ushL l5 10)), none, some (.long (l5 &&& 1023)), none], [], w) = _
              refine Eq.trans ?_ (if_neg hc596).symm
              refine (val_g (c2 := (108, d + 1, 115, [some (.long l0), none, some (.int l2), some (.long l3), none, some (.long l5), none, some (.int l7), some (.long (ushL l5 10)), none, some (.long (l5 &&& 1023)), none], [.long (ushL l5 10)], w)) rfl).trans ?_
              refine (val_g (c2 := (108, d + 1, 116, [some (.long l0), none, some (.int l2), some (.long l3), none, some (.long l5), none, some (.int l7), some (.long (ushL l5 10)), none, some (.long (l5 &&& 1023)), none], [.long 1, .long (ushL l5 10)], w)) rfl).trans ?_
              refine (val_g (c2 := (108, d + 1, 117, [some (.long l0), none, some (.int l2), some (.long l3), none, some (.long l5), none, some (.int l7), some (.long (ushL l5 10)), none, some (.long (l5 &&& 1023)), none], [.long ((ushL l5 10) &&& 1)], w)) rfl).trans ?_
              refine (val_g (c2 := (108, d + 1, 118, [some (.long l0), none, some (.int l2), some (.long l3), none, some (.long l5), none, some (.int l7), some (.long (ushL l5 10)), none, some (.long (l5 &&& 1023)), none], [.long 0, .long ((ushL l5 10) &&& 1)], w)) rfl).trans ?_
              refine (val_g (c2 := (108, d + 1, 119, [some (.long l0), none, some (.int l2), some (.long l3), none, some (.long l5), none, some (.int l7), some (.long (ushL l5 10)), none, some (.long (l5 &&& 1023)), none], [.int (cmpL (((ushL l5 10) &&& 1)) 0)], w)) rfl).trans ?_
              by_cases hc597 : (cmpL (((ushL l5 10) &&& 1)) 0) = 0
              · refine ((val_if_eq rfl).trans (if_pos hc597)).trans ?_
                show val (108, d + 1, 128, [some (.long l0), none, some (.int l2), some (.long l3), none, some (.long l5), none, some (.int l7), some (.long (ushL l5 10)), none, some (.long (l5 &&& 1023)), none], [], w) = _
                refine Eq.trans ?_ (if_pos hc597).symm
                refine (val_g (c2 := (108, d + 1, 129, [some (.long l0), none, some (.int l2), some (.long l3), none, some (.long l5), none, some (.int l7), some (.long (ushL l5 10)), none, some (.long (l5 &&& 1023)), none], [.long l0], w)) rfl).trans ?_
                refine (val_g (c2 := (108, d + 1, 131, [some (.long l0), none, some (.int l2), some (.long l3), none, some (.long l5), none, some (.int l7), some (.long (ushL l5 10)), none, some (.long (l5 &&& 1023)), none], [.int l7, .long l0], w)) rfl).trans ?_
                refine (val_g (c2 := (108, d + 1, 132, [some (.long l0), none, some (.int l2), some (.long l3), none, some (.long l5), none, some (.int l7), some (.long (ushL l5 10)), none, some (.long (l5 &&& 1023)), none], [.int 1, .int l7, .long l0], w)) rfl).trans ?_
                refine (val_g (c2 := (108, d + 1, 133, [some (.long l0), none, some (.int l2), some (.long l3), none, some (.long l5), none, some (.int l7), some (.long (ushL l5 10)), none, some (.long (l5 &&& 1023)), none], [.int (l7 - 1), .long l0], w)) rfl).trans ?_
                refine (val_g (c2 := (108, d + 1, 134, [some (.long l0), none, some (.int l2), some (.long l3), none, some (.long l5), none, some (.int l7), some (.long (ushL l5 10)), none, some (.long (l5 &&& 1023)), none], [.long (Int32.toInt64 ((l7 - 1))), .long l0], w)) rfl).trans ?_
                refine (val_g (c2 := (108, d + 1, 136, [some (.long l0), none, some (.int l2), some (.long l3), none, some (.long l5), none, some (.int l7), some (.long (ushL l5 10)), none, some (.long (l5 &&& 1023)), none], [.int 52, .long (Int32.toInt64 ((l7 - 1))), .long l0], w)) rfl).trans ?_
                refine (val_g (c2 := (108, d + 1, 137, [some (.long l0), none, some (.int l2), some (.long l3), none, some (.long l5), none, some (.int l7), some (.long (ushL l5 10)), none, some (.long (l5 &&& 1023)), none], [.long (shlL ((Int32.toInt64 ((l7 - 1)))) 52), .long l0], w)) rfl).trans ?_
                refine (val_g (c2 := (108, d + 1, 139, [some (.long l0), none, some (.int l2), some (.long l3), none, some (.long l5), none, some (.int l7), some (.long (ushL l5 10)), none, some (.long (l5 &&& 1023)), none], [.long (ushL l5 10), .long (shlL ((Int32.toInt64 ((l7 - 1)))) 52), .long l0], w)) rfl).trans ?_
                refine (val_g (c2 := (108, d + 1, 140, [some (.long l0), none, some (.int l2), some (.long l3), none, some (.long l5), none, some (.int l7), some (.long (ushL l5 10)), none, some (.long (l5 &&& 1023)), none], [.long ((shlL ((Int32.toInt64 ((l7 - 1)))) 52) + (ushL l5 10)), .long l0], w)) rfl).trans ?_
                refine (val_g (c2 := (108, d + 1, 141, [some (.long l0), none, some (.int l2), some (.long l3), none, some (.long l5), none, some (.int l7), some (.long (ushL l5 10)), none, some (.long (l5 &&& 1023)), none], [.long (l0 ||| ((shlL ((Int32.toInt64 ((l7 - 1)))) 52) + (ushL l5 10)))], w)) rfl).trans ?_
                exact val_r rfl
              · refine ((val_if_eq rfl).trans (if_neg hc597)).trans ?_
                show val (108, d + 1, 122, [some (.long l0), none, some (.int l2), some (.long l3), none, some (.long l5), none, some (.int l7), some (.long (ushL l5 10)), none, some (.long (l5 &&& 1023)), none], [], w) = _
                refine Eq.trans ?_ (if_neg hc597).symm
                refine (val_g (c2 := (108, d + 1, 124, [some (.long l0), none, some (.int l2), some (.long l3), none, some (.long l5), none, some (.int l7), some (.long (ushL l5 10)), none, some (.long (l5 &&& 1023)), none], [.long (ushL l5 10)], w)) rfl).trans ?_
                refine (val_g (c2 := (108, d + 1, 125, [some (.long l0), none, some (.int l2), some (.long l3), none, some (.long l5), none, some (.int l7), some (.long (ushL l5 10)), none, some (.long (l5 &&& 1023)), none], [.long 1, .long (ushL l5 10)], w)) rfl).trans ?_
                refine (val_g (c2 := (108, d + 1, 126, [some (.long l0), none, some (.int l2), some (.long l3), none, some (.long l5), none, some (.int l7), some (.long (ushL l5 10)), none, some (.long (l5 &&& 1023)), none], [.long ((ushL l5 10) + 1)], w)) rfl).trans ?_
                refine (val_g (c2 := (108, d + 1, 128, [some (.long l0), none, some (.int l2), some (.long l3), none, some (.long l5), none, some (.int l7), some (.long ((ushL l5 10) + 1)), none, some (.long (l5 &&& 1023)), none], [], w)) rfl).trans ?_
                refine (val_g (c2 := (108, d + 1, 129, [some (.long l0), none, some (.int l2), some (.long l3), none, some (.long l5), none, some (.int l7), some (.long ((ushL l5 10) + 1)), none, some (.long (l5 &&& 1023)), none], [.long l0], w)) rfl).trans ?_
                refine (val_g (c2 := (108, d + 1, 131, [some (.long l0), none, some (.int l2), some (.long l3), none, some (.long l5), none, some (.int l7), some (.long ((ushL l5 10) + 1)), none, some (.long (l5 &&& 1023)), none], [.int l7, .long l0], w)) rfl).trans ?_
                refine (val_g (c2 := (108, d + 1, 132, [some (.long l0), none, some (.int l2), some (.long l3), none, some (.long l5), none, some (.int l7), some (.long ((ushL l5 10) + 1)), none, some (.long (l5 &&& 1023)), none], [.int 1, .int l7, .long l0], w)) rfl).trans ?_
                refine (val_g (c2 := (108, d + 1, 133, [some (.long l0), none, some (.int l2), some (.long l3), none, some (.long l5), none, some (.int l7), some (.long ((ushL l5 10) + 1)), none, some (.long (l5 &&& 1023)), none], [.int (l7 - 1), .long l0], w)) rfl).trans ?_
                refine (val_g (c2 := (108, d + 1, 134, [some (.long l0), none, some (.int l2), some (.long l3), none, some (.long l5), none, some (.int l7), some (.long ((ushL l5 10) + 1)), none, some (.long (l5 &&& 1023)), none], [.long (Int32.toInt64 ((l7 - 1))), .long l0], w)) rfl).trans ?_
                refine (val_g (c2 := (108, d + 1, 136, [some (.long l0), none, some (.int l2), some (.long l3), none, some (.long l5), none, some (.int l7), some (.long ((ushL l5 10) + 1)), none, some (.long (l5 &&& 1023)), none], [.int 52, .long (Int32.toInt64 ((l7 - 1))), .long l0], w)) rfl).trans ?_
                refine (val_g (c2 := (108, d + 1, 137, [some (.long l0), none, some (.int l2), some (.long l3), none, some (.long l5), none, some (.int l7), some (.long ((ushL l5 10) + 1)), none, some (.long (l5 &&& 1023)), none], [.long (shlL ((Int32.toInt64 ((l7 - 1)))) 52), .long l0], w)) rfl).trans ?_
                refine (val_g (c2 := (108, d + 1, 139, [some (.long l0), none, some (.int l2), some (.long l3), none, some (.long l5), none, some (.int l7), some (.long ((ushL l5 10) + 1)), none, some (.long (l5 &&& 1023)), none], [.long ((ushL l5 10) + 1), .long (shlL ((Int32.toInt64 ((l7 - 1)))) 52), .long l0], w)) rfl).trans ?_
                refine (val_g (c2 := (108, d + 1, 140, [some (.long l0), none, some (.int l2), some (.long l3), none, some (.long l5), none, some (.int l7), some (.long ((ushL l5 10) + 1)), none, some (.long (l5 &&& 1023)), none], [.long ((shlL ((Int32.toInt64 ((l7 - 1)))) 52) + ((ushL l5 10) + 1)), .long l0], w)) rfl).trans ?_
                refine (val_g (c2 := (108, d + 1, 141, [some (.long l0), none, some (.int l2), some (.long l3), none, some (.long l5), none, some (.int l7), some (.long ((ushL l5 10) + 1)), none, some (.long (l5 &&& 1023)), none], [.long (l0 ||| ((shlL ((Int32.toInt64 ((l7 - 1)))) 52) + ((ushL l5 10) + 1)))], w)) rfl).trans ?_
                exact val_r rfl
        · refine ((val_if_gt rfl).trans (if_neg hc594)).trans ?_
          show val (108, d + 1, 66, [some (.long l0), none, some (.int l2), some (.long l3), none, some (.long l5), none, some (.int l7), some (.int l8), none, none, none], [], w) = _
          refine Eq.trans ?_ (if_neg hc594).symm
          refine (val_g (c2 := (108, d + 1, 68, [some (.long l0), none, some (.int l2), some (.long l3), none, some (.long l5), none, some (.int l7), some (.int l8), none, none, none], [.long l5], w)) rfl).trans ?_
          refine (val_g (c2 := (108, d + 1, 69, [some (.long l0), none, some (.int l2), some (.long l3), none, some (.long l5), none, some (.int l7), some (.int l8), none, none, none], [.int 1, .long l5], w)) rfl).trans ?_
          refine (val_g (c2 := (108, d + 1, 71, [some (.long l0), none, some (.int l2), some (.long l3), none, some (.long l5), none, some (.int l7), some (.int l8), none, none, none], [.int l7, .int 1, .long l5], w)) rfl).trans ?_
          refine (val_g (c2 := (108, d + 1, 72, [some (.long l0), none, some (.int l2), some (.long l3), none, some (.long l5), none, some (.int l7), some (.int l8), none, none, none], [.int (1 - l7), .long l5], w)) rfl).trans ?_
          refine (val_call (w1 := w) (pc2 := 75) rfl rfl rfl rfl rfl (Nat.le_of_ble_eq_true rfl) (Nat.le_of_ble_eq_true rfl) rfl (ev_107 (d) w l5 ((1 - l7))) rfl).trans ?_
          show val (108, d + 1, 75, [some (.long l0), none, some (.int l2), some (.long l3), none, some (.long l5), none, some (.int l7), some (.int l8), none, none, none], [.long (fn_107 l5 ((1 - l7)))], w) = _
          refine (val_g (c2 := (108, d + 1, 77, [some (.long l0), none, some (.int l2), some (.long l3), none, some (.long (fn_107 l5 ((1 - l7)))), none, some (.int l7), some (.int l8), none, none, none], [], w)) rfl).trans ?_
          refine (val_g (c2 := (108, d + 1, 78, [some (.long l0), none, some (.int l2), some (.long l3), none, some (.long (fn_107 l5 ((1 - l7)))), none, some (.int l7), some (.int l8), none, none, none], [.int 1], w)) rfl).trans ?_
          refine (val_g (c2 := (108, d + 1, 80, [some (.long l0), none, some (.int l2), some (.long l3), none, some (.long (fn_107 l5 ((1 - l7)))), none, some (.int 1), some (.int l8), none, none, none], [], w)) rfl).trans ?_
          refine (val_g (c2 := (108, d + 1, 82, [some (.long l0), none, some (.int l2), some (.long l3), none, some (.long (fn_107 l5 ((1 - l7)))), none, some (.int 1), some (.int l8), none, none, none], [.long (fn_107 l5 ((1 - l7)))], w)) rfl).trans ?_
          refine (val_g (c2 := (108, d + 1, 84, [some (.long l0), none, some (.int l2), some (.long l3), none, some (.long (fn_107 l5 ((1 - l7)))), none, some (.int 1), some (.int l8), none, none, none], [.int 10, .long (fn_107 l5 ((1 - l7)))], w)) rfl).trans ?_
          refine (val_g (c2 := (108, d + 1, 85, [some (.long l0), none, some (.int l2), some (.long l3), none, some (.long (fn_107 l5 ((1 - l7)))), none, some (.int 1), some (.int l8), none, none, none], [.long (ushL ((fn_107 l5 ((1 - l7)))) 10)], w)) rfl).trans ?_
          refine (val_g (c2 := (108, d + 1, 87, [some (.long l0), none, some (.int l2), some (.long l3), none, some (.long (fn_107 l5 ((1 - l7)))), none, some (.int 1), some (.long (ushL ((fn_107 l5 ((1 - l7)))) 10)), none, none, none], [], w)) rfl).trans ?_
          refine (val_g (c2 := (108, d + 1, 89, [some (.long l0), none, some (.int l2), some (.long l3), none, some (.long (fn_107 l5 ((1 - l7)))), none, some (.int 1), some (.long (ushL ((fn_107 l5 ((1 - l7)))) 10)), none, none, none], [.long (fn_107 l5 ((1 - l7)))], w)) rfl).trans ?_
          refine (val_g (c2 := (108, d + 1, 92, [some (.long l0), none, some (.int l2), some (.long l3), none, some (.long (fn_107 l5 ((1 - l7)))), none, some (.int 1), some (.long (ushL ((fn_107 l5 ((1 - l7)))) 10)), none, none, none], [.long 1023, .long (fn_107 l5 ((1 - l7)))], w)) rfl).trans ?_
          refine (val_g (c2 := (108, d + 1, 93, [some (.long l0), none, some (.int l2), some (.long l3), none, some (.long (fn_107 l5 ((1 - l7)))), none, some (.int 1), some (.long (ushL ((fn_107 l5 ((1 - l7)))) 10)), none, none, none], [.long ((fn_107 l5 ((1 - l7))) &&& 1023)], w)) rfl).trans ?_
          refine (val_g (c2 := (108, d + 1, 95, [some (.long l0), none, some (.int l2), some (.long l3), none, some (.long (fn_107 l5 ((1 - l7)))), none, some (.int 1), some (.long (ushL ((fn_107 l5 ((1 - l7)))) 10)), none, some (.long ((fn_107 l5 ((1 - l7))) &&& 1023)), none], [], w)) rfl).trans ?_
          refine (val_g (c2 := (108, d + 1, 97, [some (.long l0), none, some (.int l2), some (.long l3), none, some (.long (fn_107 l5 ((1 - l7)))), none, some (.int 1), some (.long (ushL ((fn_107 l5 ((1 - l7)))) 10)), none, some (.long ((fn_107 l5 ((1 - l7))) &&& 1023)), none], [.long ((fn_107 l5 ((1 - l7))) &&& 1023)], w)) rfl).trans ?_
          refine (val_g (c2 := (108, d + 1, 100, [some (.long l0), none, some (.int l2), some (.long l3), none, some (.long (fn_107 l5 ((1 - l7)))), none, some (.int 1), some (.long (ushL ((fn_107 l5 ((1 - l7)))) 10)), none, some (.long ((fn_107 l5 ((1 - l7))) &&& 1023)), none], [.long 512, .long ((fn_107 l5 ((1 - l7))) &&& 1023)], w)) rfl).trans ?_
          refine (val_g (c2 := (108, d + 1, 101, [some (.long l0), none, some (.int l2), some (.long l3), none, some (.long (fn_107 l5 ((1 - l7)))), none, some (.int 1), some (.long (ushL ((fn_107 l5 ((1 - l7)))) 10)), none, some (.long ((fn_107 l5 ((1 - l7))) &&& 1023)), none], [.int (cmpL (((fn_107 l5 ((1 - l7))) &&& 1023)) 512)], w)) rfl).trans ?_
          by_cases hc598 : 0 < (cmpL (((fn_107 l5 ((1 - l7))) &&& 1023)) 512)
          · refine ((val_if_gt rfl).trans (if_pos hc598)).trans ?_
            show val (108, d + 1, 122, [some (.long l0), none, some (.int l2), some (.long l3), none, some (.long (fn_107 l5 ((1 - l7)))), none, some (.int 1), some (.long (ushL ((fn_107 l5 ((1 - l7)))) 10)), none, some (.long ((fn_107 l5 ((1 - l7))) &&& 1023)), none], [], w) = _
            refine Eq.trans ?_ (if_pos hc598).symm
            refine (val_g (c2 := (108, d + 1, 124, [some (.long l0), none, some (.int l2), some (.long l3), none, some (.long (fn_107 l5 ((1 - l7)))), none, some (.int 1), some (.long (ushL ((fn_107 l5 ((1 - l7)))) 10)), none, some (.long ((fn_107 l5 ((1 - l7))) &&& 1023)), none], [.long (ushL ((fn_107 l5 ((1 - l7)))) 10)], w)) rfl).trans ?_
            refine (val_g (c2 := (108, d + 1, 125, [some (.long l0), none, some (.int l2), some (.long l3), none, some (.long (fn_107 l5 ((1 - l7)))), none, some (.int 1), some (.long (ushL ((fn_107 l5 ((1 - l7)))) 10)), none, some (.long ((fn_107 l5 ((1 - l7))) &&& 1023)), none], [.long 1, .long (ushL ((fn_107 l5 ((1 - l7)))) 10)], w)) rfl).trans ?_
            refine (val_g (c2 := (108, d + 1, 126, [some (.long l0), none, some (.int l2), some (.long l3), none, some (.long (fn_107 l5 ((1 - l7)))), none, some (.int 1), some (.long (ushL ((fn_107 l5 ((1 - l7)))) 10)), none, some (.long ((fn_107 l5 ((1 - l7))) &&& 1023)), none], [.long ((ushL ((fn_107 l5 ((1 - l7)))) 10) + 1)], w)) rfl).trans ?_
            refine (val_g (c2 := (108, d + 1, 128, [some (.long l0), none, some (.int l2), some (.long l3), none, some (.long (fn_107 l5 ((1 - l7)))), none, some (.int 1), some (.long ((ushL ((fn_107 l5 ((1 - l7)))) 10) + 1)), none, some (.long ((fn_107 l5 ((1 - l7))) &&& 1023)), none], [], w)) rfl).trans ?_
            refine (val_g (c2 := (108, d + 1, 129, [some (.long l0), none, some (.int l2), some (.long l3), none, some (.long (fn_107 l5 ((1 - l7)))), none, some (.int 1), some (.long ((ushL ((fn_107 l5 ((1 - l7)))) 10) + 1)), none, some (.long ((fn_107 l5 ((1 - l7))) &&& 1023)), none], [.long l0], w)) rfl).trans ?_
            refine (val_g (c2 := (108, d + 1, 131, [some (.long l0), none, some (.int l2), some (.long l3), none, some (.long (fn_107 l5 ((1 - l7)))), none, some (.int 1), some (.long ((ushL ((fn_107 l5 ((1 - l7)))) 10) + 1)), none, some (.long ((fn_107 l5 ((1 - l7))) &&& 1023)), none], [.int 1, .long l0], w)) rfl).trans ?_
            refine (val_g (c2 := (108, d + 1, 132, [some (.long l0), none, some (.int l2), some (.long l3), none, some (.long (fn_107 l5 ((1 - l7)))), none, some (.int 1), some (.long ((ushL ((fn_107 l5 ((1 - l7)))) 10) + 1)), none, some (.long ((fn_107 l5 ((1 - l7))) &&& 1023)), none], [.int 1, .int 1, .long l0], w)) rfl).trans ?_
            refine (val_g (c2 := (108, d + 1, 133, [some (.long l0), none, some (.int l2), some (.long l3), none, some (.long (fn_107 l5 ((1 - l7)))), none, some (.int 1), some (.long ((ushL ((fn_107 l5 ((1 - l7)))) 10) + 1)), none, some (.long ((fn_107 l5 ((1 - l7))) &&& 1023)), none], [.int (1 - 1), .long l0], w)) rfl).trans ?_
            refine (val_g (c2 := (108, d + 1, 134, [some (.long l0), none, some (.int l2), some (.long l3), none, some (.long (fn_107 l5 ((1 - l7)))), none, some (.int 1), some (.long ((ushL ((fn_107 l5 ((1 - l7)))) 10) + 1)), none, some (.long ((fn_107 l5 ((1 - l7))) &&& 1023)), none], [.long (Int32.toInt64 ((1 - 1))), .long l0], w)) rfl).trans ?_
            refine (val_g (c2 := (108, d + 1, 136, [some (.long l0), none, some (.int l2), some (.long l3), none, some (.long (fn_107 l5 ((1 - l7)))), none, some (.int 1), some (.long ((ushL ((fn_107 l5 ((1 - l7)))) 10) + 1)), none, some (.long ((fn_107 l5 ((1 - l7))) &&& 1023)), none], [.int 52, .long (Int32.toInt64 ((1 - 1))), .long l0], w)) rfl).trans ?_
            refine (val_g (c2 := (108, d + 1, 137, [some (.long l0), none, some (.int l2), some (.long l3), none, some (.long (fn_107 l5 ((1 - l7)))), none, some (.int 1), some (.long ((ushL ((fn_107 l5 ((1 - l7)))) 10) + 1)), none, some (.long ((fn_107 l5 ((1 - l7))) &&& 1023)), none], [.long (shlL ((Int32.toInt64 ((1 - 1)))) 52), .long l0], w)) rfl).trans ?_
            refine (val_g (c2 := (108, d + 1, 139, [some (.long l0), none, some (.int l2), some (.long l3), none, some (.long (fn_107 l5 ((1 - l7)))), none, some (.int 1), some (.long ((ushL ((fn_107 l5 ((1 - l7)))) 10) + 1)), none, some (.long ((fn_107 l5 ((1 - l7))) &&& 1023)), none], [.long ((ushL ((fn_107 l5 ((1 - l7)))) 10) + 1), .long (shlL ((Int32.toInt64 ((1 - 1)))) 52), .long l0], w)) rfl).trans ?_
            refine (val_g (c2 := (108, d + 1, 140, [some (.long l0), none, some (.int l2), some (.long l3), none, some (.long (fn_107 l5 ((1 - l7)))), none, some (.int 1), some (.long ((ushL ((fn_107 l5 ((1 - l7)))) 10) + 1)), none, some (.long ((fn_107 l5 ((1 - l7))) &&& 1023)), none], [.long ((shlL ((Int32.toInt64 ((1 - 1)))) 52) + ((ushL ((fn_107 l5 ((1 - l7)))) 10) + 1)), .long l0], w)) rfl).trans ?_
            refine (val_g (c2 := (108, d + 1, 141, [some (.long l0), none, some (.int l2), some (.long l3), none, some (.long (fn_107 l5 ((1 - l7)))), none, some (.int 1), some (.long ((ushL ((fn_107 l5 ((1 - l7)))) 10) + 1)), none, some (.long ((fn_107 l5 ((1 - l7))) &&& 1023)), none], [.long (l0 ||| ((shlL ((Int32.toInt64 ((1 - 1)))) 52) + ((ushL ((fn_107 l5 ((1 - l7)))) 10) + 1)))], w)) rfl).trans ?_
            exact val_r rfl
          · refine ((val_if_gt rfl).trans (if_neg hc598)).trans ?_
            show val (108, d + 1, 104, [some (.long l0), none, some (.int l2), some (.long l3), none, some (.long (fn_107 l5 ((1 - l7)))), none, some (.int 1), some (.long (ushL ((fn_107 l5 ((1 - l7)))) 10)), none, some (.long ((fn_107 l5 ((1 - l7))) &&& 1023)), none], [], w) = _
            refine Eq.trans ?_ (if_neg hc598).symm
            refine (val_g (c2 := (108, d + 1, 106, [some (.long l0), none, some (.int l2), some (.long l3), none, some (.long (fn_107 l5 ((1 - l7)))), none, some (.int 1), some (.long (ushL ((fn_107 l5 ((1 - l7)))) 10)), none, some (.long ((fn_107 l5 ((1 - l7))) &&& 1023)), none], [.long ((fn_107 l5 ((1 - l7))) &&& 1023)], w)) rfl).trans ?_
            refine (val_g (c2 := (108, d + 1, 109, [some (.long l0), none, some (.int l2), some (.long l3), none, some (.long (fn_107 l5 ((1 - l7)))), none, some (.int 1), some (.long (ushL ((fn_107 l5 ((1 - l7)))) 10)), none, some (.long ((fn_107 l5 ((1 - l7))) &&& 1023)), none], [.long 512, .long ((fn_107 l5 ((1 - l7))) &&& 1023)], w)) rfl).trans ?_
            refine (val_g (c2 := (108, d + 1, 110, [some (.long l0), none, some (.int l2), some (.long l3), none, some (.long (fn_107 l5 ((1 - l7)))), none, some (.int 1), some (.long (ushL ((fn_107 l5 ((1 - l7)))) 10)), none, some (.long ((fn_107 l5 ((1 - l7))) &&& 1023)), none], [.int (cmpL (((fn_107 l5 ((1 - l7))) &&& 1023)) 512)], w)) rfl).trans ?_
            by_cases hc599 : ¬ (cmpL (((fn_107 l5 ((1 - l7))) &&& 1023)) 512) = 0
            · refine ((val_if_ne rfl).trans (if_pos hc599)).trans ?_
              show val (108, d + 1, 128, [some (.long l0), none, some (.int l2), some (.long l3), none, some (.long (fn_107 l5 ((1 - l7)))), none, some (.int 1), some (.long (ushL ((fn_107 l5 ((1 - l7)))) 10)), none, some (.long ((fn_107 l5 ((1 - l7))) &&& 1023)), none], [], w) = _
              refine Eq.trans ?_ (if_pos hc599).symm
              refine (val_g (c2 := (108, d + 1, 129, [some (.long l0), none, some (.int l2), some (.long l3), none, some (.long (fn_107 l5 ((1 - l7)))), none, some (.int 1), some (.long (ushL ((fn_107 l5 ((1 - l7)))) 10)), none, some (.long ((fn_107 l5 ((1 - l7))) &&& 1023)), none], [.long l0], w)) rfl).trans ?_
              refine (val_g (c2 := (108, d + 1, 131, [some (.long l0), none, some (.int l2), some (.long l3), none, some (.long (fn_107 l5 ((1 - l7)))), none, some (.int 1), some (.long (ushL ((fn_107 l5 ((1 - l7)))) 10)), none, some (.long ((fn_107 l5 ((1 - l7))) &&& 1023)), none], [.int 1, .long l0], w)) rfl).trans ?_
              refine (val_g (c2 := (108, d + 1, 132, [some (.long l0), none, some (.int l2), some (.long l3), none, some (.long (fn_107 l5 ((1 - l7)))), none, some (.int 1), some (.long (ushL ((fn_107 l5 ((1 - l7)))) 10)), none, some (.long ((fn_107 l5 ((1 - l7))) &&& 1023)), none], [.int 1, .int 1, .long l0], w)) rfl).trans ?_
              refine (val_g (c2 := (108, d + 1, 133, [some (.long l0), none, some (.int l2), some (.long l3), none, some (.long (fn_107 l5 ((1 - l7)))), none, some (.int 1), some (.long (ushL ((fn_107 l5 ((1 - l7)))) 10)), none, some (.long ((fn_107 l5 ((1 - l7))) &&& 1023)), none], [.int (1 - 1), .long l0], w)) rfl).trans ?_
              refine (val_g (c2 := (108, d + 1, 134, [some (.long l0), none, some (.int l2), some (.long l3), none, some (.long (fn_107 l5 ((1 - l7)))), none, some (.int 1), some (.long (ushL ((fn_107 l5 ((1 - l7)))) 10)), none, some (.long ((fn_107 l5 ((1 - l7))) &&& 1023)), none], [.long (Int32.toInt64 ((1 - 1))), .long l0], w)) rfl).trans ?_
              refine (val_g (c2 := (108, d + 1, 136, [some (.long l0), none, some (.int l2), some (.long l3), none, some (.long (fn_107 l5 ((1 - l7)))), none, some (.int 1), some (.long (ushL ((fn_107 l5 ((1 - l7)))) 10)), none, some (.long ((fn_107 l5 ((1 - l7))) &&& 1023)), none], [.int 52, .long (Int32.toInt64 ((1 - 1))), .long l0], w)) rfl).trans ?_
              refine (val_g (c2 := (108, d + 1, 137, [some (.long l0), none, some (.int l2), some (.long l3), none, some (.long (fn_107 l5 ((1 - l7)))), none, some (.int 1), some (.long (ushL ((fn_107 l5 ((1 - l7)))) 10)), none, some (.long ((fn_107 l5 ((1 - l7))) &&& 1023)), none], [.long (shlL ((Int32.toInt64 ((1 - 1)))) 52), .long l0], w)) rfl).trans ?_
              refine (val_g (c2 := (108, d + 1, 139, [some (.long l0), none, some (.int l2), some (.long l3), none, some (.long (fn_107 l5 ((1 - l7)))), none, some (.int 1), some (.long (ushL ((fn_107 l5 ((1 - l7)))) 10)), none, some (.long ((fn_107 l5 ((1 - l7))) &&& 1023)), none], [.long (ushL ((fn_107 l5 ((1 - l7)))) 10), .long (shlL ((Int32.toInt64 ((1 - 1)))) 52), .long l0], w)) rfl).trans ?_
              refine (val_g (c2 := (108, d + 1, 140, [some (.long l0), none, some (.int l2), some (.long l3), none, some (.long (fn_107 l5 ((1 - l7)))), none, some (.int 1), some (.long (ushL ((fn_107 l5 ((1 - l7)))) 10)), none, some (.long ((fn_107 l5 ((1 - l7))) &&& 1023)), none], [.long ((shlL ((Int32.toInt64 ((1 - 1)))) 52) + (ushL ((fn_107 l5 ((1 - l7)))) 10)), .long l0], w)) rfl).trans ?_
              refine (val_g (c2 := (108, d + 1, 141, [some (.long l0), none, some (.int l2), some (.long l3), none, some (.long (fn_107 l5 ((1 - l7)))), none, some (.int 1), some (.long (ushL ((fn_107 l5 ((1 - l7)))) 10)), none, some (.long ((fn_107 l5 ((1 - l7))) &&& 1023)), none], [.long (l0 ||| ((shlL ((Int32.toInt64 ((1 - 1)))) 52) + (ushL ((fn_107 l5 ((1 - l7)))) 10)))], w)) rfl).trans ?_
              exact val_r rfl
            · refine ((val_if_ne rfl).trans (if_neg hc599)).trans ?_
              show val (108, d + 1, 113, [some (.long l0), none, some (.int l2), some (.long l3), none, some (.long (fn_107 l5 ((1 - l7)))), none, some (.int 1), some (.long (ushL ((fn_107 l5 ((1 - l7)))) 10)), none, some (.long ((fn_107 l5 ((1 - l7))) &&& 1023)), none], [], w) = _
              refine Eq.trans ?_ (if_neg hc599).symm
              refine (val_g (c2 := (108, d + 1, 115, [some (.long l0), none, some (.int l2), some (.long l3), none, some (.long (fn_107 l5 ((1 - l7)))), none, some (.int 1), some (.long (ushL ((fn_107 l5 ((1 - l7)))) 10)), none, some (.long ((fn_107 l5 ((1 - l7))) &&& 1023)), none], [.long (ushL ((fn_107 l5 ((1 - l7)))) 10)], w)) rfl).trans ?_
              refine (val_g (c2 := (108, d + 1, 116, [some (.long l0), none, some (.int l2), some (.long l3), none, some (.long (fn_107 l5 ((1 - l7)))), none, some (.int 1), some (.long (ushL ((fn_107 l5 ((1 - l7)))) 10)), none, some (.long ((fn_107 l5 ((1 - l7))) &&& 1023)), none], [.long 1, .long (ushL ((fn_107 l5 ((1 - l7)))) 10)], w)) rfl).trans ?_
              refine (val_g (c2 := (108, d + 1, 117, [some (.long l0), none, some (.int l2), some (.long l3), none, some (.long (fn_107 l5 ((1 - l7)))), none, some (.int 1), some (.long (ushL ((fn_107 l5 ((1 - l7)))) 10)), none, some (.long ((fn_107 l5 ((1 - l7))) &&& 1023)), none], [.long ((ushL ((fn_107 l5 ((1 - l7)))) 10) &&& 1)], w)) rfl).trans ?_
              refine (val_g (c2 := (108, d + 1, 118, [some (.long l0), none, some (.int l2), some (.long l3), none, some (.long (fn_107 l5 ((1 - l7)))), none, some (.int 1), some (.long (ushL ((fn_107 l5 ((1 - l7)))) 10)), none, some (.long ((fn_107 l5 ((1 - l7))) &&& 1023)), none], [.long 0, .long ((ushL ((fn_107 l5 ((1 - l7)))) 10) &&& 1)], w)) rfl).trans ?_
              refine (val_g (c2 := (108, d + 1, 119, [some (.long l0), none, some (.int l2), some (.long l3), none, some (.long (fn_107 l5 ((1 - l7)))), none, some (.int 1), some (.long (ushL ((fn_107 l5 ((1 - l7)))) 10)), none, some (.long ((fn_107 l5 ((1 - l7))) &&& 1023)), none], [.int (cmpL (((ushL ((fn_107 l5 ((1 - l7)))) 10) &&& 1)) 0)], w)) rfl).trans ?_
              by_cases hc600 : (cmpL (((ushL ((fn_107 l5 ((1 - l7)))) 10) &&& 1)) 0) = 0
              · refine ((val_if_eq rfl).trans (if_pos hc600)).trans ?_
                show val (108, d + 1, 128, [some (.long l0), none, some (.int l2), some (.long l3), none, some (.long (fn_107 l5 ((1 - l7)))), none, some (.int 1), some (.long (ushL ((fn_107 l5 ((1 - l7)))) 10)), none, some (.long ((fn_107 l5 ((1 - l7))) &&& 1023)), none], [], w) = _
                refine Eq.trans ?_ (if_pos hc600).symm
                refine (val_g (c2 := (108, d + 1, 129, [some (.long l0), none, some (.int l2), some (.long l3), none, some (.long (fn_107 l5 ((1 - l7)))), none, some (.int 1), some (.long (ushL ((fn_107 l5 ((1 - l7)))) 10)), none, some (.long ((fn_107 l5 ((1 - l7))) &&& 1023)), none], [.long l0], w)) rfl).trans ?_
                refine (val_g (c2 := (108, d + 1, 131, [some (.long l0), none, some (.int l2), some (.long l3), none, some (.long (fn_107 l5 ((1 - l7)))), none, some (.int 1), some (.long (ushL ((fn_107 l5 ((1 - l7)))) 10)), none, some (.long ((fn_107 l5 ((1 - l7))) &&& 1023)), none], [.int 1, .long l0], w)) rfl).trans ?_
                refine (val_g (c2 := (108, d + 1, 132, [some (.long l0), none, some (.int l2), some (.long l3), none, some (.long (fn_107 l5 ((1 - l7)))), none, some (.int 1), some (.long (ushL ((fn_107 l5 ((1 - l7)))) 10)), none, some (.long ((fn_107 l5 ((1 - l7))) &&& 1023)), none], [.int 1, .int 1, .long l0], w)) rfl).trans ?_
                refine (val_g (c2 := (108, d + 1, 133, [some (.long l0), none, some (.int l2), some (.long l3), none, some (.long (fn_107 l5 ((1 - l7)))), none, some (.int 1), some (.long (ushL ((fn_107 l5 ((1 - l7)))) 10)), none, some (.long ((fn_107 l5 ((1 - l7))) &&& 1023)), none], [.int (1 - 1), .long l0], w)) rfl).trans ?_
                refine (val_g (c2 := (108, d + 1, 134, [some (.long l0), none, some (.int l2), some (.long l3), none, some (.long (fn_107 l5 ((1 - l7)))), none, some (.int 1), some (.long (ushL ((fn_107 l5 ((1 - l7)))) 10)), none, some (.long ((fn_107 l5 ((1 - l7))) &&& 1023)), none], [.long (Int32.toInt64 ((1 - 1))), .long l0], w)) rfl).trans ?_
                refine (val_g (c2 := (108, d + 1, 136, [some (.long l0), none, some (.int l2), some (.long l3), none, some (.long (fn_107 l5 ((1 - l7)))), none, some (.int 1), some (.long (ushL ((fn_107 l5 ((1 - l7)))) 10)), none, some (.long ((fn_107 l5 ((1 - l7))) &&& 1023)), none], [.int 52, .long (Int32.toInt64 ((1 - 1))), .long l0], w)) rfl).trans ?_
                refine (val_g (c2 := (108, d + 1, 137, [some (.long l0), none, some (.int l2), some (.long l3), none, some (.long (fn_107 l5 ((1 - l7)))), none, some (.int 1), some (.long (ushL ((fn_107 l5 ((1 - l7)))) 10)), none, some (.long ((fn_107 l5 ((1 - l7))) &&& 1023)), none], [.long (shlL ((Int32.toInt64 ((1 - 1)))) 52), .long l0], w)) rfl).trans ?_
                refine (val_g (c2 := (108, d + 1, 139, [some (.long l0), none, some (.int l2), some (.long l3), none, some (.long (fn_107 l5 ((1 - l7)))), none, some (.int 1), some (.long (ushL ((fn_107 l5 ((1 - l7)))) 10)), none, some (.long ((fn_107 l5 ((1 - l7))) &&& 1023)), none], [.long (ushL ((fn_107 l5 ((1 - l7)))) 10), .long (shlL ((Int32.toInt64 ((1 - 1)))) 52), .long l0], w)) rfl).trans ?_
                refine (val_g (c2 := (108, d + 1, 140, [some (.long l0), none, some (.int l2), some (.long l3), none, some (.long (fn_107 l5 ((1 - l7)))), none, some (.int 1), some (.long (ushL ((fn_107 l5 ((1 - l7)))) 10)), none, some (.long ((fn_107 l5 ((1 - l7))) &&& 1023)), none], [.long ((shlL ((Int32.toInt64 ((1 - 1)))) 52) + (ushL ((fn_107 l5 ((1 - l7)))) 10)), .long l0], w)) rfl).trans ?_
                refine (val_g (c2 := (108, d + 1, 141, [some (.long l0), none, some (.int l2), some (.long l3), none, some (.long (fn_107 l5 ((1 - l7)))), none, some (.int 1), some (.long (ushL ((fn_107 l5 ((1 - l7)))) 10)), none, some (.long ((fn_107 l5 ((1 - l7))) &&& 1023)), none], [.long (l0 ||| ((shlL ((Int32.toInt64 ((1 - 1)))) 52) + (ushL ((fn_107 l5 ((1 - l7)))) 10)))], w)) rfl).trans ?_
                exact val_r rfl
              · refine ((val_if_eq rfl).trans (if_neg hc600)).trans ?_
                show val (108, d + 1, 122, [some (.long l0), none, some (.int l2), some (.long l3), none, some (.long (fn_107 l5 ((1 - l7)))), none, some (.int 1), some (.long (ushL ((fn_107 l5 ((1 - l7)))) 10)), none, some (.long ((fn_107 l5 ((1 - l7))) &&& 1023)), none], [], w) = _
                refine Eq.trans ?_ (if_neg hc600).symm
                refine (val_g (c2 := (108, d + 1, 124, [some (.long l0), none, some (.int l2), some (.long l3), none, some (.long (fn_107 l5 ((1 - l7)))), none, some (.int 1), some (.long (ushL ((fn_107 l5 ((1 - l7)))) 10)), none, some (.long ((fn_107 l5 ((1 - l7))) &&& 1023)), none], [.long (ushL ((fn_107 l5 ((1 - l7)))) 10)], w)) rfl).trans ?_
                refine (val_g (c2 := (108, d + 1, 125, [some (.long l0), none, some (.int l2), some (.long l3), none, some (.long (fn_107 l5 ((1 - l7)))), none, some (.int 1), some (.long (ushL ((fn_107 l5 ((1 - l7)))) 10)), none, some (.long ((fn_107 l5 ((1 - l7))) &&& 1023)), none], [.long 1, .long (ushL ((fn_107 l5 ((1 - l7)))) 10)], w)) rfl).trans ?_
                refine (val_g (c2 := (108, d + 1, 126, [some (.long l0), none, some (.int l2), some (.long l3), none, some (.long (fn_107 l5 ((1 - l7)))), none, some (.int 1), some (.long (ushL ((fn_107 l5 ((1 - l7)))) 10)), none, some (.long ((fn_107 l5 ((1 - l7))) &&& 1023)), none], [.long ((ushL ((fn_107 l5 ((1 - l7)))) 10) + 1)], w)) rfl).trans ?_
                refine (val_g (c2 := (108, d + 1, 128, [some (.long l0), none, some (.int l2), some (.long l3), none, some (.long (fn_107 l5 ((1 - l7)))), none, some (.int 1), some (.long ((ushL ((fn_107 l5 ((1 - l7)))) 10) + 1)), none, some (.long ((fn_107 l5 ((1 - l7))) &&& 1023)), none], [], w)) rfl).trans ?_
                refine (val_g (c2 := (108, d + 1, 129, [some (.long l0), none, some (.int l2), some (.long l3), none, some (.long (fn_107 l5 ((1 - l7)))), none, some (.int 1), some (.long ((ushL ((fn_107 l5 ((1 - l7)))) 10) + 1)), none, some (.long ((fn_107 l5 ((1 - l7))) &&& 1023)), none], [.long l0], w)) rfl).trans ?_
                refine (val_g (c2 := (108, d + 1, 131, [some (.long l0), none, some (.int l2), some (.long l3), none, some (.long (fn_107 l5 ((1 - l7)))), none, some (.int 1), some (.long ((ushL ((fn_107 l5 ((1 - l7)))) 10) + 1)), none, some (.long ((fn_107 l5 ((1 - l7))) &&& 1023)), none], [.int 1, .long l0], w)) rfl).trans ?_
                refine (val_g (c2 := (108, d + 1, 132, [some (.long l0), none, some (.int l2), some (.long l3), none, some (.long (fn_107 l5 ((1 - l7)))), none, some (.int 1), some (.long ((ushL ((fn_107 l5 ((1 - l7)))) 10) + 1)), none, some (.long ((fn_107 l5 ((1 - l7))) &&& 1023)), none], [.int 1, .int 1, .long l0], w)) rfl).trans ?_
                refine (val_g (c2 := (108, d + 1, 133, [some (.long l0), none, some (.int l2), some (.long l3), none, some (.long (fn_107 l5 ((1 - l7)))), none, some (.int 1), some (.long ((ushL ((fn_107 l5 ((1 - l7)))) 10) + 1)), none, some (.long ((fn_107 l5 ((1 - l7))) &&& 1023)), none], [.int (1 - 1), .long l0], w)) rfl).trans ?_
                refine (val_g (c2 := (108, d + 1, 134, [some (.long l0), none, some (.int l2), some (.long l3), none, some (.long (fn_107 l5 ((1 - l7)))), none, some (.int 1), some (.long ((ushL ((fn_107 l5 ((1 - l7)))) 10) + 1)), none, some (.long ((fn_107 l5 ((1 - l7))) &&& 1023)), none], [.long (Int32.toInt64 ((1 - 1))), .long l0], w)) rfl).trans ?_
                refine (val_g (c2 := (108, d + 1, 136, [some (.long l0), none, some (.int l2), some (.long l3), none, some (.long (fn_107 l5 ((1 - l7)))), none, some (.int 1), some (.long ((ushL ((fn_107 l5 ((1 - l7)))) 10) + 1)), none, some (.long ((fn_107 l5 ((1 - l7))) &&& 1023)), none], [.int 52, .long (Int32.toInt64 ((1 - 1))), .long l0], w)) rfl).trans ?_
                refine (val_g (c2 := (108, d + 1, 137, [some (.long l0), none, some (.int l2), some (.long l3), none, some (.long (fn_107 l5 ((1 - l7)))), none, some (.int 1), some (.long ((ushL ((fn_107 l5 ((1 - l7)))) 10) + 1)), none, some (.long ((fn_107 l5 ((1 - l7))) &&& 1023)), none], [.long (shlL ((Int32.toInt64 ((1 - 1)))) 52), .long l0], w)) rfl).trans ?_
                refine (val_g (c2 := (108, d + 1, 139, [some (.long l0), none, some (.int l2), some (.long l3), none, some (.long (fn_107 l5 ((1 - l7)))), none, some (.int 1), some (.long ((ushL ((fn_107 l5 ((1 - l7)))) 10) + 1)), none, some (.long ((fn_107 l5 ((1 - l7))) &&& 1023)), none], [.long ((ushL ((fn_107 l5 ((1 - l7)))) 10) + 1), .long (shlL ((Int32.toInt64 ((1 - 1)))) 52), .long l0], w)) rfl).trans ?_
                refine (val_g (c2 := (108, d + 1, 140, [some (.long l0), none, some (.int l2), some (.long l3), none, some (.long (fn_107 l5 ((1 - l7)))), none, some (.int 1), some (.long ((ushL ((fn_107 l5 ((1 - l7)))) 10) + 1)), none, some (.long ((fn_107 l5 ((1 - l7))) &&& 1023)), none], [.long ((shlL ((Int32.toInt64 ((1 - 1)))) 52) + ((ushL ((fn_107 l5 ((1 - l7)))) 10) + 1)), .long l0], w)) rfl).trans ?_
                refine (val_g (c2 := (108, d + 1, 141, [some (.long l0), none, some (.int l2), some (.long l3), none, some (.long (fn_107 l5 ((1 - l7)))), none, some (.int 1), some (.long ((ushL ((fn_107 l5 ((1 - l7)))) 10) + 1)), none, some (.long ((fn_107 l5 ((1 - l7))) &&& 1023)), none], [.long (l0 ||| ((shlL ((Int32.toInt64 ((1 - 1)))) 52) + ((ushL ((fn_107 l5 ((1 - l7)))) 10) + 1)))], w)) rfl).trans ?_
                exact val_r rfl
      · refine ((val_ic_lt rfl).trans (if_neg hc593)).trans ?_
        show val (108, d + 1, 55, [some (.long l0), none, some (.int l2), some (.long l3), none, some (.long l5), none, some (.int l7), some (.int l8), none, none, none], [], w) = _
        refine Eq.trans ?_ (if_neg hc593).symm
        refine (val_g (c2 := (108, d + 1, 56, [some (.long l0), none, some (.int l2), some (.long l3), none, some (.long l5), none, some (.int l7), some (.int l8), none, none, none], [.long l0], w)) rfl).trans ?_
        refine (val_g (c2 := (108, d + 1, 59, [some (.long l0), none, some (.int l2), some (.long l3), none, some (.long l5), none, some (.int l7), some (.int l8), none, none, none], [.long 9218868437227405312, .long l0], w)) rfl).trans ?_
        refine (val_g (c2 := (108, d + 1, 60, [some (.long l0), none, some (.int l2), some (.long l3), none, some (.long l5), none, some (.int l7), some (.int l8), none, none, none], [.long (l0 ||| 9218868437227405312)], w)) rfl).trans ?_
        exact val_r rfl
    · refine ((val_if_ge rfl).trans (if_neg hc592)).trans ?_
      show val (108, d + 1, 32, [some (.long l0), none, some (.int l2), some (.long l3), none, some (.long l5), none, some (.int l7), some (.int l8), none, none, none], [], w) = _
      refine Eq.trans ?_ (if_neg hc592).symm
      refine (val_g (c2 := (108, d + 1, 34, [some (.long l0), none, some (.int l2), some (.long l3), none, some (.long l5), none, some (.int l7), some (.int l8), none, none, none], [.long l5], w)) rfl).trans ?_
      refine (val_g (c2 := (108, d + 1, 35, [some (.long l0), none, some (.int l2), some (.long l3), none, some (.long l5), none, some (.int l7), some (.int l8), none, none, none], [.int 1, .long l5], w)) rfl).trans ?_
      refine (val_g (c2 := (108, d + 1, 36, [some (.long l0), none, some (.int l2), some (.long l3), none, some (.long l5), none, some (.int l7), some (.int l8), none, none, none], [.long (shlL l5 1)], w)) rfl).trans ?_
      refine (val_g (c2 := (108, d + 1, 38, [some (.long l0), none, some (.int l2), some (.long l3), none, some (.long (shlL l5 1)), none, some (.int l7), some (.int l8), none, none, none], [], w)) rfl).trans ?_
      refine (val_g (c2 := (108, d + 1, 41, [some (.long l0), none, some (.int l2), some (.long l3), none, some (.long (shlL l5 1)), none, some (.int (l7 + (-1))), some (.int l8), none, none, none], [], w)) rfl).trans ?_
      refine (val_g (c2 := (108, d + 1, 44, [some (.long l0), none, some (.int l2), some (.long l3), none, some (.long (shlL l5 1)), none, some (.int (l7 + (-1))), some (.int (l8 + 1)), none, none, none], [], w)) rfl).trans ?_
      refine (val_g (c2 := (108, d + 1, 16, [some (.long l0), none, some (.int l2), some (.long l3), none, some (.long (shlL l5 1)), none, some (.int (l7 + (-1))), some (.int (l8 + 1)), none, none, none], [], w)) rfl).trans ?_
      rfl
/-- BelfryHouse$Reals.fromInt(I)J -/
theorem tr_109 (d : Nat) (w : Wd) (x0 : Int32)     : val (109, d + 2, 0, [some (.int x0)], [], w) = (if ¬ x0 = 0 then (if 0 ≤ x0 then val (109, d + 2, 27, [some (.int x0)], [.long (shlL ((if 0 < (Int32.toInt64 x0) then (Int32.toInt64 x0) else -(Int32.toInt64 x0))) 30), .int (-30), .long 0], w) else val (109, d + 2, 27, [some (.int x0)], [.long (shlL ((if 0 < (Int32.toInt64 x0) then (Int32.toInt64 x0) else -(Int32.toInt64 x0))) 30), .int (-30), .long (-9223372036854775808)], w)) else some (some (.long 0), w)) := by
  refine (val_g (c2 := (109, d + 2, 1, [some (.int x0)], [.int x0], w)) rfl).trans ?_
  by_cases hc603 : ¬ x0 = 0
  · refine ((val_if_ne rfl).trans (if_pos hc603)).trans ?_
    show val (109, d + 2, 6, [some (.int x0)], [], w) = _
    refine Eq.trans ?_ (if_pos hc603).symm
    refine (val_g (c2 := (109, d + 2, 7, [some (.int x0)], [.int x0], w)) rfl).trans ?_
    by_cases hc604 : 0 ≤ x0
    · refine ((val_if_ge rfl).trans (if_pos hc604)).trans ?_
      show val (109, d + 2, 16, [some (.int x0)], [], w) = _
      refine Eq.trans ?_ (if_pos hc604).symm
      refine (val_g (c2 := (109, d + 2, 17, [some (.int x0)], [.long 0], w)) rfl).trans ?_
      refine (val_g (c2 := (109, d + 2, 19, [some (.int x0)], [.int (-30), .long 0], w)) rfl).trans ?_
      refine (val_g (c2 := (109, d + 2, 20, [some (.int x0)], [.int x0, .int (-30), .long 0], w)) rfl).trans ?_
      refine (val_g (c2 := (109, d + 2, 21, [some (.int x0)], [.long (Int32.toInt64 x0), .int (-30), .long 0], w)) rfl).trans ?_
      refine (val_g (c2 := (109, d + 2, 24, [some (.int x0)], [.long (if 0 < (Int32.toInt64 x0) then (Int32.toInt64 x0) else -(Int32.toInt64 x0)), .int (-30), .long 0], w)) rfl).trans ?_
      refine (val_g (c2 := (109, d + 2, 26, [some (.int x0)], [.int 30, .long (if 0 < (Int32.toInt64 x0) then (Int32.toInt64 x0) else -(Int32.toInt64 x0)), .int (-30), .long 0], w)) rfl).trans ?_
      refine (val_g (c2 := (109, d + 2, 27, [some (.int x0)], [.long (shlL ((if 0 < (Int32.toInt64 x0) then (Int32.toInt64 x0) else -(Int32.toInt64 x0))) 30), .int (-30), .long 0], w)) rfl).trans ?_
      rfl
    · refine ((val_if_ge rfl).trans (if_neg hc604)).trans ?_
      show val (109, d + 2, 10, [some (.int x0)], [], w) = _
      refine Eq.trans ?_ (if_neg hc604).symm
      refine (val_g (c2 := (109, d + 2, 13, [some (.int x0)], [.long (-9223372036854775808)], w)) rfl).trans ?_
      refine (val_g (c2 := (109, d + 2, 17, [some (.int x0)], [.long (-9223372036854775808)], w)) rfl).trans ?_
      refine (val_g (c2 := (109, d + 2, 19, [some (.int x0)], [.int (-30), .long (-9223372036854775808)], w)) rfl).trans ?_
      refine (val_g (c2 := (109, d + 2, 20, [some (.int x0)], [.int x0, .int (-30), .long (-9223372036854775808)], w)) rfl).trans ?_
      refine (val_g (c2 := (109, d + 2, 21, [some (.int x0)], [.long (Int32.toInt64 x0), .int (-30), .long (-9223372036854775808)], w)) rfl).trans ?_
      refine (val_g (c2 := (109, d + 2, 24, [some (.int x0)], [.long (if 0 < (Int32.toInt64 x0) then (Int32.toInt64 x0) else -(Int32.toInt64 x0)), .int (-30), .long (-9223372036854775808)], w)) rfl).trans ?_
      refine (val_g (c2 := (109, d + 2, 26, [some (.int x0)], [.int 30, .long (if 0 < (Int32.toInt64 x0) then (Int32.toInt64 x0) else -(Int32.toInt64 x0)), .int (-30), .long (-9223372036854775808)], w)) rfl).trans ?_
      refine (val_g (c2 := (109, d + 2, 27, [some (.int x0)], [.long (shlL ((if 0 < (Int32.toInt64 x0) then (Int32.toInt64 x0) else -(Int32.toInt64 x0))) 30), .int (-30), .long (-9223372036854775808)], w)) rfl).trans ?_
      rfl
  · refine ((val_if_ne rfl).trans (if_neg hc603)).trans ?_
    show val (109, d + 2, 4, [some (.int x0)], [], w) = _
    refine Eq.trans ?_ (if_neg hc603).symm
    refine (val_g (c2 := (109, d + 2, 5, [some (.int x0)], [.long 0], w)) rfl).trans ?_
    exact val_r rfl
theorem tr_109_30 (d : Nat) (w : Wd) (l0 : Int32) (s0 : Int64)     : val (109, d + 2, 30, [some (.int l0)], [.long s0], w) = some (some (.long s0), w) := by
  exact val_r rfl
/-- BelfryHouse$Reals.add(JJ)J -/
theorem tr_110 (d : Nat) (w : Wd) (x0 : Int64) (x1 : Int64)     : val (110, d + 3, 0, [some (.long x0), none, some (.long x1), none, none, none, none], [], w) = (if ¬ (fn_97 x0) = 0 then some (some (.long 9221120237041090560), w) else (if (fn_97 x1) = 0 then (if (fn_98 x0) = 0 then (if (fn_98 x1) = 0 then (if ¬ (cmpL x0 ((-9223372036854775808))) = 0 then val (110, d + 3, 91, [some (.long x0), none, some (.long x1), none, some (.int (if (fn_105 x0) < (fn_105 x1) then (fn_105 x1) else (fn_105 x0))), none, none], [.int (if (fn_105 x0) < (fn_105 x1) then (fn_105 x1) else (fn_105 x0)), .long x0], w) else (if ¬ (cmpL x1 ((-9223372036854775808))) = 0 then val (110, d + 3, 91, [some (.long x0), none, some (.long x1), none, some (.int (if (fn_105 x0) < (fn_105 x1) then (fn_105 x1) else (fn_105 x0))), none, none], [.int (if (fn_105 x0) < (fn_105 x1) then (fn_105 x1) else (fn_105 x0)), .long x0], w) else some (some (.long (-9223372036854775808)), w))) else some (some (.long x1), w)) else (if (fn_98 x1) = 0 then some (some (.long x0), w) else (if (cmpL x0 x1) = 0 then some (some (.long x0), w) else some (some (.long 9221120237041090560), w)))) else some (some (.long 9221120237041090560), w))) := by
  refine (val_g (c2 := (110, d + 3, 1, [some (.long x0), none, some (.long x1), none, none, none, none], [.long x0], w)) rfl).trans ?_
  refine (val_call (w1 := w) (pc2 := 4) rfl rfl rfl rfl rfl (Nat.le_of_ble_eq_true rfl) (Nat.le_of_ble_eq_true rfl) rfl (ev_97 (d + 1) w x0) rfl).trans ?_
  show val (110, d + 3, 4, [some (.long x0), none, some (.long x1), none, none, none, none], [.int (fn_97 x0)], w) = _
  by_cases hc614 : ¬ (fn_97 x0) = 0
  · refine ((val_if_ne rfl).trans (if_pos hc614)).trans ?_
    show val (110, d + 3, 14, [some (.long x0), none, some (.long x1), none, none, none, none], [], w) = _
    refine Eq.trans ?_ (if_pos hc614).symm
    refine (val_g (c2 := (110, d + 3, 17, [some (.long x0), none, some (.long x1), none, none, none, none], [.long 9221120237041090560], w)) rfl).trans ?_
    exact val_r rfl
  · refine ((val_if_ne rfl).trans (if_neg hc614)).trans ?_
    show val (110, d + 3, 7, [some (.long x0), none, some (.long x1), none, none, none, none], [], w) = _
    refine Eq.trans ?_ (if_neg hc614).symm
    refine (val_g (c2 := (110, d + 3, 8, [some (.long x0), none, some (.long x1), none, none, none, none], [.long x1], w)) rfl).trans ?_
    refine (val_call (w1 := w) (pc2 := 11) rfl rfl rfl rfl rfl (Nat.le_of_ble_eq_true rfl) (Nat.le_of_ble_eq_true rfl) rfl (ev_97 (d + 1) w x1) rfl).trans ?_
    show val (110, d + 3, 11, [some (.long x0), none, some (.long x1), none, none, none, none], [.int (fn_97 x1)], w) = _
    by_cases hc615 : (fn_97 x1) = 0
    · refine ((val_if_eq rfl).trans (if_pos hc615)).trans ?_
      show val (110, d + 3, 18, [some (.long x0), none, some (.long x1), none, none, none, none], [], w) = _
      refine Eq.trans ?_ (if_pos hc615).symm
      refine (val_g (c2 := (110, d + 3, 19, [some (.long x0), none, some (.long x1), none, none, none, none], [.long x0], w)) rfl).trans ?_
      refine (val_call (w1 := w) (pc2 := 22) rfl rfl rfl rfl rfl (Nat.le_of_ble_eq_true rfl) (Nat.le_of_ble_eq_true rfl) rfl (ev_98 (d + 1) w x0) rfl).trans ?_
      show val (110, d + 3, 22, [some (.long x0), none, some (.long x1), none, none, none, none], [.int (fn_98 x0)], w) = _
      by_cases hc616 : (fn_98 x0) = 0
      · refine ((val_if_eq rfl).trans (if_pos hc616)).trans ?_
        show val (110, d + 3, 46, [some (.long x0), none, some (.long x1), none, none, none, none], [], w) = _
        refine Eq.trans ?_ (if_pos hc616).symm
        refine (val_g (c2 := (110, d + 3, 47, [some (.long x0), none, some (.long x1), none, none, none, none], [.long x1], w)) rfl).trans ?_
        refine (val_call (w1 := w) (pc2 := 50) rfl rfl rfl rfl rfl (Nat.le_of_ble_eq_true rfl) (Nat.le_of_ble_eq_true rfl) rfl (ev_98 (d + 1) w x1) rfl).trans ?_
        show val (110, d + 3, 50, [some (.long x0), none, some (.long x1), none, none, none, none], [.int (fn_98 x1)], w) = _
        by_cases hc617 : (fn_98 x1) = 0
        · refine ((val_if_eq rfl).trans (if_pos hc617)).trans ?_
          show val (110, d + 3, 55, [some (.long x0), none, some (.long x1), none, none, none, none], [], w) = _
          refine Eq.trans ?_ (if_pos hc617).symm
          refine (val_g (c2 := (110, d + 3, 56, [some (.long x0), none, some (.long x1), none, none, none, none], [.long x0], w)) rfl).trans ?_
          refine (val_g (c2 := (110, d + 3, 59, [some (.long x0), none, some (.long x1), none, none, none, none], [.long (-9223372036854775808), .long x0], w)) rfl).trans ?_
          refine (val_g (c2 := (110, d + 3, 60, [some (.long x0), none, some (.long x1), none, none, none, none], [.int (cmpL x0 ((-9223372036854775808)))], w)) rfl).trans ?_
          by_cases hc618 : ¬ (cmpL x0 ((-9223372036854775808))) = 0
          · refine ((val_if_ne rfl).trans (if_pos hc618)).trans ?_
            show val (110, d + 3, 75, [some (.long x0), none, some (.long x1), none, none, none, none], [], w) = _
            refine Eq.trans ?_ (if_pos hc618).symm
            refine (val_g (c2 := (110, d + 3, 76, [some (.long x0), none, some (.long x1), none, none, none, none], [.long x0], w)) rfl).trans ?_
            refine (val_call (w1 := w) (pc2 := 79) rfl rfl rfl rfl rfl (Nat.le_of_ble_eq_true rfl) (Nat.le_of_ble_eq_true rfl) rfl (ev_105 (d + 1) w x0) rfl).trans ?_
            show val (110, d + 3, 79, [some (.long x0), none, some (.long x1), none, none, none, none], [.int (fn_105 x0)], w) = _
            refine (val_g (c2 := (110, d + 3, 80, [some (.long x0), none, some (.long x1), none, none, none, none], [.long x1, .int (fn_105 x0)], w)) rfl).trans ?_
            refine (val_call (w1 := w) (pc2 := 83) rfl rfl rfl rfl rfl (Nat.le_of_ble_eq_true rfl) (Nat.le_of_ble_eq_true rfl) rfl (ev_105 (d + 1) w x1) rfl).trans ?_
            show val (110, d + 3, 83, [some (.long x0), none, some (.long x1), none, none, none, none], [.int (fn_105 x1), .int (fn_105 x0)], w) = _
            refine (val_g (c2 := (110, d + 3, 86, [some (.long x0), none, some (.long x1), none, none, none, none], [.int (if (fn_105 x0) < (fn_105 x1) then (fn_105 x1) else (fn_105 x0))], w)) rfl).trans ?_
            refine (val_g (c2 := (110, d + 3, 88, [some (.long x0), none, some (.long x1), none, some (.int (if (fn_105 x0) < (fn_105 x1) then (fn_105 x1) else (fn_105 x0))), none, none], [], w)) rfl).trans ?_
            refine (val_g (c2 := (110, d + 3, 89, [some (.long x0), none, some (.long x1), none, some (.int (if (fn_105 x0) < (fn_105 x1) then (fn_105 x1) else (fn_105 x0))), none, none], [.long x0], w)) rfl).trans ?_
            refine (val_g (c2 := (110, d + 3, 91, [some (.long x0), none, some (.long x1), none, some (.int (if (fn_105 x0) < (fn_105 x1) then (fn_105 x1) else (fn_105 x0))), none, none], [.int (if (fn_105 x0) < (fn_105 x1) then (fn_105 x1) else (fn_105 x0)), .long x0], w)) rfl).trans ?_
            rfl
          · refine ((val_if_ne rfl).trans (if_neg hc618)).trans ?_
            show val (110, d + 3, 63, [some (.long x0), none, some (.long x1), none, none, none, none], [], w) = _
            refine Eq.trans ?_ (if_neg hc618).symm
            refine (val_g (c2 := (110, d + 3, 64, [some (.long x0), none, some (.long x1), none, none, none, none], [.long x1], w)) rfl).trans ?_
            refine (val_g (c2 := (110, d + 3, 67, [some (.long x0), none, some (.long x1), none, none, none, none], [.long (-9223372036854775808), .long x1], w)) rfl).trans ?_
            refine (val_g (c2 := (110, d + 3, 68, [some (.long x0), none, some (.long x1), none, none, none, none], [.int (cmpL x1 ((-9223372036854775808)))], w)) rfl).trans ?_
            by_cases hc619 : ¬ (cmpL x1 ((-9223372036854775808))) = 0
            · refine ((val_if_ne rfl).trans (if_pos hc619)).trans ?_
              show val (110, d + 3, 75, [some (.long x0), none, some (.long x1), none, none, none, none], [], w) = _
              refine Eq.trans ?_ (if_pos hc619).symm
              refine (val_g (c2 := (110, d + 3, 76, [some (.long x0), none, some (.long x1), none, none, none, none], [.long x0], w)) rfl).trans ?_
              refine (val_call (w1 := w) (pc2 := 79) rfl rfl rfl rfl rfl (Nat.le_of_ble_eq_true rfl) (Nat.le_of_ble_eq_true rfl) rfl (ev_105 (d + 1) w x0) rfl).trans ?_
              show val (110, d + 3, 79, [some (.long x0), none, some (.long x1), none, none, none, none], [.int (fn_105 x0)], w) = _
              refine (val_g (c2 := (110, d + 3, 80, [some (.long x0), none, some (.long x1), none, none, none, none], [.long x1, .int (fn_105 x0)], w)) rfl).trans ?_
              refine (val_call (w1 := w) (pc2 := 83) rfl rfl rfl rfl rfl (Nat.le_of_ble_eq_true rfl) (Nat.le_of_ble_eq_true rfl) rfl (ev_105 (d + 1) w x1) rfl).trans ?_
              show val (110, d + 3, 83, [some (.long x0), none, some (.long x1), none, none, none, none], [.int (fn_105 x1), .int (fn_105 x0)], w) = _
              refine (val_g (c2 := (110, d + 3, 86, [some (.long x0), none, some (.long x1), none, none, none, none], [.int (if (fn_105 x0) < (fn_105 x1) then (fn_105 x1) else (fn_105 x0))], w)) rfl).trans ?_
              refine (val_g (c2 := (110, d + 3, 88, [some (.long x0), none, some (.long x1), none, some (.int (if (fn_105 x0) < (fn_105 x1) then (fn_105 x1) else (fn_105 x0))), none, none], [], w)) rfl).trans ?_
              refine (val_g (c2 := (110, d + 3, 89, [some (.long x0), none, some (.long x1), none, some (.int (if (fn_105 x0) < (fn_105 x1) then (fn_105 x1) else (fn_105 x0))), none, none], [.long x0], w)) rfl).trans ?_
              refine (val_g (c2 := (110, d + 3, 91, [some (.long x0), none, some (.long x1), none, some (.int (if (fn_105 x0) < (fn_105 x1) then (fn_105 x1) else (fn_105 x0))), none, none], [.int (if (fn_105 x0) < (fn_105 x1) then (fn_105 x1) else (fn_105 x0)), .long x0], w)) rfl).trans ?_
              rfl
            · refine ((val_if_ne rfl).trans (if_neg hc619)).trans ?_
              show val (110, d + 3, 71, [some (.long x0), none, some (.long x1), none, none, none, none], [], w) = _
              refine Eq.trans ?_ (if_neg hc619).symm
              refine (val_g (c2 := (110, d + 3, 74, [some (.long x0), none, some (.long x1), none, none, none, none], [.long (-9223372036854775808)], w)) rfl).trans ?_
              exact val_r rfl
        · refine ((val_if_eq rfl).trans (if_neg hc617)).trans ?_
          show val (110, d + 3, 53, [some (.long x0), none, some (.long x1), none, none, none, none], [], w) = _
          refine Eq.trans ?_ (if_neg hc617).symm
          refine (val_g (c2 := (110, d + 3, 54, [some (.long x0), none, some (.long x1), none, none, none, none], [.long x1], w)) rfl).trans ?_
          exact val_r rfl
      · refine ((val_if_eq rfl).trans (if_neg hc616)).trans ?_
        show val (110, d + 3, 25, [some (.long x0), none, some (.long x1), none, none, none, none], [], w) = _
        refine Eq.trans ?_ (if_neg hc616).symm
        refine (val_g (c2 := (110, d + 3, 26, [some (.long x0), none, some (.long x1), none, none, none, none], [.long x1], w)) rfl).trans ?_
        refine (val_call (w1 := w) (pc2 := 29) rfl rfl rfl rfl rfl (Nat.le_of_ble_eq_true rfl) (Nat.le_of_ble_eq_true rfl) rfl (ev_98 (d + 1) w x1) rfl).trans ?_
        show val (110, d + 3, 29, [some (.long x0), none, some (.long x1), none, none, none, none], [.int (fn_98 x1)], w) = _
        by_cases hc620 : (fn_98 x1) = 0
        · refine ((val_if_eq rfl).trans (if_pos hc620)).trans ?_
          show val (110, d + 3, 44, [some (.long x0), none, some (.long x1), none, none, none, none], [], w) = _
          refine Eq.trans ?_ (if_pos hc620).symm
          refine (val_g (c2 := (110, d + 3, 45, [some (.long x0), none, some (.long x1), none, none, none, none], [.long x0], w)) rfl).trans ?_
          exact val_r rfl
        · refine ((val_if_eq rfl).trans (if_neg hc620)).trans ?_
          show val (110, d + 3, 32, [some (.long x0), none, some (.long x1), none, none, none, none], [], w) = _
          refine Eq.trans ?_ (if_neg hc620).symm
          refine (val_g (c2 := (110, d + 3, 33, [some (.long x0), none, some (.long x1), none, none, none, none], [.long x0], w)) rfl).trans ?_
          refine (val_g (c2 := (110, d + 3, 34, [some (.long x0), none, some (.long x1), none, none, none, none], [.long x1, .long x0], w)) rfl).trans ?_
          refine (val_g (c2 := (110, d + 3, 35, [some (.long x0), none, some (.long x1), none, none, none, none], [.int (cmpL x0 x1)], w)) rfl).trans ?_
          by_cases hc621 : (cmpL x0 x1) = 0
          · refine ((val_if_eq rfl).trans (if_pos hc621)).trans ?_
            show val (110, d + 3, 44, [some (.long x0), none, some (.long x1), none, none, none, none], [], w) = _
            refine Eq.trans ?_ (if_pos hc621).symm
            refine (val_g (c2 := (110, d + 3, 45, [some (.long x0), none, some (.long x1), none, none, none, none], [.long x0], w)) rfl).trans ?_
            exact val_r rfl
          · refine ((val_if_eq rfl).trans (if_neg hc621)).trans ?_
            show val (110, d + 3, 38, [some (.long x0), none, some (.long x1), none, none, none, none], [], w) = _
            refine Eq.trans ?_ (if_neg hc621).symm
            refine (val_g (c2 := (110, d + 3, 41, [some (.long x0), none, some (.long x1), none, none, none, none], [.long 9221120237041090560], w)) rfl).trans ?_
            refine (val_g (c2 := (110, d + 3, 45, [some (.long x0), none, some (.long x1), none, none, none, none], [.long 9221120237041090560], w)) rfl).trans ?_
            exact val_r rfl
    · refine ((val_if_eq rfl).trans (if_neg hc615)).trans ?_
      show val (110, d + 3, 14, [some (.long x0), none, some (.long x1), none, none, none, none], [], w) = _
      refine Eq.trans ?_ (if_neg hc615).symm
      refine (val_g (c2 := (110, d + 3, 17, [some (.long x0), none, some (.long x1), none, none, none, none], [.long 9221120237041090560], w)) rfl).trans ?_
      exact val_r rfl
theorem tr_110_94 (d : Nat) (w : Wd) (l0 : Int64) (l2 : Int64) (l4 : Int32) (s0 : Int64)     : val (110, d + 3, 94, [some (.long l0), none, some (.long l2), none, some (.int l4), none, none], [.long s0], w) = val (110, d + 3, 97, [some (.long l0), none, some (.long l2), none, some (.int l4), none, none], [.int l4, .long l2, .long s0], w) := by
  refine (val_g (c2 := (110, d + 3, 95, [some (.long l0), none, some (.long l2), none, some (.int l4), none, none], [.long l2, .long s0], w)) rfl).trans ?_
  refine (val_g (c2 := (110, d + 3, 97, [some (.long l0), none, some (.long l2), none, some (.int l4), none, none], [.int l4, .long l2, .long s0], w)) rfl).trans ?_
  rfl
theorem tr_110_100 (d : Nat) (w : Wd) (l0 : Int64) (l2 : Int64) (l4 : Int32) (s0 : Int64) (s1 : Int64)     : val (110, d + 3, 100, [some (.long l0), none, some (.long l2), none, some (.int l4), none, none], [.long s0, .long s1], w) = (if ¬ (cmpL ((s1 + s0)) 0) = 0 then val (110, d + 3, 130, [some (.long l0), none, some (.long l2), none, some (.int l4), some (.long (s1 + s0)), none], [.long (if 0 < (s1 + s0) then (s1 + s0) else -(s1 + s0)), .int (l4 - 9), .long ((s1 + s0) &&& (-9223372036854775808))], w) else val (110, d + 3, 133, [some (.long l0), none, some (.long l2), none, some (.int l4), some (.long (s1 + s0)), none], [.long 0], w)) := by
  refine (val_g (c2 := (110, d + 3, 101, [some (.long l0), none, some (.long l2), none, some (.int l4), none, none], [.long (s1 + s0)], w)) rfl).trans ?_
  refine (val_g (c2 := (110, d + 3, 103, [some (.long l0), none, some (.long l2), none, some (.int l4), some (.long (s1 + s0)), none], [], w)) rfl).trans ?_
  refine (val_g (c2 := (110, d + 3, 105, [some (.long l0), none, some (.long l2), none, some (.int l4), some (.long (s1 + s0)), none], [.long (s1 + s0)], w)) rfl).trans ?_
  refine (val_g (c2 := (110, d + 3, 106, [some (.long l0), none, some (.long l2), none, some (.int l4), some (.long (s1 + s0)), none], [.long 0, .long (s1 + s0)], w)) rfl).trans ?_
  refine (val_g (c2 := (110, d + 3, 107, [some (.long l0), none, some (.long l2), none, some (.int l4), some (.long (s1 + s0)), none], [.int (cmpL ((s1 + s0)) 0)], w)) rfl).trans ?_
  by_cases hc622 : ¬ (cmpL ((s1 + s0)) 0) = 0
  · refine ((val_if_ne rfl).trans (if_pos hc622)).trans ?_
    show val (110, d + 3, 114, [some (.long l0), none, some (.long l2), none, some (.int l4), some (.long (s1 + s0)), none], [], w) = _
    refine Eq.trans ?_ (if_pos hc622).symm
    refine (val_g (c2 := (110, d + 3, 116, [some (.long l0), none, some (.long l2), none, some (.int l4), some (.long (s1 + s0)), none], [.long (s1 + s0)], w)) rfl).trans ?_
    refine (val_g (c2 := (110, d + 3, 119, [some (.long l0), none, some (.long l2), none, some (.int l4), some (.long (s1 + s0)), none], [.long (-9223372036854775808), .long (s1 + s0)], w)) rfl).trans ?_
    refine (val_g (c2 := (110, d + 3, 120, [some (.long l0), none, some (.long l2), none, some (.int l4), some (.long (s1 + s0)), none], [.long ((s1 + s0) &&& (-9223372036854775808))], w)) rfl).trans ?_
    refine (val_g (c2 := (110, d + 3, 122, [some (.long l0), none, some (.long l2), none, some (.int l4), some (.long (s1 + s0)), none], [.int l4, .long ((s1 + s0) &&& (-9223372036854775808))], w)) rfl).trans ?_
    refine (val_g (c2 := (110, d + 3, 124, [some (.long l0), none, some (.long l2), none, some (.int l4), some (.long (s1 + s0)), none], [.int 9, .int l4, .long ((s1 + s0) &&& (-9223372036854775808))], w)) rfl).trans ?_
    refine (val_g (c2 := (110, d + 3, 125, [some (.long l0), none, some (.long l2), none, some (.int l4), some (.long (s1 + s0)), none], [.int (l4 - 9), .long ((s1 + s0) &&& (-9223372036854775808))], w)) rfl).trans ?_
    refine (val_g (c2 := (110, d + 3, 127, [some (.long l0), none, some (.long l2), none, some (.int l4), some (.long (s1 + s0)), none], [.long (s1 + s0), .int (l4 - 9), .long ((s1 + s0) &&& (-9223372036854775808))], w)) rfl).trans ?_
    refine (val_g (c2 := (110, d + 3, 130, [some (.long l0), none, some (.long l2), none, some (.int l4), some (.long (s1 + s0)), none], [.long (if 0 < (s1 + s0) then (s1 + s0) else -(s1 + s0)), .int (l4 - 9), .long ((s1 + s0) &&& (-9223372036854775808))], w)) rfl).trans ?_
    rfl
  · refine ((val_if_ne rfl).trans (if_neg hc622)).trans ?_
    show val (110, d + 3, 110, [some (.long l0), none, some (.long l2), none, some (.int l4), some (.long (s1 + s0)), none], [], w) = _
    refine Eq.trans ?_ (if_neg hc622).symm
    refine (val_g (c2 := (110, d + 3, 111, [some (.long l0), none, some (.long l2), none, some (.int l4), some (.long (s1 + s0)), none], [.long 0], w)) rfl).trans ?_
    refine (val_g (c2 := (110, d + 3, 133, [some (.long l0), none, some (.long l2), none, some (.int l4), some (.long (s1 + s0)), none], [.long 0], w)) rfl).trans ?_
    rfl
theorem tr_110_133 (d : Nat) (w : Wd) (l0 : Int64) (l2 : Int64) (l4 : Int32) (l5 : Int64) (s0 : Int64)     : val (110, d + 3, 133, [some (.long l0), none, some (.long l2), none, some (.int l4), some (.long l5), none], [.long s0], w) = some (some (.long s0), w) := by
  exact val_r rfl
/-- BelfryHouse$Reals.aligned(JI)J -/
theorem tr_111 (d : Nat) (w : Wd) (x0 : Int64) (x1 : Int32)     : val (111, d + 2, 0, [some (.long x0), none, some (.int x1), none, none], [], w) = (if 0 ≤ (cmpL x0 0) then some (some (.long (fn_107 ((shlL ((fn_104 x0)) 9)) ((x1 - (fn_105 x0))))), w) else some (some (.long (-((fn_107 ((shlL ((fn_104 x0)) 9)) ((x1 - (fn_105 x0))))))), w)) := by
  refine (val_g (c2 := (111, d + 2, 1, [some (.long x0), none, some (.int x1), none, none], [.long x0], w)) rfl).trans ?_
  refine (val_call (w1 := w) (pc2 := 4) rfl rfl rfl rfl rfl (Nat.le_of_ble_eq_true rfl) (Nat.le_of_ble_eq_true rfl) rfl (ev_104 (d) w x0) rfl).trans ?_
  show val (111, d + 2, 4, [some (.long x0), none, some (.int x1), none, none], [.long (fn_104 x0)], w) = _
  refine (val_g (c2 := (111, d + 2, 6, [some (.long x0), none, some (.int x1), none, none], [.int 9, .long (fn_104 x0)], w)) rfl).trans ?_
  refine (val_g (c2 := (111, d + 2, 7, [some (.long x0), none, some (.int x1), none, none], [.long (shlL ((fn_104 x0)) 9)], w)) rfl).trans ?_
  refine (val_g (c2 := (111, d + 2, 8, [some (.long x0), none, some (.int x1), none, none], [.int x1, .long (shlL ((fn_104 x0)) 9)], w)) rfl).trans ?_
  refine (val_g (c2 := (111, d + 2, 9, [some (.long x0), none, some (.int x1), none, none], [.long x0, .int x1, .long (shlL ((fn_104 x0)) 9)], w)) rfl).trans ?_
  refine (val_call (w1 := w) (pc2 := 12) rfl rfl rfl rfl rfl (Nat.le_of_ble_eq_true rfl) (Nat.le_of_ble_eq_true rfl) rfl (ev_105 (d) w x0) rfl).trans ?_
  show val (111, d + 2, 12, [some (.long x0), none, some (.int x1), none, none], [.int (fn_105 x0), .int x1, .long (shlL ((fn_104 x0)) 9)], w) = _
  refine (val_g (c2 := (111, d + 2, 13, [some (.long x0), none, some (.int x1), none, none], [.int (x1 - (fn_105 x0)), .long (shlL ((fn_104 x0)) 9)], w)) rfl).trans ?_
  refine (val_call (w1 := w) (pc2 := 16) rfl rfl rfl rfl rfl (Nat.le_of_ble_eq_true rfl) (Nat.le_of_ble_eq_true rfl) rfl (ev_107 (d + 1) w ((shlL ((fn_104 x0)) 9)) ((x1 - (fn_105 x0)))) rfl).trans ?_
  show val (111, d + 2, 16, [some (.long x0), none, some (.int x1), none, none], [.long (fn_107 ((shlL ((fn_104 x0)) 9)) ((x1 - (fn_105 x0))))], w) = _
  refine (val_g (c2 := (111, d + 2, 17, [some (.long x0), none, some (.int x1), some (.long (fn_107 ((shlL ((fn_104 x0)) 9)) ((x1 - (fn_105 x0))))), none], [], w)) rfl).trans ?_
  refine (val_g (c2 := (111, d + 2, 18, [some (.long x0), none, some (.int x1), some (.long (fn_107 ((shlL ((fn_104 x0)) 9)) ((x1 - (fn_105 x0))))), none], [.long x0], w)) rfl).trans ?_
  refine (val_g (c2 := (111, d + 2, 19, [some (.long x0), none, some (.int x1), some (.long (fn_107 ((shlL ((fn_104 x0)) 9)) ((x1 - (fn_105 x0))))), none], [.long 0, .long x0], w)) rfl).trans ?_
  refine (val_g (c2 := (111, d + 2, 20, [some (.long x0), none, some (.int x1), some (.long (fn_107 ((shlL ((fn_104 x0)) 9)) ((x1 - (fn_105 x0))))), none], [.int (cmpL x0 0)], w)) rfl).trans ?_
  by_cases hc624 : 0 ≤ (cmpL x0 0)
  · refine ((val_if_ge rfl).trans (if_pos hc624)).trans ?_
    show val (111, d + 2, 28, [some (.long x0), none, some (.int x1), some (.long (fn_107 ((shlL ((fn_104 x0)) 9)) ((x1 - (fn_105 x0))))), none], [], w) = _
    refine Eq.trans ?_ (if_pos hc624).symm
    refine (val_g (c2 := (111, d + 2, 29, [some (.long x0), none, some (.int x1), some (.long (fn_107 ((shlL ((fn_104 x0)) 9)) ((x1 - (fn_105 x0))))), none], [.long (fn_107 ((shlL ((fn_104 x0)) 9)) ((x1 - (fn_105 x0))))], w)) rfl).trans ?_
    exact val_r rfl
  · refine ((val_if_ge rfl).trans (if_neg hc624)).trans ?_
    show val (111, d + 2, 23, [some (.long x0), none, some (.int x1), some (.long (fn_107 ((shlL ((fn_104 x0)) 9)) ((x1 - (fn_105 x0))))), none], [], w) = _
    refine Eq.trans ?_ (if_neg hc624).symm
    refine (val_g (c2 := (111, d + 2, 24, [some (.long x0), none, some (.int x1), some (.long (fn_107 ((shlL ((fn_104 x0)) 9)) ((x1 - (fn_105 x0))))), none], [.long (fn_107 ((shlL ((fn_104 x0)) 9)) ((x1 - (fn_105 x0))))], w)) rfl).trans ?_
    refine (val_g (c2 := (111, d + 2, 25, [some (.long x0), none, some (.int x1), some (.long (fn_107 ((shlL ((fn_104 x0)) 9)) ((x1 - (fn_105 x0))))), none], [.long (-((fn_107 ((shlL ((fn_104 x0)) 9)) ((x1 - (fn_105 x0))))))], w)) rfl).trans ?_
    refine (val_g (c2 := (111, d + 2, 29, [some (.long x0), none, some (.int x1), some (.long (fn_107 ((shlL ((fn_104 x0)) 9)) ((x1 - (fn_105 x0))))), none], [.long (-((fn_107 ((shlL ((fn_104 x0)) 9)) ((x1 - (fn_105 x0))))))], w)) rfl).trans ?_
    exact val_r rfl
/-- BelfryHouse$Reals.subtract(JJ)J -/
theorem tr_112 (d : Nat) (w : Wd) (x0 : Int64) (x1 : Int64)     : val (112, d + 4, 0, [some (.long x0), none, some (.long x1), none], [], w) = val (112, d + 4, 6, [some (.long x0), none, some (.long x1), none], [.long (x1 ^^^ (-9223372036854775808)), .long x0], w) := by
  refine (val_g (c2 := (112, d + 4, 1, [some (.long x0), none, some (.long x1), none], [.long x0], w)) rfl).trans ?_
  refine (val_g (c2 := (112, d + 4, 2, [some (.long x0), none, some (.long x1), none], [.long x1, .long x0], w)) rfl).trans ?_
  refine (val_g (c2 := (112, d + 4, 5, [some (.long x0), none, some (.long x1), none], [.long (-9223372036854775808), .long x1, .long x0], w)) rfl).trans ?_
  refine (val_g (c2 := (112, d + 4, 6, [some (.long x0), none, some (.long x1), none], [.long (x1 ^^^ (-9223372036854775808)), .long x0], w)) rfl).trans ?_
  rfl
theorem tr_112_9 (d : Nat) (w : Wd) (l0 : Int64) (l2 : Int64) (s0 : Int64)     : val (112, d + 4, 9, [some (.long l0), none, some (.long l2), none], [.long s0], w) = some (some (.long s0), w) := by
  exact val_r rfl
/-- BelfryHouse$Reals.multiply(JJ)J -/
theorem tr_113 (d : Nat) (w : Wd) (x0 : Int64) (x1 : Int64)     : val (113, d + 2, 0, [some (.long x0), none, some (.long x1), none, none, none, none, none, none, none, none, none, none], [], w) = (if ¬ (fn_97 x0) = 0 then some (some (.long 9221120237041090560), w) else (if (fn_97 x1) = 0 then (if ¬ (fn_98 x0) = 0 then (if ¬ (fn_99 x0) = 0 then some (some (.long 9221120237041090560), w) else (if (fn_99 x1) = 0 then some (some (.long (((x0 ^^^ x1) &&& (-9223372036854775808)) ||| 9218868437227405312)), w) else some (some (.long 9221120237041090560), w))) else (if (fn_98 x1) = 0 then (if ¬ (fn_99 x0) = 0 then some (some (.long ((x0 ^^^ x1) &&& (-9223372036854775808))), w) else (if (fn_99 x1) = 0 then val (113, d + 2, 99, [some (.long x0), none, some (.long x1), none, some (.long ((x0 ^^^ x1) &&& (-9223372036854775808))), none, some (.long (fn_104 x0)), none, some (.long (fn_104 x1)), none, none, none, none], [.long (fn_104 x0)], w) else some (some (.long ((x0 ^^^ x1) &&& (-9223372036854775808))), w))) else (if ¬ (fn_99 x0) = 0 then some (some (.long 9221120237041090560), w) else (if (fn_99 x1) = 0 then some (some (.long (((x0 ^^^ x1) &&& (-9223372036854775808)) ||| 9218868437227405312)), w) else some (some (.long 9221120237041090560), w))))) else some (some (.long 9221120237041090560), w))) := by
  refine (val_g (c2 := (113, d + 2, 1, [some (.long x0), none, some (.long x1), none, none, none, none, none, none, none, none, none, none], [.long x0], w)) rfl).trans ?_
  refine (val_g (c2 := (113, d + 2, 2, [some (.long x0), none, some (.long x1), none, none, none, none, none, none, none, none, none, none], [.long x1, .long x0], w)) rfl).trans ?_
  refine (val_g (c2 := (113, d + 2, 3, [some (.long x0), none, some (.long x1), none, none, none, none, none, none, none, none, none, none], [.long (x0 ^^^ x1)], w)) rfl).trans ?_
  refine (val_g (c2 := (113, d + 2, 6, [some (.long x0), none, some (.long x1), none, none, none, none, none, none, none, none, none, none], [.long (-9223372036854775808), .long (x0 ^^^ x1)], w)) rfl).trans ?_
  refine (val_g (c2 := (113, d + 2, 7, [some (.long x0), none, some (.long x1), none, none, none, none, none, none, none, none, none, none], [.long ((x0 ^^^ x1) &&& (-9223372036854775808))], w)) rfl).trans ?_
  refine (val_g (c2 := (113, d + 2, 9, [some (.long x0), none, some (.long x1), none, some (.long ((x0 ^^^ x1) &&& (-9223372036854775808))), none, none, none, none, none, none, none, none], [], w)) rfl).trans ?_
  refine (val_g (c2 := (113, d + 2, 10, [some (.long x0), none, some (.long x1), none, some (.long ((x0 ^^^ x1) &&& (-9223372036854775808))), none, none, none, none, none, none, none, none], [.long x0], w)) rfl).trans ?_
  refine (val_call (w1 := w) (pc2 := 13) rfl rfl rfl rfl rfl (Nat.le_of_ble_eq_true rfl) (Nat.le_of_ble_eq_true rfl) rfl (ev_97 (d) w x0) rfl).trans ?_
  show val (113, d + 2, 13, [some (.long x0), none, some (.long x1), none, some (.long ((x0 ^^^ x1) &&& (-9223372036854775808))), none, none, none, none, none, none, none, none], [.int (fn_97 x0)], w) = _
  by_cases hc635 : ¬ (fn_97 x0) = 0
  · refine ((val_if_ne rfl).trans (if_pos hc635)).trans ?_
    show val (113, d + 2, 23, [some (.long x0), none, some (.long x1), none, some (.long ((x0 ^^^ x1) &&& (-9223372036854775808))), none, none, none, none, none, none, none, none], [], w) = _
    refine Eq.trans ?_ (if_pos hc635).symm
    refine (val_g (c2 := (113, d + 2, 26, [some (.long x0), none, some (.long x1), none, some (.long ((x0 ^^^ x1) &&& (-9223372036854775808))), none, none, none, none, none, none, none, none], [.long 9221120237041090560], w)) rfl).trans ?_
    exact val_r rfl
  · refine ((val_if_ne rfl).trans (if_neg hc635)).trans ?_
    show val (113, d + 2, 16, [some (.long x0), none, some (.long x1), none, some (.long ((x0 ^^^ x1) &&& (-9223372036854775808))), none, none, none, none, none, none, none, none], [], w) = _
    refine Eq.trans ?_ (if_neg hc635).symm
    refine (val_g (c2 := (113, d + 2, 17, [some (.long x0), none, some (.long x1), none, some (.long ((x0 ^^^ x1) &&& (-9223372036854775808))), none, none, none, none, none, none, none, none], [.long x1], w)) rfl).trans ?_
    refine (val_call (w1 := w) (pc2 := 20) rfl rfl rfl rfl rfl (Nat.le_of_ble_eq_true rfl) (Nat.le_of_ble_eq_true rfl) rfl (ev_97 (d) w x1) rfl).trans ?_
    show val (113, d + 2, 20, [some (.long x0), none, some (.long x1), none, some (.long ((x0 ^^^ x1) &&& (-9223372036854775808))), none, none, none, none, none, none, none, none], [.int (fn_97 x1)], w) = _
    by_cases hc636 : (fn_97 x1) = 0
    · refine ((val_if_eq rfl).trans (if_pos hc636)).trans ?_
      show val (113, d + 2, 27, [some (.long x0), none, some (.long x1), none, some (.long ((x0 ^^^ x1) &&& (-9223372036854775808))), none, none, none, none, none, none, none, none], [], w) = _
      refine Eq.trans ?_ (if_pos hc636).symm
      refine (val_g (c2 := (113, d + 2, 28, [some (.long x0), none, some (.long x1), none, some (.long ((x0 ^^^ x1) &&& (-9223372036854775808))), none, none, none, none, none, none, none, none], [.long x0], w)) rfl).trans ?_
      refine (val_call (w1 := w) (pc2 := 31) rfl rfl rfl rfl rfl (Nat.le_of_ble_eq_true rfl) (Nat.le_of_ble_eq_true rfl) rfl (ev_98 (d) w x0) rfl).trans ?_
      show val (113, d + 2, 31, [some (.long x0), none, some (.long x1), none, some (.long ((x0 ^^^ x1) &&& (-9223372036854775808))), none, none, none, none, none, none, none, none], [.int (fn_98 x0)], w) = _
      by_cases hc637 : ¬ (fn_98 x0) = 0
      · refine ((val_if_ne rfl).trans (if_pos hc637)).trans ?_
        show val (113, d + 2, 41, [some (.long x0), none, some (.long x1), none, some (.long ((x0 ^^^ x1) &&& (-9223372036854775808))), none, none, none, none, none, none, none, none], [], w) = _
        refine Eq.trans ?_ (if_pos hc637).symm
        refine (val_g (c2 := (113, d + 2, 42, [some (.long x0), none, some (.long x1), none, some (.long ((x0 ^^^ x1) &&& (-9223372036854775808))), none, none, none, none, none, none, none, none], [.long x0], w)) rfl).trans ?_
        refine (val_call (w1 := w) (pc2 := 45) rfl rfl rfl rfl rfl (Nat.le_of_ble_eq_true rfl) (Nat.le_of_ble_eq_true rfl) rfl (ev_99 (d) w x0) rfl).trans ?_
        show val (113, d + 2, 45, [some (.long x0), none, some (.long x1), none, some (.long ((x0 ^^^ x1) &&& (-9223372036854775808))), none, none, none, none, none, none, none, none], [.int (fn_99 x0)], w) = _
        by_cases hc638 : ¬ (fn_99 x0) = 0
        · refine ((val_if_ne rfl).trans (if_pos hc638)).trans ?_
          show val (113, d + 2, 55, [some (.long x0), none, some (.long x1), none, some (.long ((x0 ^^^ x1) &&& (-9223372036854775808))), none, none, none, none, none, none, none, none], [], w) = _
          refine Eq.trans ?_ (if_pos hc638).symm
          refine (val_g (c2 := (113, d + 2, 58, [some (.long x0), none, some (.long x1), none, some (.long ((x0 ^^^ x1) &&& (-9223372036854775808))), none, none, none, none, none, none, none, none], [.long 9221120237041090560], w)) rfl).trans ?_
          refine (val_g (c2 := (113, d + 2, 67, [some (.long x0), none, some (.long x1), none, some (.long ((x0 ^^^ x1) &&& (-9223372036854775808))), none, none, none, none, none, none, none, none], [.long 9221120237041090560], w)) rfl).trans ?_
          exact val_r rfl
        · refine ((val_if_ne rfl).trans (if_neg hc638)).trans ?_
          show val (113, d + 2, 48, [some (.long x0), none, some (.long x1), none, some (.long ((x0 ^^^ x1) &&& (-9223372036854775808))), none, none, none, none, none, none, none, none], [], w) = _
          refine Eq.trans ?_ (if_neg hc638).symm
          refine (val_g (c2 := (113, d + 2, 49, [some (.long x0), none, some (.long x1), none, some (.long ((x0 ^^^ x1) &&& (-9223372036854775808))), none, none, none, none, none, none, none, none], [.long x1], w)) rfl).trans ?_
          refine (val_call (w1 := w) (pc2 := 52) rfl rfl rfl rfl rfl (Nat.le_of_ble_eq_true rfl) (Nat.le_of_ble_eq_true rfl) rfl (ev_99 (d) w x1) rfl).trans ?_
          show val (113, d + 2, 52, [some (.long x0), none, some (.long x1), none, some (.long ((x0 ^^^ x1) &&& (-9223372036854775808))), none, none, none, none, none, none, none, none], [.int (fn_99 x1)], w) = _
          by_cases hc639 : (fn_99 x1) = 0
          · refine ((val_if_eq rfl).trans (if_pos hc639)).trans ?_
            show val (113, d + 2, 61, [some (.long x0), none, some (.long x1), none, some (.long ((x0 ^^^ x1) &&& (-9223372036854775808))), none, none, none, none, none, none, none, none], [], w) = _
            refine Eq.trans ?_ (if_pos hc639).symm
            refine (val_g (c2 := (113, d + 2, 63, [some (.long x0), none, some (.long x1), none, some (.long ((x0 ^^^ x1) &&& (-9223372036854775808))), none, none, none, none, none, none, none, none], [.long ((x0 ^^^ x1) &&& (-9223372036854775808))], w)) rfl).trans ?_
            refine (val_g (c2 := (113, d + 2, 66, [some (.long x0), none, some (.long x1), none, some (.long ((x0 ^^^ x1) &&& (-9223372036854775808))), none, none, none, none, none, none, none, none], [.long 9218868437227405312, .long ((x0 ^^^ x1) &&& (-9223372036854775808))], w)) rfl).trans ?_
            refine (val_g (c2 := (113, d + 2, 67, [some (.long x0), none, some (.long x1), none, some (.long ((x0 ^^^ x1) &&& (-9223372036854775808))), none, none, none, none, none, none, none, none], [.long (((x0 ^^^ x1) &&& (-9223372036854775808)) ||| 9218868437227405312)], w)) rfl).trans ?_
            exact val_r rfl
          · refine ((val_if_eq rfl).trans (if_neg hc639)).trans ?_
            show val (113, d + 2, 55, [some (.long x0), none, some (.long x1), none, some (.long ((x0 ^^^ x1) &&& (-9223372036854775808))), none, none, none, none, none, none, none, none], [], w) = _
            refine Eq.trans ?_ (if_neg hc639).symm
            refine (val_g (c2 := (113, d + 2, 58, [some (.long x0), none, some (.long x1), none, some (.long ((x0 ^^^ x1) &&& (-9223372036854775808))), none, none, none, none, none, none, none, none], [.long 9221120237041090560], w)) rfl).trans ?_
            refine (val_g (c2 := (113, d + 2, 67, [some (.long x0), none, some (.long x1), none, some (.long ((x0 ^^^ x1) &&& (-9223372036854775808))), none, none, none, none, none, none, none, none], [.long 9221120237041090560], w)) rfl).trans ?_
            exact val_r rfl
      · refine ((val_if_ne rfl).trans (if_neg hc637)).trans ?_
        show val (113, d + 2, 34, [some (.long x0), none, some (.long x1), none, some (.long ((x0 ^^^ x1) &&& (-9223372036854775808))), none, none, none, none, none, none, none, none], [], w) = _
        refine Eq.trans ?_ (if_neg hc637).symm
        refine (val_g (c2 := (113, d + 2, 35, [some (.long x0), none, some (.long x1), none, some (.long ((x0 ^^^ x1) &&& (-9223372036854775808))), none, none, none, none, none, none, none, none], [.long x1], w)) rfl).trans ?_
        refine (val_call (w1 := w) (pc2 := 38) rfl rfl rfl rfl rfl (Nat.le_of_ble_eq_true rfl) (Nat.le_of_ble_eq_true rfl) rfl (ev_98 (d) w x1) rfl).trans ?_
        show val (113, d + 2, 38, [some (.long x0), none, some (.long x1), none, some (.long ((x0 ^^^ x1) &&& (-9223372036854775808))), none, none, none, none, none, none, none, none], [.int (fn_98 x1)], w) = _
        by_cases hc640 : (fn_98 x1) = 0
        · refine ((val_if_eq rfl).trans (if_pos hc640)).trans ?_
          show val (113, d + 2, 68, [some (.long x0), none, some (.long x1), none, some (.long ((x0 ^^^ x1) &&& (-9223372036854775808))), none, none, none, none, none, none, none, none], [], w) = _
          refine Eq.trans ?_ (if_pos hc640).symm
          refine (val_g (c2 := (113, d + 2, 69, [some (.long x0), none, some (.long x1), none, some (.long ((x0 ^^^ x1) &&& (-9223372036854775808))), none, none, none, none, none, none, none, none], [.long x0], w)) rfl).trans ?_
          refine (val_call (w1 := w) (pc2 := 72) rfl rfl rfl rfl rfl (Nat.le_of_ble_eq_true rfl) (Nat.le_of_ble_eq_true rfl) rfl (ev_99 (d) w x0) rfl).trans ?_
          show val (113, d + 2, 72, [some (.long x0), none, some (.long x1), none, some (.long ((x0 ^^^ x1) &&& (-9223372036854775808))), none, none, none, none, none, none, none, none], [.int (fn_99 x0)], w) = _
          by_cases hc641 : ¬ (fn_99 x0) = 0
          · refine ((val_if_ne rfl).trans (if_pos hc641)).trans ?_
            show val (113, d + 2, 82, [some (.long x0), none, some (.long x1), none, some (.long ((x0 ^^^ x1) &&& (-9223372036854775808))), none, none, none, none, none, none, none, none], [], w) = _
            refine Eq.trans ?_ (if_pos hc641).symm
            refine (val_g (c2 := (113, d + 2, 84, [some (.long x0), none, some (.long x1), none, some (.long ((x0 ^^^ x1) &&& (-9223372036854775808))), none, none, none, none, none, none, none, none], [.long ((x0 ^^^ x1) &&& (-9223372036854775808))], w)) rfl).trans ?_
            exact val_r rfl
          · refine ((val_if_ne rfl).trans (if_neg hc641)).trans ?_
            show val (113, d + 2, 75, [some (.long x0), none, some (.long x1), none, some (.long ((x0 ^^^ x1) &&& (-9223372036854775808))), none, none, none, none, none, none, none, none], [], w) = _
            refine Eq.trans ?_ (if_neg hc641).symm
            refine (val_g (c2 := (113, d + 2, 76, [some (.long x0), none, some (.long x1), none, some (.long ((x0 ^^^ x1) &&& (-9223372036854775808))), none, none, none, none, none, none, none, none], [.long x1], w)) rfl).trans ?_
            refine (val_call (w1 := w) (pc2 := 79) rfl rfl rfl rfl rfl (Nat.le_of_ble_eq_true rfl) (Nat.le_of_ble_eq_true rfl) rfl (ev_99 (d) w x1) rfl).trans ?_
            show val (113, d + 2, 79, [some (.long x0), none, some (.long x1), none, some (.long ((x0 ^^^ x1) &&& (-9223372036854775808))), none, none, none, none, none, none, none, none], [.int (fn_99 x1)], w) = _
            by_cases hc642 : (fn_99 x1) = 0
            · refine ((val_if_eq rfl).trans (if_pos hc642)).trans ?_
              show val (113, d + 2, 85, [some (.long x0), none, some (.long x1), none, some (.long ((x0 ^^^ x1) &&& (-9223372036854775808))), none, none, none, none, none, none, none, none], [], w) = _
              refine Eq.trans ?_ (if_pos hc642).symm
              refine (val_g (c2 := (113, d + 2, 86, [some (.long x0), none, some (.long x1), none, some (.long ((x0 ^^^ x1) &&& (-9223372036854775808))), none, none, none, none, none, none, none, none], [.long x0], w)) rfl).trans ?_
              refine (val_call (w1 := w) (pc2 := 89) rfl rfl rfl rfl rfl (Nat.le_of_ble_eq_true rfl) (Nat.le_of_ble_eq_true rfl) rfl (ev_104 (d) w x0) rfl).trans ?_
              show val (113, d + 2, 89, [some (.long x0), none, some (.long x1), none, some (.long ((x0 ^^^ x1) &&& (-9223372036854775808))), none, none, none, none, none, none, none, none], [.long (fn_104 x0)], w) = _
              refine (val_g (c2 := (113, d + 2, 91, [some (.long x0), none, some (.long x1), none, some (.long ((x0 ^^^ x1) &&& (-9223372036854775808))), none, some (.long (fn_104 x0)), none, none, none, none, none, none], [], w)) rfl).trans ?_
              refine (val_g (c2 := (113, d + 2, 92, [some (.long x0), none, some (.long x1), none, some (.long ((x0 ^^^ x1) &&& (-9223372036854775808))), none, some (.long (fn_104 x0)), none, none, none, none, none, none], [.long x1], w)) rfl).trans ?_
              refine (val_call (w1 := w) (pc2 := 95) rfl rfl rfl rfl rfl (Nat.le_of_ble_eq_true rfl) (Nat.le_of_ble_eq_true rfl) rfl (ev_104 (d) w x1) rfl).trans ?_
              show val (113, d + 2, 95, [some (.long x0), none, some (.long x1), none, some (.long ((x0 ^^^ x1) &&& (-9223372036854775808))), none, some (.long (fn_104 x0)), none, none, none, none, none, none], [.long (fn_104 x1)], w) = _
              refine (val_g (c2 := (113, d + 2, 97, [some (.long x0), none, some (.long x1), none, some (.long ((x0 ^^^ x1) &&& (-9223372036854775808))), none, some (.long (fn_104 x0)), none, some (.long (fn_104 x1)), none, none, none, none], [], w)) rfl).trans ?_
              refine (val_g (c2 := (113, d + 2, 99, [some (.long x0), none, some (.long x1), none, some (.long ((x0 ^^^ x1) &&& (-9223372036854775808))), none, some (.long (fn_104 x0)), none, some (.long (fn_104 x1)), none, none, none, none], [.long (fn_104 x0)], w)) rfl).trans ?_
              rfl
            · refine ((val_if_eq rfl).trans (if_neg hc642)).trans ?_
              show val (113, d + 2, 82, [some (.long x0), none, some (.long x1), none, some (.long ((x0 ^^^ x1) &&& (-9223372036854775808))), none, none, none, none, none, none, none, none], [], w) = _
              refine Eq.trans ?_ (if_neg hc642).symm
              refine (val_g (c2 := (113, d + 2, 84, [some (.long x0), none, some (.long x1), none, some (.long ((x0 ^^^ x1) &&& (-9223372036854775808))), none, none, none, none, none, none, none, none], [.long ((x0 ^^^ x1) &&& (-9223372036854775808))], w)) rfl).trans ?_
              exact val_r rfl
        · refine ((val_if_eq rfl).trans (if_neg hc640)).trans ?_
          show val (113, d + 2, 41, [some (.long x0), none, some (.long x1), none, some (.long ((x0 ^^^ x1) &&& (-9223372036854775808))), none, none, none, none, none, none, none, none], [], w) = _
          refine Eq.trans ?_ (if_neg hc640).symm
          refine (val_g (c2 := (113, d + 2, 42, [some (.long x0), none, some (.long x1), none, some (.long ((x0 ^^^ x1) &&& (-9223372036854775808))), none, none, none, none, none, none, none, none], [.long x0], w)) rfl).trans ?_
          refine (val_call (w1 := w) (pc2 := 45) rfl rfl rfl rfl rfl (Nat.le_of_ble_eq_true rfl) (Nat.le_of_ble_eq_true rfl) rfl (ev_99 (d) w x0) rfl).trans ?_
          show val (113, d + 2, 45, [some (.long x0), none, some (.long x1), none, some (.long ((x0 ^^^ x1) &&& (-9223372036854775808))), none, none, none, none, none, none, none, none], [.int (fn_99 x0)], w) = _
          by_cases hc643 : ¬ (fn_99 x0) = 0
          · refine ((val_if_ne rfl).trans (if_pos hc643)).trans ?_
            show val (113, d + 2, 55, [some (.long x0), none, some (.long x1), none, some (.long ((x0 ^^^ x1) &&& (-9223372036854775808))), none, none, none, none, none, none, none, none], [], w) = _
            refine Eq.trans ?_ (if_pos hc643).symm
            refine (val_g (c2 := (113, d + 2, 58, [some (.long x0), none, some (.long x1), none, some (.long ((x0 ^^^ x1) &&& (-9223372036854775808))), none, none, none, none, none, none, none, none], [.long 9221120237041090560], w)) rfl).trans ?_
            refine (val_g (c2 := (113, d + 2, 67, [some (.long x0), none, some (.long x1), none, some (.long ((x0 ^^^ x1) &&& (-9223372036854775808))), none, none, none, none, none, none, none, none], [.long 9221120237041090560], w)) rfl).trans ?_
            exact val_r rfl
          · refine ((val_if_ne rfl).trans (if_neg hc643)).trans ?_
            show val (113, d + 2, 48, [some (.long x0), none, some (.long x1), none, some (.long ((x0 ^^^ x1) &&& (-9223372036854775808))), none, none, none, none, none, none, none, none], [], w) = _
            refine Eq.trans ?_ (if_neg hc643).symm
            refine (val_g (c2 := (113, d + 2, 49, [some (.long x0), none, some (.long x1), none, some (.long ((x0 ^^^ x1) &&& (-9223372036854775808))), none, none, none, none, none, none, none, none], [.long x1], w)) rfl).trans ?_
            refine (val_call (w1 := w) (pc2 := 52) rfl rfl rfl rfl rfl (Nat.le_of_ble_eq_true rfl) (Nat.le_of_ble_eq_true rfl) rfl (ev_99 (d) w x1) rfl).trans ?_
            show val (113, d + 2, 52, [some (.long x0), none, some (.long x1), none, some (.long ((x0 ^^^ x1) &&& (-9223372036854775808))), none, none, none, none, none, none, none, none], [.int (fn_99 x1)], w) = _
            by_cases hc644 : (fn_99 x1) = 0
            · refine ((val_if_eq rfl).trans (if_pos hc644)).trans ?_
              show val (113, d + 2, 61, [some (.long x0), none, some (.long x1), none, some (.long ((x0 ^^^ x1) &&& (-9223372036854775808))), none, none, none, none, none, none, none, none], [], w) = _
              refine Eq.trans ?_ (if_pos hc644).symm
              refine (val_g (c2 := (113, d + 2, 63, [some (.long x0), none, some (.long x1), none, some (.long ((x0 ^^^ x1) &&& (-9223372036854775808))), none, none, none, none, none, none, none, none], [.long ((x0 ^^^ x1) &&& (-9223372036854775808))], w)) rfl).trans ?_
              refine (val_g (c2 := (113, d + 2, 66, [some (.long x0), none, some (.long x1), none, some (.long ((x0 ^^^ x1) &&& (-9223372036854775808))), none, none, none, none, none, none, none, none], [.long 9218868437227405312, .long ((x0 ^^^ x1) &&& (-9223372036854775808))], w)) rfl).trans ?_
              refine (val_g (c2 := (113, d + 2, 67, [some (.long x0), none, some (.long x1), none, some (.long ((x0 ^^^ x1) &&& (-9223372036854775808))), none, none, none, none, none, none, none, none], [.long (((x0 ^^^ x1) &&& (-9223372036854775808)) ||| 9218868437227405312)], w)) rfl).trans ?_
              exact val_r rfl
            · refine ((val_if_eq rfl).trans (if_neg hc644)).trans ?_
              show val (113, d + 2, 55, [some (.long x0), none, some (.long x1), none, some (.long ((x0 ^^^ x1) &&& (-9223372036854775808))), none, none, none, none, none, none, none, none], [], w) = _
              refine Eq.trans ?_ (if_neg hc644).symm
              refine (val_g (c2 := (113, d + 2, 58, [some (.long x0), none, some (.long x1), none, some (.long ((x0 ^^^ x1) &&& (-9223372036854775808))), none, none, none, none, none, none, none, none], [.long 9221120237041090560], w)) rfl).trans ?_
              refine (val_g (c2 := (113, d + 2, 67, [some (.long x0), none, some (.long x1), none, some (.long ((x0 ^^^ x1) &&& (-9223372036854775808))), none, none, none, none, none, none, none, none], [.long 9221120237041090560], w)) rfl).trans ?_
              exact val_r rfl
    · refine ((val_if_eq rfl).trans (if_neg hc636)).trans ?_
      show val (113, d + 2, 23, [some (.long x0), none, some (.long x1), none, some (.long ((x0 ^^^ x1) &&& (-9223372036854775808))), none, none, none, none, none, none, none, none], [], w) = _
      refine Eq.trans ?_ (if_neg hc636).symm
      refine (val_g (c2 := (113, d + 2, 26, [some (.long x0), none, some (.long x1), none, some (.long ((x0 ^^^ x1) &&& (-9223372036854775808))), none, none, none, none, none, none, none, none], [.long 9221120237041090560], w)) rfl).trans ?_
      exact val_r rfl
theorem tr_113_102 (d : Nat) (w : Wd) (l0 : Int64) (l2 : Int64) (l4 : Int64) (l6 : Int64) (l8 : Int64) (s0 : Int32)     : val (113, d + 2, 102, [some (.long l0), none, some (.long l2), none, some (.long l4), none, some (.long l6), none, some (.long l8), none, none, none, none], [.int s0], w) = val (113, d + 2, 106, [some (.long l0), none, some (.long l2), none, some (.long l4), none, some (.long l6), none, some (.long l8), none, some (.int s0), none, none], [.long l8], w) := by
  refine (val_g (c2 := (113, d + 2, 104, [some (.long l0), none, some (.long l2), none, some (.long l4), none, some (.long l6), none, some (.long l8), none, some (.int s0), none, none], [], w)) rfl).trans ?_
  refine (val_g (c2 := (113, d + 2, 106, [some (.long l0), none, some (.long l2), none, some (.long l4), none, some (.long l6), none, some (.long l8), none, some (.int s0), none, none], [.long l8], w)) rfl).trans ?_
  rfl
theorem tr_113_109 (d : Nat) (w : Wd) (l0 : Int64) (l2 : Int64) (l4 : Int64) (l6 : Int64) (l8 : Int64) (l10 : Int32) (s0 : Int32)     : val (113, d + 2, 109, [some (.long l0), none, some (.long l2), none, some (.long l4), none, some (.long l6), none, some (.long l8), none, some (.int l10), none, none], [.int s0], w) = val (113, d + 2, 148, [some (.long l0), none, some (.long l2), none, some (.long l4), none, some (.long l6), none, some (.long l8), none, some (.int l10), some (.int s0), some (.int ((((fn_105 l0) - l10) + (fn_105 l2)) - s0))], [.long (fn_114 ((shlL l6 l10)) ((shlL l8 s0))), .int (((((fn_105 l0) - l10) + (fn_105 l2)) - s0) + 44), .long l4], w) := by
  refine (val_g (c2 := (113, d + 2, 111, [some (.long l0), none, some (.long l2), none, some (.long l4), none, some (.long l6), none, some (.long l8), none, some (.int l10), some (.int s0), none], [], w)) rfl).trans ?_
  refine (val_g (c2 := (113, d + 2, 112, [some (.long l0), none, some (.long l2), none, some (.long l4), none, some (.long l6), none, some (.long l8), none, some (.int l10), some (.int s0), none], [.long l0], w)) rfl).trans ?_
  refine (val_call (w1 := w) (pc2 := 115) rfl rfl rfl rfl rfl (Nat.le_of_ble_eq_true rfl) (Nat.le_of_ble_eq_true rfl) rfl (ev_105 (d) w l0) rfl).trans ?_
  show val (113, d + 2, 115, [some (.long l0), none, some (.long l2), none, some (.long l4), none, some (.long l6), none, some (.long l8), none, some (.int l10), some (.int s0), none], [.int (fn_105 l0)], w) = _
  refine (val_g (c2 := (113, d + 2, 117, [some (.long l0), none, some (.long l2), none, some (.long l4), none, some (.long l6), none, some (.long l8), none, some (.int l10), some (.int s0), none], [.int l10, .int (fn_105 l0)], w)) rfl).trans ?_
  refine (val_g (c2 := (113, d + 2, 118, [some (.long l0), none, some (.long l2), none, some (.long l4), none, some (.long l6), none, some (.long l8), none, some (.int l10), some (.int s0), none], [.int ((fn_105 l0) - l10)], w)) rfl).trans ?_
  refine (val_g (c2 := (113, d + 2, 119, [some (.long l0), none, some (.long l2), none, some (.long l4), none, some (.long l6), none, some (.long l8), none, some (.int l10), some (.int s0), none], [.long l2, .int ((fn_105 l0) - l10)], w)) rfl).trans ?_
  refine (val_call (w1 := w) (pc2 := 122) rfl rfl rfl rfl rfl (Nat.le_of_ble_eq_true rfl) (Nat.le_of_ble_eq_true rfl) rfl (ev_105 (d) w l2) rfl).trans ?_
  show val (113, d + 2, 122, [some (.long l0), none, some (.long l2), none, some (.long l4), none, some (.long l6), none, some (.long l8), none, some (.int l10), some (.int s0), none], [.int (fn_105 l2), .int ((fn_105 l0) - l10)], w) = _
  refine (val_g (c2 := (113, d + 2, 123, [some (.long l0), none, some (.long l2), none, some (.long l4), none, some (.long l6), none, some (.long l8), none, some (.int l10), some (.int s0), none], [.int (((fn_105 l0) - l10) + (fn_105 l2))], w)) rfl).trans ?_
  refine (val_g (c2 := (113, d + 2, 125, [some (.long l0), none, some (.long l2), none, some (.long l4), none, some (.long l6), none, some (.long l8), none, some (.int l10), some (.int s0), none], [.int s0, .int (((fn_105 l0) - l10) + (fn_105 l2))], w)) rfl).trans ?_
  refine (val_g (c2 := (113, d + 2, 126, [some (.long l0), none, some (.long l2), none, some (.long l4), none, some (.long l6), none, some (.long l8), none, some (.int l10), some (.int s0), none], [.int ((((fn_105 l0) - l10) + (fn_105 l2)) - s0)], w)) rfl).trans ?_
  refine (val_g (c2 := (113, d + 2, 128, [some (.long l0), none, some (.long l2), none, some (.long l4), none, some (.long l6), none, some (.long l8), none, some (.int l10), some (.int s0), some (.int ((((fn_105 l0) - l10) + (fn_105 l2)) - s0))], [], w)) rfl).trans ?_
  refine (val_g (c2 := (113, d + 2, 130, [some (.long l0), none, some (.long l2), none, some (.long l4), none, some (.long l6), none, some (.long l8), none, some (.int l10), some (.int s0), some (.int ((((fn_105 l0) - l10) + (fn_105 l2)) - s0))], [.long l4], w)) rfl).trans ?_
  refine (val_g (c2 := (113, d + 2, 132, [some (.long l0), none, some (.long l2), none, some (.long l4), none, some (.long l6), none, some (.long l8), none, some (.int l10), some (.int s0), some (.int ((((fn_105 l0) - l10) + (fn_105 l2)) - s0))], [.int ((((fn_105 l0) - l10) + (fn_105 l2)) - s0), .long l4], w)) rfl).trans ?_
  refine (val_g (c2 := (113, d + 2, 134, [some (.long l0), none, some (.long l2), none, some (.long l4), none, some (.long l6), none, some (.long l8), none, some (.int l10), some (.int s0), some (.int ((((fn_105 l0) - l10) + (fn_105 l2)) - s0))], [.int 44, .int ((((fn_105 l0) - l10) + (fn_105 l2)) - s0), .long l4], w)) rfl).trans ?_
  refine (val_g (c2 := (113, d + 2, 135, [some (.long l0), none, some (.long l2), none, some (.long l4), none, some (.long l6), none, some (.long l8), none, some (.int l10), some (.int s0), some (.int ((((fn_105 l0) - l10) + (fn_105 l2)) - s0))], [.int (((((fn_105 l0) - l10) + (fn_105 l2)) - s0) + 44), .long l4], w)) rfl).trans ?_
  refine (val_g (c2 := (113, d + 2, 137, [some (.long l0), none, some (.long l2), none, some (.long l4), none, some (.long l6), none, some (.long l8), none, some (.int l10), some (.int s0), some (.int ((((fn_105 l0) - l10) + (fn_105 l2)) - s0))], [.long l6, .int (((((fn_105 l0) - l10) + (fn_105 l2)) - s0) + 44), .long l4], w)) rfl).trans ?_
  refine (val_g (c2 := (113, d + 2, 139, [some (.long l0), none, some (.long l2), none, some (.long l4), none, some (.long l6), none, some (.long l8), none, some (.int l10), some (.int s0), some (.int ((((fn_105 l0) - l10) + (fn_105 l2)) - s0))], [.int l10, .long l6, .int (((((fn_105 l0) - l10) + (fn_105 l2)) - s0) + 44), .long l4], w)) rfl).trans ?_
  refine (val_g (c2 := (113, d + 2, 140, [some (.long l0), none, some (.long l2), none, some (.long l4), none, some (.long l6), none, some (.long l8), none, some (.int l10), some (.int s0), some (.int ((((fn_105 l0) - l10) + (fn_105 l2)) - s0))], [.long (shlL l6 l10), .int (((((fn_105 l0) - l10) + (fn_105 l2)) - s0) + 44), .long l4], w)) rfl).trans ?_
  refine (val_g (c2 := (113, d + 2, 142, [some (.long l0), none, some (.long l2), none, some (.long l4), none, some (.long l6), none, some (.long l8), none, some (.int l10), some (.int s0), some (.int ((((fn_105 l0) - l10) + (fn_105 l2)) - s0))], [.long l8, .long (shlL l6 l10), .int (((((fn_105 l0) - l10) + (fn_105 l2)) - s0) + 44), .long l4], w)) rfl).trans ?_
  refine (val_g (c2 := (113, d + 2, 144, [some (.long l0), none, some (.long l2), none, some (.long l4), none, some (.long l6), none, some (.long l8), none, some (.int l10), some (.int s0), some (.int ((((fn_105 l0) - l10) + (fn_105 l2)) - s0))], [.int s0, .long l8, .long (shlL l6 l10), .int (((((fn_105 l0) - l10) + (fn_105 l2)) - s0) + 44), .long l4], w)) rfl).trans ?_
  refine (val_g (c2 := (113, d + 2, 145, [some (.long l0), none, some (.long l2), none, some (.long l4), none, some (.long l6), none, some (.long l8), none, some (.int l10), some (.int s0), some (.int ((((fn_105 l0) - l10) + (fn_105 l2)) - s0))], [.long (shlL l8 s0), .long (shlL l6 l10), .int (((((fn_105 l0) - l10) + (fn_105 l2)) - s0) + 44), .long l4], w)) rfl).trans ?_
  refine (val_call (w1 := w) (pc2 := 148) rfl rfl rfl rfl rfl (Nat.le_of_ble_eq_true rfl) (Nat.le_of_ble_eq_true rfl) rfl (ev_114 (d + 1) w ((shlL l6 l10)) ((shlL l8 s0))) rfl).trans ?_
  show val (113, d + 2, 148, [some (.long l0), none, some (.long l2), none, some (.long l4), none, some (.long l6), none, some (.long l8), none, some (.int l10), some (.int s0), some (.int ((((fn_105 l0) - l10) + (fn_105 l2)) - s0))], [.long (fn_114 ((shlL l6 l10)) ((shlL l8 s0))), .int (((((fn_105 l0) - l10) + (fn_105 l2)) - s0) + 44), .long l4], w) = _
  rfl
theorem tr_113_151 (d : Nat) (w : Wd) (l0 : Int64) (l2 : Int64) (l4 : Int64) (l6 : Int64) (l8 : Int64) (l10 : Int32) (l11 : Int32) (l12 : Int32) (s0 : Int64)     : val (113, d + 2, 151, [some (.long l0), none, some (.long l2), none, some (.long l4), none, some (.long l6), none, some (.long l8), none, some (.int l10), some (.int l11), some (.int l12)], [.long s0], w) = some (some (.long s0), w) := by
  exact val_r rfl
/-- BelfryHouse$Reals.divide(JJ)J -/
theorem tr_115 (d : Nat) (w : Wd) (x0 : Int64) (x1 : Int64)     : val (115, d + 2, 0, [some (.long x0), none, some (.long x1), none, none, none, none, none, none, none, none, none, none], [], w) = (if ¬ (fn_97 x0) = 0 then some (some (.long 9221120237041090560), w) else (if (fn_97 x1) = 0 then (if (fn_98 x0) = 0 then (if (fn_98 x1) = 0 then (if (fn_99 x1) = 0 then (if (fn_99 x0) = 0 then val (115, d + 2, 115, [some (.long x0), none, some (.long x1), none, some (.long ((x0 ^^^ x1) &&& (-9223372036854775808))), none, some (.long (fn_104 x0)), none, some (.long (fn_104 x1)), none, none, none, none], [.long (fn_104 x0)], w) else some (some (.long ((x0 ^^^ x1) &&& (-9223372036854775808))), w)) else (if (fn_99 x0) = 0 then some (some (.long (((x0 ^^^ x1) &&& (-9223372036854775808)) ||| 9218868437227405312)), w) else some (some (.long 9221120237041090560), w))) else some (some (.long ((x0 ^^^ x1) &&& (-9223372036854775808))), w)) else (if (fn_98 x1) = 0 then some (some (.long (((x0 ^^^ x1) &&& (-9223372036854775808)) ||| 9218868437227405312)), w) else some (some (.long 9221120237041090560), w))) else some (some (.long 9221120237041090560), w))) := by
  refine (val_g (c2 := (115, d + 2, 1, [some (.long x0), none, some (.long x1), none, none, none, none, none, none, none, none, none, none], [.long x0], w)) rfl).trans ?_
  refine (val_g (c2 := (115, d + 2, 2, [some (.long x0), none, some (.long x1), none, none, none, none, none, none, none, none, none, none], [.long x1, .long x0], w)) rfl).trans ?_
  refine (val_g (c2 := (115, d + 2, 3, [some (.long x0), none, some (.long x1), none, none, none, none, none, none, none, none, none, none], [.long (x0 ^^^ x1)], w)) rfl).trans ?_
  refine (val_g (c2 := (115, d + 2, 6, [some (.long x0), none, some (.long x1), none, none, none, none, none, none, none, none, none, none], [.long (-9223372036854775808), .long (x0 ^^^ x1)], w)) rfl).trans ?_
  refine (val_g (c2 := (115, d + 2, 7, [some (.long x0), none, some (.long x1), none, none, none, none, none, none, none, none, none, none], [.long ((x0 ^^^ x1) &&& (-9223372036854775808))], w)) rfl).trans ?_
  refine (val_g (c2 := (115, d + 2, 9, [some (.long x0), none, some (.long x1), none, some (.long ((x0 ^^^ x1) &&& (-9223372036854775808))), none, none, none, none, none, none, none, none], [], w)) rfl).trans ?_
  refine (val_g (c2 := (115, d + 2, 10, [some (.long x0), none, some (.long x1), none, some (.long ((x0 ^^^ x1) &&& (-9223372036854775808))), none, none, none, none, none, none, none, none], [.long x0], w)) rfl).trans ?_
  refine (val_call (w1 := w) (pc2 := 13) rfl rfl rfl rfl rfl (Nat.le_of_ble_eq_true rfl) (Nat.le_of_ble_eq_true rfl) rfl (ev_97 (d) w x0) rfl).trans ?_
  show val (115, d + 2, 13, [some (.long x0), none, some (.long x1), none, some (.long ((x0 ^^^ x1) &&& (-9223372036854775808))), none, none, none, none, none, none, none, none], [.int (fn_97 x0)], w) = _
  by_cases hc653 : ¬ (fn_97 x0) = 0
  · refine ((val_if_ne rfl).trans (if_pos hc653)).trans ?_
    show val (115, d + 2, 23, [some (.long x0), none, some (.long x1), none, some (.long ((x0 ^^^ x1) &&& (-9223372036854775808))), none, none, none, none, none, none, none, none], [], w) = _
    refine Eq.trans ?_ (if_pos hc653).symm
    refine (val_g (c2 := (115, d + 2, 26, [some (.long x0), none, some (.long x1), none, some (.long ((x0 ^^^ x1) &&& (-9223372036854775808))), none, none, none, none, none, none, none, none], [.long 9221120237041090560], w)) rfl).trans ?_
    exact val_r rfl
  · refine ((val_if_ne rfl).trans (if_neg hc653)).trans ?_
    show val (115, d + 2, 16, [some (.long x0), none, some (.long x1), none, some (.long ((x0 ^^^ x1) &&& (-9223372036854775808))), none, none, none, none, none, none, none, none], [], w) = _
    refine Eq.trans ?_ (if_neg hc653).symm
    refine (val_g (c2 := (115, d + 2, 17, [some (.long x0), none, some (.long x1), none, some (.long ((x0 ^^^ x1) &&& (-9223372036854775808))), none, none, none, none, none, none, none, none], [.long x1], w)) rfl).trans ?_
    refine (val_call (w1 := w) (pc2 := 20) rfl rfl rfl rfl rfl (Nat.le_of_ble_eq_true rfl) (Nat.le_of_ble_eq_true rfl) rfl (ev_97 (d) w x1) rfl).trans ?_
    show val (115, d + 2, 20, [some (.long x0), none, some (.long x1), none, some (.long ((x0 ^^^ x1) &&& (-9223372036854775808))), none, none, none, none, none, none, none, none], [.int (fn_97 x1)], w) = _
    by_cases hc654 : (fn_97 x1) = 0
    · refine ((val_if_eq rfl).trans (if_pos hc654)).trans ?_
      show val (115, d + 2, 27, [some (.long x0), none, some (.long x1), none, some (.long ((x0 ^^^ x1) &&& (-9223372036854775808))), none, none, none, none, none, none, none, none], [], w) = _
      refine Eq.trans ?_ (if_pos hc654).symm
      refine (val_g (c2 := (115, d + 2, 28, [some (.long x0), none, some (.long x1), none, some (.long ((x0 ^^^ x1) &&& (-9223372036854775808))), none, none, none, none, none, none, none, none], [.long x0], w)) rfl).trans ?_
      refine (val_call (w1 := w) (pc2 := 31) rfl rfl rfl rfl rfl (Nat.le_of_ble_eq_true rfl) (Nat.le_of_ble_eq_true rfl) rfl (ev_98 (d) w x0) rfl).trans ?_
      show val (115, d + 2, 31, [some (.long x0), none, some (.long x1), none, some (.long ((x0 ^^^ x1) &&& (-9223372036854775808))), none, none, none, none, none, none, none, none], [.int (fn_98 x0)], w) = _
      by_cases hc655 : (fn_98 x0) = 0
      · refine ((val_if_eq rfl).trans (if_pos hc655)).trans ?_
        show val (115, d + 2, 54, [some (.long x0), none, some (.long x1), none, some (.long ((x0 ^^^ x1) &&& (-9223372036854775808))), none, none, none, none, none, none, none, none], [], w) = _
        refine Eq.trans ?_ (if_pos hc655).symm
        refine (val_g (c2 := (115, d + 2, 55, [some (.long x0), none, some (.long x1), none, some (.long ((x0 ^^^ x1) &&& (-9223372036854775808))), none, none, none, none, none, none, none, none], [.long x1], w)) rfl).trans ?_
        refine (val_call (w1 := w) (pc2 := 58) rfl rfl rfl rfl rfl (Nat.le_of_ble_eq_true rfl) (Nat.le_of_ble_eq_true rfl) rfl (ev_98 (d) w x1) rfl).trans ?_
        show val (115, d + 2, 58, [some (.long x0), none, some (.long x1), none, some (.long ((x0 ^^^ x1) &&& (-9223372036854775808))), none, none, none, none, none, none, none, none], [.int (fn_98 x1)], w) = _
        by_cases hc656 : (fn_98 x1) = 0
        · refine ((val_if_eq rfl).trans (if_pos hc656)).trans ?_
          show val (115, d + 2, 64, [some (.long x0), none, some (.long x1), none, some (.long ((x0 ^^^ x1) &&& (-9223372036854775808))), none, none, none, none, none, none, none, none], [], w) = _
          refine Eq.trans ?_ (if_pos hc656).symm
          refine (val_g (c2 := (115, d + 2, 65, [some (.long x0), none, some (.long x1), none, some (.long ((x0 ^^^ x1) &&& (-9223372036854775808))), none, none, none, none, none, none, none, none], [.long x1], w)) rfl).trans ?_
          refine (val_call (w1 := w) (pc2 := 68) rfl rfl rfl rfl rfl (Nat.le_of_ble_eq_true rfl) (Nat.le_of_ble_eq_true rfl) rfl (ev_99 (d) w x1) rfl).trans ?_
          show val (115, d + 2, 68, [some (.long x0), none, some (.long x1), none, some (.long ((x0 ^^^ x1) &&& (-9223372036854775808))), none, none, none, none, none, none, none, none], [.int (fn_99 x1)], w) = _
          by_cases hc657 : (fn_99 x1) = 0
          · refine ((val_if_eq rfl).trans (if_pos hc657)).trans ?_
            show val (115, d + 2, 91, [some (.long x0), none, some (.long x1), none, some (.long ((x0 ^^^ x1) &&& (-9223372036854775808))), none, none, none, none, none, none, none, none], [], w) = _
            refine Eq.trans ?_ (if_pos hc657).symm
            refine (val_g (c2 := (115, d + 2, 92, [some (.long x0), none, some (.long x1), none, some (.long ((x0 ^^^ x1) &&& (-9223372036854775808))), none, none, none, none, none, none, none, none], [.long x0], w)) rfl).trans ?_
            refine (val_call (w1 := w) (pc2 := 95) rfl rfl rfl rfl rfl (Nat.le_of_ble_eq_true rfl) (Nat.le_of_ble_eq_true rfl) rfl (ev_99 (d) w x0) rfl).trans ?_
            show val (115, d + 2, 95, [some (.long x0), none, some (.long x1), none, some (.long ((x0 ^^^ x1) &&& (-9223372036854775808))), none, none, none, none, none, none, none, none], [.int (fn_99 x0)], w) = _
            by_cases hc658 : (fn_99 x0) = 0
            · refine ((val_if_eq rfl).trans (if_pos hc658)).trans ?_
              show val (115, d + 2, 101, [some (.long x0), none, some (.long x1), none, some (.long ((x0 ^^^ x1) &&& (-9223372036854775808))), none, none, none, none, none, none, none, none], [], w) = _
              refine Eq.trans ?_ (if_pos hc658).symm
              refine (val_g (c2 := (115, d + 2, 102, [some (.long x0), none, some (.long x1), none, some (.long ((x0 ^^^ x1) &&& (-9223372036854775808))), none, none, none, none, none, none, none, none], [.long x0], w)) rfl).trans ?_
              refine (val_call (w1 := w) (pc2 := 105) rfl rfl rfl rfl rfl (Nat.le_of_ble_eq_true rfl) (Nat.le_of_ble_eq_true rfl) rfl (ev_104 (d) w x0) rfl).trans ?_
              show val (115, d + 2, 105, [some (.long x0), none, some (.long x1), none, some (.long ((x0 ^^^ x1) &&& (-9223372036854775808))), none, none, none, none, none, none, none, none], [.long (fn_104 x0)], w) = _
              refine (val_g (c2 := (115, d + 2, 107, [some (.long x0), none, some (.long x1), none, some (.long ((x0 ^^^ x1) &&& (-9223372036854775808))), none, some (.long (fn_104 x0)), none, none, none, none, none, none], [], w)) rfl).trans ?_
              refine (val_g (c2 := (115, d + 2, 108, [some (.long x0), none, some (.long x1), none, some (.long ((x0 ^^^ x1) &&& (-9223372036854775808))), none, some (.long (fn_104 x0)), none, none, none, none, none, none], [.long x1], w)) rfl).trans ?_
              refine (val_call (w1 := w) (pc2 := 111) rfl rfl rfl rfl rfl (Nat.le_of_ble_eq_true rfl) (Nat.le_of_ble_eq_true rfl) rfl (ev_104 (d) w x1) rfl).trans ?_
              show val (115, d + 2, 111, [some (.long x0), none, some (.long x1), none, some (.long ((x0 ^^^ x1) &&& (-9223372036854775808))), none, some (.long (fn_104 x0)), none, none, none, none, none, none], [.long (fn_104 x1)], w) = _
              refine (val_g (c2 := (115, d + 2, 113, [some (.long x0), none, some (.long x1), none, some (.long ((x0 ^^^ x1) &&& (-9223372036854775808))), none, some (.long (fn_104 x0)), none, some (.long (fn_104 x1)), none, none, none, none], [], w)) rfl).trans ?_
              refine (val_g (c2 := (115, d + 2, 115, [some (.long x0), none, some (.long x1), none, some (.long ((x0 ^^^ x1) &&& (-9223372036854775808))), none, some (.long (fn_104 x0)), none, some (.long (fn_104 x1)), none, none, none, none], [.long (fn_104 x0)], w)) rfl).trans ?_
              rfl
            · refine ((val_if_eq rfl).trans (if_neg hc658)).trans ?_
              show val (115, d + 2, 98, [some (.long x0), none, some (.long x1), none, some (.long ((x0 ^^^ x1) &&& (-9223372036854775808))), none, none, none, none, none, none, none, none], [], w) = _
              refine Eq.trans ?_ (if_neg hc658).symm
              refine (val_g (c2 := (115, d + 2, 100, [some (.long x0), none, some (.long x1), none, some (.long ((x0 ^^^ x1) &&& (-9223372036854775808))), none, none, none, none, none, none, none, none], [.long ((x0 ^^^ x1) &&& (-9223372036854775808))], w)) rfl).trans ?_
              exact val_r rfl
          · refine ((val_if_eq rfl).trans (if_neg hc657)).trans ?_
            show val (115, d + 2, 71, [some (.long x0), none, some (.long x1), none, some (.long ((x0 ^^^ x1) &&& (-9223372036854775808))), none, none, none, none, none, none, none, none], [], w) = _
            refine Eq.trans ?_ (if_neg hc657).symm
            refine (val_g (c2 := (115, d + 2, 72, [some (.long x0), none, some (.long x1), none, some (.long ((x0 ^^^ x1) &&& (-9223372036854775808))), none, none, none, none, none, none, none, none], [.long x0], w)) rfl).trans ?_
            refine (val_call (w1 := w) (pc2 := 75) rfl rfl rfl rfl rfl (Nat.le_of_ble_eq_true rfl) (Nat.le_of_ble_eq_true rfl) rfl (ev_99 (d) w x0) rfl).trans ?_
            show val (115, d + 2, 75, [some (.long x0), none, some (.long x1), none, some (.long ((x0 ^^^ x1) &&& (-9223372036854775808))), none, none, none, none, none, none, none, none], [.int (fn_99 x0)], w) = _
            by_cases hc659 : (fn_99 x0) = 0
            · refine ((val_if_eq rfl).trans (if_pos hc659)).trans ?_
              show val (115, d + 2, 84, [some (.long x0), none, some (.long x1), none, some (.long ((x0 ^^^ x1) &&& (-9223372036854775808))), none, none, none, none, none, none, none, none], [], w) = _
              refine Eq.trans ?_ (if_pos hc659).symm
              refine (val_g (c2 := (115, d + 2, 86, [some (.long x0), none, some (.long x1), none, some (.long ((x0 ^^^ x1) &&& (-9223372036854775808))), none, none, none, none, none, none, none, none], [.long ((x0 ^^^ x1) &&& (-9223372036854775808))], w)) rfl).trans ?_
              refine (val_g (c2 := (115, d + 2, 89, [some (.long x0), none, some (.long x1), none, some (.long ((x0 ^^^ x1) &&& (-9223372036854775808))), none, none, none, none, none, none, none, none], [.long 9218868437227405312, .long ((x0 ^^^ x1) &&& (-9223372036854775808))], w)) rfl).trans ?_
              refine (val_g (c2 := (115, d + 2, 90, [some (.long x0), none, some (.long x1), none, some (.long ((x0 ^^^ x1) &&& (-9223372036854775808))), none, none, none, none, none, none, none, none], [.long (((x0 ^^^ x1) &&& (-9223372036854775808)) ||| 9218868437227405312)], w)) rfl).trans ?_
              exact val_r rfl
            · refine ((val_if_eq rfl).trans (if_neg hc659)).trans ?_
              show val (115, d + 2, 78, [some (.long x0), none, some (.long x1), none, some (.long ((x0 ^^^ x1) &&& (-9223372036854775808))), none, none, none, none, none, none, none, none], [], w) = _
              refine Eq.trans ?_ (if_neg hc659).symm
              refine (val_g (c2 := (115, d + 2, 81, [some (.long x0), none, some (.long x1), none, some (.long ((x0 ^^^ x1) &&& (-9223372036854775808))), none, none, none, none, none, none, none, none], [.long 9221120237041090560], w)) rfl).trans ?_
              refine (val_g (c2 := (115, d + 2, 90, [some (.long x0), none, some (.long x1), none, some (.long ((x0 ^^^ x1) &&& (-9223372036854775808))), none, none, none, none, none, none, none, none], [.long 9221120237041090560], w)) rfl).trans ?_
              exact val_r rfl
        · refine ((val_if_eq rfl).trans (if_neg hc656)).trans ?_
          show val (115, d + 2, 61, [some (.long x0), none, some (.long x1), none, some (.long ((x0 ^^^ x1) &&& (-9223372036854775808))), none, none, none, none, none, none, none, none], [], w) = _
          refine Eq.trans ?_ (if_neg hc656).symm
          refine (val_g (c2 := (115, d + 2, 63, [some (.long x0), none, some (.long x1), none, some (.long ((x0 ^^^ x1) &&& (-9223372036854775808))), none, none, none, none, none, none, none, none], [.long ((x0 ^^^ x1) &&& (-9223372036854775808))], w)) rfl).trans ?_
          exact val_r rfl
      · refine ((val_if_eq rfl).trans (if_neg hc655)).trans ?_
        show val (115, d + 2, 34, [some (.long x0), none, some (.long x1), none, some (.long ((x0 ^^^ x1) &&& (-9223372036854775808))), none, none, none, none, none, none, none, none], [], w) = _
        refine Eq.trans ?_ (if_neg hc655).symm
        refine (val_g (c2 := (115, d + 2, 35, [some (.long x0), none, some (.long x1), none, some (.long ((x0 ^^^ x1) &&& (-9223372036854775808))), none, none, none, none, none, none, none, none], [.long x1], w)) rfl).trans ?_
        refine (val_call (w1 := w) (pc2 := 38) rfl rfl rfl rfl rfl (Nat.le_of_ble_eq_true rfl) (Nat.le_of_ble_eq_true rfl) rfl (ev_98 (d) w x1) rfl).trans ?_
        show val (115, d + 2, 38, [some (.long x0), none, some (.long x1), none, some (.long ((x0 ^^^ x1) &&& (-9223372036854775808))), none, none, none, none, none, none, none, none], [.int (fn_98 x1)], w) = _
        by_cases hc660 : (fn_98 x1) = 0
        · refine ((val_if_eq rfl).trans (if_pos hc660)).trans ?_
          show val (115, d + 2, 47, [some (.long x0), none, some (.long x1), none, some (.long ((x0 ^^^ x1) &&& (-9223372036854775808))), none, none, none, none, none, none, none, none], [], w) = _
          refine Eq.trans ?_ (if_pos hc660).symm
          refine (val_g (c2 := (115, d + 2, 49, [some (.long x0), none, some (.long x1), none, some (.long ((x0 ^^^ x1) &&& (-9223372036854775808))), none, none, none, none, none, none, none, none], [.long ((x0 ^^^ x1) &&& (-9223372036854775808))], w)) rfl).trans ?_
          refine (val_g (c2 := (115, d + 2, 52, [some (.long x0), none, some (.long x1), none, some (.long ((x0 ^^^ x1) &&& (-9223372036854775808))), none, none, none, none, none, none, none, none], [.long 9218868437227405312, .long ((x0 ^^^ x1) &&& (-9223372036854775808))], w)) rfl).trans ?_
          refine (val_g (c2 := (115, d + 2, 53, [some (.long x0), none, some (.long x1), none, some (.long ((x0 ^^^ x1) &&& (-9223372036854775808))), none, none, none, none, none, none, none, none], [.long (((x0 ^^^ x1) &&& (-9223372036854775808)) ||| 9218868437227405312)], w)) rfl).trans ?_
          exact val_r rfl
        · refine ((val_if_eq rfl).trans (if_neg hc660)).trans ?_
          show val (115, d + 2, 41, [some (.long x0), none, some (.long x1), none, some (.long ((x0 ^^^ x1) &&& (-9223372036854775808))), none, none, none, none, none, none, none, none], [], w) = _
          refine Eq.trans ?_ (if_neg hc660).symm
          refine (val_g (c2 := (115, d + 2, 44, [some (.long x0), none, some (.long x1), none, some (.long ((x0 ^^^ x1) &&& (-9223372036854775808))), none, none, none, none, none, none, none, none], [.long 9221120237041090560], w)) rfl).trans ?_
          refine (val_g (c2 := (115, d + 2, 53, [some (.long x0), none, some (.long x1), none, some (.long ((x0 ^^^ x1) &&& (-9223372036854775808))), none, none, none, none, none, none, none, none], [.long 9221120237041090560], w)) rfl).trans ?_
          exact val_r rfl
    · refine ((val_if_eq rfl).trans (if_neg hc654)).trans ?_
      show val (115, d + 2, 23, [some (.long x0), none, some (.long x1), none, some (.long ((x0 ^^^ x1) &&& (-9223372036854775808))), none, none, none, none, none, none, none, none], [], w) = _
      refine Eq.trans ?_ (if_neg hc654).symm
      refine (val_g (c2 := (115, d + 2, 26, [some (.long x0), none, some (.long x1), none, some (.long ((x0 ^^^ x1) &&& (-9223372036854775808))), none, none, none, none, none, none, none, none], [.long 9221120237041090560], w)) rfl).trans ?_
      exact val_r rfl
theorem tr_115_118 (d : Nat) (w : Wd) (l0 : Int64) (l2 : Int64) (l4 : Int64) (l6 : Int64) (l8 : Int64) (s0 : Int32)     : val (115, d + 2, 118, [some (.long l0), none, some (.long l2), none, some (.long l4), none, some (.long l6), none, some (.long l8), none, none, none, none], [.int s0], w) = val (115, d + 2, 122, [some (.long l0), none, some (.long l2), none, some (.long l4), none, some (.long l6), none, some (.long l8), none, some (.int s0), none, none], [.long l8], w) := by
  refine (val_g (c2 := (115, d + 2, 120, [some (.long l0), none, some (.long l2), none, some (.long l4), none, some (.long l6), none, some (.long l8), none, some (.int s0), none, none], [], w)) rfl).trans ?_
  refine (val_g (c2 := (115, d + 2, 122, [some (.long l0), none, some (.long l2), none, some (.long l4), none, some (.long l6), none, some (.long l8), none, some (.int s0), none, none], [.long l8], w)) rfl).trans ?_
  rfl
theorem tr_115_125 (d : Nat) (w : Wd) (l0 : Int64) (l2 : Int64) (l4 : Int64) (l6 : Int64) (l8 : Int64) (l10 : Int32) (s0 : Int32)     : val (115, d + 2, 125, [some (.long l0), none, some (.long l2), none, some (.long l4), none, some (.long l6), none, some (.long l8), none, some (.int l10), none, none], [.int s0], w) = val (115, d + 2, 161, [some (.long l0), none, some (.long l2), none, some (.long l4), none, some (.long l6), none, some (.long l8), none, some (.int l10), some (.int s0), some (.int ((((fn_105 l0) - l10) - (fn_105 l2)) + s0))], [.long (shlL l8 s0), .long (shlL l6 l10), .int (((((fn_105 l0) - l10) - (fn_105 l2)) + s0) - 60), .long l4], w) := by
  refine (val_g (c2 := (115, d + 2, 127, [some (.long l0), none, some (.long l2), none, some (.long l4), none, some (.long l6), none, some (.long l8), none, some (.int l10), some (.int s0), none], [], w)) rfl).trans ?_
  refine (val_g (c2 := (115, d + 2, 128, [some (.long l0), none, some (.long l2), none, some (.long l4), none, some (.long l6), none, some (.long l8), none, some (.int l10), some (.int s0), none], [.long l0], w)) rfl).trans ?_
  refine (val_call (w1 := w) (pc2 := 131) rfl rfl rfl rfl rfl (Nat.le_of_ble_eq_true rfl) (Nat.le_of_ble_eq_true rfl) rfl (ev_105 (d) w l0) rfl).trans ?_
  show val (115, d + 2, 131, [some (.long l0), none, some (.long l2), none, some (.long l4), none, some (.long l6), none, some (.long l8), none, some (.int l10), some (.int s0), none], [.int (fn_105 l0)], w) = _
  refine (val_g (c2 := (115, d + 2, 133, [some (.long l0), none, some (.long l2), none, some (.long l4), none, some (.long l6), none, some (.long l8), none, some (.int l10), some (.int s0), none], [.int l10, .int (fn_105 l0)], w)) rfl).trans ?_
  refine (val_g (c2 := (115, d + 2, 134, [some (.long l0), none, some (.long l2), none, some (.long l4), none, some (.long l6), none, some (.long l8), none, some (.int l10), some (.int s0), none], [.int ((fn_105 l0) - l10)], w)) rfl).trans ?_
  refine (val_g (c2 := (115, d + 2, 135, [some (.long l0), none, some (.long l2), none, some (.long l4), none, some (.long l6), none, some (.long l8), none, some (.int l10), some (.int s0), none], [.long l2, .int ((fn_105 l0) - l10)], w)) rfl).trans ?_
  refine (val_call (w1 := w) (pc2 := 138) rfl rfl rfl rfl rfl (Nat.le_of_ble_eq_true rfl) (Nat.le_of_ble_eq_true rfl) rfl (ev_105 (d) w l2) rfl).trans ?_
  show val (115, d + 2, 138, [some (.long l0), none, some (.long l2), none, some (.long l4), none, some (.long l6), none, some (.long l8), none, some (.int l10), some (.int s0), none], [.int (fn_105 l2), .int ((fn_105 l0) - l10)], w) = _
  refine (val_g (c2 := (115, d + 2, 139, [some (.long l0), none, some (.long l2), none, some (.long l4), none, some (.long l6), none, some (.long l8), none, some (.int l10), some (.int s0), none], [.int (((fn_105 l0) - l10) - (fn_105 l2))], w)) rfl).trans ?_
  refine (val_g (c2 := (115, d + 2, 141, [some (.long l0), none, some (.long l2), none, some (.long l4), none, some (.long l6), none, some (.long l8), none, some (.int l10), some (.int s0), none], [.int s0, .int (((fn_105 l0) - l10) - (fn_105 l2))], w)) rfl).trans ?_
  refine (val_g (c2 := (115, d + 2, 142, [some (.long l0), none, some (.long l2), none, some (.long l4), none, some (.long l6), none, some (.long l8), none, some (.int l10), some (.int s0), none], [.int ((((fn_105 l0) - l10) - (fn_105 l2)) + s0)], w)) rfl).trans ?_
  refine (val_g (c2 := (115, d + 2, 144, [some (.long l0), none, some (.long l2), none, some (.long l4), none, some (.long l6), none, some (.long l8), none, some (.int l10), some (.int s0), some (.int ((((fn_105 l0) - l10) - (fn_105 l2)) + s0))], [], w)) rfl).trans ?_
  refine (val_g (c2 := (115, d + 2, 146, [some (.long l0), none, some (.long l2), none, some (.long l4), none, some (.long l6), none, some (.long l8), none, some (.int l10), some (.int s0), some (.int ((((fn_105 l0) - l10) - (fn_105 l2)) + s0))], [.long l4], w)) rfl).trans ?_
  refine (val_g (c2 := (115, d + 2, 148, [some (.long l0), none, some (.long l2), none, some (.long l4), none, some (.long l6), none, some (.long l8), none, some (.int l10), some (.int s0), some (.int ((((fn_105 l0) - l10) - (fn_105 l2)) + s0))], [.int ((((fn_105 l0) - l10) - (fn_105 l2)) + s0), .long l4], w)) rfl).trans ?_
  refine (val_g (c2 := (115, d + 2, 150, [some (.long l0), none, some (.long l2), none, some (.long l4), none, some (.long l6), none, some (.long l8), none, some (.int l10), some (.int s0), some (.int ((((fn_105 l0) - l10) - (fn_105 l2)) + s0))], [.int 60, .int ((((fn_105 l0) - l10) - (fn_105 l2)) + s0), .long l4], w)) rfl).trans ?_
  refine (val_g (c2 := (115, d + 2, 151, [some (.long l0), none, some (.long l2), none, some (.long l4), none, some (.long l6), none, some (.long l8), none, some (.int l10), some (.int s0), some (.int ((((fn_105 l0) - l10) - (fn_105 l2)) + s0))], [.int (((((fn_105 l0) - l10) - (fn_105 l2)) + s0) - 60), .long l4], w)) rfl).trans ?_
  refine (val_g (c2 := (115, d + 2, 153, [some (.long l0), none, some (.long l2), none, some (.long l4), none, some (.long l6), none, some (.long l8), none, some (.int l10), some (.int s0), some (.int ((((fn_105 l0) - l10) - (fn_105 l2)) + s0))], [.long l6, .int (((((fn_105 l0) - l10) - (fn_105 l2)) + s0) - 60), .long l4], w)) rfl).trans ?_
  refine (val_g (c2 := (115, d + 2, 155, [some (.long l0), none, some (.long l2), none, some (.long l4), none, some (.long l6), none, some (.long l8), none, some (.int l10), some (.int s0), some (.int ((((fn_105 l0) - l10) - (fn_105 l2)) + s0))], [.int l10, .long l6, .int (((((fn_105 l0) - l10) - (fn_105 l2)) + s0) - 60), .long l4], w)) rfl).trans ?_
  refine (val_g (c2 := (115, d + 2, 156, [some (.long l0), none, some (.long l2), none, some (.long l4), none, some (.long l6), none, some (.long l8), none, some (.int l10), some (.int s0), some (.int ((((fn_105 l0) - l10) - (fn_105 l2)) + s0))], [.long (shlL l6 l10), .int (((((fn_105 l0) - l10) - (fn_105 l2)) + s0) - 60), .long l4], w)) rfl).trans ?_
  refine (val_g (c2 := (115, d + 2, 158, [some (.long l0), none, some (.long l2), none, some (.long l4), none, some (.long l6), none, some (.long l8), none, some (.int l10), some (.int s0), some (.int ((((fn_105 l0) - l10) - (fn_105 l2)) + s0))], [.long l8, .long (shlL l6 l10), .int (((((fn_105 l0) - l10) - (fn_105 l2)) + s0) - 60), .long l4], w)) rfl).trans ?_
  refine (val_g (c2 := (115, d + 2, 160, [some (.long l0), none, some (.long l2), none, some (.long l4), none, some (.long l6), none, some (.long l8), none, some (.int l10), some (.int s0), some (.int ((((fn_105 l0) - l10) - (fn_105 l2)) + s0))], [.int s0, .long l8, .long (shlL l6 l10), .int (((((fn_105 l0) - l10) - (fn_105 l2)) + s0) - 60), .long l4], w)) rfl).trans ?_
  refine (val_g (c2 := (115, d + 2, 161, [some (.long l0), none, some (.long l2), none, some (.long l4), none, some (.long l6), none, some (.long l8), none, some (.int l10), some (.int s0), some (.int ((((fn_105 l0) - l10) - (fn_105 l2)) + s0))], [.long (shlL l8 s0), .long (shlL l6 l10), .int (((((fn_105 l0) - l10) - (fn_105 l2)) + s0) - 60), .long l4], w)) rfl).trans ?_
  rfl
theorem tr_115_167 (d : Nat) (w : Wd) (l0 : Int64) (l2 : Int64) (l4 : Int64) (l6 : Int64) (l8 : Int64) (l10 : Int32) (l11 : Int32) (l12 : Int32) (s0 : Int64)     : val (115, d + 2, 167, [some (.long l0), none, some (.long l2), none, some (.long l4), none, some (.long l6), none, some (.long l8), none, some (.int l10), some (.int l11), some (.int l12)], [.long s0], w) = some (some (.long s0), w) := by
  exact val_r rfl
/-- BelfryHouse$Reals.quotient(JJ)J -/
theorem tr_116 (d : Nat) (w : Wd) (x0 : Int64) (x1 : Int64)    (hy1 : (0 < (cmpL x1 0)) → ¬ x1 = 0) : val (116, d, 0, [some (.long x0), none, some (.long x1), none, none, none, none, none, none], [], w) = (if 0 < (cmpL x1 0) then val (116, d, 21, [some (.long x0), none, some (.long x1), none, some (.long (x0 / x1)), none, some (.long (x0 - x0 / x1 * x1)), none, some (.int 0)], [], w) else some (some (.long 1), w)) := by
  refine (val_g (c2 := (116, d, 1, [some (.long x0), none, some (.long x1), none, none, none, none, none, none], [.long x1], w)) rfl).trans ?_
  refine (val_g (c2 := (116, d, 2, [some (.long x0), none, some (.long x1), none, none, none, none, none, none], [.long 0, .long x1], w)) rfl).trans ?_
  refine (val_g (c2 := (116, d, 3, [some (.long x0), none, some (.long x1), none, none, none, none, none, none], [.int (cmpL x1 0)], w)) rfl).trans ?_
  by_cases hc664 : 0 < (cmpL x1 0)
  · refine ((val_if_gt rfl).trans (if_pos hc664)).trans ?_
    show val (116, d, 8, [some (.long x0), none, some (.long x1), none, none, none, none, none, none], [], w) = _
    refine Eq.trans ?_ (if_pos hc664).symm
    refine (val_g (c2 := (116, d, 9, [some (.long x0), none, some (.long x1), none, none, none, none, none, none], [.long x0], w)) rfl).trans ?_
    refine (val_g (c2 := (116, d, 10, [some (.long x0), none, some (.long x1), none, none, none, none, none, none], [.long x1, .long x0], w)) rfl).trans ?_
    refine (val_ldiv rfl (hy1 hc664)).trans ?_
    show val (116, d, 11, [some (.long x0), none, some (.long x1), none, none, none, none, none, none], [.long (x0 / x1)], w) = _
    refine (val_g (c2 := (116, d, 13, [some (.long x0), none, some (.long x1), none, some (.long (x0 / x1)), none, none, none, none], [], w)) rfl).trans ?_
    refine (val_g (c2 := (116, d, 14, [some (.long x0), none, some (.long x1), none, some (.long (x0 / x1)), none, none, none, none], [.long x0], w)) rfl).trans ?_
    refine (val_g (c2 := (116, d, 15, [some (.long x0), none, some (.long x1), none, some (.long (x0 / x1)), none, none, none, none], [.long x1, .long x0], w)) rfl).trans ?_
    refine (val_lrem rfl (hy1 hc664)).trans ?_
    show val (116, d, 16, [some (.long x0), none, some (.long x1), none, some (.long (x0 / x1)), none, none, none, none], [.long (x0 - x0 / x1 * x1)], w) = _
    refine (val_g (c2 := (116, d, 18, [some (.long x0), none, some (.long x1), none, some (.long (x0 / x1)), none, some (.long (x0 - x0 / x1 * x1)), none, none], [], w)) rfl).trans ?_
    refine (val_g (c2 := (116, d, 19, [some (.long x0), none, some (.long x1), none, some (.long (x0 / x1)), none, some (.long (x0 - x0 / x1 * x1)), none, none], [.int 0], w)) rfl).trans ?_
    refine (val_g (c2 := (116, d, 21, [some (.long x0), none, some (.long x1), none, some (.long (x0 / x1)), none, some (.long (x0 - x0 / x1 * x1)), none, some (.int 0)], [], w)) rfl).trans ?_
    rfl
  · refine ((val_if_gt rfl).trans (if_neg hc664)).trans ?_
    show val (116, d, 6, [some (.long x0), none, some (.long x1), none, none, none, none, none, none], [], w) = _
    refine Eq.trans ?_ (if_neg hc664).symm
    refine (val_g (c2 := (116, d, 7, [some (.long x0), none, some (.long x1), none, none, none, none, none, none], [.long 1], w)) rfl).trans ?_
    exact val_r rfl
theorem tr_116_21 (d : Nat) (w : Wd) (l0 : Int64) (l2 : Int64) (l4 : Int64) (l6 : Int64) (l8 : Int32)    (hy1 : (¬ (6 ≤ l8)) → ¬ l2 = 0) : val (116, d, 21, [some (.long l0), none, some (.long l2), none, some (.long l4), none, some (.long l6), none, some (.int l8)], [], w) = (if 6 ≤ l8 then (if ¬ (cmpL l6 0) = 0 then some (some (.long (l4 ||| (Int32.toInt64 1))), w) else some (some (.long (l4 ||| (Int32.toInt64 0))), w)) else val (116, d, 21, [some (.long l0), none, some (.long l2), none, some (.long ((shlL l4 10) ||| ((shlL l6 10) / l2))), none, some (.long ((shlL l6 10) - (shlL l6 10) / l2 * l2)), none, some (.int (l8 + 1))], [], w)) := by
  refine (val_g (c2 := (116, d, 23, [some (.long l0), none, some (.long l2), none, some (.long l4), none, some (.long l6), none, some (.int l8)], [.int l8], w)) rfl).trans ?_
  refine (val_g (c2 := (116, d, 25, [some (.long l0), none, some (.long l2), none, some (.long l4), none, some (.long l6), none, some (.int l8)], [.int 6, .int l8], w)) rfl).trans ?_
  by_cases hc665 : 6 ≤ l8
  · refine ((val_ic_ge rfl).trans (if_pos hc665)).trans ?_
    show val (116, d, 59, [some (.long l0), none, some (.long l2), none, some (.long l4), none, some (.long l6), none, some (.int l8)], [], w) = _
    refine Eq.trans ?_ (if_pos hc665).symm
    refine (val_g (c2 := (116, d, 61, [some (.long l0), none, some (.long l2), none, some (.long l4), none, some (.long l6), none, some (.int l8)], [.long l4], w)) rfl).trans ?_
    refine (val_g (c2 := (116, d, 63, [some (.long l0), none, some (.long l2), none, some (.long l4), none, some (.long l6), none, some (.int l8)], [.long l6, .long l4], w)) rfl).trans ?_
    refine (val_g (c2 := (116, d, 64, [some (.long l0), none, some (.long l2), none, some (.long l4), none, some (.long l6), none, some (.int l8)], [.long 0, .long l6, .long l4], w)) rfl).trans ?_
    refine (val_g (c2 := (116, d, 65, [some (.long l0), none, some (.long l2), none, some (.long l4), none, some (.long l6), none, some (.int l8)], [.int (cmpL l6 0), .long l4], w)) rfl).trans ?_
    by_cases hc666 : ¬ (cmpL l6 0) = 0
    · refine ((val_if_ne rfl).trans (if_pos hc666)).trans ?_
      show val (116, d, 72, [some (.long l0), none, some (.long l2), none, some (.long l4), none, some (.long l6), none, some (.int l8)], [.long l4], w) = _
      refine Eq.trans ?_ (if_pos hc666).symm
      refine (val_g (c2 := (116, d, 73, [some (.long l0), none, some (.long l2), none, some (.long l4), none, some (.long l6), none, some (.int l8)], [.int 1, .long l4], w)) rfl).trans ?_
      refine (val_g (c2 := (116, d, 74, [some (.long l0), none, some (.long l2), none, some (.long l4), none, some (.long l6), none, some (.int l8)], [.long (Int32.toInt64 1), .long l4], w)) rfl).trans ?_
      refine (val_g (c2 := (116, d, 75, [some (.long l0), none, some (.long l2), none, some (.long l4), none, some (.long l6), none, some (.int l8)], [.long (l4 ||| (Int32.toInt64 1))], w)) rfl).trans ?_
      exact val_r rfl
    · refine ((val_if_ne rfl).trans (if_neg hc666)).trans ?_
      show val (116, d, 68, [some (.long l0), none, some (.long l2), none, some (.long l4), none, some (.long l6), none, some (.int l8)], [.long l4], w) = _
      refine Eq.trans ?_ (if_neg hc666).symm
      refine (val_g (c2 := (116, d, 69, [some (.long l0), none, some (.long l2), none, some (.long l4), none, some (.long l6), none, some (.int l8)], [.int 0, .long l4], w)) rfl).trans ?_
      refine (val_g (c2 := (116, d, 73, [some (.long l0), none, some (.long l2), none, some (.long l4), none, some (.long l6), none, some (.int l8)], [.int 0, .long l4], w)) rfl).trans ?_
      refine (val_g (c2 := (116, d, 74, [some (.long l0), none, some (.long l2), none, some (.long l4), none, some (.long l6), none, some (.int l8)], [.long (Int32.toInt64 0), .long l4], w)) rfl).trans ?_
      refine (val_g (c2 := (116, d, 75, [some (.long l0), none, some (.long l2), none, some (.long l4), none, some (.long l6), none, some (.int l8)], [.long (l4 ||| (Int32.toInt64 0))], w)) rfl).trans ?_
      exact val_r rfl
  · refine ((val_ic_ge rfl).trans (if_neg hc665)).trans ?_
    show val (116, d, 28, [some (.long l0), none, some (.long l2), none, some (.long l4), none, some (.long l6), none, some (.int l8)], [], w) = _
    refine Eq.trans ?_ (if_neg hc665).symm
    refine (val_g (c2 := (116, d, 30, [some (.long l0), none, some (.long l2), none, some (.long l4), none, some (.long l6), none, some (.int l8)], [.long l6], w)) rfl).trans ?_
    refine (val_g (c2 := (116, d, 32, [some (.long l0), none, some (.long l2), none, some (.long l4), none, some (.long l6), none, some (.int l8)], [.int 10, .long l6], w)) rfl).trans ?_
    refine (val_g (c2 := (116, d, 33, [some (.long l0), none, some (.long l2), none, some (.long l4), none, some (.long l6), none, some (.int l8)], [.long (shlL l6 10)], w)) rfl).trans ?_
    refine (val_g (c2 := (116, d, 35, [some (.long l0), none, some (.long l2), none, some (.long l4), none, some (.long (shlL l6 10)), none, some (.int l8)], [], w)) rfl).trans ?_
    refine (val_g (c2 := (116, d, 37, [some (.long l0), none, some (.long l2), none, some (.long l4), none, some (.long (shlL l6 10)), none, some (.int l8)], [.long l4], w)) rfl).trans ?_
    refine (val_g (c2 := (116, d, 39, [some (.long l0), none, some (.long l2), none, some (.long l4), none, some (.long (shlL l6 10)), none, some (.int l8)], [.int 10, .long l4], w)) rfl).trans ?_
    refine (val_g (c2 := (116, d, 40, [some (.long l0), none, some (.long l2), none, some (.long l4), none, some (.long (shlL l6 10)), none, some (.int l8)], [.long (shlL l4 10)], w)) rfl).trans ?_
    refine (val_g (c2 := (116, d, 42, [some (.long l0), none, some (.long l2), none, some (.long l4), none, some (.long (shlL l6 10)), none, some (.int l8)], [.long (shlL l6 10), .long (shlL l4 10)], w)) rfl).trans ?_
    refine (val_g (c2 := (116, d, 43, [some (.long l0), none, some (.long l2), none, some (.long l4), none, some (.long (shlL l6 10)), none, some (.int l8)], [.long l2, .long (shlL l6 10), .long (shlL l4 10)], w)) rfl).trans ?_
    refine (val_ldiv rfl (hy1 hc665)).trans ?_
    show val (116, d, 44, [some (.long l0), none, some (.long l2), none, some (.long l4), none, some (.long (shlL l6 10)), none, some (.int l8)], [.long ((shlL l6 10) / l2), .long (shlL l4 10)], w) = _
    refine (val_g (c2 := (116, d, 45, [some (.long l0), none, some (.long l2), none, some (.long l4), none, some (.long (shlL l6 10)), none, some (.int l8)], [.long ((shlL l4 10) ||| ((shlL l6 10) / l2))], w)) rfl).trans ?_
    refine (val_g (c2 := (116, d, 47, [some (.long l0), none, some (.long l2), none, some (.long ((shlL l4 10) ||| ((shlL l6 10) / l2))), none, some (.long (shlL l6 10)), none, some (.int l8)], [], w)) rfl).trans ?_
    refine (val_g (c2 := (116, d, 49, [some (.long l0), none, some (.long l2), none, some (.long ((shlL l4 10) ||| ((shlL l6 10) / l2))), none, some (.long (shlL l6 10)), none, some (.int l8)], [.long (shlL l6 10)], w)) rfl).trans ?_
    refine (val_g (c2 := (116, d, 50, [some (.long l0), none, some (.long l2), none, some (.long ((shlL l4 10) ||| ((shlL l6 10) / l2))), none, some (.long (shlL l6 10)), none, some (.int l8)], [.long l2, .long (shlL l6 10)], w)) rfl).trans ?_
    refine (val_lrem rfl (hy1 hc665)).trans ?_
    show val (116, d, 51, [some (.long l0), none, some (.long l2), none, some (.long ((shlL l4 10) ||| ((shlL l6 10) / l2))), none, some (.long (shlL l6 10)), none, some (.int l8)], [.long ((shlL l6 10) - (shlL l6 10) / l2 * l2)], w) = _
    refine (val_g (c2 := (116, d, 53, [some (.long l0), none, some (.long l2), none, some (.long ((shlL l4 10) ||| ((shlL l6 10) / l2))), none, some (.long ((shlL l6 10) - (shlL l6 10) / l2 * l2)), none, some (.int l8)], [], w)) rfl).trans ?_
    refine (val_g (c2 := (116, d, 56, [some (.long l0), none, some (.long l2), none, some (.long ((shlL l4 10) ||| ((shlL l6 10) / l2))), none, some (.long ((shlL l6 10) - (shlL l6 10) / l2 * l2)), none, some (.int (l8 + 1))], [], w)) rfl).trans ?_
    refine (val_g (c2 := (116, d, 21, [some (.long l0), none, some (.long l2), none, some (.long ((shlL l4 10) ||| ((shlL l6 10) / l2))), none, some (.long ((shlL l6 10) - (shlL l6 10) / l2 * l2)), none, some (.int (l8 + 1))], [], w)) rfl).trans ?_
    rfl
/-- BelfryHouse$Reals.root(J)J -/
theorem tr_117 (d : Nat) (w : Wd) (x0 : Int64)     : val (117, d + 2, 0, [some (.long x0), none, none, none, none, none], [], w) = (if (fn_97 x0) = 0 then (if (fn_99 x0) = 0 then (if 0 ≤ (cmpL x0 0) then (if (fn_98 x0) = 0 then val (117, d + 2, 45, [some (.long x0), none, some (.long (fn_104 x0)), none, none, none], [.long (fn_104 x0)], w) else some (some (.long x0), w)) else some (some (.long 9221120237041090560), w)) else some (some (.long x0), w)) else some (some (.long 9221120237041090560), w)) := by
  refine (val_g (c2 := (117, d + 2, 1, [some (.long x0), none, none, none, none, none], [.long x0], w)) rfl).trans ?_
  refine (val_call (w1 := w) (pc2 := 4) rfl rfl rfl rfl rfl (Nat.le_of_ble_eq_true rfl) (Nat.le_of_ble_eq_true rfl) rfl (ev_97 (d) w x0) rfl).trans ?_
  show val (117, d + 2, 4, [some (.long x0), none, none, none, none, none], [.int (fn_97 x0)], w) = _
  by_cases hc672 : (fn_97 x0) = 0
  · refine ((val_if_eq rfl).trans (if_pos hc672)).trans ?_
    show val (117, d + 2, 11, [some (.long x0), none, none, none, none, none], [], w) = _
    refine Eq.trans ?_ (if_pos hc672).symm
    refine (val_g (c2 := (117, d + 2, 12, [some (.long x0), none, none, none, none, none], [.long x0], w)) rfl).trans ?_
    refine (val_call (w1 := w) (pc2 := 15) rfl rfl rfl rfl rfl (Nat.le_of_ble_eq_true rfl) (Nat.le_of_ble_eq_true rfl) rfl (ev_99 (d) w x0) rfl).trans ?_
    show val (117, d + 2, 15, [some (.long x0), none, none, none, none, none], [.int (fn_99 x0)], w) = _
    by_cases hc673 : (fn_99 x0) = 0
    · refine ((val_if_eq rfl).trans (if_pos hc673)).trans ?_
      show val (117, d + 2, 20, [some (.long x0), none, none, none, none, none], [], w) = _
      refine Eq.trans ?_ (if_pos hc673).symm
      refine (val_g (c2 := (117, d + 2, 21, [some (.long x0), none, none, none, none, none], [.long x0], w)) rfl).trans ?_
      refine (val_g (c2 := (117, d + 2, 22, [some (.long x0), none, none, none, none, none], [.long 0, .long x0], w)) rfl).trans ?_
      refine (val_g (c2 := (117, d + 2, 23, [some (.long x0), none, none, none, none, none], [.int (cmpL x0 0)], w)) rfl).trans ?_
      by_cases hc674 : 0 ≤ (cmpL x0 0)
      · refine ((val_if_ge rfl).trans (if_pos hc674)).trans ?_
        show val (117, d + 2, 30, [some (.long x0), none, none, none, none, none], [], w) = _
        refine Eq.trans ?_ (if_pos hc674).symm
        refine (val_g (c2 := (117, d + 2, 31, [some (.long x0), none, none, none, none, none], [.long x0], w)) rfl).trans ?_
        refine (val_call (w1 := w) (pc2 := 34) rfl rfl rfl rfl rfl (Nat.le_of_ble_eq_true rfl) (Nat.le_of_ble_eq_true rfl) rfl (ev_98 (d) w x0) rfl).trans ?_
        show val (117, d + 2, 34, [some (.long x0), none, none, none, none, none], [.int (fn_98 x0)], w) = _
        by_cases hc675 : (fn_98 x0) = 0
        · refine ((val_if_eq rfl).trans (if_pos hc675)).trans ?_
          show val (117, d + 2, 39, [some (.long x0), none, none, none, none, none], [], w) = _
          refine Eq.trans ?_ (if_pos hc675).symm
          refine (val_g (c2 := (117, d + 2, 40, [some (.long x0), none, none, none, none, none], [.long x0], w)) rfl).trans ?_
          refine (val_call (w1 := w) (pc2 := 43) rfl rfl rfl rfl rfl (Nat.le_of_ble_eq_true rfl) (Nat.le_of_ble_eq_true rfl) rfl (ev_104 (d) w x0) rfl).trans ?_
          show val (117, d + 2, 43, [some (.long x0), none, none, none, none, none], [.long (fn_104 x0)], w) = _
          refine (val_g (c2 := (117, d + 2, 44, [some (.long x0), none, some (.long (fn_104 x0)), none, none, none], [], w)) rfl).trans ?_
          refine (val_g (c2 := (117, d + 2, 45, [some (.long x0), none, some (.long (fn_104 x0)), none, none, none], [.long (fn_104 x0)], w)) rfl).trans ?_
          rfl
        · refine ((val_if_eq rfl).trans (if_neg hc675)).trans ?_
          show val (117, d + 2, 37, [some (.long x0), none, none, none, none, none], [], w) = _
          refine Eq.trans ?_ (if_neg hc675).symm
          refine (val_g (c2 := (117, d + 2, 38, [some (.long x0), none, none, none, none, none], [.long x0], w)) rfl).trans ?_
          exact val_r rfl
      · refine ((val_if_ge rfl).trans (if_neg hc674)).trans ?_
        show val (117, d + 2, 26, [some (.long x0), none, none, none, none, none], [], w) = _
        refine Eq.trans ?_ (if_neg hc674).symm
        refine (val_g (c2 := (117, d + 2, 29, [some (.long x0), none, none, none, none, none], [.long 9221120237041090560], w)) rfl).trans ?_
        exact val_r rfl
    · refine ((val_if_eq rfl).trans (if_neg hc673)).trans ?_
      show val (117, d + 2, 18, [some (.long x0), none, none, none, none, none], [], w) = _
      refine Eq.trans ?_ (if_neg hc673).symm
      refine (val_g (c2 := (117, d + 2, 19, [some (.long x0), none, none, none, none, none], [.long x0], w)) rfl).trans ?_
      exact val_r rfl
  · refine ((val_if_eq rfl).trans (if_neg hc672)).trans ?_
    show val (117, d + 2, 7, [some (.long x0), none, none, none, none, none], [], w) = _
    refine Eq.trans ?_ (if_neg hc672).symm
    refine (val_g (c2 := (117, d + 2, 10, [some (.long x0), none, none, none, none, none], [.long 9221120237041090560], w)) rfl).trans ?_
    exact val_r rfl
theorem tr_117_48 (d : Nat) (w : Wd) (l0 : Int64) (l2 : Int64) (s0 : Int32)     : val (117, d + 2, 48, [some (.long l0), none, some (.long l2), none, none, none], [.int s0], w) = (if (((fn_105 l0) - s0) &&& 1) = 0 then val (117, d + 2, 89, [some (.long l0), none, some (.long (shlL l2 s0)), none, some (.int s0), some (.int ((fn_105 l0) - s0))], [.long (shlL l2 s0), .int (((((fn_105 l0) - s0) - 58) / 2) - 1), .long 0], w) else val (117, d + 2, 89, [some (.long l0), none, some (.long (shlL ((shlL l2 s0)) 1)), none, some (.int s0), some (.int (((fn_105 l0) - s0) + (-1)))], [.long (shlL ((shlL l2 s0)) 1), .int ((((((fn_105 l0) - s0) + (-1)) - 58) / 2) - 1), .long 0], w)) := by
  refine (val_g (c2 := (117, d + 2, 50, [some (.long l0), none, some (.long l2), none, some (.int s0), none], [], w)) rfl).trans ?_
  refine (val_g (c2 := (117, d + 2, 51, [some (.long l0), none, some (.long l2), none, some (.int s0), none], [.long l0], w)) rfl).trans ?_
  refine (val_call (w1 := w) (pc2 := 54) rfl rfl rfl rfl rfl (Nat.le_of_ble_eq_true rfl) (Nat.le_of_ble_eq_true rfl) rfl (ev_105 (d) w l0) rfl).trans ?_
  show val (117, d + 2, 54, [some (.long l0), none, some (.long l2), none, some (.int s0), none], [.int (fn_105 l0)], w) = _
  refine (val_g (c2 := (117, d + 2, 56, [some (.long l0), none, some (.long l2), none, some (.int s0), none], [.int s0, .int (fn_105 l0)], w)) rfl).trans ?_
  refine (val_g (c2 := (117, d + 2, 57, [some (.long l0), none, some (.long l2), none, some (.int s0), none], [.int ((fn_105 l0) - s0)], w)) rfl).trans ?_
  refine (val_g (c2 := (117, d + 2, 59, [some (.long l0), none, some (.long l2), none, some (.int s0), some (.int ((fn_105 l0) - s0))], [], w)) rfl).trans ?_
  refine (val_g (c2 := (117, d + 2, 60, [some (.long l0), none, some (.long l2), none, some (.int s0), some (.int ((fn_105 l0) - s0))], [.long l2], w)) rfl).trans ?_
  refine (val_g (c2 := (117, d + 2, 62, [some (.long l0), none, some (.long l2), none, some (.int s0), some (.int ((fn_105 l0) - s0))], [.int s0, .long l2], w)) rfl).trans ?_
  refine (val_g (c2 := (117, d + 2, 63, [some (.long l0), none, some (.long l2), none, some (.int s0), some (.int ((fn_105 l0) - s0))], [.long (shlL l2 s0)], w)) rfl).trans ?_
  refine (val_g (c2 := (117, d + 2, 64, [some (.long l0), none, some (.long (shlL l2 s0)), none, some (.int s0), some (.int ((fn_105 l0) - s0))], [], w)) rfl).trans ?_
  refine (val_g (c2 := (117, d + 2, 66, [some (.long l0), none, some (.long (shlL l2 s0)), none, some (.int s0), some (.int ((fn_105 l0) - s0))], [.int ((fn_105 l0) - s0)], w)) rfl).trans ?_
  refine (val_g (c2 := (117, d + 2, 67, [some (.long l0), none, some (.long (shlL l2 s0)), none, some (.int s0), some (.int ((fn_105 l0) - s0))], [.int 1, .int ((fn_105 l0) - s0)], w)) rfl).trans ?_
  refine (val_g (c2 := (117, d + 2, 68, [some (.long l0), none, some (.long (shlL l2 s0)), none, some (.int s0), some (.int ((fn_105 l0) - s0))], [.int (((fn_105 l0) - s0) &&& 1)], w)) rfl).trans ?_
  by_cases hc676 : (((fn_105 l0) - s0) &&& 1) = 0
  · refine ((val_if_eq rfl).trans (if_pos hc676)).trans ?_
    show val (117, d + 2, 78, [some (.long l0), none, some (.long (shlL l2 s0)), none, some (.int s0), some (.int ((fn_105 l0) - s0))], [], w) = _
    refine Eq.trans ?_ (if_pos hc676).symm
    refine (val_g (c2 := (117, d + 2, 79, [some (.long l0), none, some (.long (shlL l2 s0)), none, some (.int s0), some (.int ((fn_105 l0) - s0))], [.long 0], w)) rfl).trans ?_
    refine (val_g (c2 := (117, d + 2, 81, [some (.long l0), none, some (.long (shlL l2 s0)), none, some (.int s0), some (.int ((fn_105 l0) - s0))], [.int ((fn_105 l0) - s0), .long 0], w)) rfl).trans ?_
    refine (val_g (c2 := (117, d + 2, 83, [some (.long l0), none, some (.long (shlL l2 s0)), none, some (.int s0), some (.int ((fn_105 l0) - s0))], [.int 58, .int ((fn_105 l0) - s0), .long 0], w)) rfl).trans ?_
    refine (val_g (c2 := (117, d + 2, 84, [some (.long l0), none, some (.long (shlL l2 s0)), none, some (.int s0), some (.int ((fn_105 l0) - s0))], [.int (((fn_105 l0) - s0) - 58), .long 0], w)) rfl).trans ?_
    refine (val_g (c2 := (117, d + 2, 85, [some (.long l0), none, some (.long (shlL l2 s0)), none, some (.int s0), some (.int ((fn_105 l0) - s0))], [.int 2, .int (((fn_105 l0) - s0) - 58), .long 0], w)) rfl).trans ?_
    refine (val_idiv rfl (by decide)).trans ?_
    show val (117, d + 2, 86, [some (.long l0), none, some (.long (shlL l2 s0)), none, some (.int s0), some (.int ((fn_105 l0) - s0))], [.int ((((fn_105 l0) - s0) - 58) / 2), .long 0], w) = _
    refine (val_g (c2 := (117, d + 2, 87, [some (.long l0), none, some (.long (shlL l2 s0)), none, some (.int s0), some (.int ((fn_105 l0) - s0))], [.int 1, .int ((((fn_105 l0) - s0) - 58) / 2), .long 0], w)) rfl).trans ?_
    refine (val_g (c2 := (117, d + 2, 88, [some (.long l0), none, some (.long (shlL l2 s0)), none, some (.int s0), some (.int ((fn_105 l0) - s0))], [.int (((((fn_105 l0) - s0) - 58) / 2) - 1), .long 0], w)) rfl).trans ?_
    refine (val_g (c2 := (117, d + 2, 89, [some (.long l0), none, some (.long (shlL l2 s0)), none, some (.int s0), some (.int ((fn_105 l0) - s0))], [.long (shlL l2 s0), .int (((((fn_105 l0) - s0) - 58) / 2) - 1), .long 0], w)) rfl).trans ?_
    rfl
  · refine ((val_if_eq rfl).trans (if_neg hc676)).trans ?_
    show val (117, d + 2, 71, [some (.long l0), none, some (.long (shlL l2 s0)), none, some (.int s0), some (.int ((fn_105 l0) - s0))], [], w) = _
    refine Eq.trans ?_ (if_neg hc676).symm
    refine (val_g (c2 := (117, d + 2, 72, [some (.long l0), none, some (.long (shlL l2 s0)), none, some (.int s0), some (.int ((fn_105 l0) - s0))], [.long (shlL l2 s0)], w)) rfl).trans ?_
    refine (val_g (c2 := (117, d + 2, 73, [some (.long l0), none, some (.long (shlL l2 s0)), none, some (.int s0), some (.int ((fn_105 l0) - s0))], [.int 1, .long (shlL l2 s0)], w)) rfl).trans ?_
    refine (val_g (c2 := (117, d + 2, 74, [some (.long l0), none, some (.long (shlL l2 s0)), none, some (.int s0), some (.int ((fn_105 l0) - s0))], [.long (shlL ((shlL l2 s0)) 1)], w)) rfl).trans ?_
    refine (val_g (c2 := (117, d + 2, 75, [some (.long l0), none, some (.long (shlL ((shlL l2 s0)) 1)), none, some (.int s0), some (.int ((fn_105 l0) - s0))], [], w)) rfl).trans ?_
    refine (val_g (c2 := (117, d + 2, 78, [some (.long l0), none, some (.long (shlL ((shlL l2 s0)) 1)), none, some (.int s0), some (.int (((fn_105 l0) - s0) + (-1)))], [], w)) rfl).trans ?_
    refine (val_g (c2 := (117, d + 2, 79, [some (.long l0), none, some (.long (shlL ((shlL l2 s0)) 1)), none, some (.int s0), some (.int (((fn_105 l0) - s0) + (-1)))], [.long 0], w)) rfl).trans ?_
    refine (val_g (c2 := (117, d + 2, 81, [some (.long l0), none, some (.long (shlL ((shlL l2 s0)) 1)), none, some (.int s0), some (.int (((fn_105 l0) - s0) + (-1)))], [.int (((fn_105 l0) - s0) + (-1)), .long 0], w)) rfl).trans ?_
    refine (val_g (c2 := (117, d + 2, 83, [some (.long l0), none, some (.long (shlL ((shlL l2 s0)) 1)), none, some (.int s0), some (.int (((fn_105 l0) - s0) + (-1)))], [.int 58, .int (((fn_105 l0) - s0) + (-1)), .long 0], w)) rfl).trans ?_
    refine (val_g (c2 := (117, d + 2, 84, [some (.long l0), none, some (.long (shlL ((shlL l2 s0)) 1)), none, some (.int s0), some (.int (((fn_105 l0) - s0) + (-1)))], [.int ((((fn_105 l0) - s0) + (-1)) - 58), .long 0], w)) rfl).trans ?_
    refine (val_g (c2 := (117, d + 2, 85, [some (.long l0), none, some (.long (shlL ((shlL l2 s0)) 1)), none, some (.int s0), some (.int (((fn_105 l0) - s0) + (-1)))], [.int 2, .int ((((fn_105 l0) - s0) + (-1)) - 58), .long 0], w)) rfl).trans ?_
    refine (val_idiv rfl (by decide)).trans ?_
    show val (117, d + 2, 86, [some (.long l0), none, some (.long (shlL ((shlL l2 s0)) 1)), none, some (.int s0), some (.int (((fn_105 l0) - s0) + (-1)))], [.int (((((fn_105 l0) - s0) + (-1)) - 58) / 2), .long 0], w) = _
    refine (val_g (c2 := (117, d + 2, 87, [some (.long l0), none, some (.long (shlL ((shlL l2 s0)) 1)), none, some (.int s0), some (.int (((fn_105 l0) - s0) + (-1)))], [.int 1, .int (((((fn_105 l0) - s0) + (-1)) - 58) / 2), .long 0], w)) rfl).trans ?_
    refine (val_g (c2 := (117, d + 2, 88, [some (.long l0), none, some (.long (shlL ((shlL l2 s0)) 1)), none, some (.int s0), some (.int (((fn_105 l0) - s0) + (-1)))], [.int ((((((fn_105 l0) - s0) + (-1)) - 58) / 2) - 1), .long 0], w)) rfl).trans ?_
    refine (val_g (c2 := (117, d + 2, 89, [some (.long l0), none, some (.long (shlL ((shlL l2 s0)) 1)), none, some (.int s0), some (.int (((fn_105 l0) - s0) + (-1)))], [.long (shlL ((shlL l2 s0)) 1), .int ((((((fn_105 l0) - s0) + (-1)) - 58) / 2) - 1), .long 0], w)) rfl).trans ?_
    rfl
theorem tr_117_95 (d : Nat) (w : Wd) (l0 : Int64) (l2 : Int64) (l4 : Int32) (l5 : Int32) (s0 : Int64)     : val (117, d + 2, 95, [some (.long l0), none, some (.long l2), none, some (.int l4), some (.int l5)], [.long s0], w) = some (some (.long s0), w) := by
  exact val_r rfl
/-- BelfryHouse$Reals.longRoot(J)J -/
theorem tr_118 (d : Nat) (w : Wd) (x0 : Int64)     : val (118, d, 0, [some (.long x0), none, none, none, none, none, none, none, none, none, none], [], w) = val (118, d, 8, [some (.long x0), none, some (.long 0), none, some (.long 0), none, some (.int 0), none, none, none, none], [], w) := by
  refine (val_g (c2 := (118, d, 1, [some (.long x0), none, none, none, none, none, none, none, none, none, none], [.long 0], w)) rfl).trans ?_
  refine (val_g (c2 := (118, d, 2, [some (.long x0), none, some (.long 0), none, none, none, none, none, none, none, none], [], w)) rfl).trans ?_
  refine (val_g (c2 := (118, d, 3, [some (.long x0), none, some (.long 0), none, none, none, none, none, none, none, none], [.long 0], w)) rfl).trans ?_
  refine (val_g (c2 := (118, d, 5, [some (.long x0), none, some (.long 0), none, some (.long 0), none, none, none, none, none, none], [], w)) rfl).trans ?_
  refine (val_g (c2 := (118, d, 6, [some (.long x0), none, some (.long 0), none, some (.long 0), none, none, none, none, none, none], [.int 0], w)) rfl).trans ?_
  refine (val_g (c2 := (118, d, 8, [some (.long x0), none, some (.long 0), none, some (.long 0), none, some (.int 0), none, none, none, none], [], w)) rfl).trans ?_
  rfl
theorem tr_118_8 (d : Nat) (w : Wd) (l0 : Int64) (l2 : Int64) (l4 : Int64) (l6 : Int32) (l7 : Option Value) (l9 : Option Value)    : val (118, d, 8, [some (.long l0), none, some (.long l2), none, some (.long l4), none, some (.int l6), l7, none, l9, none], [], w) = (if 56 ≤ l6 then (if ¬ (cmpL l4 0) = 0 then some (some (.long ((shlL l2 1) ||| (Int32.toInt64 1))), w) else some (some (.long ((shlL l2 1) ||| (Int32.toInt64 0))), w)) else (if 27 ≤ l6 then (if (cmpL (((shlL l4 2) ||| 0)) (((shlL l2 2) ||| 1))) < 0 then val (118, d, 8, [some (.long l0), none, some (.long (shlL l2 1)), none, some (.long ((shlL l4 2) ||| 0)), none, some (.int (l6 + 1)), some (.long 0), none, some (.long ((shlL l2 2) ||| 1)), none], [], w) else val (118, d, 8, [some (.long l0), none, some (.long ((shlL l2 1) ||| 1)), none, some (.long (((shlL l4 2) ||| 0) - ((shlL l2 2) ||| 1))), none, some (.int (l6 + 1)), some (.long 0), none, some (.long ((shlL l2 2) ||| 1)), none], [], w)) else (if (cmpL (((shlL l4 2) ||| ((ushL l0 ((52 - (2 * l6)))) &&& 3))) (((shlL l2 2) ||| 1))) < 0 then val (118, d, 8, [some (.long l0), none, some (.long (shlL l2 1)), none, some (.long ((shlL l4 2) ||| ((ushL l0 ((52 - (2 * l6)))) &&& 3))), none, some (.int (l6 + 1)), some (.long ((ushL l0 ((52 - (2 * l6)))) &&& 3)), none, some (.long ((shlL l2 2) ||| 1)), none], [], w) else val (118, d, 8, [some (.long l0), none, some (.long ((shlL l2 1) ||| 1)), none, some (.long (((shlL l4 2) ||| ((ushL l0 ((52 - (2 * l6)))) &&& 3)) - ((shlL l2 2) ||| 1))), none, some (.int (l6 + 1)), some (.long ((ushL l0 ((52 - (2 * l6)))) &&& 3)), none, some (.long ((shlL l2 2) ||| 1)), none], [], w)))) := by
  refine (val_g (c2 := (118, d, 10, [some (.long l0), none, some (.long l2), none, some (.long l4), none, some (.int l6), l7, none, l9, none], [.int l6], w)) rfl).trans ?_
  refine (val_g (c2 := (118, d, 12, [some (.long l0), none, some (.long l2), none, some (.long l4), none, some (.int l6), l7, none, l9, none], [.int 56, .int l6], w)) rfl).trans ?_
  by_cases hc687 : 56 ≤ l6
  · refine ((val_ic_ge rfl).trans (if_pos hc687)).trans ?_
    show val (118, d, 86, [some (.long l0), none, some (.long l2), none, some (.long l4), none, some (.int l6), l7, none, l9, none], [], w) = _
    refine Eq.trans ?_ (if_pos hc687).symm
    refine (val_g (c2 := (118, d, 87, [some (.long l0), none, some (.long l2), none, some (.long l4), none, some (.int l6), l7, none, l9, none], [.long l2], w)) rfl).trans ?_
    refine (val_g (c2 := (118, d, 88, [some (.long l0), none, some (.long l2), none, some (.long l4), none, some (.int l6), l7, none, l9, none], [.int 1, .long l2], w)) rfl).trans ?_
    refine (val_g (c2 := (118, d, 89, [some (.long l0), none, some (.long l2), none, some (.long l4), none, some (.int l6), l7, none, l9, none], [.long (shlL l2 1)], w)) rfl).trans ?_
    refine (val_g (c2 := (118, d, 91, [some (.long l0), none, some (.long l2), none, some (.long l4), none, some (.int l6), l7, none, l9, none], [.long l4, .long (shlL l2 1)], w)) rfl).trans ?_
    refine (val_g (c2 := (118, d, 92, [some (.long l0), none, some (.long l2), none, some (.long l4), none, some (.int l6), l7, none, l9, none], [.long 0, .long l4, .long (shlL l2 1)], w)) rfl).trans ?_
    refine (val_g (c2 := (118, d, 93, [some (.long l0), none, some (.long l2), none, some (.long l4), none, some (.int l6), l7, none, l9, none], [.int (cmpL l4 0), .long (shlL l2 1)], w)) rfl).trans ?_
    by_cases hc688 : ¬ (cmpL l4 0) = 0
    · refine ((val_if_ne rfl).trans (if_pos hc688)).trans ?_
      show val (118, d, 100, [some (.long l0), none, some (.long l2), none, some (.long l4), none, some (.int l6), l7, none, l9, none], [.long (shlL l2 1)], w) = _
      refine Eq.trans ?_ (if_pos hc688).symm
      refine (val_g (c2 := (118, d, 101, [some (.long l0), none, some (.long l2), none, some (.long l4), none, some (.int l6), l7, none, l9, none], [.int 1, .long (shlL l2 1)], w)) rfl).trans ?_
      refine (val_g (c2 := (118, d, 102, [some (.long l0), none, some (.long l2), none, some (.long l4), none, some (.int l6), l7, none, l9, none], [.long (Int32.toInt64 1), .long (shlL l2 1)], w)) rfl).trans ?_
      refine (val_g (c2 := (118, d, 103, [some (.long l0), none, some (.long l2), none, some (.long l4), none, some (.int l6), l7, none, l9, none], [.long ((shlL l2 1) ||| (Int32.toInt64 1))], w)) rfl).trans ?_
      exact val_r rfl
    · refine ((val_if_ne rfl).trans (if_neg hc688)).trans ?_
      show val (118, d, 96, [some (.long l0), none, some (.long l2), none, some (.long l4), none, some (.int l6), l7, none, l9, none], [.long (shlL l2 1)], w) = _
      refine Eq.trans ?_ (if_neg hc688).symm
      refine (val_g (c2 := (118, d, 97, [some (.long l0), none, some (.long l2), none, some (.long l4), none, some (.int l6), l7, none, l9, none], [.int 0, .long (shlL l2 1)], w)) rfl).trans ?_
      refine (val_g (c2 := (118, d, 101, [some (.long l0), none, some (.long l2), none, some (.long l4), none, some (.int l6), l7, none, l9, none], [.int 0, .long (shlL l2 1)], w)) rfl).trans ?_
      refine (val_g (c2 := (118, d, 102, [some (.long l0), none, some (.long l2), none, some (.long l4), none, some (.int l6), l7, none, l9, none], [.long (Int32.toInt64 0), .long (shlL l2 1)], w)) rfl).trans ?_
      refine (val_g (c2 := (118, d, 103, [some (.long l0), none, some (.long l2), none, some (.long l4), none, some (.int l6), l7, none, l9, none], [.long ((shlL l2 1) ||| (Int32.toInt64 0))], w)) rfl).trans ?_
      exact val_r rfl
  · refine ((val_ic_ge rfl).trans (if_neg hc687)).trans ?_
    show val (118, d, 15, [some (.long l0), none, some (.long l2), none, some (.long l4), none, some (.int l6), l7, none, l9, none], [], w) = _
    refine Eq.trans ?_ (if_neg hc687).symm
    refine (val_g (c2 := (118, d, 17, [some (.long l0), none, some (.long l2), none, some (.long l4), none, some (.int l6), l7, none, l9, none], [.int l6], w)) rfl).trans ?_
    refine (val_g (c2 := (118, d, 19, [some (.long l0), none, some (.long l2), none, some (.long l4), none, some (.int l6), l7, none, l9, none], [.int 27, .int l6], w)) rfl).trans ?_
    by_cases hc689 : 27 ≤ l6
    · refine ((val_ic_ge rfl).trans (if_pos hc689)).trans ?_
      show val (118, d, 38, [some (.long l0), none, some (.long l2), none, some (.long l4), none, some (.int l6), l7, none, l9, none], [], w) = _
      refine Eq.trans ?_ (if_pos hc689).symm
      refine (val_g (c2 := (118, d, 39, [some (.long l0), none, some (.long l2), none, some (.long l4), none, some (.int l6), l7, none, l9, none], [.long 0], w)) rfl).trans ?_
      refine (val_g (c2 := (118, d, 41, [some (.long l0), none, some (.long l2), none, some (.long l4), none, some (.int l6), some (.long 0), none, l9, none], [], w)) rfl).trans ?_
      refine (val_g (c2 := (118, d, 43, [some (.long l0), none, some (.long l2), none, some (.long l4), none, some (.int l6), some (.long 0), none, l9, none], [.long l4], w)) rfl).trans ?_
      refine (val_g (c2 := (118, d, 44, [some (.long l0), none, some (.long l2), none, some (.long l4), none, some (.int l6), some (.long 0), none, l9, none], [.int 2, .long l4], w)) rfl).trans ?_
      refine (val_g (c2 := (118, d, 45, [some (.long l0), none, some (.long l2), none, some (.long l4), none, some (.int l6), some (.long 0), none, l9, none], [.long (shlL l4 2)], w)) rfl).trans ?_
      refine (val_g (c2 := (118, d, 47, [some (.long l0), none, some (.long l2), none, some (.long l4), none, some (.int l6), some (.long 0), none, l9, none], [.long 0, .long (shlL l4 2)], w)) rfl).trans ?_
      refine (val_g (c2 := (118, d, 48, [some (.long l0), none, some (.long l2), none, some (.long l4), none, some (.int l6), some (.long 0), none, l9, none], [.long ((shlL l4 2) ||| 0)], w)) rfl).trans ?_
      refine (val_g (c2 := (118, d, 50, [some (.long l0), none, some (.long l2), none, some (.long ((shlL l4 2) ||| 0)), none, some (.int l6), some (.long 0), none, l9, none], [], w)) rfl).trans ?_
      refine (val_g (c2 := (118, d, 51, [some (.long l0), none, some (.long l2), none, some (.long ((shlL l4 2) ||| 0)), none, some (.int l6), some (.long 0), none, l9, none], [.long l2], w)) rfl).trans ?_
      refine (val_g (c2 := (118, d, 52, [some (.long l0), none, some (.long l2), none, some (.long ((shlL l4 2) ||| 0)), none, some (.int l6), some (.long 0), none, l9, none], [.int 2, .long l2], w)) rfl).trans ?_
      refine (val_g (c2 := (118, d, 53, [some (.long l0), none, some (.long l2), none, some (.long ((shlL l4 2) ||| 0)), none, some (.int l6), some (.long 0), none, l9, none], [.long (shlL l2 2)], w)) rfl).trans ?_
      refine (val_g (c2 := (118, d, 54, [some (.long l0), none, some (.long l2), none, some (.long ((shlL l4 2) ||| 0)), none, some (.int l6), some (.long 0), none, l9, none], [.long 1, .long (shlL l2 2)], w)) rfl).trans ?_
      refine (val_g (c2 := (118, d, 55, [some (.long l0), none, some (.long l2), none, some (.long ((shlL l4 2) ||| 0)), none, some (.int l6), some (.long 0), none, l9, none], [.long ((shlL l2 2) ||| 1)], w)) rfl).trans ?_
      refine (val_g (c2 := (118, d, 57, [some (.long l0), none, some (.long l2), none, some (.long ((shlL l4 2) ||| 0)), none, some (.int l6), some (.long 0), none, some (.long ((shlL l2 2) ||| 1)), none], [], w)) rfl).trans ?_
      refine (val_g (c2 := (118, d, 58, [some (.long l0), none, some (.long l2), none, some (.long ((shlL l4 2) ||| 0)), none, some (.int l6), some (.long 0), none, some (.long ((shlL l2 2) ||| 1)), none], [.long l2], w)) rfl).trans ?_
      refine (val_g (c2 := (118, d, 59, [some (.long l0), none, some (.long l2), none, some (.long ((shlL l4 2) ||| 0)), none, some (.int l6), some (.long 0), none, some (.long ((shlL l2 2) ||| 1)), none], [.int 1, .long l2], w)) rfl).trans ?_
      refine (val_g (c2 := (118, d, 60, [some (.long l0), none, some (.long l2), none, some (.long ((shlL l4 2) ||| 0)), none, some (.int l6), some (.long 0), none, some (.long ((shlL l2 2) ||| 1)), none], [.long (shlL l2 1)], w)) rfl).trans ?_
      refine (val_g (c2 := (118, d, 61, [some (.long l0), none, some (.long (shlL l2 1)), none, some (.long ((shlL l4 2) ||| 0)), none, some (.int l6), some (.long 0), none, some (.long ((shlL l2 2) ||| 1)), none], [], w)) rfl).trans ?_
      refine (val_g (c2 := (118, d, 63, [some (.long l0), none, some (.long (shlL l2 1)), none, some (.long ((shlL l4 2) ||| 0)), none, some (.int l6), some (.long 0), none, some (.long ((shlL l2 2) ||| 1)), none], [.long ((shlL l4 2) ||| 0)], w)) rfl).trans ?_
      refine (val_g (c2 := (118, d, 65, [some (.long l0), none, some (.long (shlL l2 1)), none, some (.long ((shlL l4 2) ||| 0)), none, some (.int l6), some (.long 0), none, some (.long ((shlL l2 2) ||| 1)), none], [.long ((shlL l2 2) ||| 1), .long ((shlL l4 2) ||| 0)], w)) rfl).trans ?_
      refine (val_g (c2 := (118, d, 66, [some (.long l0), none, some (.long (shlL l2 1)), none, some (.long ((shlL l4 2) ||| 0)), none, some (.int l6), some (.long 0), none, some (.long ((shlL l2 2) ||| 1)), none], [.int (cmpL (((shlL l4 2) ||| 0)) (((shlL l2 2) ||| 1)))], w)) rfl).trans ?_
      by_cases hc690 : (cmpL (((shlL l4 2) ||| 0)) (((shlL l2 2) ||| 1))) < 0
      · refine ((val_if_lt rfl).trans (if_pos hc690)).trans ?_
        show val (118, d, 80, [some (.long l0), none, some (.long (shlL l2 1)), none, some (.long ((shlL l4 2) ||| 0)), none, some (.int l6), some (.long 0), none, some (.long ((shlL l2 2) ||| 1)), none], [], w) = _
        refine Eq.trans ?_ (if_pos hc690).symm
        refine (val_g (c2 := (118, d, 83, [some (.long l0), none, some (.long (shlL l2 1)), none, some (.long ((shlL l4 2) ||| 0)), none, some (.int (l6 + 1)), some (.long 0), none, some (.long ((shlL l2 2) ||| 1)), none], [], w)) rfl).trans ?_
        refine (val_g (c2 := (118, d, 8, [some (.long l0), none, some (.long (shlL l2 1)), none, some (.long ((shlL l4 2) ||| 0)), none, some (.int (l6 + 1)), some (.long 0), none, some (.long ((shlL l2 2) ||| 1)), none], [], w)) rfl).trans ?_
        rfl
      · refine ((val_if_lt rfl).trans (if_neg hc690)).trans ?_
        show val (118, d, 69, [some (.long l0), none, some (.long (shlL l2 1)), none, some (.long ((shlL l4 2) ||| 0)), none, some (.int l6), some (.long 0), none, some (.long ((shlL l2 2) ||| 1)), none], [], w) = _
        refine Eq.trans ?_ (if_neg hc690).symm
        refine (val_g (c2 := (118, d, 71, [some (.long l0), none, some (.long (shlL l2 1)), none, some (.long ((shlL l4 2) ||| 0)), none, some (.int l6), some (.long 0), none, some (.long ((shlL l2 2) ||| 1)), none], [.long ((shlL l4 2) ||| 0)], w)) rfl).trans ?_
        refine (val_g (c2 := (118, d, 73, [some (.long l0), none, some (.long (shlL l2 1)), none, some (.long ((shlL l4 2) ||| 0)), none, some (.int l6), some (.long 0), none, some (.long ((shlL l2 2) ||| 1)), none], [.long ((shlL l2 2) ||| 1), .long ((shlL l4 2) ||| 0)], w)) rfl).trans ?_
        refine (val_g (c2 := (118, d, 74, [some (.long l0), none, some (.long (shlL l2 1)), none, some (.long ((shlL l4 2) ||| 0)), none, some (.int l6), some (.long 0), none, some (.long ((shlL l2 2) ||| 1)), none], [.long (((shlL l4 2) ||| 0) - ((shlL l2 2) ||| 1))], w)) rfl).trans ?_
        refine (val_g (c2 := (118, d, 76, [some (.long l0), none, some (.long (shlL l2 1)), none, some (.long (((shlL l4 2) ||| 0) - ((shlL l2 2) ||| 1))), none, some (.int l6), some (.long 0), none, some (.long ((shlL l2 2) ||| 1)), none], [], w)) rfl).trans ?_
        refine (val_g (c2 := (118, d, 77, [some (.long l0), none, some (.long (shlL l2 1)), none, some (.long (((shlL l4 2) ||| 0) - ((shlL l2 2) ||| 1))), none, some (.int l6), some (.long 0), none, some (.long ((shlL l2 2) ||| 1)), none], [.long (shlL l2 1)], w)) rfl).trans ?_
        refine (val_g (c2 := (118, d, 78, [some (.long l0), none, some (.long (shlL l2 1)), none, some (.long (((shlL l4 2) ||| 0) - ((shlL l2 2) ||| 1))), none, some (.int l6), some (.long 0), none, some (.long ((shlL l2 2) ||| 1)), none], [.long 1, .long (shlL l2 1)], w)) rfl).trans ?_
        refine (val_g (c2 := (118, d, 79, [some (.long l0), none, some (.long (shlL l2 1)), none, some (.long (((shlL l4 2) ||| 0) - ((shlL l2 2) ||| 1))), none, some (.int l6), some (.long 0), none, some (.long ((shlL l2 2) ||| 1)), none], [.long ((shlL l2 1) ||| 1)], w)) rfl).trans ?_
        refine (val_g (c2 := (118, d, 80, [some (.long l0), none, some (.long ((shlL l2 1) ||| 1)), none, some (.long (((shlL l4 2) ||| 0) - ((shlL l2 2) ||| 1))), none, some (.int l6), some (.long 0), none, some (.long ((shlL l2 2) ||| 1)), none], [], w)) rfl).trans ?_
        refine (val_g (c2 := (118, d, 83, [some (.long l0), none, some (.long ((shlL l2 1) ||| 1)), none, some (.long (((shlL l4 2) ||| 0) - ((shlL l2 2) ||| 1))), none, some (.int (l6 + 1)), some (.long 0), none, some (.long ((shlL l2 2) ||| 1)), none], [], w)) rfl).trans ?_
        refine (val_g (c2 := (118, d, 8, [some (.long l0), none, some (.long ((shlL l2 1) ||| 1)), none, some (.long (((shlL l4 2) ||| 0) - ((shlL l2 2) ||| 1))), none, some (.int (l6 + 1)), some (.long 0), none, some (.long ((shlL l2 2) ||| 1)), none], [], w)) rfl).trans ?_
        rfl
    · refine ((val_ic_ge rfl).trans (if_neg hc689)).trans ?_
      show val (118, d, 22, [some (.long l0), none, some (.long l2), none, some (.long l4), none, some (.int l6), l7, none, l9, none], [], w) = _
      refine Eq.trans ?_ (if_neg hc689).symm
      refine (val_g (c2 := (118, d, 23, [some (.long l0), none, some (.long l2), none, some (.long l4), none, some (.int l6), l7, none, l9, none], [.long l0], w)) rfl).trans ?_
      refine (val_g (c2 := (118, d, 25, [some (.long l0), none, some (.long l2), none, some (.long l4), none, some (.int l6), l7, none, l9, none], [.int 52, .long l0], w)) rfl).trans ?_
      refine (val_g (c2 := (118, d, 26, [some (.long l0), none, some (.long l2), none, some (.long l4), none, some (.int l6), l7, none, l9, none], [.int 2, .int 52, .long l0], w)) rfl).trans ?_
      refine (val_g (c2 := (118, d, 28, [some (.long l0), none, some (.long l2), none, some (.long l4), none, some (.int l6), l7, none, l9, none], [.int l6, .int 2, .int 52, .long l0], w)) rfl).trans ?_
      refine (val_g (c2 := (118, d, 29, [some (.long l0), none, some (.long l2), none, some (.long l4), none, some (.int l6), l7, none, l9, none], [.int (2 * l6), .int 52, .long l0], w)) rfl).trans ?_
      refine (val_g (c2 := (118, d, 30, [some (.long l0), none, some (.long l2), none, some (.long l4), none, some (.int l6), l7, none, l9, none], [.int (52 - (2 * l6)), .long l0], w)) rfl).trans ?_
      refine (val_g (c2 := (118, d, 31, [some (.long l0), none, some (.long l2), none, some (.long l4), none, some (.int l6), l7, none, l9, none], [.long (ushL l0 ((52 - (2 * l6))))], w)) rfl).trans ?_
      refine (val_g (c2 := (118, d, 34, [some (.long l0), none, some (.long l2), none, some (.long l4), none, some (.int l6), l7, none, l9, none], [.long 3, .long (ushL l0 ((52 - (2 * l6))))], w)) rfl).trans ?_
      refine (val_g (c2 := (118, d, 35, [some (.long l0), none, some (.long l2), none, some (.long l4), none, some (.int l6), l7, none, l9, none], [.long ((ushL l0 ((52 - (2 * l6)))) &&& 3)], w)) rfl).trans ?_
      refine (val_g (c2 := (118, d, 39, [some (.long l0), none, some (.long l2), none, some (.long l4), none, some (.int l6), l7, none, l9, none], [.long ((ushL l0 ((52 - (2 * l6)))) &&& 3)], w)) rfl).trans ?_
      refine (val_g (c2 := (118, d, 41, [some (.long l0), none, some (.long l2), none, some (.long l4), none, some (.int l6), some (.long ((ushL l0 ((52 - (2 * l6)))) &&& 3)), none, l9, none], [], w)) rfl).trans ?_
      refine (val_g (c2 := (118, d, 43, [some (.long l0), none, some (.long l2), none, some (.long l4), none, some (.int l6), some (.long ((ushL l0 ((52 - (2 * l6)))) &&& 3)), none, l9, none], [.long l4], w)) rfl).trans ?_
      refine (val_g (c2 := (118, d, 44, [some (.long l0), none, some (.long l2), none, some (.long l4), none, some (.int l6), some (.long ((ushL l0 ((52 - (2 * l6)))) &&& 3)), none, l9, none], [.int 2, .long l4], w)) rfl).trans ?_
      refine (val_g (c2 := (118, d, 45, [some (.long l0), none, some (.long l2), none, some (.long l4), none, some (.int l6), some (.long ((ushL l0 ((52 - (2 * l6)))) &&& 3)), none, l9, none], [.long (shlL l4 2)], w)) rfl).trans ?_
      refine (val_g (c2 := (118, d, 47, [some (.long l0), none, some (.long l2), none, some (.long l4), none, some (.int l6), some (.long ((ushL l0 ((52 - (2 * l6)))) &&& 3)), none, l9, none], [.long ((ushL l0 ((52 - (2 * l6)))) &&& 3), .long (shlL l4 2)], w)) rfl).trans ?_
      refine (val_g (c2 := (118, d, 48, [some (.long l0), none, some (.long l2), none, some (.long l4), none, some (.int l6), some (.long ((ushL l0 ((52 - (2 * l6)))) &&& 3)), none, l9, none], [.long ((shlL l4 2) ||| ((ushL l0 ((52 - (2 * l6)))) &&& 3))], w)) rfl).trans ?_
      refine (val_g (c2 := (118, d, 50, [some (.long l0), none, some (.long l2), none, some (.long ((shlL l4 2) ||| ((ushL l0 ((52 - (2 * l6)))) &&& 3))), none, some (.int l6), some (.long ((ushL l0 ((52 - (2 * l6)))) &&& 3)), none, l9, none], [], w)) rfl).trans ?_
      refine (val_g (c2 := (118, d, 51, [some (.long l0), none, some (.long l2), none, some (.long ((shlL l4 2) ||| ((ushL l0 ((52 - (2 * l6)))) &&& 3))), none, some (.int l6), some (.long ((ushL l0 ((52 - (2 * l6)))) &&& 3)), none, l9, none], [.long l2], w)) rfl).trans ?_
      refine (val_g (c2 := (118, d, 52, [some (.long l0), none, some (.long l2), none, some (.long ((shlL l4 2) ||| ((ushL l0 ((52 - (2 * l6)))) &&& 3))), none, some (.int l6), some (.long ((ushL l0 ((52 - (2 * l6)))) &&& 3)), none, l9, none], [.int 2, .long l2], w)) rfl).trans ?_
      refine (val_g (c2 := (118, d, 53, [some (.long l0), none, some (.long l2), none, some (.long ((shlL l4 2) ||| ((ushL l0 ((52 - (2 * l6)))) &&& 3))), none, some (.int l6), some (.long ((ushL l0 ((52 - (2 * l6)))) &&& 3)), none, l9, none], [.long (shlL l2 2)], w)) rfl).trans ?_
      refine (val_g (c2 := (118, d, 54, [some (.long l0), none, some (.long l2), none, some (.long ((shlL l4 2) ||| ((ushL l0 ((52 - (2 * l6)))) &&& 3))), none, some (.int l6), some (.long ((ushL l0 ((52 - (2 * l6)))) &&& 3)), none, l9, none], [.long 1, .long (shlL l2 2)], w)) rfl).trans ?_
      refine (val_g (c2 := (118, d, 55, [some (.long l0), none, some (.long l2), none, some (.long ((shlL l4 2) ||| ((ushL l0 ((52 - (2 * l6)))) &&& 3))), none, some (.int l6), some (.long ((ushL l0 ((52 - (2 * l6)))) &&& 3)), none, l9, none], [.long ((shlL l2 2) ||| 1)], w)) rfl).trans ?_
      refine (val_g (c2 := (118, d, 57, [some (.long l0), none, some (.long l2), none, some (.long ((shlL l4 2) ||| ((ushL l0 ((52 - (2 * l6)))) &&& 3))), none, some (.int l6), some (.long ((ushL l0 ((52 - (2 * l6)))) &&& 3)), none, some (.long ((shlL l2 2) ||| 1)), none], [], w)) rfl).trans ?_
      refine (val_g (c2 := (118, d, 58, [some (.long l0), none, some (.long l2), none, some (.long ((shlL l4 2) ||| ((ushL l0 ((52 - (2 * l6)))) &&& 3))), none, some (.int l6), some (.long ((ushL l0 ((52 - (2 * l6)))) &&& 3)), none, some (.long ((shlL l2 2) ||| 1)), none], [.long l2], w)) rfl).trans ?_
      refine (val_g (c2 := (118, d, 59, [some (.long l0), none, some (.long l2), none, some (.long ((shlL l4 2) ||| ((ushL l0 ((52 - (2 * l6)))) &&& 3))), none, some (.int l6), some (.long ((ushL l0 ((52 - (2 * l6)))) &&& 3)), none, some (.long ((shlL l2 2) ||| 1)), none], [.int 1, .long l2], w)) rfl).trans ?_
      refine (val_g (c2 := (118, d, 60, [some (.long l0), none, some (.long l2), none, some (.long ((shlL l4 2) ||| ((ushL l0 ((52 - (2 * l6)))) &&& 3))), none, some (.int l6), some (.long ((ushL l0 ((52 - (2 * l6)))) &&& 3)), none, some (.long ((shlL l2 2) ||| 1)), none], [.long (shlL l2 1)], w)) rfl).trans ?_
      refine (val_g (c2 := (118, d, 61, [some (.long l0), none, some (.long (shlL l2 1)), none, some (.long ((shlL l4 2) ||| ((ushL l0 ((52 - (2 * l6)))) &&& 3))), none, some (.int l6), some (.long ((ushL l0 ((52 - (2 * l6)))) &&& 3)), none, some (.long ((shlL l2 2) ||| 1)), none], [], w)) rfl).trans ?_
      refine (val_g (c2 := (118, d, 63, [some (.long l0), none, some (.long (shlL l2 1)), none, some (.long ((shlL l4 2) ||| ((ushL l0 ((52 - (2 * l6)))) &&& 3))), none, some (.int l6), some (.long ((ushL l0 ((52 - (2 * l6)))) &&& 3)), none, some (.long ((shlL l2 2) ||| 1)), none], [.long ((shlL l4 2) ||| ((ushL l0 ((52 - (2 * l6)))) &&& 3))], w)) rfl).trans ?_
      refine (val_g (c2 := (118, d, 65, [some (.long l0), none, some (.long (shlL l2 1)), none, some (.long ((shlL l4 2) ||| ((ushL l0 ((52 - (2 * l6)))) &&& 3))), none, some (.int l6), some (.long ((ushL l0 ((52 - (2 * l6)))) &&& 3)), none, some (.long ((shlL l2 2) ||| 1)), none], [.long ((shlL l2 2) ||| 1), .long ((shlL l4 2) ||| ((ushL l0 ((52 - (2 * l6)))) &&& 3))], w)) rfl).trans ?_
      refine (val_g (c2 := (118, d, 66, [some (.long l0), none, some (.long (shlL l2 1)), none, some (.long ((shlL l4 2) ||| ((ushL l0 ((52 - (2 * l6)))) &&& 3))), none, some (.int l6), some (.long ((ushL l0 ((52 - (2 * l6)))) &&& 3)), none, some (.long ((shlL l2 2) ||| 1)), none], [.int (cmpL (((shlL l4 2) ||| ((ushL l0 ((52 - (2 * l6)))) &&& 3))) (((shlL l2 2) ||| 1)))], w)) rfl).trans ?_
      by_cases hc691 : (cmpL (((shlL l4 2) ||| ((ushL l0 ((52 - (2 * l6)))) &&& 3))) (((shlL l2 2) ||| 1))) < 0
      · refine ((val_if_lt rfl).trans (if_pos hc691)).trans ?_
        show val (118, d, 80, [some (.long l0), none, some (.long (shlL l2 1)), none, some (.long ((shlL l4 2) ||| ((ushL l0 ((52 - (2 * l6)))) &&& 3))), none, some (.int l6), some (.long ((ushL l0 ((52 - (2 * l6)))) &&& 3)), none, some (.long ((shlL l2 2) ||| 1)), none], [], w) = _
        refine Eq.trans ?_ (if_pos hc691).symm
        refine (val_g (c2 := (118, d, 83, [some (.long l0), none, some (.long (shlL l2 1)), none, some (.long ((shlL l4 2) ||| ((ushL l0 ((52 - (2 * l6)))) &&& 3))), none, some (.int (l6 + 1)), some (.long ((ushL l0 ((52 - (2 * l6)))) &&& 3)), none, some (.long ((shlL l2 2) ||| 1)), none], [], w)) rfl).trans ?_
        refine (val_g (c2 := (118, d, 8, [some (.long l0), none, some (.long (shlL l2 1)), none, some (.long ((shlL l4 2) ||| ((ushL l0 ((52 - (2 * l6)))) &&& 3))), none, some (.int (l6 + 1)), some (.long ((ushL l0 ((52 - (2 * l6)))) &&& 3)), none, some (.long ((shlL l2 2) ||| 1)), none], [], w)) rfl).trans ?_
        rfl
      · refine ((val_if_lt rfl).trans (if_neg hc691)).trans ?_
        show val (118, d, 69, [some (.long l0), none, some (.long (shlL l2 1)), none, some (.long ((shlL l4 2) ||| ((ushL l0 ((52 - (2 * l6)))) &&& 3))), none, some (.int l6), some (.long ((ushL l0 ((52 - (2 * l6)))) &&& 3)), none, some (.long ((shlL l2 2) ||| 1)), none], [], w) = _
        refine Eq.trans ?_ (if_neg hc691).symm
        refine (val_g (c2 := (118, d, 71, [some (.long l0), none, some (.long (shlL l2 1)), none, some (.long ((shlL l4 2) ||| ((ushL l0 ((52 - (2 * l6)))) &&& 3))), none, some (.int l6), some (.long ((ushL l0 ((52 - (2 * l6)))) &&& 3)), none, some (.long ((shlL l2 2) ||| 1)), none], [.long ((shlL l4 2) ||| ((ushL l0 ((52 - (2 * l6)))) &&& 3))], w)) rfl).trans ?_
        refine (val_g (c2 := (118, d, 73, [some (.long l0), none, some (.long (shlL l2 1)), none, some (.long ((shlL l4 2) ||| ((ushL l0 ((52 - (2 * l6)))) &&& 3))), none, some (.int l6), some (.long ((ushL l0 ((52 - (2 * l6)))) &&& 3)), none, some (.long ((shlL l2 2) ||| 1)), none], [.long ((shlL l2 2) ||| 1), .long ((shlL l4 2) ||| ((ushL l0 ((52 - (2 * l6)))) &&& 3))], w)) rfl).trans ?_
        refine (val_g (c2 := (118, d, 74, [some (.long l0), none, some (.long (shlL l2 1)), none, some (.long ((shlL l4 2) ||| ((ushL l0 ((52 - (2 * l6)))) &&& 3))), none, some (.int l6), some (.long ((ushL l0 ((52 - (2 * l6)))) &&& 3)), none, some (.long ((shlL l2 2) ||| 1)), none], [.long (((shlL l4 2) ||| ((ushL l0 ((52 - (2 * l6)))) &&& 3)) - ((shlL l2 2) ||| 1))], w)) rfl).trans ?_
        refine (val_g (c2 := (118, d, 76, [some (.long l0), none, some (.long (shlL l2 1)), none, some (.long (((shlL l4 2) ||| ((ushL l0 ((52 - (2 * l6)))) &&& 3)) - ((shlL l2 2) ||| 1))), none, some (.int l6), some (.long ((ushL l0 ((52 - (2 * l6)))) &&& 3)), none, some (.long ((shlL l2 2) ||| 1)), none], [], w)) rfl).trans ?_
        refine (val_g (c2 := (118, d, 77, [some (.long l0), none, some (.long (shlL l2 1)), none, some (.long (((shlL l4 2) ||| ((ushL l0 ((52 - (2 * l6)))) &&& 3)) - ((shlL l2 2) ||| 1))), none, some (.int l6), some (.long ((ushL l0 ((52 - (2 * l6)))) &&& 3)), none, some (.long ((shlL l2 2) ||| 1)), none], [.long (shlL l2 1)], w)) rfl).trans ?_
        refine (val_g (c2 := (118, d, 78, [some (.long l0), none, some (.long (shlL l2 1)), none, some (.long (((shlL l4 2) ||| ((ushL l0 ((52 - (2 * l6)))) &&& 3)) - ((shlL l2 2) ||| 1))), none, some (.int l6), some (.long ((ushL l0 ((52 - (2 * l6)))) &&& 3)), none, some (.long ((shlL l2 2) ||| 1)), none], [.long 1, .long (shlL l2 1)], w)) rfl).trans ?_
        refine (val_g (c2 := (118, d, 79, [some (.long l0), none, some (.long (shlL l2 1)), none, some (.long (((shlL l4 2) ||| ((ushL l0 ((52 - (2 * l6)))) &&& 3)) - ((shlL l2 2) ||| 1))), none, some (.int l6), some (.long ((ushL l0 ((52 - (2 * l6)))) &&& 3)), none, some (.long ((shlL l2 2) ||| 1)), none], [.long ((shlL l2 1) ||| 1)], w)) rfl).trans ?_
        refine (val_g (c2 := (118, d, 80, [some (.long l0), none, some (.long ((shlL l2 1) ||| 1)), none, some (.long (((shlL l4 2) ||| ((ushL l0 ((52 - (2 * l6)))) &&& 3)) - ((shlL l2 2) ||| 1))), none, some (.int l6), some (.long ((ushL l0 ((52 - (2 * l6)))) &&& 3)), none, some (.long ((shlL l2 2) ||| 1)), none], [], w)) rfl).trans ?_
        refine (val_g (c2 := (118, d, 83, [some (.long l0), none, some (.long ((shlL l2 1) ||| 1)), none, some (.long (((shlL l4 2) ||| ((ushL l0 ((52 - (2 * l6)))) &&& 3)) - ((shlL l2 2) ||| 1))), none, some (.int (l6 + 1)), some (.long ((ushL l0 ((52 - (2 * l6)))) &&& 3)), none, some (.long ((shlL l2 2) ||| 1)), none], [], w)) rfl).trans ?_
        refine (val_g (c2 := (118, d, 8, [some (.long l0), none, some (.long ((shlL l2 1) ||| 1)), none, some (.long (((shlL l4 2) ||| ((ushL l0 ((52 - (2 * l6)))) &&& 3)) - ((shlL l2 2) ||| 1))), none, some (.int (l6 + 1)), some (.long ((ushL l0 ((52 - (2 * l6)))) &&& 3)), none, some (.long ((shlL l2 2) ||| 1)), none], [], w)) rfl).trans ?_
        rfl
/-- BelfryHouse$Reals.whole(J)J -/
theorem tr_119 (d : Nat) (w : Wd) (x0 : Int64)     : val (119, d + 2, 0, [some (.long x0), none, none, none, none, none, none], [], w) = (if (fn_97 x0) = 0 then (if (fn_103 x0) < 1075 then (if 1022 ≤ (fn_103 x0) then (if ¬ (fn_103 x0) = 1022 then (if ¬ (cmpL (((x0 + (ushL ((shlL 1 ((1075 - (fn_103 x0))))) 1)) &&& ((shlL 1 ((1075 - (fn_103 x0)))) - 1))) 0) = 0 then some (some (.long ((x0 + (ushL ((shlL 1 ((1075 - (fn_103 x0))))) 1)) &&& (((shlL 1 ((1075 - (fn_103 x0)))) - 1) ^^^ (-1)))), w) else some (some (.long ((x0 + (ushL ((shlL 1 ((1075 - (fn_103 x0))))) 1)) &&& ((shlL 1 ((1075 - (fn_103 x0)))) ^^^ (-1)))), w)) else (if ¬ (cmpL ((x0 &&& 4503599627370495)) 0) = 0 then some (some (.long ((x0 &&& (-9223372036854775808)) ||| 4607182418800017408)), w) else some (some (.long (x0 &&& (-9223372036854775808))), w))) else some (some (.long (x0 &&& (-9223372036854775808))), w)) else some (some (.long x0), w)) else some (some (.long 9221120237041090560), w)) := by
  refine (val_g (c2 := (119, d + 2, 1, [some (.long x0), none, none, none, none, none, none], [.long x0], w)) rfl).trans ?_
  refine (val_call (w1 := w) (pc2 := 4) rfl rfl rfl rfl rfl (Nat.le_of_ble_eq_true rfl) (Nat.le_of_ble_eq_true rfl) rfl (ev_97 (d) w x0) rfl).trans ?_
  show val (119, d + 2, 4, [some (.long x0), none, none, none, none, none, none], [.int (fn_97 x0)], w) = _
  by_cases hc698 : (fn_97 x0) = 0
  · refine ((val_if_eq rfl).trans (if_pos hc698)).trans ?_
    show val (119, d + 2, 11, [some (.long x0), none, none, none, none, none, none], [], w) = _
    refine Eq.trans ?_ (if_pos hc698).symm
    refine (val_g (c2 := (119, d + 2, 12, [some (.long x0), none, none, none, none, none, none], [.long x0], w)) rfl).trans ?_
    refine (val_call (w1 := w) (pc2 := 15) rfl rfl rfl rfl rfl (Nat.le_of_ble_eq_true rfl) (Nat.le_of_ble_eq_true rfl) rfl (ev_103 (d + 1) w x0) rfl).trans ?_
    show val (119, d + 2, 15, [some (.long x0), none, none, none, none, none, none], [.int (fn_103 x0)], w) = _
    refine (val_g (c2 := (119, d + 2, 16, [some (.long x0), none, some (.int (fn_103 x0)), none, none, none, none], [], w)) rfl).trans ?_
    refine (val_g (c2 := (119, d + 2, 17, [some (.long x0), none, some (.int (fn_103 x0)), none, none, none, none], [.int (fn_103 x0)], w)) rfl).trans ?_
    refine (val_g (c2 := (119, d + 2, 20, [some (.long x0), none, some (.int (fn_103 x0)), none, none, none, none], [.int 1075, .int (fn_103 x0)], w)) rfl).trans ?_
    by_cases hc699 : (fn_103 x0) < 1075
    · refine ((val_ic_lt rfl).trans (if_pos hc699)).trans ?_
      show val (119, d + 2, 25, [some (.long x0), none, some (.int (fn_103 x0)), none, none, none, none], [], w) = _
      refine Eq.trans ?_ (if_pos hc699).symm
      refine (val_g (c2 := (119, d + 2, 26, [some (.long x0), none, some (.int (fn_103 x0)), none, none, none, none], [.int (fn_103 x0)], w)) rfl).trans ?_
      refine (val_g (c2 := (119, d + 2, 29, [some (.long x0), none, some (.int (fn_103 x0)), none, none, none, none], [.int 1022, .int (fn_103 x0)], w)) rfl).trans ?_
      by_cases hc700 : 1022 ≤ (fn_103 x0)
      · refine ((val_ic_ge rfl).trans (if_pos hc700)).trans ?_
        show val (119, d + 2, 38, [some (.long x0), none, some (.int (fn_103 x0)), none, none, none, none], [], w) = _
        refine Eq.trans ?_ (if_pos hc700).symm
        refine (val_g (c2 := (119, d + 2, 39, [some (.long x0), none, some (.int (fn_103 x0)), none, none, none, none], [.int (fn_103 x0)], w)) rfl).trans ?_
        refine (val_g (c2 := (119, d + 2, 42, [some (.long x0), none, some (.int (fn_103 x0)), none, none, none, none], [.int 1022, .int (fn_103 x0)], w)) rfl).trans ?_
        by_cases hc701 : ¬ (fn_103 x0) = 1022
        · refine ((val_ic_ne rfl).trans (if_pos hc701)).trans ?_
          show val (119, d + 2, 73, [some (.long x0), none, some (.int (fn_103 x0)), none, none, none, none], [], w) = _
          refine Eq.trans ?_ (if_pos hc701).symm
          refine (val_g (c2 := (119, d + 2, 74, [some (.long x0), none, some (.int (fn_103 x0)), none, none, none, none], [.long 1], w)) rfl).trans ?_
          refine (val_g (c2 := (119, d + 2, 77, [some (.long x0), none, some (.int (fn_103 x0)), none, none, none, none], [.int 1075, .long 1], w)) rfl).trans ?_
          refine (val_g (c2 := (119, d + 2, 78, [some (.long x0), none, some (.int (fn_103 x0)), none, none, none, none], [.int (fn_103 x0), .int 1075, .long 1], w)) rfl).trans ?_
          refine (val_g (c2 := (119, d + 2, 79, [some (.long x0), none, some (.int (fn_103 x0)), none, none, none, none], [.int (1075 - (fn_103 x0)), .long 1], w)) rfl).trans ?_
          refine (val_g (c2 := (119, d + 2, 80, [some (.long x0), none, some (.int (fn_103 x0)), none, none, none, none], [.long (shlL 1 ((1075 - (fn_103 x0))))], w)) rfl).trans ?_
          refine (val_g (c2 := (119, d + 2, 81, [some (.long x0), none, some (.int (fn_103 x0)), some (.long (shlL 1 ((1075 - (fn_103 x0))))), none, none, none], [], w)) rfl).trans ?_
          refine (val_g (c2 := (119, d + 2, 82, [some (.long x0), none, some (.int (fn_103 x0)), some (.long (shlL 1 ((1075 - (fn_103 x0))))), none, none, none], [.long x0], w)) rfl).trans ?_
          refine (val_g (c2 := (119, d + 2, 83, [some (.long x0), none, some (.int (fn_103 x0)), some (.long (shlL 1 ((1075 - (fn_103 x0))))), none, none, none], [.long (shlL 1 ((1075 - (fn_103 x0)))), .long x0], w)) rfl).trans ?_
          refine (val_g (c2 := (119, d + 2, 84, [some (.long x0), none, some (.int (fn_103 x0)), some (.long (shlL 1 ((1075 - (fn_103 x0))))), none, none, none], [.int 1, .long (shlL 1 ((1075 - (fn_103 x0)))), .long x0], w)) rfl).trans ?_
          refine (val_g (c2 := (119, d + 2, 85, [some (.long x0), none, some (.int (fn_103 x0)), some (.long (shlL 1 ((1075 - (fn_103 x0))))), none, none, none], [.long (ushL ((shlL 1 ((1075 - (fn_103 x0))))) 1), .long x0], w)) rfl).trans ?_
          refine (val_g (c2 := (119, d + 2, 86, [some (.long x0), none, some (.int (fn_103 x0)), some (.long (shlL 1 ((1075 - (fn_103 x0))))), none, none, none], [.long (x0 + (ushL ((shlL 1 ((1075 - (fn_103 x0))))) 1))], w)) rfl).trans ?_
          refine (val_g (c2 := (119, d + 2, 88, [some (.long x0), none, some (.int (fn_103 x0)), some (.long (shlL 1 ((1075 - (fn_103 x0))))), none, some (.long (x0 + (ushL ((shlL 1 ((1075 - (fn_103 x0))))) 1))), none], [], w)) rfl).trans ?_
          refine (val_g (c2 := (119, d + 2, 90, [some (.long x0), none, some (.int (fn_103 x0)), some (.long (shlL 1 ((1075 - (fn_103 x0))))), none, some (.long (x0 + (ushL ((shlL 1 ((1075 - (fn_103 x0))))) 1))), none], [.long (x0 + (ushL ((shlL 1 ((1075 - (fn_103 x0))))) 1))], w)) rfl).trans ?_
          refine (val_g (c2 := (119, d + 2, 91, [some (.long x0), none, some (.int (fn_103 x0)), some (.long (shlL 1 ((1075 - (fn_103 x0))))), none, some (.long (x0 + (ushL ((shlL 1 ((1075 - (fn_103 x0))))) 1))), none], [.long (shlL 1 ((1075 - (fn_103 x0)))), .long (x0 + (ushL ((shlL 1 ((1075 - (fn_103 x0))))) 1))], w)) rfl).trans ?_
          refine (val_g (c2 := (119, d + 2, 92, [some (.long x0), none, some (.int (fn_103 x0)), some (.long (shlL 1 ((1075 - (fn_103 x0))))), none, some (.long (x0 + (ushL ((shlL 1 ((1075 - (fn_103 x0))))) 1))), none], [.long 1, .long (shlL 1 ((1075 - (fn_103 x0)))), .long (x0 + (ushL ((shlL 1 ((1075 - (fn_103 x0))))) 1))], w)) rfl).trans ?_
          refine (val_g (c2 := (119, d + 2, 93, [some (.long x0), none, some (.int (fn_103 x0)), some (.long (shlL 1 ((1075 - (fn_103 x0))))), none, some (.long (x0 + (ushL ((shlL 1 ((1075 - (fn_103 x0))))) 1))), none], [.long ((shlL 1 ((1075 - (fn_103 x0)))) - 1), .long (x0 + (ushL ((shlL 1 ((1075 - (fn_103 x0))))) 1))], w)) rfl).trans ?_
          refine (val_g (c2 := (119, d + 2, 94, [some (.long x0), none, some (.int (fn_103 x0)), some (.long (shlL 1 ((1075 - (fn_103 x0))))), none, some (.long (x0 + (ushL ((shlL 1 ((1075 - (fn_103 x0))))) 1))), none], [.long ((x0 + (ushL ((shlL 1 ((1075 - (fn_103 x0))))) 1)) &&& ((shlL 1 ((1075 - (fn_103 x0)))) - 1))], w)) rfl).trans ?_
          refine (val_g (c2 := (119, d + 2, 95, [some (.long x0), none, some (.int (fn_103 x0)), some (.long (shlL 1 ((1075 - (fn_103 x0))))), none, some (.long (x0 + (ushL ((shlL 1 ((1075 - (fn_103 x0))))) 1))), none], [.long 0, .long ((x0 + (ushL ((shlL 1 ((1075 - (fn_103 x0))))) 1)) &&& ((shlL 1 ((1075 - (fn_103 x0)))) - 1))], w)) rfl).trans ?_
          refine (val_g (c2 := (119, d + 2, 96, [some (.long x0), none, some (.int (fn_103 x0)), some (.long (shlL 1 ((1075 - (fn_103 x0))))), none, some (.long (x0 + (ushL ((shlL 1 ((1075 - (fn_103 x0))))) 1))), none], [.int (cmpL (((x0 + (ushL ((shlL 1 ((1075 - (fn_103 x0))))) 1)) &&& ((shlL 1 ((1075 - (fn_103 x0)))) - 1))) 0)], w)) rfl).trans ?_
          by_cases hc702 : ¬ (cmpL (((x0 + (ushL ((shlL 1 ((1075 - (fn_103 x0))))) 1)) &&& ((shlL 1 ((1075 - (fn_103 x0)))) - 1))) 0) = 0
          · refine ((val_if_ne rfl).trans (if_pos hc702)).trans ?_
            show val (119, d + 2, 110, [some (.long x0), none, some (.int (fn_103 x0)), some (.long (shlL 1 ((1075 - (fn_103 x0))))), none, some (.long (x0 + (ushL ((shlL 1 ((1075 - (fn_103 x0))))) 1))), none], [], w) = _
            refine Eq.trans ?_ (if_pos hc702).symm
            refine (val_g (c2 := (119, d + 2, 112, [some (.long x0), none, some (.int (fn_103 x0)), some (.long (shlL 1 ((1075 - (fn_103 x0))))), none, some (.long (x0 + (ushL ((shlL 1 ((1075 - (fn_103 x0))))) 1))), none], [.long (x0 + (ushL ((shlL 1 ((1075 - (fn_103 x0))))) 1))], w)) rfl).trans ?_
            refine (val_g (c2 := (119, d + 2, 113, [some (.long x0), none, some (.int (fn_103 x0)), some (.long (shlL 1 ((1075 - (fn_103 x0))))), none, some (.long (x0 + (ushL ((shlL 1 ((1075 - (fn_103 x0))))) 1))), none], [.long (shlL 1 ((1075 - (fn_103 x0)))), .long (x0 + (ushL ((shlL 1 ((1075 - (fn_103 x0))))) 1))], w)) rfl).trans ?_
            refine (val_g (c2 := (119, d + 2, 114, [some (.long x0), none, some (.int (fn_103 x0)), some (.long (shlL 1 ((1075 - (fn_103 x0))))), none, some (.long (x0 + (ushL ((shlL 1 ((1075 - (fn_103 x0))))) 1))), none], [.long 1, .long (shlL 1 ((1075 - (fn_103 x0)))), .long (x0 + (ushL ((shlL 1 ((1075 - (fn_103 x0))))) 1))], w)) rfl).trans ?_
            refine (val_g (c2 := (119, d + 2, 115, [some (.long x0), none, some (.int (fn_103 x0)), some (.long (shlL 1 ((1075 - (fn_103 x0))))), none, some (.long (x0 + (ushL ((shlL 1 ((1075 - (fn_103 x0))))) 1))), none], [.long ((shlL 1 ((1075 - (fn_103 x0)))) - 1), .long (x0 + (ushL ((shlL 1 ((1075 - (fn_103 x0))))) 1))], w)) rfl).trans ?_
            refine (val_g (c2 := (119, d + 2, 118, [some (.long x0), none, some (.int (fn_103 x0)), some (.long (shlL 1 ((1075 - (fn_103 x0))))), none, some (.long (x0 + (ushL ((shlL 1 ((1075 - (fn_103 x0))))) 1))), none], [.long (-1), .long ((shlL 1 ((1075 - (fn_103 x0)))) - 1), .long (x0 + (ushL ((shlL 1 ((1075 - (fn_103 x0))))) 1))], w)) rfl).trans ?_
            refine (val_g (c2 := (119, d + 2, 119, [some (.long x0), none, some (.int (fn_103 x0)), some (.long (shlL 1 ((1075 - (fn_103 x0))))), none, some (.long (x0 + (ushL ((shlL 1 ((1075 - (fn_103 x0))))) 1))), none], [.long (((shlL 1 ((1075 - (fn_103 x0)))) - 1) ^^^ (-1)), .long (x0 + (ushL ((shlL 1 ((1075 - (fn_103 x0))))) 1))], w)) rfl).trans ?_
            refine (val_g (c2 := (119, d + 2, 120, [some (.long x0), none, some (.int (fn_103 x0)), some (.long (shlL 1 ((1075 - (fn_103 x0))))), none, some (.long (x0 + (ushL ((shlL 1 ((1075 - (fn_103 x0))))) 1))), none], [.long ((x0 + (ushL ((shlL 1 ((1075 - (fn_103 x0))))) 1)) &&& (((shlL 1 ((1075 - (fn_103 x0)))) - 1) ^^^ (-1)))], w)) rfl).trans ?_
            exact val_r rfl
          · refine ((val_if_ne rfl).trans (if_neg hc702)).trans ?_
            show val (119, d + 2, 99, [some (.long x0), none, some (.int (fn_103 x0)), some (.long (shlL 1 ((1075 - (fn_103 x0))))), none, some (.long (x0 + (ushL ((shlL 1 ((1075 - (fn_103 x0))))) 1))), none], [], w) = _
            refine Eq.trans ?_ (if_neg hc702).symm
            refine (val_g (c2 := (119, d + 2, 101, [some (.long x0), none, some (.int (fn_103 x0)), some (.long (shlL 1 ((1075 - (fn_103 x0))))), none, some (.long (x0 + (ushL ((shlL 1 ((1075 - (fn_103 x0))))) 1))), none], [.long (x0 + (ushL ((shlL 1 ((1075 - (fn_103 x0))))) 1))], w)) rfl).trans ?_
            refine (val_g (c2 := (119, d + 2, 102, [some (.long x0), none, some (.int (fn_103 x0)), some (.long (shlL 1 ((1075 - (fn_103 x0))))), none, some (.long (x0 + (ushL ((shlL 1 ((1075 - (fn_103 x0))))) 1))), none], [.long (shlL 1 ((1075 - (fn_103 x0)))), .long (x0 + (ushL ((shlL 1 ((1075 - (fn_103 x0))))) 1))], w)) rfl).trans ?_
            refine (val_g (c2 := (119, d + 2, 105, [some (.long x0), none, some (.int (fn_103 x0)), some (.long (shlL 1 ((1075 - (fn_103 x0))))), none, some (.long (x0 + (ushL ((shlL 1 ((1075 - (fn_103 x0))))) 1))), none], [.long (-1), .long (shlL 1 ((1075 - (fn_103 x0)))), .long (x0 + (ushL ((shlL 1 ((1075 - (fn_103 x0))))) 1))], w)) rfl).trans ?_
            refine (val_g (c2 := (119, d + 2, 106, [some (.long x0), none, some (.int (fn_103 x0)), some (.long (shlL 1 ((1075 - (fn_103 x0))))), none, some (.long (x0 + (ushL ((shlL 1 ((1075 - (fn_103 x0))))) 1))), none], [.long ((shlL 1 ((1075 - (fn_103 x0)))) ^^^ (-1)), .long (x0 + (ushL ((shlL 1 ((1075 - (fn_103 x0))))) 1))], w)) rfl).trans ?_
            refine (val_g (c2 := (119, d + 2, 107, [some (.long x0), none, some (.int (fn_103 x0)), some (.long (shlL 1 ((1075 - (fn_103 x0))))), none, some (.long (x0 + (ushL ((shlL 1 ((1075 - (fn_103 x0))))) 1))), none], [.long ((x0 + (ushL ((shlL 1 ((1075 - (fn_103 x0))))) 1)) &&& ((shlL 1 ((1075 - (fn_103 x0)))) ^^^ (-1)))], w)) rfl).trans ?_
            refine (val_g (c2 := (119, d + 2, 120, [some (.long x0), none, some (.int (fn_103 x0)), some (.long (shlL 1 ((1075 - (fn_103 x0))))), none, some (.long (x0 + (ushL ((shlL 1 ((1075 - (fn_103 x0))))) 1))), none], [.long ((x0 + (ushL ((shlL 1 ((1075 - (fn_103 x0))))) 1)) &&& ((shlL 1 ((1075 - (fn_103 x0)))) ^^^ (-1)))], w)) rfl).trans ?_
            exact val_r rfl
        · refine ((val_ic_ne rfl).trans (if_neg hc701)).trans ?_
          show val (119, d + 2, 45, [some (.long x0), none, some (.int (fn_103 x0)), none, none, none, none], [], w) = _
          refine Eq.trans ?_ (if_neg hc701).symm
          refine (val_g (c2 := (119, d + 2, 46, [some (.long x0), none, some (.int (fn_103 x0)), none, none, none, none], [.long x0], w)) rfl).trans ?_
          refine (val_g (c2 := (119, d + 2, 49, [some (.long x0), none, some (.int (fn_103 x0)), none, none, none, none], [.long 4503599627370495, .long x0], w)) rfl).trans ?_
          refine (val_g (c2 := (119, d + 2, 50, [some (.long x0), none, some (.int (fn_103 x0)), none, none, none, none], [.long (x0 &&& 4503599627370495)], w)) rfl).trans ?_
          refine (val_g (c2 := (119, d + 2, 51, [some (.long x0), none, some (.int (fn_103 x0)), none, none, none, none], [.long 0, .long (x0 &&& 4503599627370495)], w)) rfl).trans ?_
          refine (val_g (c2 := (119, d + 2, 52, [some (.long x0), none, some (.int (fn_103 x0)), none, none, none, none], [.int (cmpL ((x0 &&& 4503599627370495)) 0)], w)) rfl).trans ?_
          by_cases hc703 : ¬ (cmpL ((x0 &&& 4503599627370495)) 0) = 0
          · refine ((val_if_ne rfl).trans (if_pos hc703)).trans ?_
            show val (119, d + 2, 63, [some (.long x0), none, some (.int (fn_103 x0)), none, none, none, none], [], w) = _
            refine Eq.trans ?_ (if_pos hc703).symm
            refine (val_g (c2 := (119, d + 2, 64, [some (.long x0), none, some (.int (fn_103 x0)), none, none, none, none], [.long x0], w)) rfl).trans ?_
            refine (val_g (c2 := (119, d + 2, 67, [some (.long x0), none, some (.int (fn_103 x0)), none, none, none, none], [.long (-9223372036854775808), .long x0], w)) rfl).trans ?_
            refine (val_g (c2 := (119, d + 2, 68, [some (.long x0), none, some (.int (fn_103 x0)), none, none, none, none], [.long (x0 &&& (-9223372036854775808))], w)) rfl).trans ?_
            refine (val_g (c2 := (119, d + 2, 71, [some (.long x0), none, some (.int (fn_103 x0)), none, none, none, none], [.long 4607182418800017408, .long (x0 &&& (-9223372036854775808))], w)) rfl).trans ?_
            refine (val_g (c2 := (119, d + 2, 72, [some (.long x0), none, some (.int (fn_103 x0)), none, none, none, none], [.long ((x0 &&& (-9223372036854775808)) ||| 4607182418800017408)], w)) rfl).trans ?_
            exact val_r rfl
          · refine ((val_if_ne rfl).trans (if_neg hc703)).trans ?_
            show val (119, d + 2, 55, [some (.long x0), none, some (.int (fn_103 x0)), none, none, none, none], [], w) = _
            refine Eq.trans ?_ (if_neg hc703).symm
            refine (val_g (c2 := (119, d + 2, 56, [some (.long x0), none, some (.int (fn_103 x0)), none, none, none, none], [.long x0], w)) rfl).trans ?_
            refine (val_g (c2 := (119, d + 2, 59, [some (.long x0), none, some (.int (fn_103 x0)), none, none, none, none], [.long (-9223372036854775808), .long x0], w)) rfl).trans ?_
            refine (val_g (c2 := (119, d + 2, 60, [some (.long x0), none, some (.int (fn_103 x0)), none, none, none, none], [.long (x0 &&& (-9223372036854775808))], w)) rfl).trans ?_
            refine (val_g (c2 := (119, d + 2, 72, [some (.long x0), none, some (.int (fn_103 x0)), none, none, none, none], [.long (x0 &&& (-9223372036854775808))], w)) rfl).trans ?_
            exact val_r rfl
      · refine ((val_ic_ge rfl).trans (if_neg hc700)).trans ?_
        show val (119, d + 2, 32, [some (.long x0), none, some (.int (fn_103 x0)), none, none, none, none], [], w) = _
        refine Eq.trans ?_ (if_neg hc700).symm
        refine (val_g (c2 := (119, d + 2, 33, [some (.long x0), none, some (.int (fn_103 x0)), none, none, none, none], [.long x0], w)) rfl).trans ?_
        refine (val_g (c2 := (119, d + 2, 36, [some (.long x0), none, some (.int (fn_103 x0)), none, none, none, none], [.long (-9223372036854775808), .long x0], w)) rfl).trans ?_
        refine (val_g (c2 := (119, d + 2, 37, [some (.long x0), none, some (.int (fn_103 x0)), none, none, none, none], [.long (x0 &&& (-9223372036854775808))], w)) rfl).trans ?_
        exact val_r rfl
    · refine ((val_ic_lt rfl).trans (if_neg hc699)).trans ?_
      show val (119, d + 2, 23, [some (.long x0), none, some (.int (fn_103 x0)), none, none, none, none], [], w) = _
      refine Eq.trans ?_ (if_neg hc699).symm
      refine (val_g (c2 := (119, d + 2, 24, [some (.long x0), none, some (.int (fn_103 x0)), none, none, none, none], [.long x0], w)) rfl).trans ?_
      exact val_r rfl
  · refine ((val_if_eq rfl).trans (if_neg hc698)).trans ?_
    show val (119, d + 2, 7, [some (.long x0), none, none, none, none, none, none], [], w) = _
    refine Eq.trans ?_ (if_neg hc698).symm
    refine (val_g (c2 := (119, d + 2, 10, [some (.long x0), none, none, none, none, none, none], [.long 9221120237041090560], w)) rfl).trans ?_
    exact val_r rfl
/-- BelfryHouse$Recording.<init>()V -/
theorem tr_120 (d : Nat) (w : Wd)      : val (120, d + 1, 0, [some (.ref 91)], [], w) = val (120, d + 1, 8, [some (.ref 91)], [.int 300, .ref 91], w) := by
  refine (val_g (c2 := (120, d + 1, 1, [some (.ref 91)], [.ref 91], w)) rfl).trans ?_
  refine (val_g (c2 := (120, d + 1, 4, [some (.ref 91)], [], w)) rfl).trans ?_
  refine (val_g (c2 := (120, d + 1, 5, [some (.ref 91)], [.ref 91], w)) rfl).trans ?_
  refine (val_g (c2 := (120, d + 1, 8, [some (.ref 91)], [.int 300, .ref 91], w)) rfl).trans ?_
  rfl
theorem tr_120_13 (d : Nat) (w : Wd)      : val (120, d + 1, 13, [some (.ref 91)], [], w) = val (120, d + 1, 17, [some (.ref 91)], [.int 300, .ref 91], w) := by
  refine (val_g (c2 := (120, d + 1, 14, [some (.ref 91)], [.ref 91], w)) rfl).trans ?_
  refine (val_g (c2 := (120, d + 1, 17, [some (.ref 91)], [.int 300, .ref 91], w)) rfl).trans ?_
  rfl
theorem tr_120_22 (d : Nat) (w : Wd)      : val (120, d + 1, 22, [some (.ref 91)], [], w) = val (120, d + 1, 26, [some (.ref 91)], [.int 300, .ref 91], w) := by
  refine (val_g (c2 := (120, d + 1, 23, [some (.ref 91)], [.ref 91], w)) rfl).trans ?_
  refine (val_g (c2 := (120, d + 1, 26, [some (.ref 91)], [.int 300, .ref 91], w)) rfl).trans ?_
  rfl
theorem tr_120_31 (d : Nat) (w : Wd)      : val (120, d + 1, 31, [some (.ref 91)], [], w) = val (120, d + 1, 35, [some (.ref 91)], [.int 300, .ref 91], w) := by
  refine (val_g (c2 := (120, d + 1, 32, [some (.ref 91)], [.ref 91], w)) rfl).trans ?_
  refine (val_g (c2 := (120, d + 1, 35, [some (.ref 91)], [.int 300, .ref 91], w)) rfl).trans ?_
  rfl
theorem tr_120_40 (d : Nat) (w : Wd) (hW : Fix w)      : val (120, d + 1, 40, [some (.ref 91)], [], w) = some (none, (sL ((sL ((sL ((sL ((sI ((sI ((sI w 91 4 0)) 91 5 0)) 91 6 0)) 91 7 0)) 91 8 0)) 91 9 0)) 91 10 0)) := by
  refine (val_g (c2 := (120, d + 1, 41, [some (.ref 91)], [.ref 91], w)) rfl).trans ?_
  refine (val_g (c2 := (120, d + 1, 42, [some (.ref 91)], [.int 0, .ref 91], w)) rfl).trans ?_
  refine (val_pf rfl (hW.k 91 (Nat.le_of_ble_eq_true rfl) (Nat.le_of_ble_eq_true rfl)) rfl).trans ?_
  show val (120, d + 1, 45, [some (.ref 91)], [], (sI w 91 4 0)) = _
  refine (val_g (c2 := (120, d + 1, 46, [some (.ref 91)], [.ref 91], (sI w 91 4 0))) rfl).trans ?_
  refine (val_g (c2 := (120, d + 1, 47, [some (.ref 91)], [.int 0, .ref 91], (sI w 91 4 0))) rfl).trans ?_
  refine (val_pf (w := (sI w 91 4 0)) rfl (hW.k 91 (Nat.le_of_ble_eq_true rfl) (Nat.le_of_ble_eq_true rfl)) rfl).trans ?_
  show val (120, d + 1, 50, [some (.ref 91)], [], (sI ((sI w 91 4 0)) 91 5 0)) = _
  refine (val_g (c2 := (120, d + 1, 51, [some (.ref 91)], [.ref 91], (sI ((sI w 91 4 0)) 91 5 0))) rfl).trans ?_
  refine (val_g (c2 := (120, d + 1, 52, [some (.ref 91)], [.int 0, .ref 91], (sI ((sI w 91 4 0)) 91 5 0))) rfl).trans ?_
  refine (val_pf (w := (sI ((sI w 91 4 0)) 91 5 0)) rfl (hW.k 91 (Nat.le_of_ble_eq_true rfl) (Nat.le_of_ble_eq_true rfl)) rfl).trans ?_
  show val (120, d + 1, 55, [some (.ref 91)], [], (sI ((sI ((sI w 91 4 0)) 91 5 0)) 91 6 0)) = _
  refine (val_g (c2 := (120, d + 1, 56, [some (.ref 91)], [.ref 91], (sI ((sI ((sI w 91 4 0)) 91 5 0)) 91 6 0))) rfl).trans ?_
  refine (val_g (c2 := (120, d + 1, 57, [some (.ref 91)], [.long 0, .ref 91], (sI ((sI ((sI w 91 4 0)) 91 5 0)) 91 6 0))) rfl).trans ?_
  refine (val_pf (w := (sI ((sI ((sI w 91 4 0)) 91 5 0)) 91 6 0)) rfl (hW.k 91 (Nat.le_of_ble_eq_true rfl) (Nat.le_of_ble_eq_true rfl)) rfl).trans ?_
  show val (120, d + 1, 60, [some (.ref 91)], [], (sL ((sI ((sI ((sI w 91 4 0)) 91 5 0)) 91 6 0)) 91 7 0)) = _
  refine (val_g (c2 := (120, d + 1, 61, [some (.ref 91)], [.ref 91], (sL ((sI ((sI ((sI w 91 4 0)) 91 5 0)) 91 6 0)) 91 7 0))) rfl).trans ?_
  refine (val_g (c2 := (120, d + 1, 62, [some (.ref 91)], [.long 0, .ref 91], (sL ((sI ((sI ((sI w 91 4 0)) 91 5 0)) 91 6 0)) 91 7 0))) rfl).trans ?_
  refine (val_pf (w := (sL ((sI ((sI ((sI w 91 4 0)) 91 5 0)) 91 6 0)) 91 7 0)) rfl (hW.k 91 (Nat.le_of_ble_eq_true rfl) (Nat.le_of_ble_eq_true rfl)) rfl).trans ?_
  show val (120, d + 1, 65, [some (.ref 91)], [], (sL ((sL ((sI ((sI ((sI w 91 4 0)) 91 5 0)) 91 6 0)) 91 7 0)) 91 8 0)) = _
  refine (val_g (c2 := (120, d + 1, 66, [some (.ref 91)], [.ref 91], (sL ((sL ((sI ((sI ((sI w 91 4 0)) 91 5 0)) 91 6 0)) 91 7 0)) 91 8 0))) rfl).trans ?_
  refine (val_g (c2 := (120, d + 1, 67, [some (.ref 91)], [.long 0, .ref 91], (sL ((sL ((sI ((sI ((sI w 91 4 0)) 91 5 0)) 91 6 0)) 91 7 0)) 91 8 0))) rfl).trans ?_
  refine (val_pf (w := (sL ((sL ((sI ((sI ((sI w 91 4 0)) 91 5 0)) 91 6 0)) 91 7 0)) 91 8 0)) rfl (hW.k 91 (Nat.le_of_ble_eq_true rfl) (Nat.le_of_ble_eq_true rfl)) rfl).trans ?_
  show val (120, d + 1, 70, [some (.ref 91)], [], (sL ((sL ((sL ((sI ((sI ((sI w 91 4 0)) 91 5 0)) 91 6 0)) 91 7 0)) 91 8 0)) 91 9 0)) = _
  refine (val_g (c2 := (120, d + 1, 71, [some (.ref 91)], [.ref 91], (sL ((sL ((sL ((sI ((sI ((sI w 91 4 0)) 91 5 0)) 91 6 0)) 91 7 0)) 91 8 0)) 91 9 0))) rfl).trans ?_
  refine (val_g (c2 := (120, d + 1, 72, [some (.ref 91)], [.long 0, .ref 91], (sL ((sL ((sL ((sI ((sI ((sI w 91 4 0)) 91 5 0)) 91 6 0)) 91 7 0)) 91 8 0)) 91 9 0))) rfl).trans ?_
  refine (val_pf (w := (sL ((sL ((sL ((sI ((sI ((sI w 91 4 0)) 91 5 0)) 91 6 0)) 91 7 0)) 91 8 0)) 91 9 0)) rfl (hW.k 91 (Nat.le_of_ble_eq_true rfl) (Nat.le_of_ble_eq_true rfl)) rfl).trans ?_
  show val (120, d + 1, 75, [some (.ref 91)], [], (sL ((sL ((sL ((sL ((sI ((sI ((sI w 91 4 0)) 91 5 0)) 91 6 0)) 91 7 0)) 91 8 0)) 91 9 0)) 91 10 0)) = _
  exact val_r rfl
/-- BelfryHouse$Recording.erase()V -/
theorem tr_121 (d : Nat) (w : Wd) (hW : Fix w)      : val (121, d, 0, [some (.ref 91)], [], w) = some (none, (sI ((sI ((sI w 91 4 0)) 91 5 0)) 91 6 0)) := by
  refine (val_g (c2 := (121, d, 1, [some (.ref 91)], [.ref 91], w)) rfl).trans ?_
  refine (val_g (c2 := (121, d, 2, [some (.ref 91)], [.int 0, .ref 91], w)) rfl).trans ?_
  refine (val_pf rfl (hW.k 91 (Nat.le_of_ble_eq_true rfl) (Nat.le_of_ble_eq_true rfl)) rfl).trans ?_
  show val (121, d, 5, [some (.ref 91)], [], (sI w 91 4 0)) = _
  refine (val_g (c2 := (121, d, 6, [some (.ref 91)], [.ref 91], (sI w 91 4 0))) rfl).trans ?_
  refine (val_g (c2 := (121, d, 7, [some (.ref 91)], [.int 0, .ref 91], (sI w 91 4 0))) rfl).trans ?_
  refine (val_pf (w := (sI w 91 4 0)) rfl (hW.k 91 (Nat.le_of_ble_eq_true rfl) (Nat.le_of_ble_eq_true rfl)) rfl).trans ?_
  show val (121, d, 10, [some (.ref 91)], [], (sI ((sI w 91 4 0)) 91 5 0)) = _
  refine (val_g (c2 := (121, d, 11, [some (.ref 91)], [.ref 91], (sI ((sI w 91 4 0)) 91 5 0))) rfl).trans ?_
  refine (val_g (c2 := (121, d, 12, [some (.ref 91)], [.int 0, .ref 91], (sI ((sI w 91 4 0)) 91 5 0))) rfl).trans ?_
  refine (val_pf (w := (sI ((sI w 91 4 0)) 91 5 0)) rfl (hW.k 91 (Nat.le_of_ble_eq_true rfl) (Nat.le_of_ble_eq_true rfl)) rfl).trans ?_
  show val (121, d, 15, [some (.ref 91)], [], (sI ((sI ((sI w 91 4 0)) 91 5 0)) 91 6 0)) = _
  exact val_r rfl
/-- BelfryHouse$Recording.add(IJ)I -/
theorem tr_122 (d : Nat) (w : Wd) (hW : Fix w) (x0 : Int32) (x1 : Int64)    (hy1 : ((gI w 91 4) < 300) → inB ((gI w 91 4)) 300 = true) (hy2 : ((gI w 91 4) < 300) → inB ((gI ((sI w 92 ((gI w 91 4)).toNatClampNeg x0)) 91 4)) 300 = true) : val (122, d + 4, 0, [some (.ref 91), some (.int x0), some (.long x1), none], [], w) = (if (gI w 91 4) < 300 then (if ¬ (fn_97 x1) = 0 then val (122, d + 4, 48, [some (.ref 91), some (.int x0), some (.long x1), none], [], (sL ((sI w 92 ((gI w 91 4)).toNatClampNeg x0)) 93 ((gI ((sI w 92 ((gI w 91 4)).toNatClampNeg x0)) 91 4)).toNatClampNeg x1)) else val (122, d + 4, 45, [some (.ref 91), some (.int x0), some (.long x1), none], [.int (gI ((sL ((sI w 92 ((gI w 91 4)).toNatClampNeg x0)) 93 ((gI ((sI w 92 ((gI w 91 4)).toNatClampNeg x0)) 91 4)).toNatClampNeg x1)) 91 4), .ref 91], (sL ((sI w 92 ((gI w 91 4)).toNatClampNeg x0)) 93 ((gI ((sI w 92 ((gI w 91 4)).toNatClampNeg x0)) 91 4)).toNatClampNeg x1))) else some (some (.int (-3)), w)) := by
  refine (val_g (c2 := (122, d + 4, 1, [some (.ref 91), some (.int x0), some (.long x1), none], [.ref 91], w)) rfl).trans ?_
  refine (val_gf rfl (hW.k 91 (Nat.le_of_ble_eq_true rfl) (Nat.le_of_ble_eq_true rfl)) rfl).trans ?_
  show val (122, d + 4, 4, [some (.ref 91), some (.int x0), some (.long x1), none], [.int (gI w 91 4)], w) = _
  refine (val_g (c2 := (122, d + 4, 7, [some (.ref 91), some (.int x0), some (.long x1), none], [.int 300, .int (gI w 91 4)], w)) rfl).trans ?_
  by_cases hc706 : (gI w 91 4) < 300
  · refine ((val_ic_lt rfl).trans (if_pos hc706)).trans ?_
    show val (122, d + 4, 13, [some (.ref 91), some (.int x0), some (.long x1), none], [], w) = _
    refine Eq.trans ?_ (if_pos hc706).symm
    refine (val_g (c2 := (122, d + 4, 14, [some (.ref 91), some (.int x0), some (.long x1), none], [.ref 91], w)) rfl).trans ?_
    refine (val_gf rfl (hW.k 91 (Nat.le_of_ble_eq_true rfl) (Nat.le_of_ble_eq_true rfl)) (fvR (hW.r 91 0 92 rfl))).trans ?_
    show val (122, d + 4, 17, [some (.ref 91), some (.int x0), some (.long x1), none], [.ref 92], w) = _
    refine (val_g (c2 := (122, d + 4, 18, [some (.ref 91), some (.int x0), some (.long x1), none], [.ref 91, .ref 92], w)) rfl).trans ?_
    refine (val_gf rfl (hW.k 91 (Nat.le_of_ble_eq_true rfl) (Nat.le_of_ble_eq_true rfl)) rfl).trans ?_
    show val (122, d + 4, 21, [some (.ref 91), some (.int x0), some (.long x1), none], [.int (gI w 91 4), .ref 92], w) = _
    refine (val_g (c2 := (122, d + 4, 22, [some (.ref 91), some (.int x0), some (.long x1), none], [.int x0, .int (gI w 91 4), .ref 92], w)) rfl).trans ?_
    refine (val_ias rfl (hW.k 92 (Nat.le_of_ble_eq_true rfl) (Nat.le_of_ble_eq_true rfl)) (hy1 hc706)).trans ?_
    show val (122, d + 4, 23, [some (.ref 91), some (.int x0), some (.long x1), none], [], (sI w 92 ((gI w 91 4)).toNatClampNeg x0)) = _
    refine (val_g (c2 := (122, d + 4, 24, [some (.ref 91), some (.int x0), some (.long x1), none], [.ref 91], (sI w 92 ((gI w 91 4)).toNatClampNeg x0))) rfl).trans ?_
    refine (val_gf (w := (sI w 92 ((gI w 91 4)).toNatClampNeg x0)) rfl (hW.k 91 (Nat.le_of_ble_eq_true rfl) (Nat.le_of_ble_eq_true rfl)) (fvR (hW.r 91 1 93 rfl))).trans ?_
    show val (122, d + 4, 27, [some (.ref 91), some (.int x0), some (.long x1), none], [.ref 93], (sI w 92 ((gI w 91 4)).toNatClampNeg x0)) = _
    refine (val_g (c2 := (122, d + 4, 28, [some (.ref 91), some (.int x0), some (.long x1), none], [.ref 91, .ref 93], (sI w 92 ((gI w 91 4)).toNatClampNeg x0))) rfl).trans ?_
    refine (val_gf (w := (sI w 92 ((gI w 91 4)).toNatClampNeg x0)) rfl (hW.k 91 (Nat.le_of_ble_eq_true rfl) (Nat.le_of_ble_eq_true rfl)) rfl).trans ?_
    show val (122, d + 4, 31, [some (.ref 91), some (.int x0), some (.long x1), none], [.int (gI ((sI w 92 ((gI w 91 4)).toNatClampNeg x0)) 91 4), .ref 93], (sI w 92 ((gI w 91 4)).toNatClampNeg x0)) = _
    refine (val_g (c2 := (122, d + 4, 32, [some (.ref 91), some (.int x0), some (.long x1), none], [.long x1, .int (gI ((sI w 92 ((gI w 91 4)).toNatClampNeg x0)) 91 4), .ref 93], (sI w 92 ((gI w 91 4)).toNatClampNeg x0))) rfl).trans ?_
    refine (val_las (w := (sI w 92 ((gI w 91 4)).toNatClampNeg x0)) rfl (hW.k 93 (Nat.le_of_ble_eq_true rfl) (Nat.le_of_ble_eq_true rfl)) (hy2 hc706)).trans ?_
    show val (122, d + 4, 33, [some (.ref 91), some (.int x0), some (.long x1), none], [], (sL ((sI w 92 ((gI w 91 4)).toNatClampNeg x0)) 93 ((gI ((sI w 92 ((gI w 91 4)).toNatClampNeg x0)) 91 4)).toNatClampNeg x1)) = _
    refine (val_g (c2 := (122, d + 4, 34, [some (.ref 91), some (.int x0), some (.long x1), none], [.long x1], (sL ((sI w 92 ((gI w 91 4)).toNatClampNeg x0)) 93 ((gI ((sI w 92 ((gI w 91 4)).toNatClampNeg x0)) 91 4)).toNatClampNeg x1))) rfl).trans ?_
    refine (val_call (w1 := (sL ((sI w 92 ((gI w 91 4)).toNatClampNeg x0)) 93 ((gI ((sI w 92 ((gI w 91 4)).toNatClampNeg x0)) 91 4)).toNatClampNeg x1)) (pc2 := 37) rfl rfl rfl rfl rfl (Nat.le_of_ble_eq_true rfl) (Nat.le_of_ble_eq_true rfl) rfl (ev_97 (d + 2) (sL ((sI w 92 ((gI w 91 4)).toNatClampNeg x0)) 93 ((gI ((sI w 92 ((gI w 91 4)).toNatClampNeg x0)) 91 4)).toNatClampNeg x1) x1) rfl).trans ?_
    show val (122, d + 4, 37, [some (.ref 91), some (.int x0), some (.long x1), none], [.int (fn_97 x1)], (sL ((sI w 92 ((gI w 91 4)).toNatClampNeg x0)) 93 ((gI ((sI w 92 ((gI w 91 4)).toNatClampNeg x0)) 91 4)).toNatClampNeg x1)) = _
    by_cases hc707 : ¬ (fn_97 x1) = 0
    · refine ((val_if_ne rfl).trans (if_pos hc707)).trans ?_
      show val (122, d + 4, 48, [some (.ref 91), some (.int x0), some (.long x1), none], [], (sL ((sI w 92 ((gI w 91 4)).toNatClampNeg x0)) 93 ((gI ((sI w 92 ((gI w 91 4)).toNatClampNeg x0)) 91 4)).toNatClampNeg x1)) = _
      refine Eq.trans ?_ (if_pos hc707).symm
      rfl
    · refine ((val_if_ne rfl).trans (if_neg hc707)).trans ?_
      show val (122, d + 4, 40, [some (.ref 91), some (.int x0), some (.long x1), none], [], (sL ((sI w 92 ((gI w 91 4)).toNatClampNeg x0)) 93 ((gI ((sI w 92 ((gI w 91 4)).toNatClampNeg x0)) 91 4)).toNatClampNeg x1)) = _
      refine Eq.trans ?_ (if_neg hc707).symm
      refine (val_g (c2 := (122, d + 4, 41, [some (.ref 91), some (.int x0), some (.long x1), none], [.ref 91], (sL ((sI w 92 ((gI w 91 4)).toNatClampNeg x0)) 93 ((gI ((sI w 92 ((gI w 91 4)).toNatClampNeg x0)) 91 4)).toNatClampNeg x1))) rfl).trans ?_
      refine (val_g (c2 := (122, d + 4, 42, [some (.ref 91), some (.int x0), some (.long x1), none], [.ref 91, .ref 91], (sL ((sI w 92 ((gI w 91 4)).toNatClampNeg x0)) 93 ((gI ((sI w 92 ((gI w 91 4)).toNatClampNeg x0)) 91 4)).toNatClampNeg x1))) rfl).trans ?_
      refine (val_gf (w := (sL ((sI w 92 ((gI w 91 4)).toNatClampNeg x0)) 93 ((gI ((sI w 92 ((gI w 91 4)).toNatClampNeg x0)) 91 4)).toNatClampNeg x1)) rfl (hW.k 91 (Nat.le_of_ble_eq_true rfl) (Nat.le_of_ble_eq_true rfl)) rfl).trans ?_
      show val (122, d + 4, 45, [some (.ref 91), some (.int x0), some (.long x1), none], [.int (gI ((sL ((sI w 92 ((gI w 91 4)).toNatClampNeg x0)) 93 ((gI ((sI w 92 ((gI w 91 4)).toNatClampNeg x0)) 91 4)).toNatClampNeg x1)) 91 4), .ref 91], (sL ((sI w 92 ((gI w 91 4)).toNatClampNeg x0)) 93 ((gI ((sI w 92 ((gI w 91 4)).toNatClampNeg x0)) 91 4)).toNatClampNeg x1)) = _
      rfl
  · refine ((val_ic_lt rfl).trans (if_neg hc706)).trans ?_
    show val (122, d + 4, 10, [some (.ref 91), some (.int x0), some (.long x1), none], [], w) = _
    refine Eq.trans ?_ (if_neg hc706).symm
    refine (val_g (c2 := (122, d + 4, 12, [some (.ref 91), some (.int x0), some (.long x1), none], [.int (-3)], w)) rfl).trans ?_
    exact val_r rfl
theorem tr_122_48 (d : Nat) (w : Wd) (hW : Fix w) (l1 : Int32) (l2 : Int64)     : val (122, d + 4, 48, [some (.ref 91), some (.int l1), some (.long l2), none], [], w) = some (some (.int (gI w 91 4)), (sI w 91 4 (((gI w 91 4) + 1)))) := by
  refine (val_g (c2 := (122, d + 4, 49, [some (.ref 91), some (.int l1), some (.long l2), none], [.ref 91], w)) rfl).trans ?_
  refine (val_g (c2 := (122, d + 4, 50, [some (.ref 91), some (.int l1), some (.long l2), none], [.ref 91, .ref 91], w)) rfl).trans ?_
  refine (val_gf rfl (hW.k 91 (Nat.le_of_ble_eq_true rfl) (Nat.le_of_ble_eq_true rfl)) rfl).trans ?_
  show val (122, d + 4, 53, [some (.ref 91), some (.int l1), some (.long l2), none], [.int (gI w 91 4), .ref 91], w) = _
  refine (val_g (c2 := (122, d + 4, 54, [some (.ref 91), some (.int l1), some (.long l2), none], [.int (gI w 91 4), .ref 91, .int (gI w 91 4)], w)) rfl).trans ?_
  refine (val_g (c2 := (122, d + 4, 55, [some (.ref 91), some (.int l1), some (.long l2), none], [.int 1, .int (gI w 91 4), .ref 91, .int (gI w 91 4)], w)) rfl).trans ?_
  refine (val_g (c2 := (122, d + 4, 56, [some (.ref 91), some (.int l1), some (.long l2), none], [.int ((gI w 91 4) + 1), .ref 91, .int (gI w 91 4)], w)) rfl).trans ?_
  refine (val_pf rfl (hW.k 91 (Nat.le_of_ble_eq_true rfl) (Nat.le_of_ble_eq_true rfl)) rfl).trans ?_
  show val (122, d + 4, 59, [some (.ref 91), some (.int l1), some (.long l2), none], [.int (gI w 91 4)], (sI w 91 4 (((gI w 91 4) + 1)))) = _
  exact val_r rfl
/-- BelfryHouse$Recording.putInOrder(I)V -/
theorem tr_123 (d : Nat) (w : Wd) (hW : Fix w) (x0 : Int32)     : val (123, d + 3, 0, [some (.ref 91), some (.int x0), none], [], w) = val (123, d + 3, 12, [some (.ref 91), some (.int x0), some (.int (gI w 91 5))], [], (sI w 91 5 (((gI w 91 5) + 1)))) := by
  refine (val_g (c2 := (123, d + 3, 1, [some (.ref 91), some (.int x0), none], [.ref 91], w)) rfl).trans ?_
  refine (val_g (c2 := (123, d + 3, 2, [some (.ref 91), some (.int x0), none], [.ref 91, .ref 91], w)) rfl).trans ?_
  refine (val_gf rfl (hW.k 91 (Nat.le_of_ble_eq_true rfl) (Nat.le_of_ble_eq_true rfl)) rfl).trans ?_
  show val (123, d + 3, 5, [some (.ref 91), some (.int x0), none], [.int (gI w 91 5), .ref 91], w) = _
  refine (val_g (c2 := (123, d + 3, 6, [some (.ref 91), some (.int x0), none], [.int (gI w 91 5), .ref 91, .int (gI w 91 5)], w)) rfl).trans ?_
  refine (val_g (c2 := (123, d + 3, 7, [some (.ref 91), some (.int x0), none], [.int 1, .int (gI w 91 5), .ref 91, .int (gI w 91 5)], w)) rfl).trans ?_
  refine (val_g (c2 := (123, d + 3, 8, [some (.ref 91), some (.int x0), none], [.int ((gI w 91 5) + 1), .ref 91, .int (gI w 91 5)], w)) rfl).trans ?_
  refine (val_pf rfl (hW.k 91 (Nat.le_of_ble_eq_true rfl) (Nat.le_of_ble_eq_true rfl)) rfl).trans ?_
  show val (123, d + 3, 11, [some (.ref 91), some (.int x0), none], [.int (gI w 91 5)], (sI w 91 5 (((gI w 91 5) + 1)))) = _
  refine (val_g (c2 := (123, d + 3, 12, [some (.ref 91), some (.int x0), some (.int (gI w 91 5))], [], (sI w 91 5 (((gI w 91 5) + 1))))) rfl).trans ?_
  rfl
theorem tr_123_12 (d : Nat) (w : Wd) (hW : Fix w) (l1 : Int32) (l2 : Int32)    (hy1 : (l2 ≤ 0) → inB l2 300 = true) (hy2 : (¬ (l2 ≤ 0)) → inB l1 300 = true) (hy3 : (¬ (l2 ≤ 0)) → inB ((l2 - 1)) 300 = true) (hy4 : (¬ (l2 ≤ 0)) → inB ((gI w 94 ((l2 - 1)).toNatClampNeg)) 300 = true) (hy5 : (¬ (l2 ≤ 0)) → ((fn_101 ((gL w 93 (l1).toNatClampNeg)) ((gL w 93 ((gI w 94 ((l2 - 1)).toNatClampNeg)).toNatClampNeg))) = 0) → inB l2 300 = true) (hy6 : (¬ (l2 ≤ 0)) → (¬ ((fn_101 ((gL w 93 (l1).toNatClampNeg)) ((gL w 93 ((gI w 94 ((l2 - 1)).toNatClampNeg)).toNatClampNeg))) = 0)) → inB ((l2 - 1)) 300 = true) (hy7 : (¬ (l2 ≤ 0)) → (¬ ((fn_101 ((gL w 93 (l1).toNatClampNeg)) ((gL w 93 ((gI w 94 ((l2 - 1)).toNatClampNeg)).toNatClampNeg))) = 0)) → inB l2 300 = true) : val (123, d + 3, 12, [some (.ref 91), some (.int l1), some (.int l2)], [], w) = (if l2 ≤ 0 then some (none, (sI ((sI w 94 (l2).toNatClampNeg l1)) 91 6 0)) else (if (fn_101 ((gL w 93 (l1).toNatClampNeg)) ((gL w 93 ((gI w 94 ((l2 - 1)).toNatClampNeg)).toNatClampNeg))) = 0 then some (none, (sI ((sI w 94 (l2).toNatClampNeg l1)) 91 6 0)) else val (123, d + 3, 12, [some (.ref 91), some (.int l1), some (.int (l2 + (-1)))], [], (sI w 94 (l2).toNatClampNeg ((gI w 94 ((l2 - 1)).toNatClampNeg)))))) := by
  refine (val_g (c2 := (123, d + 3, 13, [some (.ref 91), some (.int l1), some (.int l2)], [.int l2], w)) rfl).trans ?_
  by_cases hc710 : l2 ≤ 0
  · refine ((val_if_le rfl).trans (if_pos hc710)).trans ?_
    show val (123, d + 3, 61, [some (.ref 91), some (.int l1), some (.int l2)], [], w) = _
    refine Eq.trans ?_ (if_pos hc710).symm
    refine (val_g (c2 := (123, d + 3, 62, [some (.ref 91), some (.int l1), some (.int l2)], [.ref 91], w)) rfl).trans ?_
    refine (val_gf rfl (hW.k 91 (Nat.le_of_ble_eq_true rfl) (Nat.le_of_ble_eq_true rfl)) (fvR (hW.r 91 2 94 rfl))).trans ?_
    show val (123, d + 3, 65, [some (.ref 91), some (.int l1), some (.int l2)], [.ref 94], w) = _
    refine (val_g (c2 := (123, d + 3, 66, [some (.ref 91), some (.int l1), some (.int l2)], [.int l2, .ref 94], w)) rfl).trans ?_
    refine (val_g (c2 := (123, d + 3, 67, [some (.ref 91), some (.int l1), some (.int l2)], [.int l1, .int l2, .ref 94], w)) rfl).trans ?_
    refine (val_ias rfl (hW.k 94 (Nat.le_of_ble_eq_true rfl) (Nat.le_of_ble_eq_true rfl)) (hy1 hc710)).trans ?_
    show val (123, d + 3, 68, [some (.ref 91), some (.int l1), some (.int l2)], [], (sI w 94 (l2).toNatClampNeg l1)) = _
    refine (val_g (c2 := (123, d + 3, 69, [some (.ref 91), some (.int l1), some (.int l2)], [.ref 91], (sI w 94 (l2).toNatClampNeg l1))) rfl).trans ?_
    refine (val_g (c2 := (123, d + 3, 70, [some (.ref 91), some (.int l1), some (.int l2)], [.int 0, .ref 91], (sI w 94 (l2).toNatClampNeg l1))) rfl).trans ?_
    refine (val_pf (w := (sI w 94 (l2).toNatClampNeg l1)) rfl (hW.k 91 (Nat.le_of_ble_eq_true rfl) (Nat.le_of_ble_eq_true rfl)) rfl).trans ?_
    show val (123, d + 3, 73, [some (.ref 91), some (.int l1), some (.int l2)], [], (sI ((sI w 94 (l2).toNatClampNeg l1)) 91 6 0)) = _
    exact val_r rfl
  · refine ((val_if_le rfl).trans (if_neg hc710)).trans ?_
    show val (123, d + 3, 16, [some (.ref 91), some (.int l1), some (.int l2)], [], w) = _
    refine Eq.trans ?_ (if_neg hc710).symm
    refine (val_g (c2 := (123, d + 3, 17, [some (.ref 91), some (.int l1), some (.int l2)], [.ref 91], w)) rfl).trans ?_
    refine (val_gf rfl (hW.k 91 (Nat.le_of_ble_eq_true rfl) (Nat.le_of_ble_eq_true rfl)) (fvR (hW.r 91 1 93 rfl))).trans ?_
    show val (123, d + 3, 20, [some (.ref 91), some (.int l1), some (.int l2)], [.ref 93], w) = _
    refine (val_g (c2 := (123, d + 3, 21, [some (.ref 91), some (.int l1), some (.int l2)], [.int l1, .ref 93], w)) rfl).trans ?_
    refine (val_lal rfl (hW.k 93 (Nat.le_of_ble_eq_true rfl) (Nat.le_of_ble_eq_true rfl)) (hy2 hc710)).trans ?_
    show val (123, d + 3, 22, [some (.ref 91), some (.int l1), some (.int l2)], [.long (gL w 93 (l1).toNatClampNeg)], w) = _
    refine (val_g (c2 := (123, d + 3, 23, [some (.ref 91), some (.int l1), some (.int l2)], [.ref 91, .long (gL w 93 (l1).toNatClampNeg)], w)) rfl).trans ?_
    refine (val_gf rfl (hW.k 91 (Nat.le_of_ble_eq_true rfl) (Nat.le_of_ble_eq_true rfl)) (fvR (hW.r 91 1 93 rfl))).trans ?_
    show val (123, d + 3, 26, [some (.ref 91), some (.int l1), some (.int l2)], [.ref 93, .long (gL w 93 (l1).toNatClampNeg)], w) = _
    refine (val_g (c2 := (123, d + 3, 27, [some (.ref 91), some (.int l1), some (.int l2)], [.ref 91, .ref 93, .long (gL w 93 (l1).toNatClampNeg)], w)) rfl).trans ?_
    refine (val_gf rfl (hW.k 91 (Nat.le_of_ble_eq_true rfl) (Nat.le_of_ble_eq_true rfl)) (fvR (hW.r 91 2 94 rfl))).trans ?_
    show val (123, d + 3, 30, [some (.ref 91), some (.int l1), some (.int l2)], [.ref 94, .ref 93, .long (gL w 93 (l1).toNatClampNeg)], w) = _
    refine (val_g (c2 := (123, d + 3, 31, [some (.ref 91), some (.int l1), some (.int l2)], [.int l2, .ref 94, .ref 93, .long (gL w 93 (l1).toNatClampNeg)], w)) rfl).trans ?_
    refine (val_g (c2 := (123, d + 3, 32, [some (.ref 91), some (.int l1), some (.int l2)], [.int 1, .int l2, .ref 94, .ref 93, .long (gL w 93 (l1).toNatClampNeg)], w)) rfl).trans ?_
    refine (val_g (c2 := (123, d + 3, 33, [some (.ref 91), some (.int l1), some (.int l2)], [.int (l2 - 1), .ref 94, .ref 93, .long (gL w 93 (l1).toNatClampNeg)], w)) rfl).trans ?_
    refine (val_ial rfl (hW.k 94 (Nat.le_of_ble_eq_true rfl) (Nat.le_of_ble_eq_true rfl)) rfl (hy3 hc710)).trans ?_
    show val (123, d + 3, 34, [some (.ref 91), some (.int l1), some (.int l2)], [.int (gI w 94 ((l2 - 1)).toNatClampNeg), .ref 93, .long (gL w 93 (l1).toNatClampNeg)], w) = _
    refine (val_lal rfl (hW.k 93 (Nat.le_of_ble_eq_true rfl) (Nat.le_of_ble_eq_true rfl)) (hy4 hc710)).trans ?_
    show val (123, d + 3, 35, [some (.ref 91), some (.int l1), some (.int l2)], [.long (gL w 93 ((gI w 94 ((l2 - 1)).toNatClampNeg)).toNatClampNeg), .long (gL w 93 (l1).toNatClampNeg)], w) = _
    refine (val_call (w1 := w) (pc2 := 38) rfl rfl rfl rfl rfl (Nat.le_of_ble_eq_true rfl) (Nat.le_of_ble_eq_true rfl) rfl (ev_101 (d) w ((gL w 93 (l1).toNatClampNeg)) ((gL w 93 ((gI w 94 ((l2 - 1)).toNatClampNeg)).toNatClampNeg))) rfl).trans ?_
    show val (123, d + 3, 38, [some (.ref 91), some (.int l1), some (.int l2)], [.int (fn_101 ((gL w 93 (l1).toNatClampNeg)) ((gL w 93 ((gI w 94 ((l2 - 1)).toNatClampNeg)).toNatClampNeg)))], w) = _
    by_cases hc711 : (fn_101 ((gL w 93 (l1).toNatClampNeg)) ((gL w 93 ((gI w 94 ((l2 - 1)).toNatClampNeg)).toNatClampNeg))) = 0
    · refine ((val_if_eq rfl).trans (if_pos hc711)).trans ?_
      show val (123, d + 3, 61, [some (.ref 91), some (.int l1), some (.int l2)], [], w) = _
      refine Eq.trans ?_ (if_pos hc711).symm
      refine (val_g (c2 := (123, d + 3, 62, [some (.ref 91), some (.int l1), some (.int l2)], [.ref 91], w)) rfl).trans ?_
      refine (val_gf rfl (hW.k 91 (Nat.le_of_ble_eq_true rfl) (Nat.le_of_ble_eq_true rfl)) (fvR (hW.r 91 2 94 rfl))).trans ?_
      show val (123, d + 3, 65, [some (.ref 91), some (.int l1), some (.int l2)], [.ref 94], w) = _
      refine (val_g (c2 := (123, d + 3, 66, [some (.ref 91), some (.int l1), some (.int l2)], [.int l2, .ref 94], w)) rfl).trans ?_
      refine (val_g (c2 := (123, d + 3, 67, [some (.ref 91), some (.int l1), some (.int l2)], [.int l1, .int l2, .ref 94], w)) rfl).trans ?_
      refine (val_ias rfl (hW.k 94 (Nat.le_of_ble_eq_true rfl) (Nat.le_of_ble_eq_true rfl)) (hy5 hc710 hc711)).trans ?_
      show val (123, d + 3, 68, [some (.ref 91), some (.int l1), some (.int l2)], [], (sI w 94 (l2).toNatClampNeg l1)) = _
      refine (val_g (c2 := (123, d + 3, 69, [some (.ref 91), some (.int l1), some (.int l2)], [.ref 91], (sI w 94 (l2).toNatClampNeg l1))) rfl).trans ?_
      refine (val_g (c2 := (123, d + 3, 70, [some (.ref 91), some (.int l1), some (.int l2)], [.int 0, .ref 91], (sI w 94 (l2).toNatClampNeg l1))) rfl).trans ?_
      refine (val_pf (w := (sI w 94 (l2).toNatClampNeg l1)) rfl (hW.k 91 (Nat.le_of_ble_eq_true rfl) (Nat.le_of_ble_eq_true rfl)) rfl).trans ?_
      show val (123, d + 3, 73, [some (.ref 91), some (.int l1), some (.int l2)], [], (sI ((sI w 94 (l2).toNatClampNeg l1)) 91 6 0)) = _
      exact val_r rfl
    · refine ((val_if_eq rfl).trans (if_neg hc711)).trans ?_
      show val (123, d + 3, 41, [some (.ref 91), some (.int l1), some (.int l2)], [], w) = _
      refine Eq.trans ?_ (if_neg hc711).symm
      refine (val_g (c2 := (123, d + 3, 42, [some (.ref 91), some (.int l1), some (.int l2)], [.ref 91], w)) rfl).trans ?_
      refine (val_gf rfl (hW.k 91 (Nat.le_of_ble_eq_true rfl) (Nat.le_of_ble_eq_true rfl)) (fvR (hW.r 91 2 94 rfl))).trans ?_
      show val (123, d + 3, 45, [some (.ref 91), some (.int l1), some (.int l2)], [.ref 94], w) = _
      refine (val_g (c2 := (123, d + 3, 46, [some (.ref 91), some (.int l1), some (.int l2)], [.int l2, .ref 94], w)) rfl).trans ?_
      refine (val_g (c2 := (123, d + 3, 47, [some (.ref 91), some (.int l1), some (.int l2)], [.ref 91, .int l2, .ref 94], w)) rfl).trans ?_
      refine (val_gf rfl (hW.k 91 (Nat.le_of_ble_eq_true rfl) (Nat.le_of_ble_eq_true rfl)) (fvR (hW.r 91 2 94 rfl))).trans ?_
      show val (123, d + 3, 50, [some (.ref 91), some (.int l1), some (.int l2)], [.ref 94, .int l2, .ref 94], w) = _
      refine (val_g (c2 := (123, d + 3, 51, [some (.ref 91), some (.int l1), some (.int l2)], [.int l2, .ref 94, .int l2, .ref 94], w)) rfl).trans ?_
      refine (val_g (c2 := (123, d + 3, 52, [some (.ref 91), some (.int l1), some (.int l2)], [.int 1, .int l2, .ref 94, .int l2, .ref 94], w)) rfl).trans ?_
      refine (val_g (c2 := (123, d + 3, 53, [some (.ref 91), some (.int l1), some (.int l2)], [.int (l2 - 1), .ref 94, .int l2, .ref 94], w)) rfl).trans ?_
      refine (val_ial rfl (hW.k 94 (Nat.le_of_ble_eq_true rfl) (Nat.le_of_ble_eq_true rfl)) rfl (hy6 hc710 hc711)).trans ?_
      show val (123, d + 3, 54, [some (.ref 91), some (.int l1), some (.int l2)], [.int (gI w 94 ((l2 - 1)).toNatClampNeg), .int l2, .ref 94], w) = _
      refine (val_ias rfl (hW.k 94 (Nat.le_of_ble_eq_true rfl) (Nat.le_of_ble_eq_true rfl)) (hy7 hc710 hc711)).trans ?_
      show val (123, d + 3, 55, [some (.ref 91), some (.int l1), some (.int l2)], [], (sI w 94 (l2).toNatClampNeg ((gI w 94 ((l2 - 1)).toNatClampNeg)))) = _
      refine (val_g (c2 := (123, d + 3, 58, [some (.ref 91), some (.int l1), some (.int (l2 + (-1)))], [], (sI w 94 (l2).toNatClampNeg ((gI w 94 ((l2 - 1)).toNatClampNeg))))) rfl).trans ?_
      refine (val_g (c2 := (123, d + 3, 12, [some (.ref 91), some (.int l1), some (.int (l2 + (-1)))], [], (sI w 94 (l2).toNatClampNeg ((gI w 94 ((l2 - 1)).toNatClampNeg))))) rfl).trans ?_
      rfl
/-- BelfryHouse$Recording.timeInOrder(I)J -/
theorem tr_124 (d : Nat) (w : Wd) (hW : Fix w) (x0 : Int32)    (hy1 : inB x0 300 = true) (hy2 : inB ((gI w 94 (x0).toNatClampNeg)) 300 = true) : val (124, d, 0, [some (.ref 91), some (.int x0)], [], w) = some (some (.long (gL w 93 ((gI w 94 (x0).toNatClampNeg)).toNatClampNeg)), w) := by
  refine (val_g (c2 := (124, d, 1, [some (.ref 91), some (.int x0)], [.ref 91], w)) rfl).trans ?_
  refine (val_gf rfl (hW.k 91 (Nat.le_of_ble_eq_true rfl) (Nat.le_of_ble_eq_true rfl)) (fvR (hW.r 91 1 93 rfl))).trans ?_
  show val (124, d, 4, [some (.ref 91), some (.int x0)], [.ref 93], w) = _
  refine (val_g (c2 := (124, d, 5, [some (.ref 91), some (.int x0)], [.ref 91, .ref 93], w)) rfl).trans ?_
  refine (val_gf rfl (hW.k 91 (Nat.le_of_ble_eq_true rfl) (Nat.le_of_ble_eq_true rfl)) (fvR (hW.r 91 2 94 rfl))).trans ?_
  show val (124, d, 8, [some (.ref 91), some (.int x0)], [.ref 94, .ref 93], w) = _
  refine (val_g (c2 := (124, d, 9, [some (.ref 91), some (.int x0)], [.int x0, .ref 94, .ref 93], w)) rfl).trans ?_
  refine (val_ial rfl (hW.k 94 (Nat.le_of_ble_eq_true rfl) (Nat.le_of_ble_eq_true rfl)) rfl hy1).trans ?_
  show val (124, d, 10, [some (.ref 91), some (.int x0)], [.int (gI w 94 (x0).toNatClampNeg), .ref 93], w) = _
  refine (val_lal rfl (hW.k 93 (Nat.le_of_ble_eq_true rfl) (Nat.le_of_ble_eq_true rfl)) hy2).trans ?_
  show val (124, d, 11, [some (.ref 91), some (.int x0)], [.long (gL w 93 ((gI w 94 (x0).toNatClampNeg)).toNatClampNeg)], w) = _
  exact val_r rfl
/-- BelfryHouse$Recording.rowHeard(II)I -/
theorem tr_125 (d : Nat) (w : Wd) (x0 : Int32) (x1 : Int32)     : val (125, d, 0, [some (.ref 91), some (.int x0), some (.int x1), none, none, none, none], [], w) = val (125, d, 10, [some (.ref 91), some (.int x0), some (.int x1), some (.int 0), some (.int 0), some (.int (x1 * x0)), none], [], w) := by
  refine (val_g (c2 := (125, d, 1, [some (.ref 91), some (.int x0), some (.int x1), none, none, none, none], [.int 0], w)) rfl).trans ?_
  refine (val_g (c2 := (125, d, 2, [some (.ref 91), some (.int x0), some (.int x1), some (.int 0), none, none, none], [], w)) rfl).trans ?_
  refine (val_g (c2 := (125, d, 3, [some (.ref 91), some (.int x0), some (.int x1), some (.int 0), none, none, none], [.int 0], w)) rfl).trans ?_
  refine (val_g (c2 := (125, d, 5, [some (.ref 91), some (.int x0), some (.int x1), some (.int 0), some (.int 0), none, none], [], w)) rfl).trans ?_
  refine (val_g (c2 := (125, d, 6, [some (.ref 91), some (.int x0), some (.int x1), some (.int 0), some (.int 0), none, none], [.int x1], w)) rfl).trans ?_
  refine (val_g (c2 := (125, d, 7, [some (.ref 91), some (.int x0), some (.int x1), some (.int 0), some (.int 0), none, none], [.int x0, .int x1], w)) rfl).trans ?_
  refine (val_g (c2 := (125, d, 8, [some (.ref 91), some (.int x0), some (.int x1), some (.int 0), some (.int 0), none, none], [.int (x1 * x0)], w)) rfl).trans ?_
  refine (val_g (c2 := (125, d, 10, [some (.ref 91), some (.int x0), some (.int x1), some (.int 0), some (.int 0), some (.int (x1 * x0)), none], [], w)) rfl).trans ?_
  rfl
theorem tr_125_10 (d : Nat) (w : Wd) (hW : Fix w) (l1 : Int32) (l2 : Int32) (l3 : Int32) (l4 : Int32) (l5 : Int32) (l6 : Option Value)   (hy1 : (¬ (((l2 * l1) + l1) ≤ l5)) → inB l5 300 = true) (hy2 : (¬ (((l2 * l1) + l1) ≤ l5)) → inB ((gI w 94 (l5).toNatClampNeg)) 300 = true) : val (125, d, 10, [some (.ref 91), some (.int l1), some (.int l2), some (.int l3), some (.int l4), some (.int l5), l6], [], w) = (if ((l2 * l1) + l1) ≤ l5 then some (some (.int l3), w) else (if ((ushI l4 ((gI w 92 ((gI w 94 (l5).toNatClampNeg)).toNatClampNeg))) &&& 1) = 0 then val (125, d, 10, [some (.ref 91), some (.int l1), some (.int l2), some (.int ((l3 * 10) + (gI w 92 ((gI w 94 (l5).toNatClampNeg)).toNatClampNeg))), some (.int (l4 ||| (1 <<< ((gI w 92 ((gI w 94 (l5).toNatClampNeg)).toNatClampNeg) &&& 31)))), some (.int (l5 + 1)), some (.int (gI w 92 ((gI w 94 (l5).toNatClampNeg)).toNatClampNeg))], [], w) else some (some (.int 0), w))) := by
  refine (val_g (c2 := (125, d, 12, [some (.ref 91), some (.int l1), some (.int l2), some (.int l3), some (.int l4), some (.int l5), l6], [.int l5], w)) rfl).trans ?_
  refine (val_g (c2 := (125, d, 13, [some (.ref 91), some (.int l1), some (.int l2), some (.int l3), some (.int l4), some (.int l5), l6], [.int l2, .int l5], w)) rfl).trans ?_
  refine (val_g (c2 := (125, d, 14, [some (.ref 91), some (.int l1), some (.int l2), some (.int l3), some (.int l4), some (.int l5), l6], [.int l1, .int l2, .int l5], w)) rfl).trans ?_
  refine (val_g (c2 := (125, d, 15, [some (.ref 91), some (.int l1), some (.int l2), some (.int l3), some (.int l4), some (.int l5), l6], [.int (l2 * l1), .int l5], w)) rfl).trans ?_
  refine (val_g (c2 := (125, d, 16, [some (.ref 91), some (.int l1), some (.int l2), some (.int l3), some (.int l4), some (.int l5), l6], [.int l1, .int (l2 * l1), .int l5], w)) rfl).trans ?_
  refine (val_g (c2 := (125, d, 17, [some (.ref 91), some (.int l1), some (.int l2), some (.int l3), some (.int l4), some (.int l5), l6], [.int ((l2 * l1) + l1), .int l5], w)) rfl).trans ?_
  by_cases hc716 : ((l2 * l1) + l1) ≤ l5
  · refine ((val_ic_ge rfl).trans (if_pos hc716)).trans ?_
    show val (125, d, 69, [some (.ref 91), some (.int l1), some (.int l2), some (.int l3), some (.int l4), some (.int l5), l6], [], w) = _
    refine Eq.trans ?_ (if_pos hc716).symm
    refine (val_g (c2 := (125, d, 70, [some (.ref 91), some (.int l1), some (.int l2), some (.int l3), some (.int l4), some (.int l5), l6], [.int l3], w)) rfl).trans ?_
    exact val_r rfl
  · refine ((val_ic_ge rfl).trans (if_neg hc716)).trans ?_
    show val (125, d, 20, [some (.ref 91), some (.int l1), some (.int l2), some (.int l3), some (.int l4), some (.int l5), l6], [], w) = _
    refine Eq.trans ?_ (if_neg hc716).symm
    refine (val_g (c2 := (125, d, 21, [some (.ref 91), some (.int l1), some (.int l2), some (.int l3), some (.int l4), some (.int l5), l6], [.ref 91], w)) rfl).trans ?_
    refine (val_gf rfl (hW.k 91 (Nat.le_of_ble_eq_true rfl) (Nat.le_of_ble_eq_true rfl)) (fvR (hW.r 91 0 92 rfl))).trans ?_
    show val (125, d, 24, [some (.ref 91), some (.int l1), some (.int l2), some (.int l3), some (.int l4), some (.int l5), l6], [.ref 92], w) = _
    refine (val_g (c2 := (125, d, 25, [some (.ref 91), some (.int l1), some (.int l2), some (.int l3), some (.int l4), some (.int l5), l6], [.ref 91, .ref 92], w)) rfl).trans ?_
    refine (val_gf rfl (hW.k 91 (Nat.le_of_ble_eq_true rfl) (Nat.le_of_ble_eq_true rfl)) (fvR (hW.r 91 2 94 rfl))).trans ?_
    show val (125, d, 28, [some (.ref 91), some (.int l1), some (.int l2), some (.int l3), some (.int l4), some (.int l5), l6], [.ref 94, .ref 92], w) = _
    refine (val_g (c2 := (125, d, 30, [some (.ref 91), some (.int l1), some (.int l2), some (.int l3), some (.int l4), some (.int l5), l6], [.int l5, .ref 94, .ref 92], w)) rfl).trans ?_
    refine (val_ial rfl (hW.k 94 (Nat.le_of_ble_eq_true rfl) (Nat.le_of_ble_eq_true rfl)) rfl (hy1 hc716)).trans ?_
    show val (125, d, 31, [some (.ref 91), some (.int l1), some (.int l2), some (.int l3), some (.int l4), some (.int l5), l6], [.int (gI w 94 (l5).toNatClampNeg), .ref 92], w) = _
    refine (val_ial rfl (hW.k 92 (Nat.le_of_ble_eq_true rfl) (Nat.le_of_ble_eq_true rfl)) rfl (hy2 hc716)).trans ?_
    show val (125, d, 32, [some (.ref 91), some (.int l1), some (.int l2), some (.int l3), some (.int l4), some (.int l5), l6], [.int (gI w 92 ((gI w 94 (l5).toNatClampNeg)).toNatClampNeg)], w) = _
    refine (val_g (c2 := (125, d, 34, [some (.ref 91), some (.int l1), some (.int l2), some (.int l3), some (.int l4), some (.int l5), some (.int (gI w 92 ((gI w 94 (l5).toNatClampNeg)).toNatClampNeg))], [], w)) rfl).trans ?_
    refine (val_g (c2 := (125, d, 36, [some (.ref 91), some (.int l1), some (.int l2), some (.int l3), some (.int l4), some (.int l5), some (.int (gI w 92 ((gI w 94 (l5).toNatClampNeg)).toNatClampNeg))], [.int l4], w)) rfl).trans ?_
    refine (val_g (c2 := (125, d, 38, [some (.ref 91), some (.int l1), some (.int l2), some (.int l3), some (.int l4), some (.int l5), some (.int (gI w 92 ((gI w 94 (l5).toNatClampNeg)).toNatClampNeg))], [.int (gI w 92 ((gI w 94 (l5).toNatClampNeg)).toNatClampNeg), .int l4], w)) rfl).trans ?_
    refine (val_g (c2 := (125, d, 39, [some (.ref 91), some (.int l1), some (.int l2), some (.int l3), some (.int l4), some (.int l5), some (.int (gI w 92 ((gI w 94 (l5).toNatClampNeg)).toNatClampNeg))], [.int (ushI l4 ((gI w 92 ((gI w 94 (l5).toNatClampNeg)).toNatClampNeg)))], w)) rfl).trans ?_
    refine (val_g (c2 := (125, d, 40, [some (.ref 91), some (.int l1), some (.int l2), some (.int l3), some (.int l4), some (.int l5), some (.int (gI w 92 ((gI w 94 (l5).toNatClampNeg)).toNatClampNeg))], [.int 1, .int (ushI l4 ((gI w 92 ((gI w 94 (l5).toNatClampNeg)).toNatClampNeg)))], w)) rfl).trans ?_
    refine (val_g (c2 := (125, d, 41, [some (.ref 91), some (.int l1), some (.int l2), some (.int l3), some (.int l4), some (.int l5), some (.int (gI w 92 ((gI w 94 (l5).toNatClampNeg)).toNatClampNeg))], [.int ((ushI l4 ((gI w 92 ((gI w 94 (l5).toNatClampNeg)).toNatClampNeg))) &&& 1)], w)) rfl).trans ?_
    by_cases hc717 : ((ushI l4 ((gI w 92 ((gI w 94 (l5).toNatClampNeg)).toNatClampNeg))) &&& 1) = 0
    · refine ((val_if_eq rfl).trans (if_pos hc717)).trans ?_
      show val (125, d, 46, [some (.ref 91), some (.int l1), some (.int l2), some (.int l3), some (.int l4), some (.int l5), some (.int (gI w 92 ((gI w 94 (l5).toNatClampNeg)).toNatClampNeg))], [], w) = _
      refine Eq.trans ?_ (if_pos hc717).symm
      refine (val_g (c2 := (125, d, 48, [some (.ref 91), some (.int l1), some (.int l2), some (.int l3), some (.int l4), some (.int l5), some (.int (gI w 92 ((gI w 94 (l5).toNatClampNeg)).toNatClampNeg))], [.int l4], w)) rfl).trans ?_
      refine (val_g (c2 := (125, d, 49, [some (.ref 91), some (.int l1), some (.int l2), some (.int l3), some (.int l4), some (.int l5), some (.int (gI w 92 ((gI w 94 (l5).toNatClampNeg)).toNatClampNeg))], [.int 1, .int l4], w)) rfl).trans ?_
      refine (val_g (c2 := (125, d, 51, [some (.ref 91), some (.int l1), some (.int l2), some (.int l3), some (.int l4), some (.int l5), some (.int (gI w 92 ((gI w 94 (l5).toNatClampNeg)).toNatClampNeg))], [.int (gI w 92 ((gI w 94 (l5).toNatClampNeg)).toNatClampNeg), .int 1, .int l4], w)) rfl).trans ?_
      refine (val_g (c2 := (125, d, 52, [some (.ref 91), some (.int l1), some (.int l2), some (.int l3), some (.int l4), some (.int l5), some (.int (gI w 92 ((gI w 94 (l5).toNatClampNeg)).toNatClampNeg))], [.int (1 <<< ((gI w 92 ((gI w 94 (l5).toNatClampNeg)).toNatClampNeg) &&& 31)), .int l4], w)) rfl).trans ?_
      refine (val_g (c2 := (125, d, 53, [some (.ref 91), some (.int l1), some (.int l2), some (.int l3), some (.int l4), some (.int l5), some (.int (gI w 92 ((gI w 94 (l5).toNatClampNeg)).toNatClampNeg))], [.int (l4 ||| (1 <<< ((gI w 92 ((gI w 94 (l5).toNatClampNeg)).toNatClampNeg) &&& 31)))], w)) rfl).trans ?_
      refine (val_g (c2 := (125, d, 55, [some (.ref 91), some (.int l1), some (.int l2), some (.int l3), some (.int (l4 ||| (1 <<< ((gI w 92 ((gI w 94 (l5).toNatClampNeg)).toNatClampNeg) &&& 31)))), some (.int l5), some (.int (gI w 92 ((gI w 94 (l5).toNatClampNeg)).toNatClampNeg))], [], w)) rfl).trans ?_
      refine (val_g (c2 := (125, d, 56, [some (.ref 91), some (.int l1), some (.int l2), some (.int l3), some (.int (l4 ||| (1 <<< ((gI w 92 ((gI w 94 (l5).toNatClampNeg)).toNatClampNeg) &&& 31)))), some (.int l5), some (.int (gI w 92 ((gI w 94 (l5).toNatClampNeg)).toNatClampNeg))], [.int l3], w)) rfl).trans ?_
      refine (val_g (c2 := (125, d, 58, [some (.ref 91), some (.int l1), some (.int l2), some (.int l3), some (.int (l4 ||| (1 <<< ((gI w 92 ((gI w 94 (l5).toNatClampNeg)).toNatClampNeg) &&& 31)))), some (.int l5), some (.int (gI w 92 ((gI w 94 (l5).toNatClampNeg)).toNatClampNeg))], [.int 10, .int l3], w)) rfl).trans ?_
      refine (val_g (c2 := (125, d, 59, [some (.ref 91), some (.int l1), some (.int l2), some (.int l3), some (.int (l4 ||| (1 <<< ((gI w 92 ((gI w 94 (l5).toNatClampNeg)).toNatClampNeg) &&& 31)))), some (.int l5), some (.int (gI w 92 ((gI w 94 (l5).toNatClampNeg)).toNatClampNeg))], [.int (l3 * 10)], w)) rfl).trans ?_
      refine (val_g (c2 := (125, d, 61, [some (.ref 91), some (.int l1), some (.int l2), some (.int l3), some (.int (l4 ||| (1 <<< ((gI w 92 ((gI w 94 (l5).toNatClampNeg)).toNatClampNeg) &&& 31)))), some (.int l5), some (.int (gI w 92 ((gI w 94 (l5).toNatClampNeg)).toNatClampNeg))], [.int (gI w 92 ((gI w 94 (l5).toNatClampNeg)).toNatClampNeg), .int (l3 * 10)], w)) rfl).trans ?_
      refine (val_g (c2 := (125, d, 62, [some (.ref 91), some (.int l1), some (.int l2), some (.int l3), some (.int (l4 ||| (1 <<< ((gI w 92 ((gI w 94 (l5).toNatClampNeg)).toNatClampNeg) &&& 31)))), some (.int l5), some (.int (gI w 92 ((gI w 94 (l5).toNatClampNeg)).toNatClampNeg))], [.int ((l3 * 10) + (gI w 92 ((gI w 94 (l5).toNatClampNeg)).toNatClampNeg))], w)) rfl).trans ?_
      refine (val_g (c2 := (125, d, 63, [some (.ref 91), some (.int l1), some (.int l2), some (.int ((l3 * 10) + (gI w 92 ((gI w 94 (l5).toNatClampNeg)).toNatClampNeg))), some (.int (l4 ||| (1 <<< ((gI w 92 ((gI w 94 (l5).toNatClampNeg)).toNatClampNeg) &&& 31)))), some (.int l5), some (.int (gI w 92 ((gI w 94 (l5).toNatClampNeg)).toNatClampNeg))], [], w)) rfl).trans ?_
      refine (val_g (c2 := (125, d, 66, [some (.ref 91), some (.int l1), some (.int l2), some (.int ((l3 * 10) + (gI w 92 ((gI w 94 (l5).toNatClampNeg)).toNatClampNeg))), some (.int (l4 ||| (1 <<< ((gI w 92 ((gI w 94 (l5).toNatClampNeg)).toNatClampNeg) &&& 31)))), some (.int (l5 + 1)), some (.int (gI w 92 ((gI w 94 (l5).toNatClampNeg)).toNatClampNeg))], [], w)) rfl).trans ?_
      refine (val_g (c2 := (125, d, 10, [some (.ref 91), some (.int l1), some (.int l2), some (.int ((l3 * 10) + (gI w 92 ((gI w 94 (l5).toNatClampNeg)).toNatClampNeg))), some (.int (l4 ||| (1 <<< ((gI w 92 ((gI w 94 (l5).toNatClampNeg)).toNatClampNeg) &&& 31)))), some (.int (l5 + 1)), some (.int (gI w 92 ((gI w 94 (l5).toNatClampNeg)).toNatClampNeg))], [], w)) rfl).trans ?_
      rfl
    · refine ((val_if_eq rfl).trans (if_neg hc717)).trans ?_
      show val (125, d, 44, [some (.ref 91), some (.int l1), some (.int l2), some (.int l3), some (.int l4), some (.int l5), some (.int (gI w 92 ((gI w 94 (l5).toNatClampNeg)).toNatClampNeg))], [], w) = _
      refine Eq.trans ?_ (if_neg hc717).symm
      refine (val_g (c2 := (125, d, 45, [some (.ref 91), some (.int l1), some (.int l2), some (.int l3), some (.int l4), some (.int l5), some (.int (gI w 92 ((gI w 94 (l5).toNatClampNeg)).toNatClampNeg))], [.int 0], w)) rfl).trans ?_
      exact val_r rfl
/-- BelfryHouse$Recording.lay()V -/
theorem tr_126 (d : Nat) (w : Wd) (hW : Fix w)      : val (126, d + 6, 0, [some (.ref 91), none, none, none, none, none, none, none, none, none, none, none, none, none, none, none], [], w) = (if (gI w 91 6) = 0 then val (126, d + 6, 23, [some (.ref 91), some (.long 0), none, some (.long 0), none, some (.int 0), some (.int 0), none, none, none, none, none, none, none, none, none], [], (sI w 91 6 1)) else some (none, w)) := by
  refine (val_g (c2 := (126, d + 6, 1, [some (.ref 91), none, none, none, none, none, none, none, none, none, none, none, none, none, none, none], [.ref 91], w)) rfl).trans ?_
  refine (val_gf rfl (hW.k 91 (Nat.le_of_ble_eq_true rfl) (Nat.le_of_ble_eq_true rfl)) rfl).trans ?_
  show val (126, d + 6, 4, [some (.ref 91), none, none, none, none, none, none, none, none, none, none, none, none, none, none, none], [.int (gI w 91 6)], w) = _
  by_cases hc721 : (gI w 91 6) = 0
  · refine ((val_if_eq rfl).trans (if_pos hc721)).trans ?_
    show val (126, d + 6, 8, [some (.ref 91), none, none, none, none, none, none, none, none, none, none, none, none, none, none, none], [], w) = _
    refine Eq.trans ?_ (if_pos hc721).symm
    refine (val_g (c2 := (126, d + 6, 9, [some (.ref 91), none, none, none, none, none, none, none, none, none, none, none, none, none, none, none], [.ref 91], w)) rfl).trans ?_
    refine (val_g (c2 := (126, d + 6, 10, [some (.ref 91), none, none, none, none, none, none, none, none, none, none, none, none, none, none, none], [.int 1, .ref 91], w)) rfl).trans ?_
    refine (val_pf rfl (hW.k 91 (Nat.le_of_ble_eq_true rfl) (Nat.le_of_ble_eq_true rfl)) rfl).trans ?_
    show val (126, d + 6, 13, [some (.ref 91), none, none, none, none, none, none, none, none, none, none, none, none, none, none, none], [], (sI w 91 6 1)) = _
    refine (val_g (c2 := (126, d + 6, 14, [some (.ref 91), none, none, none, none, none, none, none, none, none, none, none, none, none, none, none], [.long 0], (sI w 91 6 1))) rfl).trans ?_
    refine (val_g (c2 := (126, d + 6, 15, [some (.ref 91), some (.long 0), none, none, none, none, none, none, none, none, none, none, none, none, none, none], [], (sI w 91 6 1))) rfl).trans ?_
    refine (val_g (c2 := (126, d + 6, 16, [some (.ref 91), some (.long 0), none, none, none, none, none, none, none, none, none, none, none, none, none, none], [.long 0], (sI w 91 6 1))) rfl).trans ?_
    refine (val_g (c2 := (126, d + 6, 17, [some (.ref 91), some (.long 0), none, some (.long 0), none, none, none, none, none, none, none, none, none, none, none, none], [], (sI w 91 6 1))) rfl).trans ?_
    refine (val_g (c2 := (126, d + 6, 18, [some (.ref 91), some (.long 0), none, some (.long 0), none, none, none, none, none, none, none, none, none, none, none, none], [.int 0], (sI w 91 6 1))) rfl).trans ?_
    refine (val_g (c2 := (126, d + 6, 20, [some (.ref 91), some (.long 0), none, some (.long 0), none, some (.int 0), none, none, none, none, none, none, none, none, none, none], [], (sI w 91 6 1))) rfl).trans ?_
    refine (val_g (c2 := (126, d + 6, 21, [some (.ref 91), some (.long 0), none, some (.long 0), none, some (.int 0), none, none, none, none, none, none, none, none, none, none], [.int 0], (sI w 91 6 1))) rfl).trans ?_
    refine (val_g (c2 := (126, d + 6, 23, [some (.ref 91), some (.long 0), none, some (.long 0), none, some (.int 0), some (.int 0), none, none, none, none, none, none, none, none, none], [], (sI w 91 6 1))) rfl).trans ?_
    rfl
  · refine ((val_if_eq rfl).trans (if_neg hc721)).trans ?_
    show val (126, d + 6, 7, [some (.ref 91), none, none, none, none, none, none, none, none, none, none, none, none, none, none, none], [], w) = _
    refine Eq.trans ?_ (if_neg hc721).symm
    exact val_r rfl
theorem tr_126_23 (d : Nat) (w : Wd) (hW : Fix w) (l1 : Int64) (l3 : Int64) (l5 : Int32) (l6 : Int32) (l7 : Option Value)    : val (126, d + 6, 23, [some (.ref 91), some (.long l1), none, some (.long l3), none, some (.int l5), some (.int l6), l7, none, none, none, none, none, none, none, none], [], w) = (if (gI w 91 5) ≤ l6 then val (126, d + 6, 82, [some (.ref 91), some (.long l1), none, some (.long l3), none, some (.int l5), some (.int l6), l7, none, none, none, none, none, none, none, none], [.int (gI w 91 5)], w) else val (126, d + 6, 35, [some (.ref 91), some (.long l1), none, some (.long l3), none, some (.int l5), some (.int l6), l7, none, none, none, none, none, none, none, none], [.int l6, .ref 91], w)) := by
  refine (val_g (c2 := (126, d + 6, 25, [some (.ref 91), some (.long l1), none, some (.long l3), none, some (.int l5), some (.int l6), l7, none, none, none, none, none, none, none, none], [.int l6], w)) rfl).trans ?_
  refine (val_g (c2 := (126, d + 6, 26, [some (.ref 91), some (.long l1), none, some (.long l3), none, some (.int l5), some (.int l6), l7, none, none, none, none, none, none, none, none], [.ref 91, .int l6], w)) rfl).trans ?_
  refine (val_gf rfl (hW.k 91 (Nat.le_of_ble_eq_true rfl) (Nat.le_of_ble_eq_true rfl)) rfl).trans ?_
  show val (126, d + 6, 29, [some (.ref 91), some (.long l1), none, some (.long l3), none, some (.int l5), some (.int l6), l7, none, none, none, none, none, none, none, none], [.int (gI w 91 5), .int l6], w) = _
  by_cases hc722 : (gI w 91 5) ≤ l6
  · refine ((val_ic_ge rfl).trans (if_pos hc722)).trans ?_
    show val (126, d + 6, 78, [some (.ref 91), some (.long l1), none, some (.long l3), none, some (.int l5), some (.int l6), l7, none, none, none, none, none, none, none, none], [], w) = _
    refine Eq.trans ?_ (if_pos hc722).symm
    refine (val_g (c2 := (126, d + 6, 79, [some (.ref 91), some (.long l1), none, some (.long l3), none, some (.int l5), some (.int l6), l7, none, none, none, none, none, none, none, none], [.ref 91], w)) rfl).trans ?_
    refine (val_gf rfl (hW.k 91 (Nat.le_of_ble_eq_true rfl) (Nat.le_of_ble_eq_true rfl)) rfl).trans ?_
    show val (126, d + 6, 82, [some (.ref 91), some (.long l1), none, some (.long l3), none, some (.int l5), some (.int l6), l7, none, none, none, none, none, none, none, none], [.int (gI w 91 5)], w) = _
    rfl
  · refine ((val_ic_ge rfl).trans (if_neg hc722)).trans ?_
    show val (126, d + 6, 32, [some (.ref 91), some (.long l1), none, some (.long l3), none, some (.int l5), some (.int l6), l7, none, none, none, none, none, none, none, none], [], w) = _
    refine Eq.trans ?_ (if_neg hc722).symm
    refine (val_g (c2 := (126, d + 6, 33, [some (.ref 91), some (.long l1), none, some (.long l3), none, some (.int l5), some (.int l6), l7, none, none, none, none, none, none, none, none], [.ref 91], w)) rfl).trans ?_
    refine (val_g (c2 := (126, d + 6, 35, [some (.ref 91), some (.long l1), none, some (.long l3), none, some (.int l5), some (.int l6), l7, none, none, none, none, none, none, none, none], [.int l6, .ref 91], w)) rfl).trans ?_
    rfl
theorem tr_126_38 (d : Nat) (w : Wd) (l1 : Int64) (l3 : Int64) (l5 : Int32) (l6 : Int32) (s0 : Int64) (l7 : Option Value)    : val (126, d + 6, 38, [some (.ref 91), some (.long l1), none, some (.long l3), none, some (.int l5), some (.int l6), l7, none, none, none, none, none, none, none, none], [.long s0], w) = val (126, d + 6, 43, [some (.ref 91), some (.long l1), none, some (.long l3), none, some (.int l5), some (.int l6), some (.long s0), none, none, none, none, none, none, none, none], [.long s0, .long l1], w) := by
  refine (val_g (c2 := (126, d + 6, 40, [some (.ref 91), some (.long l1), none, some (.long l3), none, some (.int l5), some (.int l6), some (.long s0), none, none, none, none, none, none, none, none], [], w)) rfl).trans ?_
  refine (val_g (c2 := (126, d + 6, 41, [some (.ref 91), some (.long l1), none, some (.long l3), none, some (.int l5), some (.int l6), some (.long s0), none, none, none, none, none, none, none, none], [.long l1], w)) rfl).trans ?_
  refine (val_g (c2 := (126, d + 6, 43, [some (.ref 91), some (.long l1), none, some (.long l3), none, some (.int l5), some (.int l6), some (.long s0), none, none, none, none, none, none, none, none], [.long s0, .long l1], w)) rfl).trans ?_
  rfl
theorem tr_126_46 (d : Nat) (w : Wd) (l1 : Int64) (l3 : Int64) (l5 : Int32) (l6 : Int32) (l7 : Int64) (s0 : Int64)     : val (126, d + 6, 46, [some (.ref 91), some (.long l1), none, some (.long l3), none, some (.int l5), some (.int l6), some (.long l7), none, none, none, none, none, none, none, none], [.long s0], w) = val (126, d + 6, 50, [some (.ref 91), some (.long s0), none, some (.long l3), none, some (.int l5), some (.int l6), some (.long l7), none, none, none, none, none, none, none, none], [.int l6, .long l3], w) := by
  refine (val_g (c2 := (126, d + 6, 47, [some (.ref 91), some (.long s0), none, some (.long l3), none, some (.int l5), some (.int l6), some (.long l7), none, none, none, none, none, none, none, none], [], w)) rfl).trans ?_
  refine (val_g (c2 := (126, d + 6, 48, [some (.ref 91), some (.long s0), none, some (.long l3), none, some (.int l5), some (.int l6), some (.long l7), none, none, none, none, none, none, none, none], [.long l3], w)) rfl).trans ?_
  refine (val_g (c2 := (126, d + 6, 50, [some (.ref 91), some (.long s0), none, some (.long l3), none, some (.int l5), some (.int l6), some (.long l7), none, none, none, none, none, none, none, none], [.int l6, .long l3], w)) rfl).trans ?_
  rfl
theorem tr_126_53 (d : Nat) (w : Wd) (l1 : Int64) (l3 : Int64) (l5 : Int32) (l6 : Int32) (l7 : Int64) (s0 : Int64) (s1 : Int64)     : val (126, d + 6, 53, [some (.ref 91), some (.long l1), none, some (.long l3), none, some (.int l5), some (.int l6), some (.long l7), none, none, none, none, none, none, none, none], [.long s0, .long s1], w) = val (126, d + 6, 55, [some (.ref 91), some (.long l1), none, some (.long l3), none, some (.int l5), some (.int l6), some (.long l7), none, none, none, none, none, none, none, none], [.long l7, .long s0, .long s1], w) := by
  refine (val_g (c2 := (126, d + 6, 55, [some (.ref 91), some (.long l1), none, some (.long l3), none, some (.int l5), some (.int l6), some (.long l7), none, none, none, none, none, none, none, none], [.long l7, .long s0, .long s1], w)) rfl).trans ?_
  rfl
theorem tr_126_61 (d : Nat) (w : Wd) (l1 : Int64) (l3 : Int64) (l5 : Int32) (l6 : Int32) (l7 : Int64) (s0 : Int64)     : val (126, d + 6, 61, [some (.ref 91), some (.long l1), none, some (.long l3), none, some (.int l5), some (.int l6), some (.long l7), none, none, none, none, none, none, none, none], [.long s0], w) = val (126, d + 6, 23, [some (.ref 91), some (.long l1), none, some (.long s0), none, some (.int (l5 + (l6 * l6))), some (.int (l6 + 1)), some (.long l7), none, none, none, none, none, none, none, none], [], w) := by
  refine (val_g (c2 := (126, d + 6, 62, [some (.ref 91), some (.long l1), none, some (.long s0), none, some (.int l5), some (.int l6), some (.long l7), none, none, none, none, none, none, none, none], [], w)) rfl).trans ?_
  refine (val_g (c2 := (126, d + 6, 64, [some (.ref 91), some (.long l1), none, some (.long s0), none, some (.int l5), some (.int l6), some (.long l7), none, none, none, none, none, none, none, none], [.int l5], w)) rfl).trans ?_
  refine (val_g (c2 := (126, d + 6, 66, [some (.ref 91), some (.long l1), none, some (.long s0), none, some (.int l5), some (.int l6), some (.long l7), none, none, none, none, none, none, none, none], [.int l6, .int l5], w)) rfl).trans ?_
  refine (val_g (c2 := (126, d + 6, 68, [some (.ref 91), some (.long l1), none, some (.long s0), none, some (.int l5), some (.int l6), some (.long l7), none, none, none, none, none, none, none, none], [.int l6, .int l6, .int l5], w)) rfl).trans ?_
  refine (val_g (c2 := (126, d + 6, 69, [some (.ref 91), some (.long l1), none, some (.long s0), none, some (.int l5), some (.int l6), some (.long l7), none, none, none, none, none, none, none, none], [.int (l6 * l6), .int l5], w)) rfl).trans ?_
  refine (val_g (c2 := (126, d + 6, 70, [some (.ref 91), some (.long l1), none, some (.long s0), none, some (.int l5), some (.int l6), some (.long l7), none, none, none, none, none, none, none, none], [.int (l5 + (l6 * l6))], w)) rfl).trans ?_
  refine (val_g (c2 := (126, d + 6, 72, [some (.ref 91), some (.long l1), none, some (.long s0), none, some (.int (l5 + (l6 * l6))), some (.int l6), some (.long l7), none, none, none, none, none, none, none, none], [], w)) rfl).trans ?_
  refine (val_g (c2 := (126, d + 6, 75, [some (.ref 91), some (.long l1), none, some (.long s0), none, some (.int (l5 + (l6 * l6))), some (.int (l6 + 1)), some (.long l7), none, none, none, none, none, none, none, none], [], w)) rfl).trans ?_
  refine (val_g (c2 := (126, d + 6, 23, [some (.ref 91), some (.long l1), none, some (.long s0), none, some (.int (l5 + (l6 * l6))), some (.int (l6 + 1)), some (.long l7), none, none, none, none, none, none, none, none], [], w)) rfl).trans ?_
  rfl
theorem tr_126_85 (d : Nat) (w : Wd) (hW : Fix w) (l1 : Int64) (l3 : Int64) (l5 : Int32) (l6 : Int32) (s0 : Int64) (l7 : Option Value)    : val (126, d + 6, 85, [some (.ref 91), some (.long l1), none, some (.long l3), none, some (.int l5), some (.int l6), l7, none, none, none, none, none, none, none, none], [.long s0], w) = val (126, d + 6, 100, [some (.ref 91), some (.long l1), none, some (.long l3), none, some (.int l5), some (.long s0), none, none, none, none, none, none, none, none, none], [.int (((gI w 91 5) * ((gI w 91 5) - 1)) / 2)], w) := by
  refine (val_g (c2 := (126, d + 6, 87, [some (.ref 91), some (.long l1), none, some (.long l3), none, some (.int l5), some (.long s0), none, none, none, none, none, none, none, none, none], [], w)) rfl).trans ?_
  refine (val_g (c2 := (126, d + 6, 88, [some (.ref 91), some (.long l1), none, some (.long l3), none, some (.int l5), some (.long s0), none, none, none, none, none, none, none, none, none], [.ref 91], w)) rfl).trans ?_
  refine (val_gf rfl (hW.k 91 (Nat.le_of_ble_eq_true rfl) (Nat.le_of_ble_eq_true rfl)) rfl).trans ?_
  show val (126, d + 6, 91, [some (.ref 91), some (.long l1), none, some (.long l3), none, some (.int l5), some (.long s0), none, none, none, none, none, none, none, none, none], [.int (gI w 91 5)], w) = _
  refine (val_g (c2 := (126, d + 6, 92, [some (.ref 91), some (.long l1), none, some (.long l3), none, some (.int l5), some (.long s0), none, none, none, none, none, none, none, none, none], [.ref 91, .int (gI w 91 5)], w)) rfl).trans ?_
  refine (val_gf rfl (hW.k 91 (Nat.le_of_ble_eq_true rfl) (Nat.le_of_ble_eq_true rfl)) rfl).trans ?_
  show val (126, d + 6, 95, [some (.ref 91), some (.long l1), none, some (.long l3), none, some (.int l5), some (.long s0), none, none, none, none, none, none, none, none, none], [.int (gI w 91 5), .int (gI w 91 5)], w) = _
  refine (val_g (c2 := (126, d + 6, 96, [some (.ref 91), some (.long l1), none, some (.long l3), none, some (.int l5), some (.long s0), none, none, none, none, none, none, none, none, none], [.int 1, .int (gI w 91 5), .int (gI w 91 5)], w)) rfl).trans ?_
  refine (val_g (c2 := (126, d + 6, 97, [some (.ref 91), some (.long l1), none, some (.long l3), none, some (.int l5), some (.long s0), none, none, none, none, none, none, none, none, none], [.int ((gI w 91 5) - 1), .int (gI w 91 5)], w)) rfl).trans ?_
  refine (val_g (c2 := (126, d + 6, 98, [some (.ref 91), some (.long l1), none, some (.long l3), none, some (.int l5), some (.long s0), none, none, none, none, none, none, none, none, none], [.int ((gI w 91 5) * ((gI w 91 5) - 1))], w)) rfl).trans ?_
  refine (val_g (c2 := (126, d + 6, 99, [some (.ref 91), some (.long l1), none, some (.long l3), none, some (.int l5), some (.long s0), none, none, none, none, none, none, none, none, none], [.int 2, .int ((gI w 91 5) * ((gI w 91 5) - 1))], w)) rfl).trans ?_
  refine (val_idiv rfl (by decide)).trans ?_
  show val (126, d + 6, 100, [some (.ref 91), some (.long l1), none, some (.long l3), none, some (.int l5), some (.long s0), none, none, none, none, none, none, none, none, none], [.int (((gI w 91 5) * ((gI w 91 5) - 1)) / 2)], w) = _
  rfl
theorem tr_126_103 (d : Nat) (w : Wd) (l1 : Int64) (l3 : Int64) (l5 : Int32) (l6 : Int64) (s0 : Int64)     : val (126, d + 6, 103, [some (.ref 91), some (.long l1), none, some (.long l3), none, some (.int l5), some (.long l6), none, none, none, none, none, none, none, none, none], [.long s0], w) = val (126, d + 6, 107, [some (.ref 91), some (.long l1), none, some (.long l3), none, some (.int l5), some (.long l6), none, some (.long s0), none, none, none, none, none, none, none], [.int l5], w) := by
  refine (val_g (c2 := (126, d + 6, 105, [some (.ref 91), some (.long l1), none, some (.long l3), none, some (.int l5), some (.long l6), none, some (.long s0), none, none, none, none, none, none, none], [], w)) rfl).trans ?_
  refine (val_g (c2 := (126, d + 6, 107, [some (.ref 91), some (.long l1), none, some (.long l3), none, some (.int l5), some (.long l6), none, some (.long s0), none, none, none, none, none, none, none], [.int l5], w)) rfl).trans ?_
  rfl
theorem tr_126_110 (d : Nat) (w : Wd) (l1 : Int64) (l3 : Int64) (l5 : Int32) (l6 : Int64) (l8 : Int64) (s0 : Int64)     : val (126, d + 6, 110, [some (.ref 91), some (.long l1), none, some (.long l3), none, some (.int l5), some (.long l6), none, some (.long l8), none, none, none, none, none, none, none], [.long s0], w) = val (126, d + 6, 115, [some (.ref 91), some (.long l1), none, some (.long l3), none, some (.int l5), some (.long l6), none, some (.long l8), none, some (.long s0), none, none, none, none, none], [.long l3, .long l6], w) := by
  refine (val_g (c2 := (126, d + 6, 112, [some (.ref 91), some (.long l1), none, some (.long l3), none, some (.int l5), some (.long l6), none, some (.long l8), none, some (.long s0), none, none, none, none, none], [], w)) rfl).trans ?_
  refine (val_g (c2 := (126, d + 6, 114, [some (.ref 91), some (.long l1), none, some (.long l3), none, some (.int l5), some (.long l6), none, some (.long l8), none, some (.long s0), none, none, none, none, none], [.long l6], w)) rfl).trans ?_
  refine (val_g (c2 := (126, d + 6, 115, [some (.ref 91), some (.long l1), none, some (.long l3), none, some (.int l5), some (.long l6), none, some (.long l8), none, some (.long s0), none, none, none, none, none], [.long l3, .long l6], w)) rfl).trans ?_
  rfl
theorem tr_126_118 (d : Nat) (w : Wd) (l1 : Int64) (l3 : Int64) (l5 : Int32) (l6 : Int64) (l8 : Int64) (l10 : Int64) (s0 : Int64)     : val (126, d + 6, 118, [some (.ref 91), some (.long l1), none, some (.long l3), none, some (.int l5), some (.long l6), none, some (.long l8), none, some (.long l10), none, none, none, none, none], [.long s0], w) = val (126, d + 6, 121, [some (.ref 91), some (.long l1), none, some (.long l3), none, some (.int l5), some (.long l6), none, some (.long l8), none, some (.long l10), none, none, none, none, none], [.long l1, .long l8, .long s0], w) := by
  refine (val_g (c2 := (126, d + 6, 120, [some (.ref 91), some (.long l1), none, some (.long l3), none, some (.int l5), some (.long l6), none, some (.long l8), none, some (.long l10), none, none, none, none, none], [.long l8, .long s0], w)) rfl).trans ?_
  refine (val_g (c2 := (126, d + 6, 121, [some (.ref 91), some (.long l1), none, some (.long l3), none, some (.int l5), some (.long l6), none, some (.long l8), none, some (.long l10), none, none, none, none, none], [.long l1, .long l8, .long s0], w)) rfl).trans ?_
  rfl
theorem tr_126_127 (d : Nat) (w : Wd) (l1 : Int64) (l3 : Int64) (l5 : Int32) (l6 : Int64) (l8 : Int64) (l10 : Int64) (s0 : Int64)     : val (126, d + 6, 127, [some (.ref 91), some (.long l1), none, some (.long l3), none, some (.int l5), some (.long l6), none, some (.long l8), none, some (.long l10), none, none, none, none, none], [.long s0], w) = val (126, d + 6, 133, [some (.ref 91), some (.long l1), none, some (.long l3), none, some (.int l5), some (.long l6), none, some (.long l8), none, some (.long l10), none, some (.long s0), none, none, none], [.long l10, .long l6], w) := by
  refine (val_g (c2 := (126, d + 6, 129, [some (.ref 91), some (.long l1), none, some (.long l3), none, some (.int l5), some (.long l6), none, some (.long l8), none, some (.long l10), none, some (.long s0), none, none, none], [], w)) rfl).trans ?_
  refine (val_g (c2 := (126, d + 6, 131, [some (.ref 91), some (.long l1), none, some (.long l3), none, some (.int l5), some (.long l6), none, some (.long l8), none, some (.long l10), none, some (.long s0), none, none, none], [.long l6], w)) rfl).trans ?_
  refine (val_g (c2 := (126, d + 6, 133, [some (.ref 91), some (.long l1), none, some (.long l3), none, some (.int l5), some (.long l6), none, some (.long l8), none, some (.long l10), none, some (.long s0), none, none, none], [.long l10, .long l6], w)) rfl).trans ?_
  rfl
theorem tr_126_136 (d : Nat) (w : Wd) (l1 : Int64) (l3 : Int64) (l5 : Int32) (l6 : Int64) (l8 : Int64) (l10 : Int64) (l12 : Int64) (s0 : Int64)     : val (126, d + 6, 136, [some (.ref 91), some (.long l1), none, some (.long l3), none, some (.int l5), some (.long l6), none, some (.long l8), none, some (.long l10), none, some (.long l12), none, none, none], [.long s0], w) = val (126, d + 6, 140, [some (.ref 91), some (.long l1), none, some (.long l3), none, some (.int l5), some (.long l6), none, some (.long l8), none, some (.long l10), none, some (.long l12), none, none, none], [.long l8, .long l8, .long s0], w) := by
  refine (val_g (c2 := (126, d + 6, 138, [some (.ref 91), some (.long l1), none, some (.long l3), none, some (.int l5), some (.long l6), none, some (.long l8), none, some (.long l10), none, some (.long l12), none, none, none], [.long l8, .long s0], w)) rfl).trans ?_
  refine (val_g (c2 := (126, d + 6, 140, [some (.ref 91), some (.long l1), none, some (.long l3), none, some (.int l5), some (.long l6), none, some (.long l8), none, some (.long l10), none, some (.long l12), none, none, none], [.long l8, .long l8, .long s0], w)) rfl).trans ?_
  rfl
theorem tr_126_146 (d : Nat) (w : Wd) (l1 : Int64) (l3 : Int64) (l5 : Int32) (l6 : Int64) (l8 : Int64) (l10 : Int64) (l12 : Int64) (s0 : Int64)     : val (126, d + 6, 146, [some (.ref 91), some (.long l1), none, some (.long l3), none, some (.int l5), some (.long l6), none, some (.long l8), none, some (.long l10), none, some (.long l12), none, none, none], [.long s0], w) = val (126, d + 6, 153, [some (.ref 91), some (.long l1), none, some (.long l3), none, some (.int l5), some (.long l6), none, some (.long l8), none, some (.long l10), none, some (.long l12), none, some (.long s0), none], [.long s0, .long l12, .ref 91], w) := by
  refine (val_g (c2 := (126, d + 6, 148, [some (.ref 91), some (.long l1), none, some (.long l3), none, some (.int l5), some (.long l6), none, some (.long l8), none, some (.long l10), none, some (.long l12), none, some (.long s0), none], [], w)) rfl).trans ?_
  refine (val_g (c2 := (126, d + 6, 149, [some (.ref 91), some (.long l1), none, some (.long l3), none, some (.int l5), some (.long l6), none, some (.long l8), none, some (.long l10), none, some (.long l12), none, some (.long s0), none], [.ref 91], w)) rfl).trans ?_
  refine (val_g (c2 := (126, d + 6, 151, [some (.ref 91), some (.long l1), none, some (.long l3), none, some (.int l5), some (.long l6), none, some (.long l8), none, some (.long l10), none, some (.long l12), none, some (.long s0), none], [.long l12, .ref 91], w)) rfl).trans ?_
  refine (val_g (c2 := (126, d + 6, 153, [some (.ref 91), some (.long l1), none, some (.long l3), none, some (.int l5), some (.long l6), none, some (.long l8), none, some (.long l10), none, some (.long l12), none, some (.long s0), none], [.long s0, .long l12, .ref 91], w)) rfl).trans ?_
  rfl
theorem tr_126_156 (d : Nat) (w : Wd) (hW : Fix w) (l1 : Int64) (l3 : Int64) (l5 : Int32) (l6 : Int64) (l8 : Int64) (l10 : Int64) (l12 : Int64) (l14 : Int64) (s0 : Int64)     : val (126, d + 6, 156, [some (.ref 91), some (.long l1), none, some (.long l3), none, some (.int l5), some (.long l6), none, some (.long l8), none, some (.long l10), none, some (.long l12), none, some (.long l14), none], [.long s0, .ref 91], w) = val (126, d + 6, 167, [some (.ref 91), some (.long l1), none, some (.long l3), none, some (.int l5), some (.long l6), none, some (.long l8), none, some (.long l10), none, some (.long l12), none, some (.long l14), none], [.long l8, .long (gL ((sL w 91 7 s0)) 91 7), .long l1, .ref 91], (sL w 91 7 s0)) := by
  refine (val_pf rfl (hW.k 91 (Nat.le_of_ble_eq_true rfl) (Nat.le_of_ble_eq_true rfl)) rfl).trans ?_
  show val (126, d + 6, 159, [some (.ref 91), some (.long l1), none, some (.long l3), none, some (.int l5), some (.long l6), none, some (.long l8), none, some (.long l10), none, some (.long l12), none, some (.long l14), none], [], (sL w 91 7 s0)) = _
  refine (val_g (c2 := (126, d + 6, 160, [some (.ref 91), some (.long l1), none, some (.long l3), none, some (.int l5), some (.long l6), none, some (.long l8), none, some (.long l10), none, some (.long l12), none, some (.long l14), none], [.ref 91], (sL w 91 7 s0))) rfl).trans ?_
  refine (val_g (c2 := (126, d + 6, 161, [some (.ref 91), some (.long l1), none, some (.long l3), none, some (.int l5), some (.long l6), none, some (.long l8), none, some (.long l10), none, some (.long l12), none, some (.long l14), none], [.long l1, .ref 91], (sL w 91 7 s0))) rfl).trans ?_
  refine (val_g (c2 := (126, d + 6, 162, [some (.ref 91), some (.long l1), none, some (.long l3), none, some (.int l5), some (.long l6), none, some (.long l8), none, some (.long l10), none, some (.long l12), none, some (.long l14), none], [.ref 91, .long l1, .ref 91], (sL w 91 7 s0))) rfl).trans ?_
  refine (val_gf (w := (sL w 91 7 s0)) rfl (hW.k 91 (Nat.le_of_ble_eq_true rfl) (Nat.le_of_ble_eq_true rfl)) rfl).trans ?_
  show val (126, d + 6, 165, [some (.ref 91), some (.long l1), none, some (.long l3), none, some (.int l5), some (.long l6), none, some (.long l8), none, some (.long l10), none, some (.long l12), none, some (.long l14), none], [.long (gL ((sL w 91 7 s0)) 91 7), .long l1, .ref 91], (sL w 91 7 s0)) = _
  refine (val_g (c2 := (126, d + 6, 167, [some (.ref 91), some (.long l1), none, some (.long l3), none, some (.int l5), some (.long l6), none, some (.long l8), none, some (.long l10), none, some (.long l12), none, some (.long l14), none], [.long l8, .long (gL ((sL w 91 7 s0)) 91 7), .long l1, .ref 91], (sL w 91 7 s0))) rfl).trans ?_
  rfl
theorem tr_126_173 (d : Nat) (w : Wd) (l1 : Int64) (l3 : Int64) (l5 : Int32) (l6 : Int64) (l8 : Int64) (l10 : Int64) (l12 : Int64) (l14 : Int64) (s0 : Int64)     : val (126, d + 6, 173, [some (.ref 91), some (.long l1), none, some (.long l3), none, some (.int l5), some (.long l6), none, some (.long l8), none, some (.long l10), none, some (.long l12), none, some (.long l14), none], [.long s0, .ref 91], w) = val (126, d + 6, 175, [some (.ref 91), some (.long l1), none, some (.long l3), none, some (.int l5), some (.long l6), none, some (.long l8), none, some (.long l10), none, some (.long l12), none, some (.long l14), none], [.long l6, .long s0, .ref 91], w) := by
  refine (val_g (c2 := (126, d + 6, 175, [some (.ref 91), some (.long l1), none, some (.long l3), none, some (.int l5), some (.long l6), none, some (.long l8), none, some (.long l10), none, some (.long l12), none, some (.long l14), none], [.long l6, .long s0, .ref 91], w)) rfl).trans ?_
  rfl
theorem tr_126_178 (d : Nat) (w : Wd) (hW : Fix w) (l1 : Int64) (l3 : Int64) (l5 : Int32) (l6 : Int64) (l8 : Int64) (l10 : Int64) (l12 : Int64) (l14 : Int64) (s0 : Int64)     : val (126, d + 6, 178, [some (.ref 91), some (.long l1), none, some (.long l3), none, some (.int l5), some (.long l6), none, some (.long l8), none, some (.long l10), none, some (.long l12), none, some (.long l14), none], [.long s0, .ref 91], w) = val (126, d + 6, 184, [some (.ref 91), some (.long l1), none, some (.long l3), none, some (.int l5), some (.long l6), none, some (.long l8), none, some (.long l10), none, some (.long l12), none, some (.long l14), none], [.long l6, .ref 91], (sL w 91 8 s0)) := by
  refine (val_pf rfl (hW.k 91 (Nat.le_of_ble_eq_true rfl) (Nat.le_of_ble_eq_true rfl)) rfl).trans ?_
  show val (126, d + 6, 181, [some (.ref 91), some (.long l1), none, some (.long l3), none, some (.int l5), some (.long l6), none, some (.long l8), none, some (.long l10), none, some (.long l12), none, some (.long l14), none], [], (sL w 91 8 s0)) = _
  refine (val_g (c2 := (126, d + 6, 182, [some (.ref 91), some (.long l1), none, some (.long l3), none, some (.int l5), some (.long l6), none, some (.long l8), none, some (.long l10), none, some (.long l12), none, some (.long l14), none], [.ref 91], (sL w 91 8 s0))) rfl).trans ?_
  refine (val_g (c2 := (126, d + 6, 184, [some (.ref 91), some (.long l1), none, some (.long l3), none, some (.int l5), some (.long l6), none, some (.long l8), none, some (.long l10), none, some (.long l12), none, some (.long l14), none], [.long l6, .ref 91], (sL w 91 8 s0))) rfl).trans ?_
  rfl
theorem tr_126_187 (d : Nat) (w : Wd) (l1 : Int64) (l3 : Int64) (l5 : Int32) (l6 : Int64) (l8 : Int64) (l10 : Int64) (l12 : Int64) (l14 : Int64)     : val (126, d + 6, 187, [some (.ref 91), some (.long l1), none, some (.long l3), none, some (.int l5), some (.long l6), none, some (.long l8), none, some (.long l10), none, some (.long l12), none, some (.long l14), none], [], w) = some (none, w) := by
  exact val_r rfl
/-- BelfryHouse$Recording.measureErrors(J)V -/
theorem tr_127 (d : Nat) (w : Wd) (hW : Fix w) (x0 : Int64)     : val (127, d + 5, 0, [some (.ref 91), some (.long x0), none, none, none, none, none, none, none, none], [], w) = val (127, d + 5, 10, [some (.ref 91), some (.long x0), none, some (.long 0), none, some (.int 0), none, none, none, none], [], (sL w 91 9 0)) := by
  refine (val_g (c2 := (127, d + 5, 1, [some (.ref 91), some (.long x0), none, none, none, none, none, none, none, none], [.long 0], w)) rfl).trans ?_
  refine (val_g (c2 := (127, d + 5, 2, [some (.ref 91), some (.long x0), none, some (.long 0), none, none, none, none, none, none], [], w)) rfl).trans ?_
  refine (val_g (c2 := (127, d + 5, 3, [some (.ref 91), some (.long x0), none, some (.long 0), none, none, none, none, none, none], [.ref 91], w)) rfl).trans ?_
  refine (val_g (c2 := (127, d + 5, 4, [some (.ref 91), some (.long x0), none, some (.long 0), none, none, none, none, none, none], [.long 0, .ref 91], w)) rfl).trans ?_
  refine (val_pf rfl (hW.k 91 (Nat.le_of_ble_eq_true rfl) (Nat.le_of_ble_eq_true rfl)) rfl).trans ?_
  show val (127, d + 5, 7, [some (.ref 91), some (.long x0), none, some (.long 0), none, none, none, none, none, none], [], (sL w 91 9 0)) = _
  refine (val_g (c2 := (127, d + 5, 8, [some (.ref 91), some (.long x0), none, some (.long 0), none, none, none, none, none, none], [.int 0], (sL w 91 9 0))) rfl).trans ?_
  refine (val_g (c2 := (127, d + 5, 10, [some (.ref 91), some (.long x0), none, some (.long 0), none, some (.int 0), none, none, none, none], [], (sL w 91 9 0))) rfl).trans ?_
  rfl
theorem tr_127_10 (d : Nat) (w : Wd) (hW : Fix w) (l1 : Int64) (l3 : Int64) (l5 : Int32) (l6 : Option Value) (l8 : Option Value)    : val (127, d + 5, 10, [some (.ref 91), some (.long l1), none, some (.long l3), none, some (.int l5), l6, none, l8, none], [], w) = (if (gI w 91 5) ≤ l5 then val (127, d + 5, 99, [some (.ref 91), some (.long l1), none, some (.long l3), none, some (.int l5), l6, none, l8, none], [.long l1, .long l3, .ref 91], w) else val (127, d + 5, 29, [some (.ref 91), some (.long l1), none, some (.long l3), none, some (.int l5), l6, none, l8, none], [.int l5, .long (gL w 91 7), .long (gL w 91 8)], w)) := by
  refine (val_g (c2 := (127, d + 5, 12, [some (.ref 91), some (.long l1), none, some (.long l3), none, some (.int l5), l6, none, l8, none], [.int l5], w)) rfl).trans ?_
  refine (val_g (c2 := (127, d + 5, 13, [some (.ref 91), some (.long l1), none, some (.long l3), none, some (.int l5), l6, none, l8, none], [.ref 91, .int l5], w)) rfl).trans ?_
  refine (val_gf rfl (hW.k 91 (Nat.le_of_ble_eq_true rfl) (Nat.le_of_ble_eq_true rfl)) rfl).trans ?_
  show val (127, d + 5, 16, [some (.ref 91), some (.long l1), none, some (.long l3), none, some (.int l5), l6, none, l8, none], [.int (gI w 91 5), .int l5], w) = _
  by_cases hc725 : (gI w 91 5) ≤ l5
  · refine ((val_ic_ge rfl).trans (if_pos hc725)).trans ?_
    show val (127, d + 5, 96, [some (.ref 91), some (.long l1), none, some (.long l3), none, some (.int l5), l6, none, l8, none], [], w) = _
    refine Eq.trans ?_ (if_pos hc725).symm
    refine (val_g (c2 := (127, d + 5, 97, [some (.ref 91), some (.long l1), none, some (.long l3), none, some (.int l5), l6, none, l8, none], [.ref 91], w)) rfl).trans ?_
    refine (val_g (c2 := (127, d + 5, 98, [some (.ref 91), some (.long l1), none, some (.long l3), none, some (.int l5), l6, none, l8, none], [.long l3, .ref 91], w)) rfl).trans ?_
    refine (val_g (c2 := (127, d + 5, 99, [some (.ref 91), some (.long l1), none, some (.long l3), none, some (.int l5), l6, none, l8, none], [.long l1, .long l3, .ref 91], w)) rfl).trans ?_
    rfl
  · refine ((val_ic_ge rfl).trans (if_neg hc725)).trans ?_
    show val (127, d + 5, 19, [some (.ref 91), some (.long l1), none, some (.long l3), none, some (.int l5), l6, none, l8, none], [], w) = _
    refine Eq.trans ?_ (if_neg hc725).symm
    refine (val_g (c2 := (127, d + 5, 20, [some (.ref 91), some (.long l1), none, some (.long l3), none, some (.int l5), l6, none, l8, none], [.ref 91], w)) rfl).trans ?_
    refine (val_gf rfl (hW.k 91 (Nat.le_of_ble_eq_true rfl) (Nat.le_of_ble_eq_true rfl)) rfl).trans ?_
    show val (127, d + 5, 23, [some (.ref 91), some (.long l1), none, some (.long l3), none, some (.int l5), l6, none, l8, none], [.long (gL w 91 8)], w) = _
    refine (val_g (c2 := (127, d + 5, 24, [some (.ref 91), some (.long l1), none, some (.long l3), none, some (.int l5), l6, none, l8, none], [.ref 91, .long (gL w 91 8)], w)) rfl).trans ?_
    refine (val_gf rfl (hW.k 91 (Nat.le_of_ble_eq_true rfl) (Nat.le_of_ble_eq_true rfl)) rfl).trans ?_
    show val (127, d + 5, 27, [some (.ref 91), some (.long l1), none, some (.long l3), none, some (.int l5), l6, none, l8, none], [.long (gL w 91 7), .long (gL w 91 8)], w) = _
    refine (val_g (c2 := (127, d + 5, 29, [some (.ref 91), some (.long l1), none, some (.long l3), none, some (.int l5), l6, none, l8, none], [.int l5, .long (gL w 91 7), .long (gL w 91 8)], w)) rfl).trans ?_
    rfl
theorem tr_127_38 (d : Nat) (w : Wd) (l1 : Int64) (l3 : Int64) (l5 : Int32) (s0 : Int64) (l6 : Option Value) (l8 : Option Value)    : val (127, d + 5, 38, [some (.ref 91), some (.long l1), none, some (.long l3), none, some (.int l5), l6, none, l8, none], [.long s0], w) = val (127, d + 5, 43, [some (.ref 91), some (.long l1), none, some (.long l3), none, some (.int l5), some (.long s0), none, l8, none], [.int l5, .ref 91], w) := by
  refine (val_g (c2 := (127, d + 5, 40, [some (.ref 91), some (.long l1), none, some (.long l3), none, some (.int l5), some (.long s0), none, l8, none], [], w)) rfl).trans ?_
  refine (val_g (c2 := (127, d + 5, 41, [some (.ref 91), some (.long l1), none, some (.long l3), none, some (.int l5), some (.long s0), none, l8, none], [.ref 91], w)) rfl).trans ?_
  refine (val_g (c2 := (127, d + 5, 43, [some (.ref 91), some (.long l1), none, some (.long l3), none, some (.int l5), some (.long s0), none, l8, none], [.int l5, .ref 91], w)) rfl).trans ?_
  rfl
theorem tr_127_46 (d : Nat) (w : Wd) (l1 : Int64) (l3 : Int64) (l5 : Int32) (l6 : Int64) (s0 : Int64) (l8 : Option Value)    : val (127, d + 5, 46, [some (.ref 91), some (.long l1), none, some (.long l3), none, some (.int l5), some (.long l6), none, l8, none], [.long s0], w) = val (127, d + 5, 48, [some (.ref 91), some (.long l1), none, some (.long l3), none, some (.int l5), some (.long l6), none, l8, none], [.long l6, .long s0], w) := by
  refine (val_g (c2 := (127, d + 5, 48, [some (.ref 91), some (.long l1), none, some (.long l3), none, some (.int l5), some (.long l6), none, l8, none], [.long l6, .long s0], w)) rfl).trans ?_
  rfl
theorem tr_127_51 (d : Nat) (w : Wd) (hW : Fix w) (l1 : Int64) (l3 : Int64) (l5 : Int32) (l6 : Int64) (s0 : Int64) (l8 : Option Value)   (hy1 : inB l5 300 = true) : val (127, d + 5, 51, [some (.ref 91), some (.long l1), none, some (.long l3), none, some (.int l5), some (.long l6), none, l8, none], [.long s0], w) = val (127, d + 5, 83, [some (.ref 91), some (.long l1), none, some (.long l3), none, some (.int l5), some (.long l6), none, some (.long s0), none], [.long s0, .long s0, .long l3], (sL ((sL w 95 (l5).toNatClampNeg s0)) 91 9 ((fn_102 ((gL ((sL w 95 (l5).toNatClampNeg s0)) 91 9)) ((fn_96 s0)))))) := by
  refine (val_g (c2 := (127, d + 5, 53, [some (.ref 91), some (.long l1), none, some (.long l3), none, some (.int l5), some (.long l6), none, some (.long s0), none], [], w)) rfl).trans ?_
  refine (val_g (c2 := (127, d + 5, 54, [some (.ref 91), some (.long l1), none, some (.long l3), none, some (.int l5), some (.long l6), none, some (.long s0), none], [.ref 91], w)) rfl).trans ?_
  refine (val_gf rfl (hW.k 91 (Nat.le_of_ble_eq_true rfl) (Nat.le_of_ble_eq_true rfl)) (fvR (hW.r 91 3 95 rfl))).trans ?_
  show val (127, d + 5, 57, [some (.ref 91), some (.long l1), none, some (.long l3), none, some (.int l5), some (.long l6), none, some (.long s0), none], [.ref 95], w) = _
  refine (val_g (c2 := (127, d + 5, 59, [some (.ref 91), some (.long l1), none, some (.long l3), none, some (.int l5), some (.long l6), none, some (.long s0), none], [.int l5, .ref 95], w)) rfl).trans ?_
  refine (val_g (c2 := (127, d + 5, 61, [some (.ref 91), some (.long l1), none, some (.long l3), none, some (.int l5), some (.long l6), none, some (.long s0), none], [.long s0, .int l5, .ref 95], w)) rfl).trans ?_
  refine (val_las rfl (hW.k 95 (Nat.le_of_ble_eq_true rfl) (Nat.le_of_ble_eq_true rfl)) hy1).trans ?_
  show val (127, d + 5, 62, [some (.ref 91), some (.long l1), none, some (.long l3), none, some (.int l5), some (.long l6), none, some (.long s0), none], [], (sL w 95 (l5).toNatClampNeg s0)) = _
  refine (val_g (c2 := (127, d + 5, 63, [some (.ref 91), some (.long l1), none, some (.long l3), none, some (.int l5), some (.long l6), none, some (.long s0), none], [.ref 91], (sL w 95 (l5).toNatClampNeg s0))) rfl).trans ?_
  refine (val_g (c2 := (127, d + 5, 64, [some (.ref 91), some (.long l1), none, some (.long l3), none, some (.int l5), some (.long l6), none, some (.long s0), none], [.ref 91, .ref 91], (sL w 95 (l5).toNatClampNeg s0))) rfl).trans ?_
  refine (val_gf (w := (sL w 95 (l5).toNatClampNeg s0)) rfl (hW.k 91 (Nat.le_of_ble_eq_true rfl) (Nat.le_of_ble_eq_true rfl)) rfl).trans ?_
  show val (127, d + 5, 67, [some (.ref 91), some (.long l1), none, some (.long l3), none, some (.int l5), some (.long l6), none, some (.long s0), none], [.long (gL ((sL w 95 (l5).toNatClampNeg s0)) 91 9), .ref 91], (sL w 95 (l5).toNatClampNeg s0)) = _
  refine (val_g (c2 := (127, d + 5, 69, [some (.ref 91), some (.long l1), none, some (.long l3), none, some (.int l5), some (.long l6), none, some (.long s0), none], [.long s0, .long (gL ((sL w 95 (l5).toNatClampNeg s0)) 91 9), .ref 91], (sL w 95 (l5).toNatClampNeg s0))) rfl).trans ?_
  refine (val_call (w1 := (sL w 95 (l5).toNatClampNeg s0)) (pc2 := 72) rfl rfl rfl rfl rfl (Nat.le_of_ble_eq_true rfl) (Nat.le_of_ble_eq_true rfl) rfl (ev_96 (d + 4) (sL w 95 (l5).toNatClampNeg s0) s0) rfl).trans ?_
  show val (127, d + 5, 72, [some (.ref 91), some (.long l1), none, some (.long l3), none, some (.int l5), some (.long l6), none, some (.long s0), none], [.long (fn_96 s0), .long (gL ((sL w 95 (l5).toNatClampNeg s0)) 91 9), .ref 91], (sL w 95 (l5).toNatClampNeg s0)) = _
  refine (val_call (w1 := (sL w 95 (l5).toNatClampNeg s0)) (pc2 := 75) rfl rfl rfl rfl rfl (Nat.le_of_ble_eq_true rfl) (Nat.le_of_ble_eq_true rfl) rfl (ev_102 (d + 2) (sL w 95 (l5).toNatClampNeg s0) ((gL ((sL w 95 (l5).toNatClampNeg s0)) 91 9)) ((fn_96 s0))) rfl).trans ?_
  show val (127, d + 5, 75, [some (.ref 91), some (.long l1), none, some (.long l3), none, some (.int l5), some (.long l6), none, some (.long s0), none], [.long (fn_102 ((gL ((sL w 95 (l5).toNatClampNeg s0)) 91 9)) ((fn_96 s0))), .ref 91], (sL w 95 (l5).toNatClampNeg s0)) = _
  refine (val_pf (w := (sL w 95 (l5).toNatClampNeg s0)) rfl (hW.k 91 (Nat.le_of_ble_eq_true rfl) (Nat.le_of_ble_eq_true rfl)) rfl).trans ?_
  show val (127, d + 5, 78, [some (.ref 91), some (.long l1), none, some (.long l3), none, some (.int l5), some (.long l6), none, some (.long s0), none], [], (sL ((sL w 95 (l5).toNatClampNeg s0)) 91 9 ((fn_102 ((gL ((sL w 95 (l5).toNatClampNeg s0)) 91 9)) ((fn_96 s0)))))) = _
  refine (val_g (c2 := (127, d + 5, 79, [some (.ref 91), some (.long l1), none, some (.long l3), none, some (.int l5), some (.long l6), none, some (.long s0), none], [.long l3], (sL ((sL w 95 (l5).toNatClampNeg s0)) 91 9 ((fn_102 ((gL ((sL w 95 (l5).toNatClampNeg s0)) 91 9)) ((fn_96 s0))))))) rfl).trans ?_
  refine (val_g (c2 := (127, d + 5, 81, [some (.ref 91), some (.long l1), none, some (.long l3), none, some (.int l5), some (.long l6), none, some (.long s0), none], [.long s0, .long l3], (sL ((sL w 95 (l5).toNatClampNeg s0)) 91 9 ((fn_102 ((gL ((sL w 95 (l5).toNatClampNeg s0)) 91 9)) ((fn_96 s0))))))) rfl).trans ?_
  refine (val_g (c2 := (127, d + 5, 83, [some (.ref 91), some (.long l1), none, some (.long l3), none, some (.int l5), some (.long l6), none, some (.long s0), none], [.long s0, .long s0, .long l3], (sL ((sL w 95 (l5).toNatClampNeg s0)) 91 9 ((fn_102 ((gL ((sL w 95 (l5).toNatClampNeg s0)) 91 9)) ((fn_96 s0))))))) rfl).trans ?_
  rfl
theorem tr_127_89 (d : Nat) (w : Wd) (l1 : Int64) (l3 : Int64) (l5 : Int32) (l6 : Int64) (l8 : Int64) (s0 : Int64)     : val (127, d + 5, 89, [some (.ref 91), some (.long l1), none, some (.long l3), none, some (.int l5), some (.long l6), none, some (.long l8), none], [.long s0], w) = val (127, d + 5, 10, [some (.ref 91), some (.long l1), none, some (.long s0), none, some (.int (l5 + 1)), some (.long l6), none, some (.long l8), none], [], w) := by
  refine (val_g (c2 := (127, d + 5, 90, [some (.ref 91), some (.long l1), none, some (.long s0), none, some (.int l5), some (.long l6), none, some (.long l8), none], [], w)) rfl).trans ?_
  refine (val_g (c2 := (127, d + 5, 93, [some (.ref 91), some (.long l1), none, some (.long s0), none, some (.int (l5 + 1)), some (.long l6), none, some (.long l8), none], [], w)) rfl).trans ?_
  refine (val_g (c2 := (127, d + 5, 10, [some (.ref 91), some (.long l1), none, some (.long s0), none, some (.int (l5 + 1)), some (.long l6), none, some (.long l8), none], [], w)) rfl).trans ?_
  rfl
theorem tr_127_105 (d : Nat) (w : Wd) (hW : Fix w) (l1 : Int64) (l3 : Int64) (l5 : Int32) (s0 : Int64) (l6 : Option Value) (l8 : Option Value)    : val (127, d + 5, 105, [some (.ref 91), some (.long l1), none, some (.long l3), none, some (.int l5), l6, none, l8, none], [.long s0, .ref 91], w) = some (none, (sL w 91 10 s0)) := by
  refine (val_pf rfl (hW.k 91 (Nat.le_of_ble_eq_true rfl) (Nat.le_of_ble_eq_true rfl)) rfl).trans ?_
  show val (127, d + 5, 108, [some (.ref 91), some (.long l1), none, some (.long l3), none, some (.int l5), l6, none, l8, none], [], (sL w 91 10 s0)) = _
  exact val_r rfl
/-- BelfryHouse$Recording.placeOnLine(I)J -/
theorem tr_128 (d : Nat) (w : Wd) (x0 : Int32)     : val (128, d + 5, 0, [some (.ref 91), some (.int x0)], [], w) = val (128, d + 5, 2, [some (.ref 91), some (.int x0)], [.int x0, .ref 91], w) := by
  refine (val_g (c2 := (128, d + 5, 1, [some (.ref 91), some (.int x0)], [.ref 91], w)) rfl).trans ?_
  refine (val_g (c2 := (128, d + 5, 2, [some (.ref 91), some (.int x0)], [.int x0, .ref 91], w)) rfl).trans ?_
  rfl
theorem tr_128_5 (d : Nat) (w : Wd) (hW : Fix w) (l1 : Int32) (s0 : Int64)     : val (128, d + 5, 5, [some (.ref 91), some (.int l1)], [.long s0], w) = val (128, d + 5, 9, [some (.ref 91), some (.int l1)], [.long (gL w 91 8), .long s0], w) := by
  refine (val_g (c2 := (128, d + 5, 6, [some (.ref 91), some (.int l1)], [.ref 91, .long s0], w)) rfl).trans ?_
  refine (val_gf rfl (hW.k 91 (Nat.le_of_ble_eq_true rfl) (Nat.le_of_ble_eq_true rfl)) rfl).trans ?_
  show val (128, d + 5, 9, [some (.ref 91), some (.int l1)], [.long (gL w 91 8), .long s0], w) = _
  rfl
theorem tr_128_12 (d : Nat) (w : Wd) (hW : Fix w) (l1 : Int32) (s0 : Int64)     : val (128, d + 5, 12, [some (.ref 91), some (.int l1)], [.long s0], w) = val (128, d + 5, 16, [some (.ref 91), some (.int l1)], [.long (gL w 91 7), .long s0], w) := by
  refine (val_g (c2 := (128, d + 5, 13, [some (.ref 91), some (.int l1)], [.ref 91, .long s0], w)) rfl).trans ?_
  refine (val_gf rfl (hW.k 91 (Nat.le_of_ble_eq_true rfl) (Nat.le_of_ble_eq_true rfl)) rfl).trans ?_
  show val (128, d + 5, 16, [some (.ref 91), some (.int l1)], [.long (gL w 91 7), .long s0], w) = _
  rfl
theorem tr_128_22 (d : Nat) (w : Wd) (l1 : Int32) (s0 : Int64)     : val (128, d + 5, 22, [some (.ref 91), some (.int l1)], [.long s0], w) = some (some (.long s0), w) := by
  exact val_r rfl
/-- BelfryHouse$Rows.howMany(I)I -/
theorem tr_129 (d : Nat) (w : Wd) (hW : Fix w) (x0 : Int32)    (hy1 : inB x0 9 = true) : val (129, d, 0, [some (.int x0)], [], w) = some (some (.int (gI w 1 (x0).toNatClampNeg)), w) := by
  refine (val_g (c2 := (129, d, 3, [some (.int x0)], [.ref 1], w)) rfl).trans ?_
  refine (val_g (c2 := (129, d, 4, [some (.int x0)], [.int x0, .ref 1], w)) rfl).trans ?_
  refine (val_ial rfl hW.f rfl hy1).trans ?_
  show val (129, d, 5, [some (.int x0)], [.int (gI w 1 (x0).toNatClampNeg)], w) = _
  exact val_r rfl
/-- BelfryHouse$Rows.placeOf(III)I -/
theorem tr_132 (d : Nat) (w : Wd) (x0 : Int32) (x1 : Int32) (x2 : Int32)     : val (132, d + 1, 0, [some (.int x0), some (.int x1), some (.int x2), none], [], w) = val (132, d + 1, 2, [some (.int x0), some (.int x1), some (.int x2), some (.int 0)], [], w) := by
  refine (val_g (c2 := (132, d + 1, 1, [some (.int x0), some (.int x1), some (.int x2), none], [.int 0], w)) rfl).trans ?_
  refine (val_g (c2 := (132, d + 1, 2, [some (.int x0), some (.int x1), some (.int x2), some (.int 0)], [], w)) rfl).trans ?_
  rfl
theorem tr_132_2 (d : Nat) (w : Wd) (l0 : Int32) (l1 : Int32) (l2 : Int32) (l3 : Int32)     : val (132, d + 1, 2, [some (.int l0), some (.int l1), some (.int l2), some (.int l3)], [], w) = (if (l0 - 1) ≤ l3 then some (some (.int l3), w) else (if (fn_130 l0 l1 l3) = l2 then some (some (.int l3), w) else val (132, d + 1, 2, [some (.int l0), some (.int l1), some (.int l2), some (.int (l3 + 1))], [], w))) := by
  refine (val_g (c2 := (132, d + 1, 3, [some (.int l0), some (.int l1), some (.int l2), some (.int l3)], [.int l3], w)) rfl).trans ?_
  refine (val_g (c2 := (132, d + 1, 4, [some (.int l0), some (.int l1), some (.int l2), some (.int l3)], [.int l0, .int l3], w)) rfl).trans ?_
  refine (val_g (c2 := (132, d + 1, 5, [some (.int l0), some (.int l1), some (.int l2), some (.int l3)], [.int 1, .int l0, .int l3], w)) rfl).trans ?_
  refine (val_g (c2 := (132, d + 1, 6, [some (.int l0), some (.int l1), some (.int l2), some (.int l3)], [.int (l0 - 1), .int l3], w)) rfl).trans ?_
  by_cases hc728 : (l0 - 1) ≤ l3
  · refine ((val_ic_ge rfl).trans (if_pos hc728)).trans ?_
    show val (132, d + 1, 25, [some (.int l0), some (.int l1), some (.int l2), some (.int l3)], [], w) = _
    refine Eq.trans ?_ (if_pos hc728).symm
    refine (val_g (c2 := (132, d + 1, 26, [some (.int l0), some (.int l1), some (.int l2), some (.int l3)], [.int l3], w)) rfl).trans ?_
    exact val_r rfl
  · refine ((val_ic_ge rfl).trans (if_neg hc728)).trans ?_
    show val (132, d + 1, 9, [some (.int l0), some (.int l1), some (.int l2), some (.int l3)], [], w) = _
    refine Eq.trans ?_ (if_neg hc728).symm
    refine (val_g (c2 := (132, d + 1, 10, [some (.int l0), some (.int l1), some (.int l2), some (.int l3)], [.int l0], w)) rfl).trans ?_
    refine (val_g (c2 := (132, d + 1, 11, [some (.int l0), some (.int l1), some (.int l2), some (.int l3)], [.int l1, .int l0], w)) rfl).trans ?_
    refine (val_g (c2 := (132, d + 1, 12, [some (.int l0), some (.int l1), some (.int l2), some (.int l3)], [.int l3, .int l1, .int l0], w)) rfl).trans ?_
    refine (val_call (w1 := w) (pc2 := 15) rfl rfl rfl rfl rfl (Nat.le_of_ble_eq_true rfl) (Nat.le_of_ble_eq_true rfl) rfl (ev_130 (d) w l0 l1 l3) rfl).trans ?_
    show val (132, d + 1, 15, [some (.int l0), some (.int l1), some (.int l2), some (.int l3)], [.int (fn_130 l0 l1 l3)], w) = _
    refine (val_g (c2 := (132, d + 1, 16, [some (.int l0), some (.int l1), some (.int l2), some (.int l3)], [.int l2, .int (fn_130 l0 l1 l3)], w)) rfl).trans ?_
    by_cases hc729 : (fn_130 l0 l1 l3) = l2
    · refine ((val_ic_eq rfl).trans (if_pos hc729)).trans ?_
      show val (132, d + 1, 25, [some (.int l0), some (.int l1), some (.int l2), some (.int l3)], [], w) = _
      refine Eq.trans ?_ (if_pos hc729).symm
      refine (val_g (c2 := (132, d + 1, 26, [some (.int l0), some (.int l1), some (.int l2), some (.int l3)], [.int l3], w)) rfl).trans ?_
      exact val_r rfl
    · refine ((val_ic_eq rfl).trans (if_neg hc729)).trans ?_
      show val (132, d + 1, 19, [some (.int l0), some (.int l1), some (.int l2), some (.int l3)], [], w) = _
      refine Eq.trans ?_ (if_neg hc729).symm
      refine (val_g (c2 := (132, d + 1, 22, [some (.int l0), some (.int l1), some (.int l2), some (.int (l3 + 1))], [], w)) rfl).trans ?_
      refine (val_g (c2 := (132, d + 1, 2, [some (.int l0), some (.int l1), some (.int l2), some (.int (l3 + 1))], [], w)) rfl).trans ?_
      rfl
/-- BelfryHouse$Rows.paired(IIII)I -/
theorem tr_144 (d : Nat) (w : Wd) (x0 : Int32) (x1 : Int32) (x2 : Int32) (x3 : Int32)     : val (144, d + 2, 0, [some (.int x0), some (.int x1), some (.int x2), some (.int x3), none, none], [], w) = val (144, d + 2, 6, [some (.int x0), some (.int x1), some (.int x2), some (.int x3), some (.int x1), some (.int x2)], [], w) := by
  refine (val_g (c2 := (144, d + 2, 1, [some (.int x0), some (.int x1), some (.int x2), some (.int x3), none, none], [.int x1], w)) rfl).trans ?_
  refine (val_g (c2 := (144, d + 2, 3, [some (.int x0), some (.int x1), some (.int x2), some (.int x3), some (.int x1), none], [], w)) rfl).trans ?_
  refine (val_g (c2 := (144, d + 2, 4, [some (.int x0), some (.int x1), some (.int x2), some (.int x3), some (.int x1), none], [.int x2], w)) rfl).trans ?_
  refine (val_g (c2 := (144, d + 2, 6, [some (.int x0), some (.int x1), some (.int x2), some (.int x3), some (.int x1), some (.int x2)], [], w)) rfl).trans ?_
  rfl
theorem tr_144_6 (d : Nat) (w : Wd) (l0 : Int32) (l1 : Int32) (l2 : Int32) (l3 : Int32) (l4 : Int32) (l5 : Int32)     : val (144, d + 2, 6, [some (.int l0), some (.int l1), some (.int l2), some (.int l3), some (.int l4), some (.int l5)], [], w) = (if l3 ≤ (l5 + 1) then some (some (.int l4), w) else val (144, d + 2, 6, [some (.int l0), some (.int l1), some (.int l2), some (.int l3), some (.int (fn_143 l0 l4 l5 ((l5 + 1)))), some (.int (l5 + 2))], [], w)) := by
  refine (val_g (c2 := (144, d + 2, 8, [some (.int l0), some (.int l1), some (.int l2), some (.int l3), some (.int l4), some (.int l5)], [.int l5], w)) rfl).trans ?_
  refine (val_g (c2 := (144, d + 2, 9, [some (.int l0), some (.int l1), some (.int l2), some (.int l3), some (.int l4), some (.int l5)], [.int 1, .int l5], w)) rfl).trans ?_
  refine (val_g (c2 := (144, d + 2, 10, [some (.int l0), some (.int l1), some (.int l2), some (.int l3), some (.int l4), some (.int l5)], [.int (l5 + 1)], w)) rfl).trans ?_
  refine (val_g (c2 := (144, d + 2, 11, [some (.int l0), some (.int l1), some (.int l2), some (.int l3), some (.int l4), some (.int l5)], [.int l3, .int (l5 + 1)], w)) rfl).trans ?_
  by_cases hc731 : l3 ≤ (l5 + 1)
  · refine ((val_ic_ge rfl).trans (if_pos hc731)).trans ?_
    show val (144, d + 2, 34, [some (.int l0), some (.int l1), some (.int l2), some (.int l3), some (.int l4), some (.int l5)], [], w) = _
    refine Eq.trans ?_ (if_pos hc731).symm
    refine (val_g (c2 := (144, d + 2, 36, [some (.int l0), some (.int l1), some (.int l2), some (.int l3), some (.int l4), some (.int l5)], [.int l4], w)) rfl).trans ?_
    exact val_r rfl
  · refine ((val_ic_ge rfl).trans (if_neg hc731)).trans ?_
    show val (144, d + 2, 14, [some (.int l0), some (.int l1), some (.int l2), some (.int l3), some (.int l4), some (.int l5)], [], w) = _
    refine Eq.trans ?_ (if_neg hc731).symm
    refine (val_g (c2 := (144, d + 2, 15, [some (.int l0), some (.int l1), some (.int l2), some (.int l3), some (.int l4), some (.int l5)], [.int l0], w)) rfl).trans ?_
    refine (val_g (c2 := (144, d + 2, 17, [some (.int l0), some (.int l1), some (.int l2), some (.int l3), some (.int l4), some (.int l5)], [.int l4, .int l0], w)) rfl).trans ?_
    refine (val_g (c2 := (144, d + 2, 19, [some (.int l0), some (.int l1), some (.int l2), some (.int l3), some (.int l4), some (.int l5)], [.int l5, .int l4, .int l0], w)) rfl).trans ?_
    refine (val_g (c2 := (144, d + 2, 21, [some (.int l0), some (.int l1), some (.int l2), some (.int l3), some (.int l4), some (.int l5)], [.int l5, .int l5, .int l4, .int l0], w)) rfl).trans ?_
    refine (val_g (c2 := (144, d + 2, 22, [some (.int l0), some (.int l1), some (.int l2), some (.int l3), some (.int l4), some (.int l5)], [.int 1, .int l5, .int l5, .int l4, .int l0], w)) rfl).trans ?_
    refine (val_g (c2 := (144, d + 2, 23, [some (.int l0), some (.int l1), some (.int l2), some (.int l3), some (.int l4), some (.int l5)], [.int (l5 + 1), .int l5, .int l4, .int l0], w)) rfl).trans ?_
    refine (val_call (w1 := w) (pc2 := 26) rfl rfl rfl rfl rfl (Nat.le_of_ble_eq_true rfl) (Nat.le_of_ble_eq_true rfl) rfl (ev_143 (d) w l0 l4 l5 ((l5 + 1))) rfl).trans ?_
    show val (144, d + 2, 26, [some (.int l0), some (.int l1), some (.int l2), some (.int l3), some (.int l4), some (.int l5)], [.int (fn_143 l0 l4 l5 ((l5 + 1)))], w) = _
    refine (val_g (c2 := (144, d + 2, 28, [some (.int l0), some (.int l1), some (.int l2), some (.int l3), some (.int (fn_143 l0 l4 l5 ((l5 + 1)))), some (.int l5)], [], w)) rfl).trans ?_
    refine (val_g (c2 := (144, d + 2, 31, [some (.int l0), some (.int l1), some (.int l2), some (.int l3), some (.int (fn_143 l0 l4 l5 ((l5 + 1)))), some (.int (l5 + 2))], [], w)) rfl).trans ?_
    refine (val_g (c2 := (144, d + 2, 6, [some (.int l0), some (.int l1), some (.int l2), some (.int l3), some (.int (fn_143 l0 l4 l5 ((l5 + 1)))), some (.int (l5 + 2))], [], w)) rfl).trans ?_
    rfl
/-- BelfryHouse$Rows.jumped(IIII)I -/
theorem tr_145 (d : Nat) (w : Wd) (x0 : Int32) (x1 : Int32) (x2 : Int32) (x3 : Int32)     : val (145, d + 2, 0, [some (.int x0), some (.int x1), some (.int x2), some (.int x3), none, none, none, none], [], w) = (if x3 ≤ x2 then val (145, d + 2, 26, [some (.int x0), some (.int x1), some (.int x2), some (.int x3), some (.int x1), some (.int (-1)), some (.int x2), some (.int (if 0 ≤ (x3 - x2) then (x3 - x2) else 0 - (x3 - x2)))], [], w) else val (145, d + 2, 26, [some (.int x0), some (.int x1), some (.int x2), some (.int x3), some (.int x1), some (.int 1), some (.int x2), some (.int (if 0 ≤ (x3 - x2) then (x3 - x2) else 0 - (x3 - x2)))], [], w)) := by
  refine (val_g (c2 := (145, d + 2, 1, [some (.int x0), some (.int x1), some (.int x2), some (.int x3), none, none, none, none], [.int x1], w)) rfl).trans ?_
  refine (val_g (c2 := (145, d + 2, 3, [some (.int x0), some (.int x1), some (.int x2), some (.int x3), some (.int x1), none, none, none], [], w)) rfl).trans ?_
  refine (val_g (c2 := (145, d + 2, 4, [some (.int x0), some (.int x1), some (.int x2), some (.int x3), some (.int x1), none, none, none], [.int x2], w)) rfl).trans ?_
  refine (val_g (c2 := (145, d + 2, 5, [some (.int x0), some (.int x1), some (.int x2), some (.int x3), some (.int x1), none, none, none], [.int x3, .int x2], w)) rfl).trans ?_
  by_cases hc734 : x3 ≤ x2
  · refine ((val_ic_ge rfl).trans (if_pos hc734)).trans ?_
    show val (145, d + 2, 12, [some (.int x0), some (.int x1), some (.int x2), some (.int x3), some (.int x1), none, none, none], [], w) = _
    refine Eq.trans ?_ (if_pos hc734).symm
    refine (val_g (c2 := (145, d + 2, 13, [some (.int x0), some (.int x1), some (.int x2), some (.int x3), some (.int x1), none, none, none], [.int (-1)], w)) rfl).trans ?_
    refine (val_g (c2 := (145, d + 2, 15, [some (.int x0), some (.int x1), some (.int x2), some (.int x3), some (.int x1), some (.int (-1)), none, none], [], w)) rfl).trans ?_
    refine (val_g (c2 := (145, d + 2, 16, [some (.int x0), some (.int x1), some (.int x2), some (.int x3), some (.int x1), some (.int (-1)), none, none], [.int x2], w)) rfl).trans ?_
    refine (val_g (c2 := (145, d + 2, 18, [some (.int x0), some (.int x1), some (.int x2), some (.int x3), some (.int x1), some (.int (-1)), some (.int x2), none], [], w)) rfl).trans ?_
    refine (val_g (c2 := (145, d + 2, 19, [some (.int x0), some (.int x1), some (.int x2), some (.int x3), some (.int x1), some (.int (-1)), some (.int x2), none], [.int x3], w)) rfl).trans ?_
    refine (val_g (c2 := (145, d + 2, 20, [some (.int x0), some (.int x1), some (.int x2), some (.int x3), some (.int x1), some (.int (-1)), some (.int x2), none], [.int x2, .int x3], w)) rfl).trans ?_
    refine (val_g (c2 := (145, d + 2, 21, [some (.int x0), some (.int x1), some (.int x2), some (.int x3), some (.int x1), some (.int (-1)), some (.int x2), none], [.int (x3 - x2)], w)) rfl).trans ?_
    refine (val_g (c2 := (145, d + 2, 24, [some (.int x0), some (.int x1), some (.int x2), some (.int x3), some (.int x1), some (.int (-1)), some (.int x2), none], [.int (if 0 ≤ (x3 - x2) then (x3 - x2) else 0 - (x3 - x2))], w)) rfl).trans ?_
    refine (val_g (c2 := (145, d + 2, 26, [some (.int x0), some (.int x1), some (.int x2), some (.int x3), some (.int x1), some (.int (-1)), some (.int x2), some (.int (if 0 ≤ (x3 - x2) then (x3 - x2) else 0 - (x3 - x2)))], [], w)) rfl).trans ?_
    rfl
  · refine ((val_ic_ge rfl).trans (if_neg hc734)).trans ?_
    show val (145, d + 2, 8, [some (.int x0), some (.int x1), some (.int x2), some (.int x3), some (.int x1), none, none, none], [], w) = _
    refine Eq.trans ?_ (if_neg hc734).symm
    refine (val_g (c2 := (145, d + 2, 9, [some (.int x0), some (.int x1), some (.int x2), some (.int x3), some (.int x1), none, none, none], [.int 1], w)) rfl).trans ?_
    refine (val_g (c2 := (145, d + 2, 13, [some (.int x0), some (.int x1), some (.int x2), some (.int x3), some (.int x1), none, none, none], [.int 1], w)) rfl).trans ?_
    refine (val_g (c2 := (145, d + 2, 15, [some (.int x0), some (.int x1), some (.int x2), some (.int x3), some (.int x1), some (.int 1), none, none], [], w)) rfl).trans ?_
    refine (val_g (c2 := (145, d + 2, 16, [some (.int x0), some (.int x1), some (.int x2), some (.int x3), some (.int x1), some (.int 1), none, none], [.int x2], w)) rfl).trans ?_
    refine (val_g (c2 := (145, d + 2, 18, [some (.int x0), some (.int x1), some (.int x2), some (.int x3), some (.int x1), some (.int 1), some (.int x2), none], [], w)) rfl).trans ?_
    refine (val_g (c2 := (145, d + 2, 19, [some (.int x0), some (.int x1), some (.int x2), some (.int x3), some (.int x1), some (.int 1), some (.int x2), none], [.int x3], w)) rfl).trans ?_
    refine (val_g (c2 := (145, d + 2, 20, [some (.int x0), some (.int x1), some (.int x2), some (.int x3), some (.int x1), some (.int 1), some (.int x2), none], [.int x2, .int x3], w)) rfl).trans ?_
    refine (val_g (c2 := (145, d + 2, 21, [some (.int x0), some (.int x1), some (.int x2), some (.int x3), some (.int x1), some (.int 1), some (.int x2), none], [.int (x3 - x2)], w)) rfl).trans ?_
    refine (val_g (c2 := (145, d + 2, 24, [some (.int x0), some (.int x1), some (.int x2), some (.int x3), some (.int x1), some (.int 1), some (.int x2), none], [.int (if 0 ≤ (x3 - x2) then (x3 - x2) else 0 - (x3 - x2))], w)) rfl).trans ?_
    refine (val_g (c2 := (145, d + 2, 26, [some (.int x0), some (.int x1), some (.int x2), some (.int x3), some (.int x1), some (.int 1), some (.int x2), some (.int (if 0 ≤ (x3 - x2) then (x3 - x2) else 0 - (x3 - x2)))], [], w)) rfl).trans ?_
    rfl
theorem tr_145_26 (d : Nat) (w : Wd) (l0 : Int32) (l1 : Int32) (l2 : Int32) (l3 : Int32) (l4 : Int32) (l5 : Int32) (l6 : Int32) (l7 : Int32)     : val (145, d + 2, 26, [some (.int l0), some (.int l1), some (.int l2), some (.int l3), some (.int l4), some (.int l5), some (.int l6), some (.int l7)], [], w) = (if l7 ≤ 0 then some (some (.int l4), w) else val (145, d + 2, 26, [some (.int l0), some (.int l1), some (.int l2), some (.int l3), some (.int (fn_143 l0 l4 l6 ((l6 + l5)))), some (.int l5), some (.int (l6 + l5)), some (.int (l7 + (-1)))], [], w)) := by
  refine (val_g (c2 := (145, d + 2, 28, [some (.int l0), some (.int l1), some (.int l2), some (.int l3), some (.int l4), some (.int l5), some (.int l6), some (.int l7)], [.int l7], w)) rfl).trans ?_
  by_cases hc735 : l7 ≤ 0
  · refine ((val_if_le rfl).trans (if_pos hc735)).trans ?_
    show val (145, d + 2, 59, [some (.int l0), some (.int l1), some (.int l2), some (.int l3), some (.int l4), some (.int l5), some (.int l6), some (.int l7)], [], w) = _
    refine Eq.trans ?_ (if_pos hc735).symm
    refine (val_g (c2 := (145, d + 2, 61, [some (.int l0), some (.int l1), some (.int l2), some (.int l3), some (.int l4), some (.int l5), some (.int l6), some (.int l7)], [.int l4], w)) rfl).trans ?_
    exact val_r rfl
  · refine ((val_if_le rfl).trans (if_neg hc735)).trans ?_
    show val (145, d + 2, 31, [some (.int l0), some (.int l1), some (.int l2), some (.int l3), some (.int l4), some (.int l5), some (.int l6), some (.int l7)], [], w) = _
    refine Eq.trans ?_ (if_neg hc735).symm
    refine (val_g (c2 := (145, d + 2, 32, [some (.int l0), some (.int l1), some (.int l2), some (.int l3), some (.int l4), some (.int l5), some (.int l6), some (.int l7)], [.int l0], w)) rfl).trans ?_
    refine (val_g (c2 := (145, d + 2, 34, [some (.int l0), some (.int l1), some (.int l2), some (.int l3), some (.int l4), some (.int l5), some (.int l6), some (.int l7)], [.int l4, .int l0], w)) rfl).trans ?_
    refine (val_g (c2 := (145, d + 2, 36, [some (.int l0), some (.int l1), some (.int l2), some (.int l3), some (.int l4), some (.int l5), some (.int l6), some (.int l7)], [.int l6, .int l4, .int l0], w)) rfl).trans ?_
    refine (val_g (c2 := (145, d + 2, 38, [some (.int l0), some (.int l1), some (.int l2), some (.int l3), some (.int l4), some (.int l5), some (.int l6), some (.int l7)], [.int l6, .int l6, .int l4, .int l0], w)) rfl).trans ?_
    refine (val_g (c2 := (145, d + 2, 40, [some (.int l0), some (.int l1), some (.int l2), some (.int l3), some (.int l4), some (.int l5), some (.int l6), some (.int l7)], [.int l5, .int l6, .int l6, .int l4, .int l0], w)) rfl).trans ?_
    refine (val_g (c2 := (145, d + 2, 41, [some (.int l0), some (.int l1), some (.int l2), some (.int l3), some (.int l4), some (.int l5), some (.int l6), some (.int l7)], [.int (l6 + l5), .int l6, .int l4, .int l0], w)) rfl).trans ?_
    refine (val_call (w1 := w) (pc2 := 44) rfl rfl rfl rfl rfl (Nat.le_of_ble_eq_true rfl) (Nat.le_of_ble_eq_true rfl) rfl (ev_143 (d) w l0 l4 l6 ((l6 + l5))) rfl).trans ?_
    show val (145, d + 2, 44, [some (.int l0), some (.int l1), some (.int l2), some (.int l3), some (.int l4), some (.int l5), some (.int l6), some (.int l7)], [.int (fn_143 l0 l4 l6 ((l6 + l5)))], w) = _
    refine (val_g (c2 := (145, d + 2, 46, [some (.int l0), some (.int l1), some (.int l2), some (.int l3), some (.int (fn_143 l0 l4 l6 ((l6 + l5)))), some (.int l5), some (.int l6), some (.int l7)], [], w)) rfl).trans ?_
    refine (val_g (c2 := (145, d + 2, 49, [some (.int l0), some (.int l1), some (.int l2), some (.int l3), some (.int (fn_143 l0 l4 l6 ((l6 + l5)))), some (.int l5), some (.int l6), some (.int (l7 + (-1)))], [], w)) rfl).trans ?_
    refine (val_g (c2 := (145, d + 2, 51, [some (.int l0), some (.int l1), some (.int l2), some (.int l3), some (.int (fn_143 l0 l4 l6 ((l6 + l5)))), some (.int l5), some (.int l6), some (.int (l7 + (-1)))], [.int l6], w)) rfl).trans ?_
    refine (val_g (c2 := (145, d + 2, 53, [some (.int l0), some (.int l1), some (.int l2), some (.int l3), some (.int (fn_143 l0 l4 l6 ((l6 + l5)))), some (.int l5), some (.int l6), some (.int (l7 + (-1)))], [.int l5, .int l6], w)) rfl).trans ?_
    refine (val_g (c2 := (145, d + 2, 54, [some (.int l0), some (.int l1), some (.int l2), some (.int l3), some (.int (fn_143 l0 l4 l6 ((l6 + l5)))), some (.int l5), some (.int l6), some (.int (l7 + (-1)))], [.int (l6 + l5)], w)) rfl).trans ?_
    refine (val_g (c2 := (145, d + 2, 56, [some (.int l0), some (.int l1), some (.int l2), some (.int l3), some (.int (fn_143 l0 l4 l6 ((l6 + l5)))), some (.int l5), some (.int (l6 + l5)), some (.int (l7 + (-1)))], [], w)) rfl).trans ?_
    refine (val_g (c2 := (145, d + 2, 26, [some (.int l0), some (.int l1), some (.int l2), some (.int l3), some (.int (fn_143 l0 l4 l6 ((l6 + l5)))), some (.int l5), some (.int (l6 + l5)), some (.int (l7 + (-1)))], [], w)) rfl).trans ?_
    rfl
/-- BelfryHouse$Rows.turned(IIII)I -/
theorem tr_146 (d : Nat) (w : Wd) (x0 : Int32) (x1 : Int32) (x2 : Int32) (x3 : Int32)     : val (146, d + 2, 0, [some (.int x0), some (.int x1), some (.int x2), some (.int x3), none, none, none], [], w) = val (146, d + 2, 9, [some (.int x0), some (.int x1), some (.int x2), some (.int x3), some (.int x1), some (.int x2), some (.int x3)], [], w) := by
  refine (val_g (c2 := (146, d + 2, 1, [some (.int x0), some (.int x1), some (.int x2), some (.int x3), none, none, none], [.int x1], w)) rfl).trans ?_
  refine (val_g (c2 := (146, d + 2, 3, [some (.int x0), some (.int x1), some (.int x2), some (.int x3), some (.int x1), none, none], [], w)) rfl).trans ?_
  refine (val_g (c2 := (146, d + 2, 4, [some (.int x0), some (.int x1), some (.int x2), some (.int x3), some (.int x1), none, none], [.int x2], w)) rfl).trans ?_
  refine (val_g (c2 := (146, d + 2, 6, [some (.int x0), some (.int x1), some (.int x2), some (.int x3), some (.int x1), some (.int x2), none], [], w)) rfl).trans ?_
  refine (val_g (c2 := (146, d + 2, 7, [some (.int x0), some (.int x1), some (.int x2), some (.int x3), some (.int x1), some (.int x2), none], [.int x3], w)) rfl).trans ?_
  refine (val_g (c2 := (146, d + 2, 9, [some (.int x0), some (.int x1), some (.int x2), some (.int x3), some (.int x1), some (.int x2), some (.int x3)], [], w)) rfl).trans ?_
  rfl
theorem tr_146_9 (d : Nat) (w : Wd) (l0 : Int32) (l1 : Int32) (l2 : Int32) (l3 : Int32) (l4 : Int32) (l5 : Int32) (l6 : Int32)     : val (146, d + 2, 9, [some (.int l0), some (.int l1), some (.int l2), some (.int l3), some (.int l4), some (.int l5), some (.int l6)], [], w) = (if l6 ≤ l5 then some (some (.int l4), w) else val (146, d + 2, 9, [some (.int l0), some (.int l1), some (.int l2), some (.int l3), some (.int (fn_143 l0 l4 l5 l6)), some (.int (l5 + 1)), some (.int (l6 + (-1)))], [], w)) := by
  refine (val_g (c2 := (146, d + 2, 11, [some (.int l0), some (.int l1), some (.int l2), some (.int l3), some (.int l4), some (.int l5), some (.int l6)], [.int l5], w)) rfl).trans ?_
  refine (val_g (c2 := (146, d + 2, 13, [some (.int l0), some (.int l1), some (.int l2), some (.int l3), some (.int l4), some (.int l5), some (.int l6)], [.int l6, .int l5], w)) rfl).trans ?_
  by_cases hc737 : l6 ≤ l5
  · refine ((val_ic_ge rfl).trans (if_pos hc737)).trans ?_
    show val (146, d + 2, 37, [some (.int l0), some (.int l1), some (.int l2), some (.int l3), some (.int l4), some (.int l5), some (.int l6)], [], w) = _
    refine Eq.trans ?_ (if_pos hc737).symm
    refine (val_g (c2 := (146, d + 2, 39, [some (.int l0), some (.int l1), some (.int l2), some (.int l3), some (.int l4), some (.int l5), some (.int l6)], [.int l4], w)) rfl).trans ?_
    exact val_r rfl
  · refine ((val_ic_ge rfl).trans (if_neg hc737)).trans ?_
    show val (146, d + 2, 16, [some (.int l0), some (.int l1), some (.int l2), some (.int l3), some (.int l4), some (.int l5), some (.int l6)], [], w) = _
    refine Eq.trans ?_ (if_neg hc737).symm
    refine (val_g (c2 := (146, d + 2, 17, [some (.int l0), some (.int l1), some (.int l2), some (.int l3), some (.int l4), some (.int l5), some (.int l6)], [.int l0], w)) rfl).trans ?_
    refine (val_g (c2 := (146, d + 2, 19, [some (.int l0), some (.int l1), some (.int l2), some (.int l3), some (.int l4), some (.int l5), some (.int l6)], [.int l4, .int l0], w)) rfl).trans ?_
    refine (val_g (c2 := (146, d + 2, 21, [some (.int l0), some (.int l1), some (.int l2), some (.int l3), some (.int l4), some (.int l5), some (.int l6)], [.int l5, .int l4, .int l0], w)) rfl).trans ?_
    refine (val_g (c2 := (146, d + 2, 23, [some (.int l0), some (.int l1), some (.int l2), some (.int l3), some (.int l4), some (.int l5), some (.int l6)], [.int l6, .int l5, .int l4, .int l0], w)) rfl).trans ?_
    refine (val_call (w1 := w) (pc2 := 26) rfl rfl rfl rfl rfl (Nat.le_of_ble_eq_true rfl) (Nat.le_of_ble_eq_true rfl) rfl (ev_143 (d) w l0 l4 l5 l6) rfl).trans ?_
    show val (146, d + 2, 26, [some (.int l0), some (.int l1), some (.int l2), some (.int l3), some (.int l4), some (.int l5), some (.int l6)], [.int (fn_143 l0 l4 l5 l6)], w) = _
    refine (val_g (c2 := (146, d + 2, 28, [some (.int l0), some (.int l1), some (.int l2), some (.int l3), some (.int (fn_143 l0 l4 l5 l6)), some (.int l5), some (.int l6)], [], w)) rfl).trans ?_
    refine (val_g (c2 := (146, d + 2, 31, [some (.int l0), some (.int l1), some (.int l2), some (.int l3), some (.int (fn_143 l0 l4 l5 l6)), some (.int (l5 + 1)), some (.int l6)], [], w)) rfl).trans ?_
    refine (val_g (c2 := (146, d + 2, 34, [some (.int l0), some (.int l1), some (.int l2), some (.int l3), some (.int (fn_143 l0 l4 l5 l6)), some (.int (l5 + 1)), some (.int (l6 + (-1)))], [], w)) rfl).trans ?_
    refine (val_g (c2 := (146, d + 2, 9, [some (.int l0), some (.int l1), some (.int l2), some (.int l3), some (.int (fn_143 l0 l4 l5 l6)), some (.int (l5 + 1)), some (.int (l6 + (-1)))], [], w)) rfl).trans ?_
    rfl
/-- BelfryHouse$Rule.<init>()V -/
theorem tr_147 (d : Nat) (w : Wd) (o : Nat)    (hy1 : 64 ≤ o) : val (147, d + 1, 0, [some (.ref o)], [], w) = val (147, d + 1, 7, [some (.ref o)], [.int 8, .ref o], w) := by
  refine (val_g (c2 := (147, d + 1, 1, [some (.ref o)], [.ref o], w)) rfl).trans ?_
  refine (val_obj rfl hy1 (Nat.le_of_ble_eq_true rfl)).trans ?_
  show val (147, d + 1, 4, [some (.ref o)], [], w) = _
  refine (val_g (c2 := (147, d + 1, 5, [some (.ref o)], [.ref o], w)) rfl).trans ?_
  refine (val_g (c2 := (147, d + 1, 7, [some (.ref o)], [.int 8, .ref o], w)) rfl).trans ?_
  rfl
theorem tr_147_12 (d : Nat) (w : Wd) (l0 : Nat)     : val (147, d + 1, 12, [some (.ref l0)], [], w) = val (147, d + 1, 15, [some (.ref l0)], [.int 8, .ref l0], w) := by
  refine (val_g (c2 := (147, d + 1, 13, [some (.ref l0)], [.ref l0], w)) rfl).trans ?_
  refine (val_g (c2 := (147, d + 1, 15, [some (.ref l0)], [.int 8, .ref l0], w)) rfl).trans ?_
  rfl
theorem tr_147_20 (d : Nat) (w : Wd) (l0 : Nat)     : val (147, d + 1, 20, [some (.ref l0)], [], w) = val (147, d + 1, 23, [some (.ref l0)], [.int 8, .ref l0], w) := by
  refine (val_g (c2 := (147, d + 1, 21, [some (.ref l0)], [.ref l0], w)) rfl).trans ?_
  refine (val_g (c2 := (147, d + 1, 23, [some (.ref l0)], [.int 8, .ref l0], w)) rfl).trans ?_
  rfl
theorem tr_147_28 (d : Nat) (w : Wd) (l0 : Nat)     : val (147, d + 1, 28, [some (.ref l0)], [], w) = val (147, d + 1, 31, [some (.ref l0)], [.int 8, .ref l0], w) := by
  refine (val_g (c2 := (147, d + 1, 29, [some (.ref l0)], [.ref l0], w)) rfl).trans ?_
  refine (val_g (c2 := (147, d + 1, 31, [some (.ref l0)], [.int 8, .ref l0], w)) rfl).trans ?_
  rfl
theorem tr_147_36 (d : Nat) (w : Wd) (l0 : Nat)    (m_l0 : Nat) (hk_l0 : wK w l0 = (6, m_l0)) : val (147, d + 1, 36, [some (.ref l0)], [], w) = some (none, (sI ((sI w l0 4 0)) l0 5 0)) := by
  refine (val_g (c2 := (147, d + 1, 37, [some (.ref l0)], [.ref l0], w)) rfl).trans ?_
  refine (val_g (c2 := (147, d + 1, 38, [some (.ref l0)], [.int 0, .ref l0], w)) rfl).trans ?_
  refine (val_pf rfl hk_l0 rfl).trans ?_
  show val (147, d + 1, 41, [some (.ref l0)], [], (sI w l0 4 0)) = _
  refine (val_g (c2 := (147, d + 1, 42, [some (.ref l0)], [.ref l0], (sI w l0 4 0))) rfl).trans ?_
  refine (val_g (c2 := (147, d + 1, 43, [some (.ref l0)], [.int 0, .ref l0], (sI w l0 4 0))) rfl).trans ?_
  refine (val_pf (w := (sI w l0 4 0)) rfl hk_l0 rfl).trans ?_
  show val (147, d + 1, 46, [some (.ref l0)], [], (sI ((sI w l0 4 0)) l0 5 0)) = _
  exact val_r rfl
/-- BelfryHouse$Rule.require(ZIII)V -/
theorem tr_148 (d : Nat) (w : Wd) (o : Nat) (x0 : Int32) (x1 : Int32) (x2 : Int32) (x3 : Int32)    (m_o : Nat) (hk_o : wK w o = (6, m_o)) (q1_o : Nat) (hr1_o : gR w o 1 = some q1_o) (m_q1_o : Nat) (hk_q1_o : wK w q1_o = (21, m_q1_o)) (hy7 : ((gI w o 4) < 8) → inB ((gI w o 4)) m_q1_o = true) (q0_o : Nat) (hr0_o : gR w o 0 = some q0_o) (m_q0_o : Nat) (hk_q0_o : wK w q0_o = (20, m_q0_o)) (hy12 : ((gI w o 4) < 8) → inB ((gI ((sI w q1_o ((gI w o 4)).toNatClampNeg ((vp_nar .byte x0)))) o 4)) m_q0_o = true) (q2_o : Nat) (hr2_o : gR w o 2 = some q2_o) (m_q2_o : Nat) (hk_q2_o : wK w q2_o = (20, m_q2_o)) (hy17 : ((gI w o 4) < 8) → inB ((gI ((sI ((sI w q1_o ((gI w o 4)).toNatClampNeg ((vp_nar .byte x0)))) q0_o ((gI ((sI w q1_o ((gI w o 4)).toNatClampNeg ((vp_nar .byte x0)))) o 4)).toNatClampNeg x1)) o 4)) m_q2_o = true) (q3_o : Nat) (hr3_o : gR w o 3 = some q3_o) (m_q3_o : Nat) (hk_q3_o : wK w q3_o = (20, m_q3_o)) (hy22 : ((gI w o 4) < 8) → inB ((gI ((sI ((sI ((sI w q1_o ((gI w o 4)).toNatClampNeg ((vp_nar .byte x0)))) q0_o ((gI ((sI w q1_o ((gI w o 4)).toNatClampNeg ((vp_nar .byte x0)))) o 4)).toNatClampNeg x1)) q2_o ((gI ((sI ((sI w q1_o ((gI w o 4)).toNatClampNeg ((vp_nar .byte x0)))) q0_o ((gI ((sI w q1_o ((gI w o 4)).toNatClampNeg ((vp_nar .byte x0)))) o 4)).toNatClampNeg x1)) o 4)).toNatClampNeg x2)) o 4)) m_q3_o = true) : val (148, d, 0, [some (.ref o), some (.int x0), some (.int x1), some (.int x2), some (.int x3)], [], w) = (if (gI w o 4) < 8 then some (none, (sI ((sI ((sI ((sI ((sI w q1_o ((gI w o 4)).toNatClampNeg ((vp_nar .byte x0)))) q0_o ((gI ((sI w q1_o ((gI w o 4)).toNatClampNeg ((vp_nar .byte x0)))) o 4)).toNatClampNeg x1)) q2_o ((gI ((sI ((sI w q1_o ((gI w o 4)).toNatClampNeg ((vp_nar .byte x0)))) q0_o ((gI ((sI w q1_o ((gI w o 4)).toNatClampNeg ((vp_nar .byte x0)))) o 4)).toNatClampNeg x1)) o 4)).toNatClampNeg x2)) q3_o ((gI ((sI ((sI ((sI w q1_o ((gI w o 4)).toNatClampNeg ((vp_nar .byte x0)))) q0_o ((gI ((sI w q1_o ((gI w o 4)).toNatClampNeg ((vp_nar .byte x0)))) o 4)).toNatClampNeg x1)) q2_o ((gI ((sI ((sI w q1_o ((gI w o 4)).toNatClampNeg ((vp_nar .byte x0)))) q0_o ((gI ((sI w q1_o ((gI w o 4)).toNatClampNeg ((vp_nar .byte x0)))) o 4)).toNatClampNeg x1)) o 4)).toNatClampNeg x2)) o 4)).toNatClampNeg x3)) o 4 (((gI ((sI ((sI ((sI ((sI w q1_o ((gI w o 4)).toNatClampNeg ((vp_nar .byte x0)))) q0_o ((gI ((sI w q1_o ((gI w o 4)).toNatClampNeg ((vp_nar .byte x0)))) o 4)).toNatClampNeg x1)) q2_o ((gI ((sI ((sI w q1_o ((gI w o 4)).toNatClampNeg ((vp_nar .byte x0)))) q0_o ((gI ((sI w q1_o ((gI w o 4)).toNatClampNeg ((vp_nar .byte x0)))) o 4)).toNatClampNeg x1)) o 4)).toNatClampNeg x2)) q3_o ((gI ((sI ((sI ((sI w q1_o ((gI w o 4)).toNatClampNeg ((vp_nar .byte x0)))) q0_o ((gI ((sI w q1_o ((gI w o 4)).toNatClampNeg ((vp_nar .byte x0)))) o 4)).toNatClampNeg x1)) q2_o ((gI ((sI ((sI w q1_o ((gI w o 4)).toNatClampNeg ((vp_nar .byte x0)))) q0_o ((gI ((sI w q1_o ((gI w o 4)).toNatClampNeg ((vp_nar .byte x0)))) o 4)).toNatClampNeg x1)) o 4)).toNatClampNeg x2)) o 4)).toNatClampNeg x3)) o 4) + 1)))) else some (none, w)) := by
  refine (val_g (c2 := (148, d, 1, [some (.ref o), some (.int x0), some (.int x1), some (.int x2), some (.int x3)], [.ref o], w)) rfl).trans ?_
  refine (val_gf rfl hk_o rfl).trans ?_
  show val (148, d, 4, [some (.ref o), some (.int x0), some (.int x1), some (.int x2), some (.int x3)], [.int (gI w o 4)], w) = _
  refine (val_g (c2 := (148, d, 6, [some (.ref o), some (.int x0), some (.int x1), some (.int x2), some (.int x3)], [.int 8, .int (gI w o 4)], w)) rfl).trans ?_
  by_cases hc739 : (gI w o 4) < 8
  · refine ((val_ic_lt rfl).trans (if_pos hc739)).trans ?_
    show val (148, d, 10, [some (.ref o), some (.int x0), some (.int x1), some (.int x2), some (.int x3)], [], w) = _
    refine Eq.trans ?_ (if_pos hc739).symm
    refine (val_g (c2 := (148, d, 11, [some (.ref o), some (.int x0), some (.int x1), some (.int x2), some (.int x3)], [.ref o], w)) rfl).trans ?_
    refine (val_gf rfl hk_o (fvR hr1_o)).trans ?_
    show val (148, d, 14, [some (.ref o), some (.int x0), some (.int x1), some (.int x2), some (.int x3)], [.ref q1_o], w) = _
    refine (val_g (c2 := (148, d, 15, [some (.ref o), some (.int x0), some (.int x1), some (.int x2), some (.int x3)], [.ref o, .ref q1_o], w)) rfl).trans ?_
    refine (val_gf rfl hk_o rfl).trans ?_
    show val (148, d, 18, [some (.ref o), some (.int x0), some (.int x1), some (.int x2), some (.int x3)], [.int (gI w o 4), .ref q1_o], w) = _
    refine (val_g (c2 := (148, d, 19, [some (.ref o), some (.int x0), some (.int x1), some (.int x2), some (.int x3)], [.int x0, .int (gI w o 4), .ref q1_o], w)) rfl).trans ?_
    refine (val_basB rfl hk_q1_o (hy7 hc739)).trans ?_
    show val (148, d, 20, [some (.ref o), some (.int x0), some (.int x1), some (.int x2), some (.int x3)], [], (sI w q1_o ((gI w o 4)).toNatClampNeg ((vp_nar .byte x0)))) = _
    refine (val_g (c2 := (148, d, 21, [some (.ref o), some (.int x0), some (.int x1), some (.int x2), some (.int x3)], [.ref o], (sI w q1_o ((gI w o 4)).toNatClampNeg ((vp_nar .byte x0))))) rfl).trans ?_
    refine (val_gf (w := (sI w q1_o ((gI w o 4)).toNatClampNeg ((vp_nar .byte x0)))) rfl hk_o (fvR hr0_o)).trans ?_
    show val (148, d, 24, [some (.ref o), some (.int x0), some (.int x1), some (.int x2), some (.int x3)], [.ref q0_o], (sI w q1_o ((gI w o 4)).toNatClampNeg ((vp_nar .byte x0)))) = _
    refine (val_g (c2 := (148, d, 25, [some (.ref o), some (.int x0), some (.int x1), some (.int x2), some (.int x3)], [.ref o, .ref q0_o], (sI w q1_o ((gI w o 4)).toNatClampNeg ((vp_nar .byte x0))))) rfl).trans ?_
    refine (val_gf (w := (sI w q1_o ((gI w o 4)).toNatClampNeg ((vp_nar .byte x0)))) rfl hk_o rfl).trans ?_
    show val (148, d, 28, [some (.ref o), some (.int x0), some (.int x1), some (.int x2), some (.int x3)], [.int (gI ((sI w q1_o ((gI w o 4)).toNatClampNeg ((vp_nar .byte x0)))) o 4), .ref q0_o], (sI w q1_o ((gI w o 4)).toNatClampNeg ((vp_nar .byte x0)))) = _
    refine (val_g (c2 := (148, d, 29, [some (.ref o), some (.int x0), some (.int x1), some (.int x2), some (.int x3)], [.int x1, .int (gI ((sI w q1_o ((gI w o 4)).toNatClampNeg ((vp_nar .byte x0)))) o 4), .ref q0_o], (sI w q1_o ((gI w o 4)).toNatClampNeg ((vp_nar .byte x0))))) rfl).trans ?_
    refine (val_ias (w := (sI w q1_o ((gI w o 4)).toNatClampNeg ((vp_nar .byte x0)))) rfl hk_q0_o (hy12 hc739)).trans ?_
    show val (148, d, 30, [some (.ref o), some (.int x0), some (.int x1), some (.int x2), some (.int x3)], [], (sI ((sI w q1_o ((gI w o 4)).toNatClampNeg ((vp_nar .byte x0)))) q0_o ((gI ((sI w q1_o ((gI w o 4)).toNatClampNeg ((vp_nar .byte x0)))) o 4)).toNatClampNeg x1)) = _
    refine (val_g (c2 := (148, d, 31, [some (.ref o), some (.int x0), some (.int x1), some (.int x2), some (.int x3)], [.ref o], (sI ((sI w q1_o ((gI w o 4)).toNatClampNeg ((vp_nar .byte x0)))) q0_o ((gI ((sI w q1_o ((gI w o 4)).toNatClampNeg ((vp_nar .byte x0)))) o 4)).toNatClampNeg x1))) rfl).trans ?_
    refine (val_gf (w := (sI ((sI w q1_o ((gI w o 4)).toNatClampNeg ((vp_nar .byte x0)))) q0_o ((gI ((sI w q1_o ((gI w o 4)).toNatClampNeg ((vp_nar .byte x0)))) o 4)).toNatClampNeg x1)) rfl hk_o (fvR hr2_o)).trans ?_
    show val (148, d, 34, [some (.ref o), some (.int x0), some (.int x1), some (.int x2), some (.int x3)], [.ref q2_o], (sI ((sI w q1_o ((gI w o 4)).toNatClampNeg ((vp_nar .byte x0)))) q0_o ((gI ((sI w q1_o ((gI w o 4)).toNatClampNeg ((vp_nar .byte x0)))) o 4)).toNatClampNeg x1)) = _
    refine (val_g (c2 := (148, d, 35, [some (.ref o), some (.int x0), some (.int x1), some (.int x2), some (.int x3)], [.ref o, .ref q2_o], (sI ((sI w q1_o ((gI w o 4)).toNatClampNeg ((vp_nar .byte x0)))) q0_o ((gI ((sI w q1_o ((gI w o 4)).toNatClampNeg ((vp_nar .byte x0)))) o 4)).toNatClampNeg x1))) rfl).trans ?_
    refine (val_gf (w := (sI ((sI w q1_o ((gI w o 4)).toNatClampNeg ((vp_nar .byte x0)))) q0_o ((gI ((sI w q1_o ((gI w o 4)).toNatClampNeg ((vp_nar .byte x0)))) o 4)).toNatClampNeg x1)) rfl hk_o rfl).trans ?_
    show val (148, d, 38, [some (.ref o), some (.int x0), some (.int x1), some (.int x2), some (.int x3)], [.int (gI ((sI ((sI w q1_o ((gI w o 4)).toNatClampNeg ((vp_nar .byte x0)))) q0_o ((gI ((sI w q1_o ((gI w o 4)).toNatClampNeg ((vp_nar .byte x0)))) o 4)).toNatClampNeg x1)) o 4), .ref q2_o], (sI ((sI w q1_o ((gI w o 4)).toNatClampNeg ((vp_nar .byte x0)))) q0_o ((gI ((sI w q1_o ((gI w o 4)).toNatClampNeg ((vp_nar .byte x0)))) o 4)).toNatClampNeg x1)) = _
    refine (val_g (c2 := (148, d, 39, [some (.ref o), some (.int x0), some (.int x1), some (.int x2), some (.int x3)], [.int x2, .int (gI ((sI ((sI w q1_o ((gI w o 4)).toNatClampNeg ((vp_nar .byte x0)))) q0_o ((gI ((sI w q1_o ((gI w o 4)).toNatClampNeg ((vp_nar .byte x0)))) o 4)).toNatClampNeg x1)) o 4), .ref q2_o], (sI ((sI w q1_o ((gI w o 4)).toNatClampNeg ((vp_nar .byte x0)))) q0_o ((gI ((sI w q1_o ((gI w o 4)).toNatClampNeg ((vp_nar .byte x0)))) o 4)).toNatClampNeg x1))) rfl).trans ?_
    refine (val_ias (w := (sI ((sI w q1_o ((gI w o 4)).toNatClampNeg ((vp_nar .byte x0)))) q0_o ((gI ((sI w q1_o ((gI w o 4)).toNatClampNeg ((vp_nar .byte x0)))) o 4)).toNatClampNeg x1)) rfl hk_q2_o (hy17 hc739)).trans ?_
    show val (148, d, 40, [some (.ref o), some (.int x0), some (.int x1), some (.int x2), some (.int x3)], [], (sI ((sI ((sI w q1_o ((gI w o 4)).toNatClampNeg ((vp_nar .byte x0)))) q0_o ((gI ((sI w q1_o ((gI w o 4)).toNatClampNeg ((vp_nar .byte x0)))) o 4)).toNatClampNeg x1)) q2_o ((gI ((sI ((sI w q1_o ((gI w o 4)).toNatClampNeg ((vp_nar .byte x0)))) q0_o ((gI ((sI w q1_o ((gI w o 4)).toNatClampNeg ((vp_nar .byte x0)))) o 4)).toNatClampNeg x1)) o 4)).toNatClampNeg x2)) = _
    refine (val_g (c2 := (148, d, 41, [some (.ref o), some (.int x0), some (.int x1), some (.int x2), some (.int x3)], [.ref o], (sI ((sI ((sI w q1_o ((gI w o 4)).toNatClampNeg ((vp_nar .byte x0)))) q0_o ((gI ((sI w q1_o ((gI w o 4)).toNatClampNeg ((vp_nar .byte x0)))) o 4)).toNatClampNeg x1)) q2_o ((gI ((sI ((sI w q1_o ((gI w o 4)).toNatClampNeg ((vp_nar .byte x0)))) q0_o ((gI ((sI w q1_o ((gI w o 4)).toNatClampNeg ((vp_nar .byte x0)))) o 4)).toNatClampNeg x1)) o 4)).toNatClampNeg x2))) rfl).trans ?_
    refine (val_gf (w := (sI ((sI ((sI w q1_o ((gI w o 4)).toNatClampNeg ((vp_nar .byte x0)))) q0_o ((gI ((sI w q1_o ((gI w o 4)).toNatClampNeg ((vp_nar .byte x0)))) o 4)).toNatClampNeg x1)) q2_o ((gI ((sI ((sI w q1_o ((gI w o 4)).toNatClampNeg ((vp_nar .byte x0)))) q0_o ((gI ((sI w q1_o ((gI w o 4)).toNatClampNeg ((vp_nar .byte x0)))) o 4)).toNatClampNeg x1)) o 4)).toNatClampNeg x2)) rfl hk_o (fvR hr3_o)).trans ?_
    show val (148, d, 44, [some (.ref o), some (.int x0), some (.int x1), some (.int x2), some (.int x3)], [.ref q3_o], (sI ((sI ((sI w q1_o ((gI w o 4)).toNatClampNeg ((vp_nar .byte x0)))) q0_o ((gI ((sI w q1_o ((gI w o 4)).toNatClampNeg ((vp_nar .byte x0)))) o 4)).toNatClampNeg x1)) q2_o ((gI ((sI ((sI w q1_o ((gI w o 4)).toNatClampNeg ((vp_nar .byte x0)))) q0_o ((gI ((sI w q1_o ((gI w o 4)).toNatClampNeg ((vp_nar .byte x0)))) o 4)).toNatClampNeg x1)) o 4)).toNatClampNeg x2)) = _
    refine (val_g (c2 := (148, d, 45, [some (.ref o), some (.int x0), some (.int x1), some (.int x2), some (.int x3)], [.ref o, .ref q3_o], (sI ((sI ((sI w q1_o ((gI w o 4)).toNatClampNeg ((vp_nar .byte x0)))) q0_o ((gI ((sI w q1_o ((gI w o 4)).toNatClampNeg ((vp_nar .byte x0)))) o 4)).toNatClampNeg x1)) q2_o ((gI ((sI ((sI w q1_o ((gI w o 4)).toNatClampNeg ((vp_nar .byte x0)))) q0_o ((gI ((sI w q1_o ((gI w o 4)).toNatClampNeg ((vp_nar .byte x0)))) o 4)).toNatClampNeg x1)) o 4)).toNatClampNeg x2))) rfl).trans ?_
    refine (val_gf (w := (sI ((sI ((sI w q1_o ((gI w o 4)).toNatClampNeg ((vp_nar .byte x0)))) q0_o ((gI ((sI w q1_o ((gI w o 4)).toNatClampNeg ((vp_nar .byte x0)))) o 4)).toNatClampNeg x1)) q2_o ((gI ((sI ((sI w q1_o ((gI w o 4)).toNatClampNeg ((vp_nar .byte x0)))) q0_o ((gI ((sI w q1_o ((gI w o 4)).toNatClampNeg ((vp_nar .byte x0)))) o 4)).toNatClampNeg x1)) o 4)).toNatClampNeg x2)) rfl hk_o rfl).trans ?_
    show val (148, d, 48, [some (.ref o), some (.int x0), some (.int x1), some (.int x2), some (.int x3)], [.int (gI ((sI ((sI ((sI w q1_o ((gI w o 4)).toNatClampNeg ((vp_nar .byte x0)))) q0_o ((gI ((sI w q1_o ((gI w o 4)).toNatClampNeg ((vp_nar .byte x0)))) o 4)).toNatClampNeg x1)) q2_o ((gI ((sI ((sI w q1_o ((gI w o 4)).toNatClampNeg ((vp_nar .byte x0)))) q0_o ((gI ((sI w q1_o ((gI w o 4)).toNatClampNeg ((vp_nar .byte x0)))) o 4)).toNatClampNeg x1)) o 4)).toNatClampNeg x2)) o 4), .ref q3_o], (sI ((sI ((sI w q1_o ((gI w o 4)).toNatClampNeg ((vp_nar .byte x0)))) q0_o ((gI ((sI w q1_o ((gI w o 4)).toNatClampNeg ((vp_nar .byte x0)))) o 4)).toNatClampNeg x1)) q2_o ((gI ((sI ((sI w q1_o ((gI w o 4)).toNatClampNeg ((vp_nar .byte x0)))) q0_o ((gI ((sI w q1_o ((gI w o 4)).toNatClampNeg ((vp_nar .byte x0)))) o 4)).toNatClampNeg x1)) o 4)).toNatClampNeg x2)) = _
    refine (val_g (c2 := (148, d, 50, [some (.ref o), some (.int x0), some (.int x1), some (.int x2), some (.int x3)], [.int x3, .int (gI ((sI ((sI ((sI w q1_o ((gI w o 4)).toNatClampNeg ((vp_nar .byte x0)))) q0_o ((gI ((sI w q1_o ((gI w o 4)).toNatClampNeg ((vp_nar .byte x0)))) o 4)).toNatClampNeg x1)) q2_o ((gI ((sI ((sI w q1_o ((gI w o 4)).toNatClampNeg ((vp_nar .byte x0)))) q0_o ((gI ((sI w q1_o ((gI w o 4)).toNatClampNeg ((vp_nar .byte x0)))) o 4)).toNatClampNeg x1)) o 4)).toNatClampNeg x2)) o 4), .ref q3_o], (sI ((sI ((sI w q1_o ((gI w o 4)).toNatClampNeg ((vp_nar .byte x0)))) q0_o ((gI ((sI w q1_o ((gI w o 4)).toNatClampNeg ((vp_nar .byte x0)))) o 4)).toNatClampNeg x1)) q2_o ((gI ((sI ((sI w q1_o ((gI w o 4)).toNatClampNeg ((vp_nar .byte x0)))) q0_o ((gI ((sI w q1_o ((gI w o 4)).toNatClampNeg ((vp_nar .byte x0)))) o 4)).toNatClampNeg x1)) o 4)).toNatClampNeg x2))) rfl).trans ?_
    refine (val_ias (w := (sI ((sI ((sI w q1_o ((gI w o 4)).toNatClampNeg ((vp_nar .byte x0)))) q0_o ((gI ((sI w q1_o ((gI w o 4)).toNatClampNeg ((vp_nar .byte x0)))) o 4)).toNatClampNeg x1)) q2_o ((gI ((sI ((sI w q1_o ((gI w o 4)).toNatClampNeg ((vp_nar .byte x0)))) q0_o ((gI ((sI w q1_o ((gI w o 4)).toNatClampNeg ((vp_nar .byte x0)))) o 4)).toNatClampNeg x1)) o 4)).toNatClampNeg x2)) rfl hk_q3_o (hy22 hc739)).trans ?_
    show val (148, d, 51, [some (.ref o), some (.int x0), some (.int x1), some (.int x2), some (.int x3)], [], (sI ((sI ((sI ((sI w q1_o ((gI w o 4)).toNatClampNeg ((vp_nar .byte x0)))) q0_o ((gI ((sI w q1_o ((gI w o 4)).toNatClampNeg ((vp_nar .byte x0)))) o 4)).toNatClampNeg x1)) q2_o ((gI ((sI ((sI w q1_o ((gI w o 4)).toNatClampNeg ((vp_nar .byte x0)))) q0_o ((gI ((sI w q1_o ((gI w o 4)).toNatClampNeg ((vp_nar .byte x0)))) o 4)).toNatClampNeg x1)) o 4)).toNatClampNeg x2)) q3_o ((gI ((sI ((sI ((sI w q1_o ((gI w o 4)).toNatClampNeg ((vp_nar .byte x0)))) q0_o ((gI ((sI w q1_o ((gI w o 4)).toNatClampNeg ((vp_nar .byte x0)))) o 4)).toNatClampNeg x1)) q2_o ((gI ((sI ((sI w q1_o ((gI w o 4)).toNatClampNeg ((vp_nar .byte x0)))) q0_o ((gI ((sI w q1_o ((gI w o 4)).toNatClampNeg ((vp_nar .byte x0)))) o 4)).toNatClampNeg x1)) o 4)).toNatClampNeg x2)) o 4)).toNatClampNeg x3)) = _
    refine (val_g (c2 := (148, d, 52, [some (.ref o), some (.int x0), some (.int x1), some (.int x2), some (.int x3)], [.ref o], (sI ((sI ((sI ((sI w q1_o ((gI w o 4)).toNatClampNeg ((vp_nar .byte x0)))) q0_o ((gI ((sI w q1_o ((gI w o 4)).toNatClampNeg ((vp_nar .byte x0)))) o 4)).toNatClampNeg x1)) q2_o ((gI ((sI ((sI w q1_o ((gI w o 4)).toNatClampNeg ((vp_nar .byte x0)))) q0_o ((gI ((sI w q1_o ((gI w o 4)).toNatClampNeg ((vp_nar .byte x0)))) o 4)).toNatClampNeg x1)) o 4)).toNatClampNeg x2)) q3_o ((gI ((sI ((sI ((sI w q1_o ((gI w o 4)).toNatClampNeg ((vp_nar .byte x0)))) q0_o ((gI ((sI w q1_o ((gI w o 4)).toNatClampNeg ((vp_nar .byte x0)))) o 4)).toNatClampNeg x1)) q2_o ((gI ((sI ((sI w q1_o ((gI w o 4)).toNatClampNeg ((vp_nar .byte x0)))) q0_o ((gI ((sI w q1_o ((gI w o 4)).toNatClampNeg ((vp_nar .byte x0)))) o 4)).toNatClampNeg x1)) o 4)).toNatClampNeg x2)) o 4)).toNatClampNeg x3))) rfl).trans ?_
    refine (val_g (c2 := (148, d, 53, [some (.ref o), some (.int x0), some (.int x1), some (.int x2), some (.int x3)], [.ref o, .ref o], (sI ((sI ((sI ((sI w q1_o ((gI w o 4)).toNatClampNeg ((vp_nar .byte x0)))) q0_o ((gI ((sI w q1_o ((gI w o 4)).toNatClampNeg ((vp_nar .byte x0)))) o 4)).toNatClampNeg x1)) q2_o ((gI ((sI ((sI w q1_o ((gI w o 4)).toNatClampNeg ((vp_nar .byte x0)))) q0_o ((gI ((sI w q1_o ((gI w o 4)).toNatClampNeg ((vp_nar .byte x0)))) o 4)).toNatClampNeg x1)) o 4)).toNatClampNeg x2)) q3_o ((gI ((sI ((sI ((sI w q1_o ((gI w o 4)).toNatClampNeg ((vp_nar .byte x0)))) q0_o ((gI ((sI w q1_o ((gI w o 4)).toNatClampNeg ((vp_nar .byte x0)))) o 4)).toNatClampNeg x1)) q2_o ((gI ((sI ((sI w q1_o ((gI w o 4)).toNatClampNeg ((vp_nar .byte x0)))) q0_o ((gI ((sI w q1_o ((gI w o 4)).toNatClampNeg ((vp_nar .byte x0)))) o 4)).toNatClampNeg x1)) o 4)).toNatClampNeg x2)) o 4)).toNatClampNeg x3))) rfl).trans ?_
    refine (val_gf (w := (sI ((sI ((sI ((sI w q1_o ((gI w o 4)).toNatClampNeg ((vp_nar .byte x0)))) q0_o ((gI ((sI w q1_o ((gI w o 4)).toNatClampNeg ((vp_nar .byte x0)))) o 4)).toNatClampNeg x1)) q2_o ((gI ((sI ((sI w q1_o ((gI w o 4)).toNatClampNeg ((vp_nar .byte x0)))) q0_o ((gI ((sI w q1_o ((gI w o 4)).toNatClampNeg ((vp_nar .byte x0)))) o 4)).toNatClampNeg x1)) o 4)).toNatClampNeg x2)) q3_o ((gI ((sI ((sI ((sI w q1_o ((gI w o 4)).toNatClampNeg ((vp_nar .byte x0)))) q0_o ((gI ((sI w q1_o ((gI w o 4)).toNatClampNeg ((vp_nar .byte x0)))) o 4)).toNatClampNeg x1)) q2_o ((gI ((sI ((sI w q1_o ((gI w o 4)).toNatClampNeg ((vp_nar .byte x0)))) q0_o ((gI ((sI w q1_o ((gI w o 4)).toNatClampNeg ((vp_nar .byte x0)))) o 4)).toNatClampNeg x1)) o 4)).toNatClampNeg x2)) o 4)).toNatClampNeg x3)) rfl hk_o rfl).trans ?_
    show val (148, d, 56, [some (.ref o), some (.int x0), some (.int x1), some (.int x2), some (.int x3)], [.int (gI ((sI ((sI ((sI ((sI w q1_o ((gI w o 4)).toNatClampNeg ((vp_nar .byte x0)))) q0_o ((gI ((sI w q1_o ((gI w o 4)).toNatClampNeg ((vp_nar .byte x0)))) o 4)).toNatClampNeg x1)) q2_o ((gI ((sI ((sI w q1_o ((gI w o 4)).toNatClampNeg ((vp_nar .byte x0)))) q0_o ((gI ((sI w q1_o ((gI w o 4)).toNatClampNeg ((vp_nar .byte x0)))) o 4)).toNatClampNeg x1)) o 4)).toNatClampNeg x2)) q3_o ((gI ((sI ((sI ((sI w q1_o ((gI w o 4)).toNatClampNeg ((vp_nar .byte x0)))) q0_o ((gI ((sI w q1_o ((gI w o 4)).toNatClampNeg ((vp_nar .byte x0)))) o 4)).toNatClampNeg x1)) q2_o ((gI ((sI ((sI w q1_o ((gI w o 4)).toNatClampNeg ((vp_nar .byte x0)))) q0_o ((gI ((sI w q1_o ((gI w o 4)).toNatClampNeg ((vp_nar .byte x0)))) o 4)).toNatClampNeg x1)) o 4)).toNatClampNeg x2)) o 4)).toNatClampNeg x3)) o 4), .ref o], (sI ((sI ((sI ((sI w q1_o ((gI w o 4)).toNatClampNeg ((vp_nar .byte x0)))) q0_o ((gI ((sI w q1_o ((gI w o 4)).toNatClampNeg ((vp_nar .byte x0)))) o 4)).toNatClampNeg x1)) q2_o ((gI ((sI ((sI w q1_o ((gI w o 4)).toNatClampNeg ((vp_nar .byte x0)))) q0_o ((gI ((sI w q1_o ((gI w o 4)).toNatClampNeg ((vp_nar .byte x0)))) o 4)).toNatClampNeg x1)) o 4)).toNatClampNeg x2)) q3_o ((gI ((sI ((sI ((sI w q1_o ((gI w o 4)).toNatClampNeg ((vp_nar .byte x0)))) q0_o ((gI ((sI w q1_o ((gI w o 4)).toNatClampNeg ((vp_nar .byte x0)))) o 4)).toNatClampNeg x1)) q2_o ((gI ((sI ((sI w q1_o ((gI w o 4)).toNatClampNeg ((vp_nar .byte x0)))) q0_o ((gI ((sI w q1_o ((gI w o 4)).toNatClampNeg ((vp_nar .byte x0)))) o 4)).toNatClampNeg x1)) o 4)).toNatClampNeg x2)) o 4)).toNatClampNeg x3)) = _
    refine (val_g (c2 := (148, d, 57, [some (.ref o), some (.int x0), some (.int x1), some (.int x2), some (.int x3)], [.int 1, .int (gI ((sI ((sI ((sI ((sI w q1_o ((gI w o 4)).toNatClampNeg ((vp_nar .byte x0)))) q0_o ((gI ((sI w q1_o ((gI w o 4)).toNatClampNeg ((vp_nar .byte x0)))) o 4)).toNatClampNeg x1)) q2_o ((gI ((sI ((sI w q1_o ((gI w o 4)).toNatClampNeg ((vp_nar .byte x0)))) q0_o ((gI ((sI w q1_o ((gI w o 4)).toNatClampNeg ((vp_nar .byte x0)))) o 4)).toNatClampNeg x1)) o 4)).toNatClampNeg x2)) q3_o ((gI ((sI ((sI ((sI w q1_o ((gI w o 4)).toNatClampNeg ((vp_nar .byte x0)))) q0_o ((gI ((sI w q1_o ((gI w o 4)).toNatClampNeg ((vp_nar .byte x0)))) o 4)).toNatClampNeg x1)) q2_o ((gI ((sI ((sI w q1_o ((gI w o 4)).toNatClampNeg ((vp_nar .byte x0)))) q0_o ((gI ((sI w q1_o ((gI w o 4)).toNatClampNeg ((vp_nar .byte x0)))) o 4)).toNatClampNeg x1)) o 4)).toNatClampNeg x2)) o 4)).toNatClampNeg x3)) o 4), .ref o], (sI ((sI ((sI ((sI w q1_o ((gI w o 4)).toNatClampNeg ((vp_nar .byte x0)))) q0_o ((gI ((sI w q1_o ((gI w o 4)).toNatClampNeg ((vp_nar .byte x0)))) o 4)).toNatClampNeg x1)) q2_o ((gI ((sI ((sI w q1_o ((gI w o 4)).toNatClampNeg ((vp_nar .byte x0)))) q0_o ((gI ((sI w q1_o ((gI w o 4)).toNatClampNeg ((vp_nar .byte x0)))) o 4)).toNatClampNeg x1)) o 4)).toNatClampNeg x2)) q3_o ((gI ((sI ((sI ((sI w q1_o ((gI w o 4)).toNatClampNeg ((vp_nar .byte x0)))) q0_o ((gI ((sI w q1_o ((gI w o 4)).toNatClampNeg ((vp_nar .byte x0)))) o 4)).toNatClampNeg x1)) q2_o ((gI ((sI ((sI w q1_o ((gI w o 4)).toNatClampNeg ((vp_nar .byte x0)))) q0_o ((gI ((sI w q1_o ((gI w o 4)).toNatClampNeg ((vp_nar .byte x0)))) o 4)).toNatClampNeg x1)) o 4)).toNatClampNeg x2)) o 4)).toNatClampNeg x3))) rfl).trans ?_
    refine (val_g (c2 := (148, d, 58, [some (.ref o), some (.int x0), some (.int x1), some (.int x2), some (.int x3)], [.int ((gI ((sI ((sI ((sI ((sI w q1_o ((gI w o 4)).toNatClampNeg ((vp_nar .byte x0)))) q0_o ((gI ((sI w q1_o ((gI w o 4)).toNatClampNeg ((vp_nar .byte x0)))) o 4)).toNatClampNeg x1)) q2_o ((gI ((sI ((sI w q1_o ((gI w o 4)).toNatClampNeg ((vp_nar .byte x0)))) q0_o ((gI ((sI w q1_o ((gI w o 4)).toNatClampNeg ((vp_nar .byte x0)))) o 4)).toNatClampNeg x1)) o 4)).toNatClampNeg x2)) q3_o ((gI ((sI ((sI ((sI w q1_o ((gI w o 4)).toNatClampNeg ((vp_nar .byte x0)))) q0_o ((gI ((sI w q1_o ((gI w o 4)).toNatClampNeg ((vp_nar .byte x0)))) o 4)).toNatClampNeg x1)) q2_o ((gI ((sI ((sI w q1_o ((gI w o 4)).toNatClampNeg ((vp_nar .byte x0)))) q0_o ((gI ((sI w q1_o ((gI w o 4)).toNatClampNeg ((vp_nar .byte x0)))) o 4)).toNatClampNeg x1)) o 4)).toNatClampNeg x2)) o 4)).toNatClampNeg x3)) o 4) + 1), .ref o], (sI ((sI ((sI ((sI w q1_o ((gI w o 4)).toNatClampNeg ((vp_nar .byte x0)))) q0_o ((gI ((sI w q1_o ((gI w o 4)).toNatClampNeg ((vp_nar .byte x0)))) o 4)).toNatClampNeg x1)) q2_o ((gI ((sI ((sI w q1_o ((gI w o 4)).toNatClampNeg ((vp_nar .byte x0)))) q0_o ((gI ((sI w q1_o ((gI w o 4)).toNatClampNeg ((vp_nar .byte x0)))) o 4)).toNatClampNeg x1)) o 4)).toNatClampNeg x2)) q3_o ((gI ((sI ((sI ((sI w q1_o ((gI w o 4)).toNatClampNeg ((vp_nar .byte x0)))) q0_o ((gI ((sI w q1_o ((gI w o 4)).toNatClampNeg ((vp_nar .byte x0)))) o 4)).toNatClampNeg x1)) q2_o ((gI ((sI ((sI w q1_o ((gI w o 4)).toNatClampNeg ((vp_nar .byte x0)))) q0_o ((gI ((sI w q1_o ((gI w o 4)).toNatClampNeg ((vp_nar .byte x0)))) o 4)).toNatClampNeg x1)) o 4)).toNatClampNeg x2)) o 4)).toNatClampNeg x3))) rfl).trans ?_
    refine (val_pf (w := (sI ((sI ((sI ((sI w q1_o ((gI w o 4)).toNatClampNeg ((vp_nar .byte x0)))) q0_o ((gI ((sI w q1_o ((gI w o 4)).toNatClampNeg ((vp_nar .byte x0)))) o 4)).toNatClampNeg x1)) q2_o ((gI ((sI ((sI w q1_o ((gI w o 4)).toNatClampNeg ((vp_nar .byte x0)))) q0_o ((gI ((sI w q1_o ((gI w o 4)).toNatClampNeg ((vp_nar .byte x0)))) o 4)).toNatClampNeg x1)) o 4)).toNatClampNeg x2)) q3_o ((gI ((sI ((sI ((sI w q1_o ((gI w o 4)).toNatClampNeg ((vp_nar .byte x0)))) q0_o ((gI ((sI w q1_o ((gI w o 4)).toNatClampNeg ((vp_nar .byte x0)))) o 4)).toNatClampNeg x1)) q2_o ((gI ((sI ((sI w q1_o ((gI w o 4)).toNatClampNeg ((vp_nar .byte x0)))) q0_o ((gI ((sI w q1_o ((gI w o 4)).toNatClampNeg ((vp_nar .byte x0)))) o 4)).toNatClampNeg x1)) o 4)).toNatClampNeg x2)) o 4)).toNatClampNeg x3)) rfl hk_o rfl).trans ?_
    show val (148, d, 61, [some (.ref o), some (.int x0), some (.int x1), some (.int x2), some (.int x3)], [], (sI ((sI ((sI ((sI ((sI w q1_o ((gI w o 4)).toNatClampNeg ((vp_nar .byte x0)))) q0_o ((gI ((sI w q1_o ((gI w o 4)).toNatClampNeg ((vp_nar .byte x0)))) o 4)).toNatClampNeg x1)) q2_o ((gI ((sI ((sI w q1_o ((gI w o 4)).toNatClampNeg ((vp_nar .byte x0)))) q0_o ((gI ((sI w q1_o ((gI w o 4)).toNatClampNeg ((vp_nar .byte x0)))) o 4)).toNatClampNeg x1)) o 4)).toNatClampNeg x2)) q3_o ((gI ((sI ((sI ((sI w q1_o ((gI w o 4)).toNatClampNeg ((vp_nar .byte x0)))) q0_o ((gI ((sI w q1_o ((gI w o 4)).toNatClampNeg ((vp_nar .byte x0)))) o 4)).toNatClampNeg x1)) q2_o ((gI ((sI ((sI w q1_o ((gI w o 4)).toNatClampNeg ((vp_nar .byte x0)))) q0_o ((gI ((sI w q1_o ((gI w o 4)).toNatClampNeg ((vp_nar .byte x0)))) o 4)).toNatClampNeg x1)) o 4)).toNatClampNeg x2)) o 4)).toNatClampNeg x3)) o 4 (((gI ((sI ((sI ((sI ((sI w q1_o ((gI w o 4)).toNatClampNeg ((vp_nar .byte x0)))) q0_o ((gI ((sI w q1_o ((gI w o 4)).toNatClampNeg ((vp_nar .byte x0)))) o 4)).toNatClampNeg x1)) q2_o ((gI ((sI ((sI w q1_o ((gI w o 4)).toNatClampNeg ((vp_nar .byte x0)))) q0_o ((gI ((sI w q1_o ((gI w o 4)).toNatClampNeg ((vp_nar .byte x0)))) o 4)).toNatClampNeg x1)) o 4)).toNatClampNeg x2)) q3_o ((gI ((sI ((sI ((sI w q1_o ((gI w o 4)).toNatClampNeg ((vp_nar .byte x0)))) q0_o ((gI ((sI w q1_o ((gI w o 4)).toNatClampNeg ((vp_nar .byte x0)))) o 4)).toNatClampNeg x1)) q2_o ((gI ((sI ((sI w q1_o ((gI w o 4)).toNatClampNeg ((vp_nar .byte x0)))) q0_o ((gI ((sI w q1_o ((gI w o 4)).toNatClampNeg ((vp_nar .byte x0)))) o 4)).toNatClampNeg x1)) o 4)).toNatClampNeg x2)) o 4)).toNatClampNeg x3)) o 4) + 1)))) = _
    exact val_r rfl
  · refine ((val_ic_lt rfl).trans (if_neg hc739)).trans ?_
    show val (148, d, 9, [some (.ref o), some (.int x0), some (.int x1), some (.int x2), some (.int x3)], [], w) = _
    refine Eq.trans ?_ (if_neg hc739).symm
    exact val_r rfl
/-- BelfryHouse$Rule.holds(IIIZ)Z -/
theorem tr_149 (d : Nat) (w : Wd) (o : Nat) (x0 : Int32) (x1 : Int32) (x2 : Int32) (x3 : Int32)     : val (149, d + 3, 0, [some (.ref o), some (.int x0), some (.int x1), some (.int x2), some (.int x3), none], [], w) = val (149, d + 3, 3, [some (.ref o), some (.int x0), some (.int x1), some (.int x2), some (.int x3), some (.int 0)], [], w) := by
  refine (val_g (c2 := (149, d + 3, 1, [some (.ref o), some (.int x0), some (.int x1), some (.int x2), some (.int x3), none], [.int 0], w)) rfl).trans ?_
  refine (val_g (c2 := (149, d + 3, 3, [some (.ref o), some (.int x0), some (.int x1), some (.int x2), some (.int x3), some (.int 0)], [], w)) rfl).trans ?_
  rfl
theorem tr_149_3 (d : Nat) (w : Wd) (l0 : Nat) (l1 : Int32) (l2 : Int32) (l3 : Int32) (l4 : Int32) (l5 : Int32)    (m_l0 : Nat) (hk_l0 : wK w l0 = (6, m_l0)) : val (149, d + 3, 3, [some (.ref l0), some (.int l1), some (.int l2), some (.int l3), some (.int l4), some (.int l5)], [], w) = (if (gI w l0 4) ≤ l5 then some (some (.int 1), w) else val (149, d + 3, 20, [some (.ref l0), some (.int l1), some (.int l2), some (.int l3), some (.int l4), some (.int l5)], [.int l4, .int l3, .int l2, .int l1, .int l5, .ref l0], w)) := by
  refine (val_g (c2 := (149, d + 3, 5, [some (.ref l0), some (.int l1), some (.int l2), some (.int l3), some (.int l4), some (.int l5)], [.int l5], w)) rfl).trans ?_
  refine (val_g (c2 := (149, d + 3, 6, [some (.ref l0), some (.int l1), some (.int l2), some (.int l3), some (.int l4), some (.int l5)], [.ref l0, .int l5], w)) rfl).trans ?_
  refine (val_gf rfl hk_l0 rfl).trans ?_
  show val (149, d + 3, 9, [some (.ref l0), some (.int l1), some (.int l2), some (.int l3), some (.int l4), some (.int l5)], [.int (gI w l0 4), .int l5], w) = _
  by_cases hc742 : (gI w l0 4) ≤ l5
  · refine ((val_ic_ge rfl).trans (if_pos hc742)).trans ?_
    show val (149, d + 3, 41, [some (.ref l0), some (.int l1), some (.int l2), some (.int l3), some (.int l4), some (.int l5)], [], w) = _
    refine Eq.trans ?_ (if_pos hc742).symm
    refine (val_g (c2 := (149, d + 3, 42, [some (.ref l0), some (.int l1), some (.int l2), some (.int l3), some (.int l4), some (.int l5)], [.int 1], w)) rfl).trans ?_
    exact val_r rfl
  · refine ((val_ic_ge rfl).trans (if_neg hc742)).trans ?_
    show val (149, d + 3, 12, [some (.ref l0), some (.int l1), some (.int l2), some (.int l3), some (.int l4), some (.int l5)], [], w) = _
    refine Eq.trans ?_ (if_neg hc742).symm
    refine (val_g (c2 := (149, d + 3, 13, [some (.ref l0), some (.int l1), some (.int l2), some (.int l3), some (.int l4), some (.int l5)], [.ref l0], w)) rfl).trans ?_
    refine (val_g (c2 := (149, d + 3, 15, [some (.ref l0), some (.int l1), some (.int l2), some (.int l3), some (.int l4), some (.int l5)], [.int l5, .ref l0], w)) rfl).trans ?_
    refine (val_g (c2 := (149, d + 3, 16, [some (.ref l0), some (.int l1), some (.int l2), some (.int l3), some (.int l4), some (.int l5)], [.int l1, .int l5, .ref l0], w)) rfl).trans ?_
    refine (val_g (c2 := (149, d + 3, 17, [some (.ref l0), some (.int l1), some (.int l2), some (.int l3), some (.int l4), some (.int l5)], [.int l2, .int l1, .int l5, .ref l0], w)) rfl).trans ?_
    refine (val_g (c2 := (149, d + 3, 18, [some (.ref l0), some (.int l1), some (.int l2), some (.int l3), some (.int l4), some (.int l5)], [.int l3, .int l2, .int l1, .int l5, .ref l0], w)) rfl).trans ?_
    refine (val_g (c2 := (149, d + 3, 20, [some (.ref l0), some (.int l1), some (.int l2), some (.int l3), some (.int l4), some (.int l5)], [.int l4, .int l3, .int l2, .int l1, .int l5, .ref l0], w)) rfl).trans ?_
    rfl
theorem tr_149_23 (d : Nat) (w : Wd) (l0 : Nat) (l1 : Int32) (l2 : Int32) (l3 : Int32) (l4 : Int32) (l5 : Int32) (s0 : Int32)    (m_l0 : Nat) (hk_l0 : wK w l0 = (6, m_l0)) (q1_l0 : Nat) (hr1_l0 : gR w l0 1 = some q1_l0) (m_q1_l0 : Nat) (hk_q1_l0 : wK w q1_l0 = (21, m_q1_l0)) (hy7 : inB l5 m_q1_l0 = true) : val (149, d + 3, 23, [some (.ref l0), some (.int l1), some (.int l2), some (.int l3), some (.int l4), some (.int l5)], [.int s0], w) = (if ¬ s0 = (gI w q1_l0 (l5).toNatClampNeg) then val (149, d + 3, 3, [some (.ref l0), some (.int l1), some (.int l2), some (.int l3), some (.int l4), some (.int (l5 + 1))], [], w) else some (some (.int 0), w)) := by
  refine (val_g (c2 := (149, d + 3, 24, [some (.ref l0), some (.int l1), some (.int l2), some (.int l3), some (.int l4), some (.int l5)], [.ref l0, .int s0], w)) rfl).trans ?_
  refine (val_gf rfl hk_l0 (fvR hr1_l0)).trans ?_
  show val (149, d + 3, 27, [some (.ref l0), some (.int l1), some (.int l2), some (.int l3), some (.int l4), some (.int l5)], [.ref q1_l0, .int s0], w) = _
  refine (val_g (c2 := (149, d + 3, 29, [some (.ref l0), some (.int l1), some (.int l2), some (.int l3), some (.int l4), some (.int l5)], [.int l5, .ref q1_l0, .int s0], w)) rfl).trans ?_
  refine (val_bal rfl hk_q1_l0 rfl hy7).trans ?_
  show val (149, d + 3, 30, [some (.ref l0), some (.int l1), some (.int l2), some (.int l3), some (.int l4), some (.int l5)], [.int (gI w q1_l0 (l5).toNatClampNeg), .int s0], w) = _
  by_cases hc743 : ¬ s0 = (gI w q1_l0 (l5).toNatClampNeg)
  · refine ((val_ic_ne rfl).trans (if_pos hc743)).trans ?_
    show val (149, d + 3, 35, [some (.ref l0), some (.int l1), some (.int l2), some (.int l3), some (.int l4), some (.int l5)], [], w) = _
    refine Eq.trans ?_ (if_pos hc743).symm
    refine (val_g (c2 := (149, d + 3, 38, [some (.ref l0), some (.int l1), some (.int l2), some (.int l3), some (.int l4), some (.int (l5 + 1))], [], w)) rfl).trans ?_
    refine (val_g (c2 := (149, d + 3, 3, [some (.ref l0), some (.int l1), some (.int l2), some (.int l3), some (.int l4), some (.int (l5 + 1))], [], w)) rfl).trans ?_
    rfl
  · refine ((val_ic_ne rfl).trans (if_neg hc743)).trans ?_
    show val (149, d + 3, 33, [some (.ref l0), some (.int l1), some (.int l2), some (.int l3), some (.int l4), some (.int l5)], [], w) = _
    refine Eq.trans ?_ (if_neg hc743).symm
    refine (val_g (c2 := (149, d + 3, 34, [some (.ref l0), some (.int l1), some (.int l2), some (.int l3), some (.int l4), some (.int l5)], [.int 0], w)) rfl).trans ?_
    exact val_r rfl
/-- BelfryHouse$Rule.isSo(IIIIZ)Z -/
theorem tr_150 (d : Nat) (w : Wd) (o : Nat) (x0 : Int32) (x1 : Int32) (x2 : Int32) (x3 : Int32) (x4 : Int32)    (m_o : Nat) (hk_o : wK w o = (6, m_o)) (q2_o : Nat) (hr2_o : gR w o 2 = some q2_o) (m_q2_o : Nat) (hk_q2_o : wK w q2_o = (20, m_q2_o)) (hy7 : inB x0 m_q2_o = true) (q3_o : Nat) (hr3_o : gR w o 3 = some q3_o) (m_q3_o : Nat) (hk_q3_o : wK w q3_o = (20, m_q3_o)) (hy12 : inB x0 m_q3_o = true) (q0_o : Nat) (hr0_o : gR w o 0 = some q0_o) (m_q0_o : Nat) (hk_q0_o : wK w q0_o = (20, m_q0_o)) (hy17 : inB x0 m_q0_o = true) (hy18 : (¬ ((gI w q0_o (x0).toNatClampNeg) = 0)) → (¬ ((gI w q0_o (x0).toNatClampNeg) = 1)) → (¬ ((gI w q0_o (x0).toNatClampNeg) = 2)) → (¬ ((gI w q0_o (x0).toNatClampNeg) = 3)) → ((gI w q0_o (x0).toNatClampNeg) = 4) → narB 1 x4 = true) (hy19 : (¬ ((gI w q0_o (x0).toNatClampNeg) = 0)) → (¬ ((gI w q0_o (x0).toNatClampNeg) = 1)) → (¬ ((gI w q0_o (x0).toNatClampNeg) = 2)) → (¬ ((gI w q0_o (x0).toNatClampNeg) = 3)) → (¬ ((gI w q0_o (x0).toNatClampNeg) = 4)) → (¬ ((gI w q2_o (x0).toNatClampNeg) ≤ 0)) → ¬ (gI w q2_o (x0).toNatClampNeg) = 0) : val (150, d + 2, 0, [some (.ref o), some (.int x0), some (.int x1), some (.int x2), some (.int x3), some (.int x4), none, none], [], w) = (if (gI w q0_o (x0).toNatClampNeg) = 0 then (if ¬ (fn_130 x1 x2 (((gI w q3_o (x0).toNatClampNeg) - 1))) = ((gI w q2_o (x0).toNatClampNeg) - 1) then some (some (.int 0), w) else some (some (.int 1), w)) else (if (gI w q0_o (x0).toNatClampNeg) = 1 then val (150, d + 2, 84, [some (.ref o), some (.int x0), some (.int x1), some (.int x2), some (.int x3), some (.int x4), some (.int (gI w q2_o (x0).toNatClampNeg)), some (.int (gI w q3_o (x0).toNatClampNeg))], [.int ((gI w q2_o (x0).toNatClampNeg) - 1), .int x2, .int x1], w) else (if (gI w q0_o (x0).toNatClampNeg) = 2 then val (150, d + 2, 107, [some (.ref o), some (.int x0), some (.int x1), some (.int x2), some (.int x3), some (.int x4), some (.int (gI w q2_o (x0).toNatClampNeg)), some (.int (gI w q3_o (x0).toNatClampNeg))], [.int x2, .int x1], w) else (if (gI w q0_o (x0).toNatClampNeg) = 3 then val (150, d + 2, 113, [some (.ref o), some (.int x0), some (.int x1), some (.int x2), some (.int x3), some (.int x4), some (.int (gI w q2_o (x0).toNatClampNeg)), some (.int (gI w q3_o (x0).toNatClampNeg))], [.int x1, .int x2], w) else (if (gI w q0_o (x0).toNatClampNeg) = 4 then some (some (.int x4), w) else (if (gI w q2_o (x0).toNatClampNeg) ≤ 0 then some (some (.int 0), w) else (if ¬ ((x3 - (gI w q3_o (x0).toNatClampNeg)) - (x3 - (gI w q3_o (x0).toNatClampNeg)) / (gI w q2_o (x0).toNatClampNeg) * (gI w q2_o (x0).toNatClampNeg)) = 0 then some (some (.int 0), w) else some (some (.int 1), w)))))))) := by
  refine (val_g (c2 := (150, d + 2, 1, [some (.ref o), some (.int x0), some (.int x1), some (.int x2), some (.int x3), some (.int x4), none, none], [.ref o], w)) rfl).trans ?_
  refine (val_gf rfl hk_o (fvR hr2_o)).trans ?_
  show val (150, d + 2, 4, [some (.ref o), some (.int x0), some (.int x1), some (.int x2), some (.int x3), some (.int x4), none, none], [.ref q2_o], w) = _
  refine (val_g (c2 := (150, d + 2, 5, [some (.ref o), some (.int x0), some (.int x1), some (.int x2), some (.int x3), some (.int x4), none, none], [.int x0, .ref q2_o], w)) rfl).trans ?_
  refine (val_ial rfl hk_q2_o rfl hy7).trans ?_
  show val (150, d + 2, 6, [some (.ref o), some (.int x0), some (.int x1), some (.int x2), some (.int x3), some (.int x4), none, none], [.int (gI w q2_o (x0).toNatClampNeg)], w) = _
  refine (val_g (c2 := (150, d + 2, 8, [some (.ref o), some (.int x0), some (.int x1), some (.int x2), some (.int x3), some (.int x4), some (.int (gI w q2_o (x0).toNatClampNeg)), none], [], w)) rfl).trans ?_
  refine (val_g (c2 := (150, d + 2, 9, [some (.ref o), some (.int x0), some (.int x1), some (.int x2), some (.int x3), some (.int x4), some (.int (gI w q2_o (x0).toNatClampNeg)), none], [.ref o], w)) rfl).trans ?_
  refine (val_gf rfl hk_o (fvR hr3_o)).trans ?_
  show val (150, d + 2, 12, [some (.ref o), some (.int x0), some (.int x1), some (.int x2), some (.int x3), some (.int x4), some (.int (gI w q2_o (x0).toNatClampNeg)), none], [.ref q3_o], w) = _
  refine (val_g (c2 := (150, d + 2, 13, [some (.ref o), some (.int x0), some (.int x1), some (.int x2), some (.int x3), some (.int x4), some (.int (gI w q2_o (x0).toNatClampNeg)), none], [.int x0, .ref q3_o], w)) rfl).trans ?_
  refine (val_ial rfl hk_q3_o rfl hy12).trans ?_
  show val (150, d + 2, 14, [some (.ref o), some (.int x0), some (.int x1), some (.int x2), some (.int x3), some (.int x4), some (.int (gI w q2_o (x0).toNatClampNeg)), none], [.int (gI w q3_o (x0).toNatClampNeg)], w) = _
  refine (val_g (c2 := (150, d + 2, 16, [some (.ref o), some (.int x0), some (.int x1), some (.int x2), some (.int x3), some (.int x4), some (.int (gI w q2_o (x0).toNatClampNeg)), some (.int (gI w q3_o (x0).toNatClampNeg))], [], w)) rfl).trans ?_
  refine (val_g (c2 := (150, d + 2, 17, [some (.ref o), some (.int x0), some (.int x1), some (.int x2), some (.int x3), some (.int x4), some (.int (gI w q2_o (x0).toNatClampNeg)), some (.int (gI w q3_o (x0).toNatClampNeg))], [.ref o], w)) rfl).trans ?_
  refine (val_gf rfl hk_o (fvR hr0_o)).trans ?_
  show val (150, d + 2, 20, [some (.ref o), some (.int x0), some (.int x1), some (.int x2), some (.int x3), some (.int x4), some (.int (gI w q2_o (x0).toNatClampNeg)), some (.int (gI w q3_o (x0).toNatClampNeg))], [.ref q0_o], w) = _
  refine (val_g (c2 := (150, d + 2, 21, [some (.ref o), some (.int x0), some (.int x1), some (.int x2), some (.int x3), some (.int x4), some (.int (gI w q2_o (x0).toNatClampNeg)), some (.int (gI w q3_o (x0).toNatClampNeg))], [.int x0, .ref q0_o], w)) rfl).trans ?_
  refine (val_ial rfl hk_q0_o rfl hy17).trans ?_
  show val (150, d + 2, 22, [some (.ref o), some (.int x0), some (.int x1), some (.int x2), some (.int x3), some (.int x4), some (.int (gI w q2_o (x0).toNatClampNeg)), some (.int (gI w q3_o (x0).toNatClampNeg))], [.int (gI w q0_o (x0).toNatClampNeg)], w) = _
  refine (val_tsI rfl).trans ?_
  show (if (gI w q0_o (x0).toNatClampNeg) = 0 then val (150, d + 2, 56, [some (.ref o), some (.int x0), some (.int x1), some (.int x2), some (.int x3), some (.int x4), some (.int (gI w q2_o (x0).toNatClampNeg)), some (.int (gI w q3_o (x0).toNatClampNeg))], [], w) else if (gI w q0_o (x0).toNatClampNeg) = 1 then val (150, d + 2, 78, [some (.ref o), some (.int x0), some (.int x1), some (.int x2), some (.int x3), some (.int x4), some (.int (gI w q2_o (x0).toNatClampNeg)), some (.int (gI w q3_o (x0).toNatClampNeg))], [], w) else if (gI w q0_o (x0).toNatClampNeg) = 2 then val (150, d + 2, 105, [some (.ref o), some (.int x0), some (.int x1), some (.int x2), some (.int x3), some (.int x4), some (.int (gI w q2_o (x0).toNatClampNeg)), some (.int (gI w q3_o (x0).toNatClampNeg))], [], w) else if (gI w q0_o (x0).toNatClampNeg) = 3 then val (150, d + 2, 111, [some (.ref o), some (.int x0), some (.int x1), some (.int x2), some (.int x3), some (.int x4), some (.int (gI w q2_o (x0).toNatClampNeg)), some (.int (gI w q3_o (x0).toNatClampNeg))], [], w) else if (gI w q0_o (x0).toNatClampNeg) = 4 then val (150, d + 2, 125, [some (.ref o), some (.int x0), some (.int x1), some (.int x2), some (.int x3), some (.int x4), some (.int (gI w q2_o (x0).toNatClampNeg)), some (.int (gI w q3_o (x0).toNatClampNeg))], [], w) else val (150, d + 2, 128, [some (.ref o), some (.int x0), some (.int x1), some (.int x2), some (.int x3), some (.int x4), some (.int (gI w q2_o (x0).toNatClampNeg)), some (.int (gI w q3_o (x0).toNatClampNeg))], [], w)) = _
  by_cases hc754 : (gI w q0_o (x0).toNatClampNeg) = 0
  · refine (if_pos hc754).trans (Eq.trans ?_ (if_pos hc754).symm)
    refine (val_g (c2 := (150, d + 2, 57, [some (.ref o), some (.int x0), some (.int x1), some (.int x2), some (.int x3), some (.int x4), some (.int (gI w q2_o (x0).toNatClampNeg)), some (.int (gI w q3_o (x0).toNatClampNeg))], [.int x1], w)) rfl).trans ?_
    refine (val_g (c2 := (150, d + 2, 58, [some (.ref o), some (.int x0), some (.int x1), some (.int x2), some (.int x3), some (.int x4), some (.int (gI w q2_o (x0).toNatClampNeg)), some (.int (gI w q3_o (x0).toNatClampNeg))], [.int x2, .int x1], w)) rfl).trans ?_
    refine (val_g (c2 := (150, d + 2, 60, [some (.ref o), some (.int x0), some (.int x1), some (.int x2), some (.int x3), some (.int x4), some (.int (gI w q2_o (x0).toNatClampNeg)), some (.int (gI w q3_o (x0).toNatClampNeg))], [.int (gI w q3_o (x0).toNatClampNeg), .int x2, .int x1], w)) rfl).trans ?_
    refine (val_g (c2 := (150, d + 2, 61, [some (.ref o), some (.int x0), some (.int x1), some (.int x2), some (.int x3), some (.int x4), some (.int (gI w q2_o (x0).toNatClampNeg)), some (.int (gI w q3_o (x0).toNatClampNeg))], [.int 1, .int (gI w q3_o (x0).toNatClampNeg), .int x2, .int x1], w)) rfl).trans ?_
    refine (val_g (c2 := (150, d + 2, 62, [some (.ref o), some (.int x0), some (.int x1), some (.int x2), some (.int x3), some (.int x4), some (.int (gI w q2_o (x0).toNatClampNeg)), some (.int (gI w q3_o (x0).toNatClampNeg))], [.int ((gI w q3_o (x0).toNatClampNeg) - 1), .int x2, .int x1], w)) rfl).trans ?_
    refine (val_call (w1 := w) (pc2 := 65) rfl rfl rfl rfl rfl (Nat.le_of_ble_eq_true rfl) (Nat.le_of_ble_eq_true rfl) rfl (ev_130 (d + 1) w x1 x2 (((gI w q3_o (x0).toNatClampNeg) - 1))) rfl).trans ?_
    show val (150, d + 2, 65, [some (.ref o), some (.int x0), some (.int x1), some (.int x2), some (.int x3), some (.int x4), some (.int (gI w q2_o (x0).toNatClampNeg)), some (.int (gI w q3_o (x0).toNatClampNeg))], [.int (fn_130 x1 x2 (((gI w q3_o (x0).toNatClampNeg) - 1)))], w) = _
    refine (val_g (c2 := (150, d + 2, 67, [some (.ref o), some (.int x0), some (.int x1), some (.int x2), some (.int x3), some (.int x4), some (.int (gI w q2_o (x0).toNatClampNeg)), some (.int (gI w q3_o (x0).toNatClampNeg))], [.int (gI w q2_o (x0).toNatClampNeg), .int (fn_130 x1 x2 (((gI w q3_o (x0).toNatClampNeg) - 1)))], w)) rfl).trans ?_
    refine (val_g (c2 := (150, d + 2, 68, [some (.ref o), some (.int x0), some (.int x1), some (.int x2), some (.int x3), some (.int x4), some (.int (gI w q2_o (x0).toNatClampNeg)), some (.int (gI w q3_o (x0).toNatClampNeg))], [.int 1, .int (gI w q2_o (x0).toNatClampNeg), .int (fn_130 x1 x2 (((gI w q3_o (x0).toNatClampNeg) - 1)))], w)) rfl).trans ?_
    refine (val_g (c2 := (150, d + 2, 69, [some (.ref o), some (.int x0), some (.int x1), some (.int x2), some (.int x3), some (.int x4), some (.int (gI w q2_o (x0).toNatClampNeg)), some (.int (gI w q3_o (x0).toNatClampNeg))], [.int ((gI w q2_o (x0).toNatClampNeg) - 1), .int (fn_130 x1 x2 (((gI w q3_o (x0).toNatClampNeg) - 1)))], w)) rfl).trans ?_
    by_cases hc755 : ¬ (fn_130 x1 x2 (((gI w q3_o (x0).toNatClampNeg) - 1))) = ((gI w q2_o (x0).toNatClampNeg) - 1)
    · refine ((val_ic_ne rfl).trans (if_pos hc755)).trans ?_
      show val (150, d + 2, 76, [some (.ref o), some (.int x0), some (.int x1), some (.int x2), some (.int x3), some (.int x4), some (.int (gI w q2_o (x0).toNatClampNeg)), some (.int (gI w q3_o (x0).toNatClampNeg))], [], w) = _
      refine Eq.trans ?_ (if_pos hc755).symm
      refine (val_g (c2 := (150, d + 2, 77, [some (.ref o), some (.int x0), some (.int x1), some (.int x2), some (.int x3), some (.int x4), some (.int (gI w q2_o (x0).toNatClampNeg)), some (.int (gI w q3_o (x0).toNatClampNeg))], [.int 0], w)) rfl).trans ?_
      exact val_r rfl
    · refine ((val_ic_ne rfl).trans (if_neg hc755)).trans ?_
      show val (150, d + 2, 72, [some (.ref o), some (.int x0), some (.int x1), some (.int x2), some (.int x3), some (.int x4), some (.int (gI w q2_o (x0).toNatClampNeg)), some (.int (gI w q3_o (x0).toNatClampNeg))], [], w) = _
      refine Eq.trans ?_ (if_neg hc755).symm
      refine (val_g (c2 := (150, d + 2, 73, [some (.ref o), some (.int x0), some (.int x1), some (.int x2), some (.int x3), some (.int x4), some (.int (gI w q2_o (x0).toNatClampNeg)), some (.int (gI w q3_o (x0).toNatClampNeg))], [.int 1], w)) rfl).trans ?_
      refine (val_g (c2 := (150, d + 2, 77, [some (.ref o), some (.int x0), some (.int x1), some (.int x2), some (.int x3), some (.int x4), some (.int (gI w q2_o (x0).toNatClampNeg)), some (.int (gI w q3_o (x0).toNatClampNeg))], [.int 1], w)) rfl).trans ?_
      exact val_r rfl
  · refine (if_neg hc754).trans (Eq.trans ?_ (if_neg hc754).symm)
    by_cases hc756 : (gI w q0_o (x0).toNatClampNeg) = 1
    · refine (if_pos hc756).trans (Eq.trans ?_ (if_pos hc756).symm)
      refine (val_g (c2 := (150, d + 2, 79, [some (.ref o), some (.int x0), some (.int x1), some (.int x2), some (.int x3), some (.int x4), some (.int (gI w q2_o (x0).toNatClampNeg)), some (.int (gI w q3_o (x0).toNatClampNeg))], [.int x1], w)) rfl).trans ?_
      refine (val_g (c2 := (150, d + 2, 80, [some (.ref o), some (.int x0), some (.int x1), some (.int x2), some (.int x3), some (.int x4), some (.int (gI w q2_o (x0).toNatClampNeg)), some (.int (gI w q3_o (x0).toNatClampNeg))], [.int x2, .int x1], w)) rfl).trans ?_
      refine (val_g (c2 := (150, d + 2, 82, [some (.ref o), some (.int x0), some (.int x1), some (.int x2), some (.int x3), some (.int x4), some (.int (gI w q2_o (x0).toNatClampNeg)), some (.int (gI w q3_o (x0).toNatClampNeg))], [.int (gI w q2_o (x0).toNatClampNeg), .int x2, .int x1], w)) rfl).trans ?_
      refine (val_g (c2 := (150, d + 2, 83, [some (.ref o), some (.int x0), some (.int x1), some (.int x2), some (.int x3), some (.int x4), some (.int (gI w q2_o (x0).toNatClampNeg)), some (.int (gI w q3_o (x0).toNatClampNeg))], [.int 1, .int (gI w q2_o (x0).toNatClampNeg), .int x2, .int x1], w)) rfl).trans ?_
      refine (val_g (c2 := (150, d + 2, 84, [some (.ref o), some (.int x0), some (.int x1), some (.int x2), some (.int x3), some (.int x4), some (.int (gI w q2_o (x0).toNatClampNeg)), some (.int (gI w q3_o (x0).toNatClampNeg))], [.int ((gI w q2_o (x0).toNatClampNeg) - 1), .int x2, .int x1], w)) rfl).trans ?_
      rfl
    · refine (if_neg hc756).trans (Eq.trans ?_ (if_neg hc756).symm)
      by_cases hc757 : (gI w q0_o (x0).toNatClampNeg) = 2
      · refine (if_pos hc757).trans (Eq.trans ?_ (if_pos hc757).symm)
        refine (val_g (c2 := (150, d + 2, 106, [some (.ref o), some (.int x0), some (.int x1), some (.int x2), some (.int x3), some (.int x4), some (.int (gI w q2_o (x0).toNatClampNeg)), some (.int (gI w q3_o (x0).toNatClampNeg))], [.int x1], w)) rfl).trans ?_
        refine (val_g (c2 := (150, d + 2, 107, [some (.ref o), some (.int x0), some (.int x1), some (.int x2), some (.int x3), some (.int x4), some (.int (gI w q2_o (x0).toNatClampNeg)), some (.int (gI w q3_o (x0).toNatClampNeg))], [.int x2, .int x1], w)) rfl).trans ?_
        rfl
      · refine (if_neg hc757).trans (Eq.trans ?_ (if_neg hc757).symm)
        by_cases hc758 : (gI w q0_o (x0).toNatClampNeg) = 3
        · refine (if_pos hc758).trans (Eq.trans ?_ (if_pos hc758).symm)
          refine (val_g (c2 := (150, d + 2, 112, [some (.ref o), some (.int x0), some (.int x1), some (.int x2), some (.int x3), some (.int x4), some (.int (gI w q2_o (x0).toNatClampNeg)), some (.int (gI w q3_o (x0).toNatClampNeg))], [.int x2], w)) rfl).trans ?_
          refine (val_g (c2 := (150, d + 2, 113, [some (.ref o), some (.int x0), some (.int x1), some (.int x2), some (.int x3), some (.int x4), some (.int (gI w q2_o (x0).toNatClampNeg)), some (.int (gI w q3_o (x0).toNatClampNeg))], [.int x1, .int x2], w)) rfl).trans ?_
          rfl
        · refine (if_neg hc758).trans (Eq.trans ?_ (if_neg hc758).symm)
          by_cases hc759 : (gI w q0_o (x0).toNatClampNeg) = 4
          · refine (if_pos hc759).trans (Eq.trans ?_ (if_pos hc759).symm)
            refine (val_g (c2 := (150, d + 2, 127, [some (.ref o), some (.int x0), some (.int x1), some (.int x2), some (.int x3), some (.int x4), some (.int (gI w q2_o (x0).toNatClampNeg)), some (.int (gI w q3_o (x0).toNatClampNeg))], [.int x4], w)) rfl).trans ?_
            exact val_r (if_pos (hy18 hc754 hc756 hc757 hc758 hc759))
          · refine (if_neg hc759).trans (Eq.trans ?_ (if_neg hc759).symm)
            refine (val_g (c2 := (150, d + 2, 130, [some (.ref o), some (.int x0), some (.int x1), some (.int x2), some (.int x3), some (.int x4), some (.int (gI w q2_o (x0).toNatClampNeg)), some (.int (gI w q3_o (x0).toNatClampNeg))], [.int (gI w q2_o (x0).toNatClampNeg)], w)) rfl).trans ?_
            by_cases hc760 : (gI w q2_o (x0).toNatClampNeg) ≤ 0
            · refine ((val_if_le rfl).trans (if_pos hc760)).trans ?_
              show val (150, d + 2, 148, [some (.ref o), some (.int x0), some (.int x1), some (.int x2), some (.int x3), some (.int x4), some (.int (gI w q2_o (x0).toNatClampNeg)), some (.int (gI w q3_o (x0).toNatClampNeg))], [], w) = _
              refine Eq.trans ?_ (if_pos hc760).symm
              refine (val_g (c2 := (150, d + 2, 149, [some (.ref o), some (.int x0), some (.int x1), some (.int x2), some (.int x3), some (.int x4), some (.int (gI w q2_o (x0).toNatClampNeg)), some (.int (gI w q3_o (x0).toNatClampNeg))], [.int 0], w)) rfl).trans ?_
              exact val_r rfl
            · refine ((val_if_le rfl).trans (if_neg hc760)).trans ?_
              show val (150, d + 2, 133, [some (.ref o), some (.int x0), some (.int x1), some (.int x2), some (.int x3), some (.int x4), some (.int (gI w q2_o (x0).toNatClampNeg)), some (.int (gI w q3_o (x0).toNatClampNeg))], [], w) = _
              refine Eq.trans ?_ (if_neg hc760).symm
              refine (val_g (c2 := (150, d + 2, 135, [some (.ref o), some (.int x0), some (.int x1), some (.int x2), some (.int x3), some (.int x4), some (.int (gI w q2_o (x0).toNatClampNeg)), some (.int (gI w q3_o (x0).toNatClampNeg))], [.int x3], w)) rfl).trans ?_
              refine (val_g (c2 := (150, d + 2, 137, [some (.ref o), some (.int x0), some (.int x1), some (.int x2), some (.int x3), some (.int x4), some (.int (gI w q2_o (x0).toNatClampNeg)), some (.int (gI w q3_o (x0).toNatClampNeg))], [.int (gI w q3_o (x0).toNatClampNeg), .int x3], w)) rfl).trans ?_
              refine (val_g (c2 := (150, d + 2, 138, [some (.ref o), some (.int x0), some (.int x1), some (.int x2), some (.int x3), some (.int x4), some (.int (gI w q2_o (x0).toNatClampNeg)), some (.int (gI w q3_o (x0).toNatClampNeg))], [.int (x3 - (gI w q3_o (x0).toNatClampNeg))], w)) rfl).trans ?_
              refine (val_g (c2 := (150, d + 2, 140, [some (.ref o), some (.int x0), some (.int x1), some (.int x2), some (.int x3), some (.int x4), some (.int (gI w q2_o (x0).toNatClampNeg)), some (.int (gI w q3_o (x0).toNatClampNeg))], [.int (gI w q2_o (x0).toNatClampNeg), .int (x3 - (gI w q3_o (x0).toNatClampNeg))], w)) rfl).trans ?_
              refine (val_irem rfl (hy19 hc754 hc756 hc757 hc758 hc759 hc760)).trans ?_
              show val (150, d + 2, 141, [some (.ref o), some (.int x0), some (.int x1), some (.int x2), some (.int x3), some (.int x4), some (.int (gI w q2_o (x0).toNatClampNeg)), some (.int (gI w q3_o (x0).toNatClampNeg))], [.int ((x3 - (gI w q3_o (x0).toNatClampNeg)) - (x3 - (gI w q3_o (x0).toNatClampNeg)) / (gI w q2_o (x0).toNatClampNeg) * (gI w q2_o (x0).toNatClampNeg))], w) = _
              by_cases hc761 : ¬ ((x3 - (gI w q3_o (x0).toNatClampNeg)) - (x3 - (gI w q3_o (x0).toNatClampNeg)) / (gI w q2_o (x0).toNatClampNeg) * (gI w q2_o (x0).toNatClampNeg)) = 0
              · refine ((val_if_ne rfl).trans (if_pos hc761)).trans ?_
                show val (150, d + 2, 148, [some (.ref o), some (.int x0), some (.int x1), some (.int x2), some (.int x3), some (.int x4), some (.int (gI w q2_o (x0).toNatClampNeg)), some (.int (gI w q3_o (x0).toNatClampNeg))], [], w) = _
                refine Eq.trans ?_ (if_pos hc761).symm
                refine (val_g (c2 := (150, d + 2, 149, [some (.ref o), some (.int x0), some (.int x1), some (.int x2), some (.int x3), some (.int x4), some (.int (gI w q2_o (x0).toNatClampNeg)), some (.int (gI w q3_o (x0).toNatClampNeg))], [.int 0], w)) rfl).trans ?_
                exact val_r rfl
              · refine ((val_if_ne rfl).trans (if_neg hc761)).trans ?_
                show val (150, d + 2, 144, [some (.ref o), some (.int x0), some (.int x1), some (.int x2), some (.int x3), some (.int x4), some (.int (gI w q2_o (x0).toNatClampNeg)), some (.int (gI w q3_o (x0).toNatClampNeg))], [], w) = _
                refine Eq.trans ?_ (if_neg hc761).symm
                refine (val_g (c2 := (150, d + 2, 145, [some (.ref o), some (.int x0), some (.int x1), some (.int x2), some (.int x3), some (.int x4), some (.int (gI w q2_o (x0).toNatClampNeg)), some (.int (gI w q3_o (x0).toNatClampNeg))], [.int 1], w)) rfl).trans ?_
                refine (val_g (c2 := (150, d + 2, 149, [some (.ref o), some (.int x0), some (.int x1), some (.int x2), some (.int x3), some (.int x4), some (.int (gI w q2_o (x0).toNatClampNeg)), some (.int (gI w q3_o (x0).toNatClampNeg))], [.int 1], w)) rfl).trans ?_
                exact val_r rfl
theorem tr_150_87 (d : Nat) (w : Wd) (l0 : Nat) (l1 : Int32) (l2 : Int32) (l3 : Int32) (l4 : Int32) (l5 : Int32) (l6 : Int32) (l7 : Int32) (s0 : Int32)     : val (150, d + 2, 87, [some (.ref l0), some (.int l1), some (.int l2), some (.int l3), some (.int l4), some (.int l5), some (.int l6), some (.int l7)], [.int s0], w) = val (150, d + 2, 93, [some (.ref l0), some (.int l1), some (.int l2), some (.int l3), some (.int l4), some (.int l5), some (.int l6), some (.int l7)], [.int (l7 - 1), .int l3, .int l2, .int s0], w) := by
  refine (val_g (c2 := (150, d + 2, 88, [some (.ref l0), some (.int l1), some (.int l2), some (.int l3), some (.int l4), some (.int l5), some (.int l6), some (.int l7)], [.int l2, .int s0], w)) rfl).trans ?_
  refine (val_g (c2 := (150, d + 2, 89, [some (.ref l0), some (.int l1), some (.int l2), some (.int l3), some (.int l4), some (.int l5), some (.int l6), some (.int l7)], [.int l3, .int l2, .int s0], w)) rfl).trans ?_
  refine (val_g (c2 := (150, d + 2, 91, [some (.ref l0), some (.int l1), some (.int l2), some (.int l3), some (.int l4), some (.int l5), some (.int l6), some (.int l7)], [.int l7, .int l3, .int l2, .int s0], w)) rfl).trans ?_
  refine (val_g (c2 := (150, d + 2, 92, [some (.ref l0), some (.int l1), some (.int l2), some (.int l3), some (.int l4), some (.int l5), some (.int l6), some (.int l7)], [.int 1, .int l7, .int l3, .int l2, .int s0], w)) rfl).trans ?_
  refine (val_g (c2 := (150, d + 2, 93, [some (.ref l0), some (.int l1), some (.int l2), some (.int l3), some (.int l4), some (.int l5), some (.int l6), some (.int l7)], [.int (l7 - 1), .int l3, .int l2, .int s0], w)) rfl).trans ?_
  rfl
theorem tr_150_96 (d : Nat) (w : Wd) (l0 : Nat) (l1 : Int32) (l2 : Int32) (l3 : Int32) (l4 : Int32) (l5 : Int32) (l6 : Int32) (l7 : Int32) (s0 : Int32) (s1 : Int32)     : val (150, d + 2, 96, [some (.ref l0), some (.int l1), some (.int l2), some (.int l3), some (.int l4), some (.int l5), some (.int l6), some (.int l7)], [.int s0, .int s1], w) = (if s0 ≤ s1 then some (some (.int 0), w) else some (some (.int 1), w)) := by
  by_cases hc762 : s0 ≤ s1
  · refine ((val_ic_ge rfl).trans (if_pos hc762)).trans ?_
    show val (150, d + 2, 103, [some (.ref l0), some (.int l1), some (.int l2), some (.int l3), some (.int l4), some (.int l5), some (.int l6), some (.int l7)], [], w) = _
    refine Eq.trans ?_ (if_pos hc762).symm
    refine (val_g (c2 := (150, d + 2, 104, [some (.ref l0), some (.int l1), some (.int l2), some (.int l3), some (.int l4), some (.int l5), some (.int l6), some (.int l7)], [.int 0], w)) rfl).trans ?_
    exact val_r rfl
  · refine ((val_ic_ge rfl).trans (if_neg hc762)).trans ?_
    show val (150, d + 2, 99, [some (.ref l0), some (.int l1), some (.int l2), some (.int l3), some (.int l4), some (.int l5), some (.int l6), some (.int l7)], [], w) = _
    refine Eq.trans ?_ (if_neg hc762).symm
    refine (val_g (c2 := (150, d + 2, 100, [some (.ref l0), some (.int l1), some (.int l2), some (.int l3), some (.int l4), some (.int l5), some (.int l6), some (.int l7)], [.int 1], w)) rfl).trans ?_
    refine (val_g (c2 := (150, d + 2, 104, [some (.ref l0), some (.int l1), some (.int l2), some (.int l3), some (.int l4), some (.int l5), some (.int l6), some (.int l7)], [.int 1], w)) rfl).trans ?_
    exact val_r rfl
theorem tr_150_110 (d : Nat) (w : Wd) (l0 : Nat) (l1 : Int32) (l2 : Int32) (l3 : Int32) (l4 : Int32) (l5 : Int32) (l6 : Int32) (l7 : Int32) (s0 : Int32)    (hy1 : narB 1 s0 = true) : val (150, d + 2, 110, [some (.ref l0), some (.int l1), some (.int l2), some (.int l3), some (.int l4), some (.int l5), some (.int l6), some (.int l7)], [.int s0], w) = some (some (.int s0), w) := by
  exact val_r (if_pos hy1)
theorem tr_150_116 (d : Nat) (w : Wd) (l0 : Nat) (l1 : Int32) (l2 : Int32) (l3 : Int32) (l4 : Int32) (l5 : Int32) (l6 : Int32) (l7 : Int32) (s0 : Int32) (s1 : Int32)     : val (150, d + 2, 116, [some (.ref l0), some (.int l1), some (.int l2), some (.int l3), some (.int l4), some (.int l5), some (.int l6), some (.int l7)], [.int s0, .int s1], w) = (if ¬ s1 = s0 then some (some (.int 0), w) else some (some (.int 1), w)) := by
  by_cases hc763 : ¬ s1 = s0
  · refine ((val_ic_ne rfl).trans (if_pos hc763)).trans ?_
    show val (150, d + 2, 123, [some (.ref l0), some (.int l1), some (.int l2), some (.int l3), some (.int l4), some (.int l5), some (.int l6), some (.int l7)], [], w) = _
    refine Eq.trans ?_ (if_pos hc763).symm
    refine (val_g (c2 := (150, d + 2, 124, [some (.ref l0), some (.int l1), some (.int l2), some (.int l3), some (.int l4), some (.int l5), some (.int l6), some (.int l7)], [.int 0], w)) rfl).trans ?_
    exact val_r rfl
  · refine ((val_ic_ne rfl).trans (if_neg hc763)).trans ?_
    show val (150, d + 2, 119, [some (.ref l0), some (.int l1), some (.int l2), some (.int l3), some (.int l4), some (.int l5), some (.int l6), some (.int l7)], [], w) = _
    refine Eq.trans ?_ (if_neg hc763).symm
    refine (val_g (c2 := (150, d + 2, 120, [some (.ref l0), some (.int l1), some (.int l2), some (.int l3), some (.int l4), some (.int l5), some (.int l6), some (.int l7)], [.int 1], w)) rfl).trans ?_
    refine (val_g (c2 := (150, d + 2, 124, [some (.ref l0), some (.int l1), some (.int l2), some (.int l3), some (.int l4), some (.int l5), some (.int l6), some (.int l7)], [.int 1], w)) rfl).trans ?_
    exact val_r rfl
/-- BelfryHouse$Run.<init>()V -/
theorem tr_151 (d : Nat) (w : Wd)      : val (151, d + 1, 0, [some (.ref 67)], [], w) = val (151, d + 1, 6, [some (.ref 67)], [.null, .ref 67], w) := by
  refine (val_g (c2 := (151, d + 1, 1, [some (.ref 67)], [.ref 67], w)) rfl).trans ?_
  refine (val_g (c2 := (151, d + 1, 4, [some (.ref 67)], [], w)) rfl).trans ?_
  refine (val_g (c2 := (151, d + 1, 5, [some (.ref 67)], [.ref 67], w)) rfl).trans ?_
  refine (val_g (c2 := (151, d + 1, 6, [some (.ref 67)], [.null, .ref 67], w)) rfl).trans ?_
  rfl
theorem tr_151_9 (d : Nat) (w : Wd)      : val (151, d + 1, 9, [some (.ref 67)], [], w) = val (151, d + 1, 13, [some (.ref 67)], [.int 2001, .ref 67], w) := by
  refine (val_g (c2 := (151, d + 1, 10, [some (.ref 67)], [.ref 67], w)) rfl).trans ?_
  refine (val_g (c2 := (151, d + 1, 13, [some (.ref 67)], [.int 2001, .ref 67], w)) rfl).trans ?_
  rfl
theorem tr_151_18 (d : Nat) (w : Wd)      : val (151, d + 1, 18, [some (.ref 67)], [], w) = val (151, d + 1, 22, [some (.ref 67)], [.int 2000, .ref 67], w) := by
  refine (val_g (c2 := (151, d + 1, 19, [some (.ref 67)], [.ref 67], w)) rfl).trans ?_
  refine (val_g (c2 := (151, d + 1, 22, [some (.ref 67)], [.int 2000, .ref 67], w)) rfl).trans ?_
  rfl
theorem tr_151_27 (d : Nat) (w : Wd)      : val (151, d + 1, 27, [some (.ref 67)], [], w) = val (151, d + 1, 31, [some (.ref 67)], [.int 2001, .ref 67], w) := by
  refine (val_g (c2 := (151, d + 1, 28, [some (.ref 67)], [.ref 67], w)) rfl).trans ?_
  refine (val_g (c2 := (151, d + 1, 31, [some (.ref 67)], [.int 2001, .ref 67], w)) rfl).trans ?_
  rfl
theorem tr_151_36 (d : Nat) (w : Wd)      : val (151, d + 1, 36, [some (.ref 67)], [], w) = val (151, d + 1, 40, [some (.ref 67)], [.int 2001, .ref 67], w) := by
  refine (val_g (c2 := (151, d + 1, 37, [some (.ref 67)], [.ref 67], w)) rfl).trans ?_
  refine (val_g (c2 := (151, d + 1, 40, [some (.ref 67)], [.int 2001, .ref 67], w)) rfl).trans ?_
  rfl
theorem tr_151_45 (d : Nat) (w : Wd)      : val (151, d + 1, 45, [some (.ref 67)], [], w) = val (151, d + 1, 49, [some (.ref 67)], [.int 2001, .ref 67], w) := by
  refine (val_g (c2 := (151, d + 1, 46, [some (.ref 67)], [.ref 67], w)) rfl).trans ?_
  refine (val_g (c2 := (151, d + 1, 49, [some (.ref 67)], [.int 2001, .ref 67], w)) rfl).trans ?_
  rfl
theorem tr_151_54 (d : Nat) (w : Wd)      : val (151, d + 1, 54, [some (.ref 67)], [], w) = val (151, d + 1, 57, [some (.ref 67)], [.int 10, .ref 67], w) := by
  refine (val_g (c2 := (151, d + 1, 55, [some (.ref 67)], [.ref 67], w)) rfl).trans ?_
  refine (val_g (c2 := (151, d + 1, 57, [some (.ref 67)], [.int 10, .ref 67], w)) rfl).trans ?_
  rfl
theorem tr_151_62 (d : Nat) (w : Wd)      : val (151, d + 1, 62, [some (.ref 67)], [], w) = val (151, d + 1, 66, [some (.ref 67)], [.int 1024, .ref 67], w) := by
  refine (val_g (c2 := (151, d + 1, 63, [some (.ref 67)], [.ref 67], w)) rfl).trans ?_
  refine (val_g (c2 := (151, d + 1, 66, [some (.ref 67)], [.int 1024, .ref 67], w)) rfl).trans ?_
  rfl
theorem tr_151_71 (d : Nat) (w : Wd)      : val (151, d + 1, 71, [some (.ref 67)], [], w) = val (151, d + 1, 75, [some (.ref 67)], [.int 2001, .ref 67], w) := by
  refine (val_g (c2 := (151, d + 1, 72, [some (.ref 67)], [.ref 67], w)) rfl).trans ?_
  refine (val_g (c2 := (151, d + 1, 75, [some (.ref 67)], [.int 2001, .ref 67], w)) rfl).trans ?_
  rfl
theorem tr_151_80 (d : Nat) (w : Wd) (hW : Fix w)      : val (151, d + 1, 80, [some (.ref 67)], [], w) = some (none, (sI ((sI ((sI ((sI w 67 9 0)) 67 10 0)) 67 11 ((-9)))) 67 12 0)) := by
  refine (val_g (c2 := (151, d + 1, 81, [some (.ref 67)], [.ref 67], w)) rfl).trans ?_
  refine (val_g (c2 := (151, d + 1, 82, [some (.ref 67)], [.int 0, .ref 67], w)) rfl).trans ?_
  refine (val_pf rfl (hW.k 67 (Nat.le_of_ble_eq_true rfl) (Nat.le_of_ble_eq_true rfl)) rfl).trans ?_
  show val (151, d + 1, 85, [some (.ref 67)], [], (sI w 67 9 0)) = _
  refine (val_g (c2 := (151, d + 1, 86, [some (.ref 67)], [.ref 67], (sI w 67 9 0))) rfl).trans ?_
  refine (val_g (c2 := (151, d + 1, 87, [some (.ref 67)], [.int 0, .ref 67], (sI w 67 9 0))) rfl).trans ?_
  refine (val_pf (w := (sI w 67 9 0)) rfl (hW.k 67 (Nat.le_of_ble_eq_true rfl) (Nat.le_of_ble_eq_true rfl)) rfl).trans ?_
  show val (151, d + 1, 90, [some (.ref 67)], [], (sI ((sI w 67 9 0)) 67 10 0)) = _
  refine (val_g (c2 := (151, d + 1, 91, [some (.ref 67)], [.ref 67], (sI ((sI w 67 9 0)) 67 10 0))) rfl).trans ?_
  refine (val_g (c2 := (151, d + 1, 93, [some (.ref 67)], [.int (-9), .ref 67], (sI ((sI w 67 9 0)) 67 10 0))) rfl).trans ?_
  refine (val_pf (w := (sI ((sI w 67 9 0)) 67 10 0)) rfl (hW.k 67 (Nat.le_of_ble_eq_true rfl) (Nat.le_of_ble_eq_true rfl)) rfl).trans ?_
  show val (151, d + 1, 96, [some (.ref 67)], [], (sI ((sI ((sI w 67 9 0)) 67 10 0)) 67 11 ((-9)))) = _
  refine (val_g (c2 := (151, d + 1, 97, [some (.ref 67)], [.ref 67], (sI ((sI ((sI w 67 9 0)) 67 10 0)) 67 11 ((-9))))) rfl).trans ?_
  refine (val_g (c2 := (151, d + 1, 98, [some (.ref 67)], [.int 0, .ref 67], (sI ((sI ((sI w 67 9 0)) 67 10 0)) 67 11 ((-9))))) rfl).trans ?_
  refine (val_pf (w := (sI ((sI ((sI w 67 9 0)) 67 10 0)) 67 11 ((-9)))) rfl (hW.k 67 (Nat.le_of_ble_eq_true rfl) (Nat.le_of_ble_eq_true rfl)) rfl).trans ?_
  show val (151, d + 1, 101, [some (.ref 67)], [], (sI ((sI ((sI ((sI w 67 9 0)) 67 10 0)) 67 11 ((-9)))) 67 12 0)) = _
  exact val_r rfl
/-- BelfryHouse$Run.isOn()Z -/
theorem tr_152 (d : Nat) (w : Wd) (hW : Fix w)     (q0_67 : Nat) (hr0_67 : gR w 67 0 = some q0_67) (hy3 : 64 ≤ q0_67) : val (152, d, 0, [some (.ref 67)], [], w) = some (some (.int 1), w) := by
  refine (val_g (c2 := (152, d, 1, [some (.ref 67)], [.ref 67], w)) rfl).trans ?_
  refine (val_gf rfl (hW.k 67 (Nat.le_of_ble_eq_true rfl) (Nat.le_of_ble_eq_true rfl)) (fvR hr0_67)).trans ?_
  show val (152, d, 4, [some (.ref 67)], [.ref q0_67], w) = _
  refine (val_inR rfl hy3).trans ?_
  show val (152, d, 7, [some (.ref 67)], [], w) = _
  refine (val_g (c2 := (152, d, 8, [some (.ref 67)], [.int 1], w)) rfl).trans ?_
  refine (val_g (c2 := (152, d, 12, [some (.ref 67)], [.int 1], w)) rfl).trans ?_
  exact val_r rfl
/-- BelfryHouse$Run.end()V -/
theorem tr_153 (d : Nat) (w : Wd)      : val (153, d, 0, [some (.ref 67)], [], w) = val (153, d, 2, [some (.ref 67)], [.null, .ref 67], w) := by
  refine (val_g (c2 := (153, d, 1, [some (.ref 67)], [.ref 67], w)) rfl).trans ?_
  refine (val_g (c2 := (153, d, 2, [some (.ref 67)], [.null, .ref 67], w)) rfl).trans ?_
  rfl
theorem tr_153_5 (d : Nat) (w : Wd)      : val (153, d, 5, [some (.ref 67)], [], w) = some (none, w) := by
  exact val_r rfl
/-- BelfryHouse$Run.begin(LBelfryHouse$Method;I)V -/
theorem tr_154 (d : Nat) (w : Wd) (p0 : Nat) (x1 : Int32)     : val (154, d + 1, 0, [some (.ref 67), some (.ref p0), some (.int x1)], [], w) = val (154, d + 1, 2, [some (.ref 67), some (.ref p0), some (.int x1)], [.ref p0, .ref 67], w) := by
  refine (val_g (c2 := (154, d + 1, 1, [some (.ref 67), some (.ref p0), some (.int x1)], [.ref 67], w)) rfl).trans ?_
  refine (val_g (c2 := (154, d + 1, 2, [some (.ref 67), some (.ref p0), some (.int x1)], [.ref p0, .ref 67], w)) rfl).trans ?_
  rfl
theorem tr_154_5 (d : Nat) (w : Wd) (hW : Fix w) (l1 : Nat) (l2 : Int32)     : val (154, d + 1, 5, [some (.ref 67), some (.ref l1), some (.int l2)], [], w) = val (154, d + 1, 32, [some (.ref 67), some (.ref l1), some (.int l2)], [.int l2, .int 0, .ref 68], (sI ((sI ((sI ((sI w 67 9 0)) 67 10 0)) 67 11 ((-9)))) 67 12 0)) := by
  refine (val_g (c2 := (154, d + 1, 6, [some (.ref 67), some (.ref l1), some (.int l2)], [.ref 67], w)) rfl).trans ?_
  refine (val_g (c2 := (154, d + 1, 7, [some (.ref 67), some (.ref l1), some (.int l2)], [.int 0, .ref 67], w)) rfl).trans ?_
  refine (val_pf rfl (hW.k 67 (Nat.le_of_ble_eq_true rfl) (Nat.le_of_ble_eq_true rfl)) rfl).trans ?_
  show val (154, d + 1, 10, [some (.ref 67), some (.ref l1), some (.int l2)], [], (sI w 67 9 0)) = _
  refine (val_g (c2 := (154, d + 1, 11, [some (.ref 67), some (.ref l1), some (.int l2)], [.ref 67], (sI w 67 9 0))) rfl).trans ?_
  refine (val_g (c2 := (154, d + 1, 12, [some (.ref 67), some (.ref l1), some (.int l2)], [.int 0, .ref 67], (sI w 67 9 0))) rfl).trans ?_
  refine (val_pf (w := (sI w 67 9 0)) rfl (hW.k 67 (Nat.le_of_ble_eq_true rfl) (Nat.le_of_ble_eq_true rfl)) rfl).trans ?_
  show val (154, d + 1, 15, [some (.ref 67), some (.ref l1), some (.int l2)], [], (sI ((sI w 67 9 0)) 67 10 0)) = _
  refine (val_g (c2 := (154, d + 1, 16, [some (.ref 67), some (.ref l1), some (.int l2)], [.ref 67], (sI ((sI w 67 9 0)) 67 10 0))) rfl).trans ?_
  refine (val_g (c2 := (154, d + 1, 18, [some (.ref 67), some (.ref l1), some (.int l2)], [.int (-9), .ref 67], (sI ((sI w 67 9 0)) 67 10 0))) rfl).trans ?_
  refine (val_pf (w := (sI ((sI w 67 9 0)) 67 10 0)) rfl (hW.k 67 (Nat.le_of_ble_eq_true rfl) (Nat.le_of_ble_eq_true rfl)) rfl).trans ?_
  show val (154, d + 1, 21, [some (.ref 67), some (.ref l1), some (.int l2)], [], (sI ((sI ((sI w 67 9 0)) 67 10 0)) 67 11 ((-9)))) = _
  refine (val_g (c2 := (154, d + 1, 22, [some (.ref 67), some (.ref l1), some (.int l2)], [.ref 67], (sI ((sI ((sI w 67 9 0)) 67 10 0)) 67 11 ((-9))))) rfl).trans ?_
  refine (val_g (c2 := (154, d + 1, 23, [some (.ref 67), some (.ref l1), some (.int l2)], [.int 0, .ref 67], (sI ((sI ((sI w 67 9 0)) 67 10 0)) 67 11 ((-9))))) rfl).trans ?_
  refine (val_pf (w := (sI ((sI ((sI w 67 9 0)) 67 10 0)) 67 11 ((-9)))) rfl (hW.k 67 (Nat.le_of_ble_eq_true rfl) (Nat.le_of_ble_eq_true rfl)) rfl).trans ?_
  show val (154, d + 1, 26, [some (.ref 67), some (.ref l1), some (.int l2)], [], (sI ((sI ((sI ((sI w 67 9 0)) 67 10 0)) 67 11 ((-9)))) 67 12 0)) = _
  refine (val_g (c2 := (154, d + 1, 27, [some (.ref 67), some (.ref l1), some (.int l2)], [.ref 67], (sI ((sI ((sI ((sI w 67 9 0)) 67 10 0)) 67 11 ((-9)))) 67 12 0))) rfl).trans ?_
  refine (val_gf (w := (sI ((sI ((sI ((sI w 67 9 0)) 67 10 0)) 67 11 ((-9)))) 67 12 0)) rfl (hW.k 67 (Nat.le_of_ble_eq_true rfl) (Nat.le_of_ble_eq_true rfl)) (fvR (hW.r 67 1 68 rfl))).trans ?_
  show val (154, d + 1, 30, [some (.ref 67), some (.ref l1), some (.int l2)], [.ref 68], (sI ((sI ((sI ((sI w 67 9 0)) 67 10 0)) 67 11 ((-9)))) 67 12 0)) = _
  refine (val_g (c2 := (154, d + 1, 31, [some (.ref 67), some (.ref l1), some (.int l2)], [.int 0, .ref 68], (sI ((sI ((sI ((sI w 67 9 0)) 67 10 0)) 67 11 ((-9)))) 67 12 0))) rfl).trans ?_
  refine (val_g (c2 := (154, d + 1, 32, [some (.ref 67), some (.ref l1), some (.int l2)], [.int l2, .int 0, .ref 68], (sI ((sI ((sI ((sI w 67 9 0)) 67 10 0)) 67 11 ((-9)))) 67 12 0))) rfl).trans ?_
  rfl
theorem tr_154_35 (d : Nat) (w : Wd) (hW : Fix w) (l1 : Nat) (l2 : Int32) (s0 : Int32) (s1 : Int32)    (hy1 : inB s1 2001 = true) : val (154, d + 1, 35, [some (.ref 67), some (.ref l1), some (.int l2)], [.int s0, .int s1, .ref 68], w) = val (154, d + 1, 41, [some (.ref 67), some (.ref l1), some (.int l2)], [.int 0, .ref 69], (sI w 68 (s1).toNatClampNeg s0)) := by
  refine (val_ias rfl (hW.k 68 (Nat.le_of_ble_eq_true rfl) (Nat.le_of_ble_eq_true rfl)) hy1).trans ?_
  show val (154, d + 1, 36, [some (.ref 67), some (.ref l1), some (.int l2)], [], (sI w 68 (s1).toNatClampNeg s0)) = _
  refine (val_g (c2 := (154, d + 1, 37, [some (.ref 67), some (.ref l1), some (.int l2)], [.ref 67], (sI w 68 (s1).toNatClampNeg s0))) rfl).trans ?_
  refine (val_gf (w := (sI w 68 (s1).toNatClampNeg s0)) rfl (hW.k 67 (Nat.le_of_ble_eq_true rfl) (Nat.le_of_ble_eq_true rfl)) (fvR (hW.r 67 2 69 rfl))).trans ?_
  show val (154, d + 1, 40, [some (.ref 67), some (.ref l1), some (.int l2)], [.ref 69], (sI w 68 (s1).toNatClampNeg s0)) = _
  refine (val_g (c2 := (154, d + 1, 41, [some (.ref 67), some (.ref l1), some (.int l2)], [.int 0, .ref 69], (sI w 68 (s1).toNatClampNeg s0))) rfl).trans ?_
  rfl
theorem tr_154_44 (d : Nat) (w : Wd) (hW : Fix w) (l1 : Nat) (l2 : Int32)     : val (154, d + 1, 44, [some (.ref 67), some (.ref l1), some (.int l2)], [], w) = val (154, d + 1, 50, [some (.ref 67), some (.ref l1), some (.int l2)], [.int (-9), .ref 73], w) := by
  refine (val_g (c2 := (154, d + 1, 45, [some (.ref 67), some (.ref l1), some (.int l2)], [.ref 67], w)) rfl).trans ?_
  refine (val_gf rfl (hW.k 67 (Nat.le_of_ble_eq_true rfl) (Nat.le_of_ble_eq_true rfl)) (fvR (hW.r 67 6 73 rfl))).trans ?_
  show val (154, d + 1, 48, [some (.ref 67), some (.ref l1), some (.int l2)], [.ref 73], w) = _
  refine (val_g (c2 := (154, d + 1, 50, [some (.ref 67), some (.ref l1), some (.int l2)], [.int (-9), .ref 73], w)) rfl).trans ?_
  rfl
theorem tr_154_53 (d : Nat) (w : Wd) (hW : Fix w) (l1 : Nat) (l2 : Int32)     : val (154, d + 1, 53, [some (.ref 67), some (.ref l1), some (.int l2)], [], w) = val (154, d + 1, 58, [some (.ref 67), some (.ref l1), some (.int l2)], [.int 0, .ref 74], w) := by
  refine (val_g (c2 := (154, d + 1, 54, [some (.ref 67), some (.ref l1), some (.int l2)], [.ref 67], w)) rfl).trans ?_
  refine (val_gf rfl (hW.k 67 (Nat.le_of_ble_eq_true rfl) (Nat.le_of_ble_eq_true rfl)) (fvR (hW.r 67 7 74 rfl))).trans ?_
  show val (154, d + 1, 57, [some (.ref 67), some (.ref l1), some (.int l2)], [.ref 74], w) = _
  refine (val_g (c2 := (154, d + 1, 58, [some (.ref 67), some (.ref l1), some (.int l2)], [.int 0, .ref 74], w)) rfl).trans ?_
  rfl
theorem tr_154_61 (d : Nat) (w : Wd) (l1 : Nat) (l2 : Int32)     : val (154, d + 1, 61, [some (.ref 67), some (.ref l1), some (.int l2)], [], w) = some (none, w) := by
  exact val_r rfl
/-- BelfryHouse$Run.hasRows(II)Z -/
theorem tr_155 (d : Nat) (w : Wd) (x0 : Int32) (x1 : Int32)     : val (155, d + 1, 0, [some (.ref 67), some (.int x0), some (.int x1)], [], w) = val (155, d + 1, 1, [some (.ref 67), some (.int x0), some (.int x1)], [.ref 67], w) := by
  refine (val_g (c2 := (155, d + 1, 1, [some (.ref 67), some (.int x0), some (.int x1)], [.ref 67], w)) rfl).trans ?_
  rfl
theorem tr_155_4 (d : Nat) (w : Wd) (hW : Fix w) (l1 : Int32) (l2 : Int32) (s0 : Int32)     : val (155, d + 1, 4, [some (.ref 67), some (.int l1), some (.int l2)], [.int s0], w) = (if s0 = 0 then some (some (.int 0), w) else (if l1 < 0 then some (some (.int 0), w) else (if (((gI w 67 9) + 1) - l2) < l1 then some (some (.int 0), w) else some (some (.int 1), w)))) := by
  by_cases hc767 : s0 = 0
  · refine ((val_if_eq rfl).trans (if_pos hc767)).trans ?_
    show val (155, d + 1, 27, [some (.ref 67), some (.int l1), some (.int l2)], [], w) = _
    refine Eq.trans ?_ (if_pos hc767).symm
    refine (val_g (c2 := (155, d + 1, 28, [some (.ref 67), some (.int l1), some (.int l2)], [.int 0], w)) rfl).trans ?_
    exact val_r rfl
  · refine ((val_if_eq rfl).trans (if_neg hc767)).trans ?_
    show val (155, d + 1, 7, [some (.ref 67), some (.int l1), some (.int l2)], [], w) = _
    refine Eq.trans ?_ (if_neg hc767).symm
    refine (val_g (c2 := (155, d + 1, 8, [some (.ref 67), some (.int l1), some (.int l2)], [.int l1], w)) rfl).trans ?_
    by_cases hc768 : l1 < 0
    · refine ((val_if_lt rfl).trans (if_pos hc768)).trans ?_
      show val (155, d + 1, 27, [some (.ref 67), some (.int l1), some (.int l2)], [], w) = _
      refine Eq.trans ?_ (if_pos hc768).symm
      refine (val_g (c2 := (155, d + 1, 28, [some (.ref 67), some (.int l1), some (.int l2)], [.int 0], w)) rfl).trans ?_
      exact val_r rfl
    · refine ((val_if_lt rfl).trans (if_neg hc768)).trans ?_
      show val (155, d + 1, 11, [some (.ref 67), some (.int l1), some (.int l2)], [], w) = _
      refine Eq.trans ?_ (if_neg hc768).symm
      refine (val_g (c2 := (155, d + 1, 12, [some (.ref 67), some (.int l1), some (.int l2)], [.int l1], w)) rfl).trans ?_
      refine (val_g (c2 := (155, d + 1, 13, [some (.ref 67), some (.int l1), some (.int l2)], [.ref 67, .int l1], w)) rfl).trans ?_
      refine (val_gf rfl (hW.k 67 (Nat.le_of_ble_eq_true rfl) (Nat.le_of_ble_eq_true rfl)) rfl).trans ?_
      show val (155, d + 1, 16, [some (.ref 67), some (.int l1), some (.int l2)], [.int (gI w 67 9), .int l1], w) = _
      refine (val_g (c2 := (155, d + 1, 17, [some (.ref 67), some (.int l1), some (.int l2)], [.int 1, .int (gI w 67 9), .int l1], w)) rfl).trans ?_
      refine (val_g (c2 := (155, d + 1, 18, [some (.ref 67), some (.int l1), some (.int l2)], [.int ((gI w 67 9) + 1), .int l1], w)) rfl).trans ?_
      refine (val_g (c2 := (155, d + 1, 19, [some (.ref 67), some (.int l1), some (.int l2)], [.int l2, .int ((gI w 67 9) + 1), .int l1], w)) rfl).trans ?_
      refine (val_g (c2 := (155, d + 1, 20, [some (.ref 67), some (.int l1), some (.int l2)], [.int (((gI w 67 9) + 1) - l2), .int l1], w)) rfl).trans ?_
      by_cases hc769 : (((gI w 67 9) + 1) - l2) < l1
      · refine ((val_ic_gt rfl).trans (if_pos hc769)).trans ?_
        show val (155, d + 1, 27, [some (.ref 67), some (.int l1), some (.int l2)], [], w) = _
        refine Eq.trans ?_ (if_pos hc769).symm
        refine (val_g (c2 := (155, d + 1, 28, [some (.ref 67), some (.int l1), some (.int l2)], [.int 0], w)) rfl).trans ?_
        exact val_r rfl
      · refine ((val_ic_gt rfl).trans (if_neg hc769)).trans ?_
        show val (155, d + 1, 23, [some (.ref 67), some (.int l1), some (.int l2)], [], w) = _
        refine Eq.trans ?_ (if_neg hc769).symm
        refine (val_g (c2 := (155, d + 1, 24, [some (.ref 67), some (.int l1), some (.int l2)], [.int 1], w)) rfl).trans ?_
        refine (val_g (c2 := (155, d + 1, 28, [some (.ref 67), some (.int l1), some (.int l2)], [.int 1], w)) rfl).trans ?_
        exact val_r rfl
/-- BelfryHouse$Run.goOn(II)I -/
theorem tr_156 (d : Nat) (w : Wd) (x0 : Int32) (x1 : Int32)     : val (156, d + 6, 0, [some (.ref 67), some (.int x0), some (.int x1), none, none], [], w) = val (156, d + 6, 5, [some (.ref 67), some (.int x0), some (.int x1), some (.int 0), some (.int 1)], [], w) := by
  refine (val_g (c2 := (156, d + 6, 1, [some (.ref 67), some (.int x0), some (.int x1), none, none], [.int 0], w)) rfl).trans ?_
  refine (val_g (c2 := (156, d + 6, 2, [some (.ref 67), some (.int x0), some (.int x1), some (.int 0), none], [], w)) rfl).trans ?_
  refine (val_g (c2 := (156, d + 6, 3, [some (.ref 67), some (.int x0), some (.int x1), some (.int 0), none], [.int 1], w)) rfl).trans ?_
  refine (val_g (c2 := (156, d + 6, 5, [some (.ref 67), some (.int x0), some (.int x1), some (.int 0), some (.int 1)], [], w)) rfl).trans ?_
  rfl
theorem tr_156_5 (d : Nat) (w : Wd) (hW : Fix w) (l1 : Int32) (l2 : Int32) (l3 : Int32) (l4 : Int32)     : val (156, d + 6, 5, [some (.ref 67), some (.int l1), some (.int l2), some (.int l3), some (.int l4)], [], w) = (if l4 = 0 then some (some (.int l3), w) else (if l1 ≤ l3 then some (some (.int l3), w) else (if 2000 ≤ (gI w 67 9) then some (some (.int l3), w) else val (156, d + 6, 27, [some (.ref 67), some (.int l1), some (.int l2), some (.int l3), some (.int l4)], [.int l2, .ref 67], w)))) := by
  refine (val_g (c2 := (156, d + 6, 7, [some (.ref 67), some (.int l1), some (.int l2), some (.int l3), some (.int l4)], [.int l4], w)) rfl).trans ?_
  by_cases hc774 : l4 = 0
  · refine ((val_if_eq rfl).trans (if_pos hc774)).trans ?_
    show val (156, d + 6, 43, [some (.ref 67), some (.int l1), some (.int l2), some (.int l3), some (.int l4)], [], w) = _
    refine Eq.trans ?_ (if_pos hc774).symm
    refine (val_g (c2 := (156, d + 6, 44, [some (.ref 67), some (.int l1), some (.int l2), some (.int l3), some (.int l4)], [.int l3], w)) rfl).trans ?_
    exact val_r rfl
  · refine ((val_if_eq rfl).trans (if_neg hc774)).trans ?_
    show val (156, d + 6, 10, [some (.ref 67), some (.int l1), some (.int l2), some (.int l3), some (.int l4)], [], w) = _
    refine Eq.trans ?_ (if_neg hc774).symm
    refine (val_g (c2 := (156, d + 6, 11, [some (.ref 67), some (.int l1), some (.int l2), some (.int l3), some (.int l4)], [.int l3], w)) rfl).trans ?_
    refine (val_g (c2 := (156, d + 6, 12, [some (.ref 67), some (.int l1), some (.int l2), some (.int l3), some (.int l4)], [.int l1, .int l3], w)) rfl).trans ?_
    by_cases hc775 : l1 ≤ l3
    · refine ((val_ic_ge rfl).trans (if_pos hc775)).trans ?_
      show val (156, d + 6, 43, [some (.ref 67), some (.int l1), some (.int l2), some (.int l3), some (.int l4)], [], w) = _
      refine Eq.trans ?_ (if_pos hc775).symm
      refine (val_g (c2 := (156, d + 6, 44, [some (.ref 67), some (.int l1), some (.int l2), some (.int l3), some (.int l4)], [.int l3], w)) rfl).trans ?_
      exact val_r rfl
    · refine ((val_ic_ge rfl).trans (if_neg hc775)).trans ?_
      show val (156, d + 6, 15, [some (.ref 67), some (.int l1), some (.int l2), some (.int l3), some (.int l4)], [], w) = _
      refine Eq.trans ?_ (if_neg hc775).symm
      refine (val_g (c2 := (156, d + 6, 16, [some (.ref 67), some (.int l1), some (.int l2), some (.int l3), some (.int l4)], [.ref 67], w)) rfl).trans ?_
      refine (val_gf rfl (hW.k 67 (Nat.le_of_ble_eq_true rfl) (Nat.le_of_ble_eq_true rfl)) rfl).trans ?_
      show val (156, d + 6, 19, [some (.ref 67), some (.int l1), some (.int l2), some (.int l3), some (.int l4)], [.int (gI w 67 9)], w) = _
      refine (val_g (c2 := (156, d + 6, 22, [some (.ref 67), some (.int l1), some (.int l2), some (.int l3), some (.int l4)], [.int 2000, .int (gI w 67 9)], w)) rfl).trans ?_
      by_cases hc776 : 2000 ≤ (gI w 67 9)
      · refine ((val_ic_ge rfl).trans (if_pos hc776)).trans ?_
        show val (156, d + 6, 43, [some (.ref 67), some (.int l1), some (.int l2), some (.int l3), some (.int l4)], [], w) = _
        refine Eq.trans ?_ (if_pos hc776).symm
        refine (val_g (c2 := (156, d + 6, 44, [some (.ref 67), some (.int l1), some (.int l2), some (.int l3), some (.int l4)], [.int l3], w)) rfl).trans ?_
        exact val_r rfl
      · refine ((val_ic_ge rfl).trans (if_neg hc776)).trans ?_
        show val (156, d + 6, 25, [some (.ref 67), some (.int l1), some (.int l2), some (.int l3), some (.int l4)], [], w) = _
        refine Eq.trans ?_ (if_neg hc776).symm
        refine (val_g (c2 := (156, d + 6, 26, [some (.ref 67), some (.int l1), some (.int l2), some (.int l3), some (.int l4)], [.ref 67], w)) rfl).trans ?_
        refine (val_g (c2 := (156, d + 6, 27, [some (.ref 67), some (.int l1), some (.int l2), some (.int l3), some (.int l4)], [.int l2, .ref 67], w)) rfl).trans ?_
        rfl
theorem tr_156_30 (d : Nat) (w : Wd) (l1 : Int32) (l2 : Int32) (l3 : Int32) (l4 : Int32) (s0 : Int32)     : val (156, d + 6, 30, [some (.ref 67), some (.int l1), some (.int l2), some (.int l3), some (.int l4)], [.int s0], w) = (if s0 = 0 then val (156, d + 6, 5, [some (.ref 67), some (.int l1), some (.int l2), some (.int l3), some (.int s0)], [], w) else val (156, d + 6, 5, [some (.ref 67), some (.int l1), some (.int l2), some (.int (l3 + 1)), some (.int s0)], [], w)) := by
  refine (val_g (c2 := (156, d + 6, 32, [some (.ref 67), some (.int l1), some (.int l2), some (.int l3), some (.int s0)], [], w)) rfl).trans ?_
  refine (val_g (c2 := (156, d + 6, 34, [some (.ref 67), some (.int l1), some (.int l2), some (.int l3), some (.int s0)], [.int s0], w)) rfl).trans ?_
  by_cases hc777 : s0 = 0
  · refine ((val_if_eq rfl).trans (if_pos hc777)).trans ?_
    show val (156, d + 6, 5, [some (.ref 67), some (.int l1), some (.int l2), some (.int l3), some (.int s0)], [], w) = _
    refine Eq.trans ?_ (if_pos hc777).symm
    rfl
  · refine ((val_if_eq rfl).trans (if_neg hc777)).trans ?_
    show val (156, d + 6, 37, [some (.ref 67), some (.int l1), some (.int l2), some (.int l3), some (.int s0)], [], w) = _
    refine Eq.trans ?_ (if_neg hc777).symm
    refine (val_g (c2 := (156, d + 6, 40, [some (.ref 67), some (.int l1), some (.int l2), some (.int (l3 + 1)), some (.int s0)], [], w)) rfl).trans ?_
    refine (val_g (c2 := (156, d + 6, 5, [some (.ref 67), some (.int l1), some (.int l2), some (.int (l3 + 1)), some (.int s0)], [], w)) rfl).trans ?_
    rfl
/-- BelfryHouse$Run.goOneStep(I)Z -/
theorem tr_157 (d : Nat) (w : Wd) (hW : Fix w) (x0 : Int32)    (hy1 : inB ((gI w 67 9)) 2001 = true) (q0_67 : Nat) (hr0_67 : gR w 67 0 = some q0_67) (hy4 : 64 ≤ q0_67) (hy5 : inB ((gI w 67 9)) 2000 = true) : val (157, d + 5, 0, [some (.ref 67), some (.int x0), none, none], [], w) = (if (gI w 69 ((gI w 67 9)).toNatClampNeg) = 0 then val (157, d + 5, 48, [some (.ref 67), some (.int x0), some (.int (gI w 68 ((gI w 67 9)).toNatClampNeg)), none], [.int 0, .int (gI w 67 9), .int (gI w 68 ((gI w 67 9)).toNatClampNeg), .int x0, .ref q0_67], w) else val (157, d + 5, 48, [some (.ref 67), some (.int x0), some (.int (gI w 68 ((gI w 67 9)).toNatClampNeg)), none], [.int 1, .int (gI w 67 9), .int (gI w 68 ((gI w 67 9)).toNatClampNeg), .int x0, .ref q0_67], w)) := by
  refine (val_g (c2 := (157, d + 5, 1, [some (.ref 67), some (.int x0), none, none], [.ref 67], w)) rfl).trans ?_
  refine (val_gf rfl (hW.k 67 (Nat.le_of_ble_eq_true rfl) (Nat.le_of_ble_eq_true rfl)) (fvR (hW.r 67 1 68 rfl))).trans ?_
  show val (157, d + 5, 4, [some (.ref 67), some (.int x0), none, none], [.ref 68], w) = _
  refine (val_g (c2 := (157, d + 5, 5, [some (.ref 67), some (.int x0), none, none], [.ref 67, .ref 68], w)) rfl).trans ?_
  refine (val_gf rfl (hW.k 67 (Nat.le_of_ble_eq_true rfl) (Nat.le_of_ble_eq_true rfl)) rfl).trans ?_
  show val (157, d + 5, 8, [some (.ref 67), some (.int x0), none, none], [.int (gI w 67 9), .ref 68], w) = _
  refine (val_ial rfl (hW.k 68 (Nat.le_of_ble_eq_true rfl) (Nat.le_of_ble_eq_true rfl)) rfl hy1).trans ?_
  show val (157, d + 5, 9, [some (.ref 67), some (.int x0), none, none], [.int (gI w 68 ((gI w 67 9)).toNatClampNeg)], w) = _
  refine (val_g (c2 := (157, d + 5, 10, [some (.ref 67), some (.int x0), some (.int (gI w 68 ((gI w 67 9)).toNatClampNeg)), none], [], w)) rfl).trans ?_
  refine (val_g (c2 := (157, d + 5, 11, [some (.ref 67), some (.int x0), some (.int (gI w 68 ((gI w 67 9)).toNatClampNeg)), none], [.ref 67], w)) rfl).trans ?_
  refine (val_gf rfl (hW.k 67 (Nat.le_of_ble_eq_true rfl) (Nat.le_of_ble_eq_true rfl)) (fvR hr0_67)).trans ?_
  show val (157, d + 5, 14, [some (.ref 67), some (.int x0), some (.int (gI w 68 ((gI w 67 9)).toNatClampNeg)), none], [.ref q0_67], w) = _
  refine (val_nnR rfl hy4).trans ?_
  show val (157, d + 5, 21, [some (.ref 67), some (.int x0), some (.int (gI w 68 ((gI w 67 9)).toNatClampNeg)), none], [], w) = _
  refine (val_g (c2 := (157, d + 5, 22, [some (.ref 67), some (.int x0), some (.int (gI w 68 ((gI w 67 9)).toNatClampNeg)), none], [.ref 67], w)) rfl).trans ?_
  refine (val_gf rfl (hW.k 67 (Nat.le_of_ble_eq_true rfl) (Nat.le_of_ble_eq_true rfl)) (fvR hr0_67)).trans ?_
  show val (157, d + 5, 25, [some (.ref 67), some (.int x0), some (.int (gI w 68 ((gI w 67 9)).toNatClampNeg)), none], [.ref q0_67], w) = _
  refine (val_g (c2 := (157, d + 5, 26, [some (.ref 67), some (.int x0), some (.int (gI w 68 ((gI w 67 9)).toNatClampNeg)), none], [.int x0, .ref q0_67], w)) rfl).trans ?_
  refine (val_g (c2 := (157, d + 5, 27, [some (.ref 67), some (.int x0), some (.int (gI w 68 ((gI w 67 9)).toNatClampNeg)), none], [.int (gI w 68 ((gI w 67 9)).toNatClampNeg), .int x0, .ref q0_67], w)) rfl).trans ?_
  refine (val_g (c2 := (157, d + 5, 28, [some (.ref 67), some (.int x0), some (.int (gI w 68 ((gI w 67 9)).toNatClampNeg)), none], [.ref 67, .int (gI w 68 ((gI w 67 9)).toNatClampNeg), .int x0, .ref q0_67], w)) rfl).trans ?_
  refine (val_gf rfl (hW.k 67 (Nat.le_of_ble_eq_true rfl) (Nat.le_of_ble_eq_true rfl)) rfl).trans ?_
  show val (157, d + 5, 31, [some (.ref 67), some (.int x0), some (.int (gI w 68 ((gI w 67 9)).toNatClampNeg)), none], [.int (gI w 67 9), .int (gI w 68 ((gI w 67 9)).toNatClampNeg), .int x0, .ref q0_67], w) = _
  refine (val_g (c2 := (157, d + 5, 32, [some (.ref 67), some (.int x0), some (.int (gI w 68 ((gI w 67 9)).toNatClampNeg)), none], [.ref 67, .int (gI w 67 9), .int (gI w 68 ((gI w 67 9)).toNatClampNeg), .int x0, .ref q0_67], w)) rfl).trans ?_
  refine (val_gf rfl (hW.k 67 (Nat.le_of_ble_eq_true rfl) (Nat.le_of_ble_eq_true rfl)) (fvR (hW.r 67 2 69 rfl))).trans ?_
  show val (157, d + 5, 35, [some (.ref 67), some (.int x0), some (.int (gI w 68 ((gI w 67 9)).toNatClampNeg)), none], [.ref 69, .int (gI w 67 9), .int (gI w 68 ((gI w 67 9)).toNatClampNeg), .int x0, .ref q0_67], w) = _
  refine (val_g (c2 := (157, d + 5, 36, [some (.ref 67), some (.int x0), some (.int (gI w 68 ((gI w 67 9)).toNatClampNeg)), none], [.ref 67, .ref 69, .int (gI w 67 9), .int (gI w 68 ((gI w 67 9)).toNatClampNeg), .int x0, .ref q0_67], w)) rfl).trans ?_
  refine (val_gf rfl (hW.k 67 (Nat.le_of_ble_eq_true rfl) (Nat.le_of_ble_eq_true rfl)) rfl).trans ?_
  show val (157, d + 5, 39, [some (.ref 67), some (.int x0), some (.int (gI w 68 ((gI w 67 9)).toNatClampNeg)), none], [.int (gI w 67 9), .ref 69, .int (gI w 67 9), .int (gI w 68 ((gI w 67 9)).toNatClampNeg), .int x0, .ref q0_67], w) = _
  refine (val_bal rfl (hW.k 69 (Nat.le_of_ble_eq_true rfl) (Nat.le_of_ble_eq_true rfl)) rfl hy5).trans ?_
  show val (157, d + 5, 40, [some (.ref 67), some (.int x0), some (.int (gI w 68 ((gI w 67 9)).toNatClampNeg)), none], [.int (gI w 69 ((gI w 67 9)).toNatClampNeg), .int (gI w 67 9), .int (gI w 68 ((gI w 67 9)).toNatClampNeg), .int x0, .ref q0_67], w) = _
  by_cases hc781 : (gI w 69 ((gI w 67 9)).toNatClampNeg) = 0
  · refine ((val_if_eq rfl).trans (if_pos hc781)).trans ?_
    show val (157, d + 5, 47, [some (.ref 67), some (.int x0), some (.int (gI w 68 ((gI w 67 9)).toNatClampNeg)), none], [.int (gI w 67 9), .int (gI w 68 ((gI w 67 9)).toNatClampNeg), .int x0, .ref q0_67], w) = _
    refine Eq.trans ?_ (if_pos hc781).symm
    refine (val_g (c2 := (157, d + 5, 48, [some (.ref 67), some (.int x0), some (.int (gI w 68 ((gI w 67 9)).toNatClampNeg)), none], [.int 0, .int (gI w 67 9), .int (gI w 68 ((gI w 67 9)).toNatClampNeg), .int x0, .ref q0_67], w)) rfl).trans ?_
    rfl
  · refine ((val_if_eq rfl).trans (if_neg hc781)).trans ?_
    show val (157, d + 5, 43, [some (.ref 67), some (.int x0), some (.int (gI w 68 ((gI w 67 9)).toNatClampNeg)), none], [.int (gI w 67 9), .int (gI w 68 ((gI w 67 9)).toNatClampNeg), .int x0, .ref q0_67], w) = _
    refine Eq.trans ?_ (if_neg hc781).symm
    refine (val_g (c2 := (157, d + 5, 44, [some (.ref 67), some (.int x0), some (.int (gI w 68 ((gI w 67 9)).toNatClampNeg)), none], [.int 1, .int (gI w 67 9), .int (gI w 68 ((gI w 67 9)).toNatClampNeg), .int x0, .ref q0_67], w)) rfl).trans ?_
    refine (val_g (c2 := (157, d + 5, 48, [some (.ref 67), some (.int x0), some (.int (gI w 68 ((gI w 67 9)).toNatClampNeg)), none], [.int 1, .int (gI w 67 9), .int (gI w 68 ((gI w 67 9)).toNatClampNeg), .int x0, .ref q0_67], w)) rfl).trans ?_
    rfl
theorem tr_157_51 (d : Nat) (w : Wd) (hW : Fix w) (l1 : Int32) (l2 : Int32) (s0 : Nat)    (hy1 : 64 ≤ s0) (hy2 : inB ((gI ((sI w 67 10 0)) 67 9)) 2000 = true) (hy3 : inB (((gI ((sI w 67 10 0)) 67 9) + 1)) 2001 = true) (m_s0 : Nat) (hk_s0 : wK w s0 = (6, m_s0)) : val (157, d + 5, 51, [some (.ref 67), some (.int l1), some (.int l2), none], [.ref s0], w) = val (157, d + 5, 115, [some (.ref 67), some (.int l1), some (.int l2), some (.ref s0)], [.int (gI ((sI ((sI ((sI w 67 10 0)) 70 (((gI ((sI w 67 10 0)) 67 9) + 1)).toNatClampNeg ((vp_nar .byte ((gI ((sI w 67 10 0)) 69 ((gI ((sI w 67 10 0)) 67 9)).toNatClampNeg)))))) 67 9 (((gI ((sI ((sI w 67 10 0)) 70 (((gI ((sI w 67 10 0)) 67 9) + 1)).toNatClampNeg ((vp_nar .byte ((gI ((sI w 67 10 0)) 69 ((gI ((sI w 67 10 0)) 67 9)).toNatClampNeg)))))) 67 9) + 1)))) s0 5), .int l2, .int l1, .int (gI ((sI ((sI ((sI w 67 10 0)) 70 (((gI ((sI w 67 10 0)) 67 9) + 1)).toNatClampNeg ((vp_nar .byte ((gI ((sI w 67 10 0)) 69 ((gI ((sI w 67 10 0)) 67 9)).toNatClampNeg)))))) 67 9 (((gI ((sI ((sI w 67 10 0)) 70 (((gI ((sI w 67 10 0)) 67 9) + 1)).toNatClampNeg ((vp_nar .byte ((gI ((sI w 67 10 0)) 69 ((gI ((sI w 67 10 0)) 67 9)).toNatClampNeg)))))) 67 9) + 1)))) 67 9), .ref 68], (sI ((sI ((sI w 67 10 0)) 70 (((gI ((sI w 67 10 0)) 67 9) + 1)).toNatClampNeg ((vp_nar .byte ((gI ((sI w 67 10 0)) 69 ((gI ((sI w 67 10 0)) 67 9)).toNatClampNeg)))))) 67 9 (((gI ((sI ((sI w 67 10 0)) 70 (((gI ((sI w 67 10 0)) 67 9) + 1)).toNatClampNeg ((vp_nar .byte ((gI ((sI w 67 10 0)) 69 ((gI ((sI w 67 10 0)) 67 9)).toNatClampNeg)))))) 67 9) + 1)))) := by
  refine (val_g (c2 := (157, d + 5, 52, [some (.ref 67), some (.int l1), some (.int l2), some (.ref s0)], [], w)) rfl).trans ?_
  refine (val_g (c2 := (157, d + 5, 53, [some (.ref 67), some (.int l1), some (.int l2), some (.ref s0)], [.ref 67], w)) rfl).trans ?_
  refine (val_g (c2 := (157, d + 5, 54, [some (.ref 67), some (.int l1), some (.int l2), some (.ref s0)], [.ref s0, .ref 67], w)) rfl).trans ?_
  refine (val_nnR rfl hy1).trans ?_
  show val (157, d + 5, 61, [some (.ref 67), some (.int l1), some (.int l2), some (.ref s0)], [.ref 67], w) = _
  refine (val_g (c2 := (157, d + 5, 62, [some (.ref 67), some (.int l1), some (.int l2), some (.ref s0)], [.int 0, .ref 67], w)) rfl).trans ?_
  refine (val_pf rfl (hW.k 67 (Nat.le_of_ble_eq_true rfl) (Nat.le_of_ble_eq_true rfl)) rfl).trans ?_
  show val (157, d + 5, 65, [some (.ref 67), some (.int l1), some (.int l2), some (.ref s0)], [], (sI w 67 10 0)) = _
  refine (val_g (c2 := (157, d + 5, 66, [some (.ref 67), some (.int l1), some (.int l2), some (.ref s0)], [.ref s0], (sI w 67 10 0))) rfl).trans ?_
  refine (val_nnR rfl hy1).trans ?_
  show val (157, d + 5, 71, [some (.ref 67), some (.int l1), some (.int l2), some (.ref s0)], [], (sI w 67 10 0)) = _
  refine (val_g (c2 := (157, d + 5, 72, [some (.ref 67), some (.int l1), some (.int l2), some (.ref s0)], [.ref 67], (sI w 67 10 0))) rfl).trans ?_
  refine (val_gf (w := (sI w 67 10 0)) rfl (hW.k 67 (Nat.le_of_ble_eq_true rfl) (Nat.le_of_ble_eq_true rfl)) (fvR (hW.r 67 3 70 rfl))).trans ?_
  show val (157, d + 5, 75, [some (.ref 67), some (.int l1), some (.int l2), some (.ref s0)], [.ref 70], (sI w 67 10 0)) = _
  refine (val_g (c2 := (157, d + 5, 76, [some (.ref 67), some (.int l1), some (.int l2), some (.ref s0)], [.ref 67, .ref 70], (sI w 67 10 0))) rfl).trans ?_
  refine (val_gf (w := (sI w 67 10 0)) rfl (hW.k 67 (Nat.le_of_ble_eq_true rfl) (Nat.le_of_ble_eq_true rfl)) rfl).trans ?_
  show val (157, d + 5, 79, [some (.ref 67), some (.int l1), some (.int l2), some (.ref s0)], [.int (gI ((sI w 67 10 0)) 67 9), .ref 70], (sI w 67 10 0)) = _
  refine (val_g (c2 := (157, d + 5, 80, [some (.ref 67), some (.int l1), some (.int l2), some (.ref s0)], [.int 1, .int (gI ((sI w 67 10 0)) 67 9), .ref 70], (sI w 67 10 0))) rfl).trans ?_
  refine (val_g (c2 := (157, d + 5, 81, [some (.ref 67), some (.int l1), some (.int l2), some (.ref s0)], [.int ((gI ((sI w 67 10 0)) 67 9) + 1), .ref 70], (sI w 67 10 0))) rfl).trans ?_
  refine (val_g (c2 := (157, d + 5, 82, [some (.ref 67), some (.int l1), some (.int l2), some (.ref s0)], [.ref 67, .int ((gI ((sI w 67 10 0)) 67 9) + 1), .ref 70], (sI w 67 10 0))) rfl).trans ?_
  refine (val_gf (w := (sI w 67 10 0)) rfl (hW.k 67 (Nat.le_of_ble_eq_true rfl) (Nat.le_of_ble_eq_true rfl)) (fvR (hW.r 67 2 69 rfl))).trans ?_
  show val (157, d + 5, 85, [some (.ref 67), some (.int l1), some (.int l2), some (.ref s0)], [.ref 69, .int ((gI ((sI w 67 10 0)) 67 9) + 1), .ref 70], (sI w 67 10 0)) = _
  refine (val_g (c2 := (157, d + 5, 86, [some (.ref 67), some (.int l1), some (.int l2), some (.ref s0)], [.ref 67, .ref 69, .int ((gI ((sI w 67 10 0)) 67 9) + 1), .ref 70], (sI w 67 10 0))) rfl).trans ?_
  refine (val_gf (w := (sI w 67 10 0)) rfl (hW.k 67 (Nat.le_of_ble_eq_true rfl) (Nat.le_of_ble_eq_true rfl)) rfl).trans ?_
  show val (157, d + 5, 89, [some (.ref 67), some (.int l1), some (.int l2), some (.ref s0)], [.int (gI ((sI w 67 10 0)) 67 9), .ref 69, .int ((gI ((sI w 67 10 0)) 67 9) + 1), .ref 70], (sI w 67 10 0)) = _
  refine (val_bal (w := (sI w 67 10 0)) rfl (hW.k 69 (Nat.le_of_ble_eq_true rfl) (Nat.le_of_ble_eq_true rfl)) rfl hy2).trans ?_
  show val (157, d + 5, 90, [some (.ref 67), some (.int l1), some (.int l2), some (.ref s0)], [.int (gI ((sI w 67 10 0)) 69 ((gI ((sI w 67 10 0)) 67 9)).toNatClampNeg), .int ((gI ((sI w 67 10 0)) 67 9) + 1), .ref 70], (sI w 67 10 0)) = _
  refine (val_basB (w := (sI w 67 10 0)) rfl (hW.k 70 (Nat.le_of_ble_eq_true rfl) (Nat.le_of_ble_eq_true rfl)) hy3).trans ?_
  show val (157, d + 5, 91, [some (.ref 67), some (.int l1), some (.int l2), some (.ref s0)], [], (sI ((sI w 67 10 0)) 70 (((gI ((sI w 67 10 0)) 67 9) + 1)).toNatClampNeg ((vp_nar .byte ((gI ((sI w 67 10 0)) 69 ((gI ((sI w 67 10 0)) 67 9)).toNatClampNeg)))))) = _
  refine (val_g (c2 := (157, d + 5, 92, [some (.ref 67), some (.int l1), some (.int l2), some (.ref s0)], [.ref 67], (sI ((sI w 67 10 0)) 70 (((gI ((sI w 67 10 0)) 67 9) + 1)).toNatClampNeg ((vp_nar .byte ((gI ((sI w 67 10 0)) 69 ((gI ((sI w 67 10 0)) 67 9)).toNatClampNeg))))))) rfl).trans ?_
  refine (val_g (c2 := (157, d + 5, 93, [some (.ref 67), some (.int l1), some (.int l2), some (.ref s0)], [.ref 67, .ref 67], (sI ((sI w 67 10 0)) 70 (((gI ((sI w 67 10 0)) 67 9) + 1)).toNatClampNeg ((vp_nar .byte ((gI ((sI w 67 10 0)) 69 ((gI ((sI w 67 10 0)) 67 9)).toNatClampNeg))))))) rfl).trans ?_
  refine (val_gf (w := (sI ((sI w 67 10 0)) 70 (((gI ((sI w 67 10 0)) 67 9) + 1)).toNatClampNeg ((vp_nar .byte ((gI ((sI w 67 10 0)) 69 ((gI ((sI w 67 10 0)) 67 9)).toNatClampNeg)))))) rfl (hW.k 67 (Nat.le_of_ble_eq_true rfl) (Nat.le_of_ble_eq_true rfl)) rfl).trans ?_
  show val (157, d + 5, 96, [some (.ref 67), some (.int l1), some (.int l2), some (.ref s0)], [.int (gI ((sI ((sI w 67 10 0)) 70 (((gI ((sI w 67 10 0)) 67 9) + 1)).toNatClampNeg ((vp_nar .byte ((gI ((sI w 67 10 0)) 69 ((gI ((sI w 67 10 0)) 67 9)).toNatClampNeg)))))) 67 9), .ref 67], (sI ((sI w 67 10 0)) 70 (((gI ((sI w 67 10 0)) 67 9) + 1)).toNatClampNeg ((vp_nar .byte ((gI ((sI w 67 10 0)) 69 ((gI ((sI w 67 10 0)) 67 9)).toNatClampNeg)))))) = _
  refine (val_g (c2 := (157, d + 5, 97, [some (.ref 67), some (.int l1), some (.int l2), some (.ref s0)], [.int 1, .int (gI ((sI ((sI w 67 10 0)) 70 (((gI ((sI w 67 10 0)) 67 9) + 1)).toNatClampNeg ((vp_nar .byte ((gI ((sI w 67 10 0)) 69 ((gI ((sI w 67 10 0)) 67 9)).toNatClampNeg)))))) 67 9), .ref 67], (sI ((sI w 67 10 0)) 70 (((gI ((sI w 67 10 0)) 67 9) + 1)).toNatClampNeg ((vp_nar .byte ((gI ((sI w 67 10 0)) 69 ((gI ((sI w 67 10 0)) 67 9)).toNatClampNeg))))))) rfl).trans ?_
  refine (val_g (c2 := (157, d + 5, 98, [some (.ref 67), some (.int l1), some (.int l2), some (.ref s0)], [.int ((gI ((sI ((sI w 67 10 0)) 70 (((gI ((sI w 67 10 0)) 67 9) + 1)).toNatClampNeg ((vp_nar .byte ((gI ((sI w 67 10 0)) 69 ((gI ((sI w 67 10 0)) 67 9)).toNatClampNeg)))))) 67 9) + 1), .ref 67], (sI ((sI w 67 10 0)) 70 (((gI ((sI w 67 10 0)) 67 9) + 1)).toNatClampNeg ((vp_nar .byte ((gI ((sI w 67 10 0)) 69 ((gI ((sI w 67 10 0)) 67 9)).toNatClampNeg))))))) rfl).trans ?_
  refine (val_pf (w := (sI ((sI w 67 10 0)) 70 (((gI ((sI w 67 10 0)) 67 9) + 1)).toNatClampNeg ((vp_nar .byte ((gI ((sI w 67 10 0)) 69 ((gI ((sI w 67 10 0)) 67 9)).toNatClampNeg)))))) rfl (hW.k 67 (Nat.le_of_ble_eq_true rfl) (Nat.le_of_ble_eq_true rfl)) rfl).trans ?_
  show val (157, d + 5, 101, [some (.ref 67), some (.int l1), some (.int l2), some (.ref s0)], [], (sI ((sI ((sI w 67 10 0)) 70 (((gI ((sI w 67 10 0)) 67 9) + 1)).toNatClampNeg ((vp_nar .byte ((gI ((sI w 67 10 0)) 69 ((gI ((sI w 67 10 0)) 67 9)).toNatClampNeg)))))) 67 9 (((gI ((sI ((sI w 67 10 0)) 70 (((gI ((sI w 67 10 0)) 67 9) + 1)).toNatClampNeg ((vp_nar .byte ((gI ((sI w 67 10 0)) 69 ((gI ((sI w 67 10 0)) 67 9)).toNatClampNeg)))))) 67 9) + 1)))) = _
  refine (val_g (c2 := (157, d + 5, 102, [some (.ref 67), some (.int l1), some (.int l2), some (.ref s0)], [.ref 67], (sI ((sI ((sI w 67 10 0)) 70 (((gI ((sI w 67 10 0)) 67 9) + 1)).toNatClampNeg ((vp_nar .byte ((gI ((sI w 67 10 0)) 69 ((gI ((sI w 67 10 0)) 67 9)).toNatClampNeg)))))) 67 9 (((gI ((sI ((sI w 67 10 0)) 70 (((gI ((sI w 67 10 0)) 67 9) + 1)).toNatClampNeg ((vp_nar .byte ((gI ((sI w 67 10 0)) 69 ((gI ((sI w 67 10 0)) 67 9)).toNatClampNeg)))))) 67 9) + 1))))) rfl).trans ?_
  refine (val_gf (w := (sI ((sI ((sI w 67 10 0)) 70 (((gI ((sI w 67 10 0)) 67 9) + 1)).toNatClampNeg ((vp_nar .byte ((gI ((sI w 67 10 0)) 69 ((gI ((sI w 67 10 0)) 67 9)).toNatClampNeg)))))) 67 9 (((gI ((sI ((sI w 67 10 0)) 70 (((gI ((sI w 67 10 0)) 67 9) + 1)).toNatClampNeg ((vp_nar .byte ((gI ((sI w 67 10 0)) 69 ((gI ((sI w 67 10 0)) 67 9)).toNatClampNeg)))))) 67 9) + 1)))) rfl (hW.k 67 (Nat.le_of_ble_eq_true rfl) (Nat.le_of_ble_eq_true rfl)) (fvR (hW.r 67 1 68 rfl))).trans ?_
  show val (157, d + 5, 105, [some (.ref 67), some (.int l1), some (.int l2), some (.ref s0)], [.ref 68], (sI ((sI ((sI w 67 10 0)) 70 (((gI ((sI w 67 10 0)) 67 9) + 1)).toNatClampNeg ((vp_nar .byte ((gI ((sI w 67 10 0)) 69 ((gI ((sI w 67 10 0)) 67 9)).toNatClampNeg)))))) 67 9 (((gI ((sI ((sI w 67 10 0)) 70 (((gI ((sI w 67 10 0)) 67 9) + 1)).toNatClampNeg ((vp_nar .byte ((gI ((sI w 67 10 0)) 69 ((gI ((sI w 67 10 0)) 67 9)).toNatClampNeg)))))) 67 9) + 1)))) = _
  refine (val_g (c2 := (157, d + 5, 106, [some (.ref 67), some (.int l1), some (.int l2), some (.ref s0)], [.ref 67, .ref 68], (sI ((sI ((sI w 67 10 0)) 70 (((gI ((sI w 67 10 0)) 67 9) + 1)).toNatClampNeg ((vp_nar .byte ((gI ((sI w 67 10 0)) 69 ((gI ((sI w 67 10 0)) 67 9)).toNatClampNeg)))))) 67 9 (((gI ((sI ((sI w 67 10 0)) 70 (((gI ((sI w 67 10 0)) 67 9) + 1)).toNatClampNeg ((vp_nar .byte ((gI ((sI w 67 10 0)) 69 ((gI ((sI w 67 10 0)) 67 9)).toNatClampNeg)))))) 67 9) + 1))))) rfl).trans ?_
  refine (val_gf (w := (sI ((sI ((sI w 67 10 0)) 70 (((gI ((sI w 67 10 0)) 67 9) + 1)).toNatClampNeg ((vp_nar .byte ((gI ((sI w 67 10 0)) 69 ((gI ((sI w 67 10 0)) 67 9)).toNatClampNeg)))))) 67 9 (((gI ((sI ((sI w 67 10 0)) 70 (((gI ((sI w 67 10 0)) 67 9) + 1)).toNatClampNeg ((vp_nar .byte ((gI ((sI w 67 10 0)) 69 ((gI ((sI w 67 10 0)) 67 9)).toNatClampNeg)))))) 67 9) + 1)))) rfl (hW.k 67 (Nat.le_of_ble_eq_true rfl) (Nat.le_of_ble_eq_true rfl)) rfl).trans ?_
  show val (157, d + 5, 109, [some (.ref 67), some (.int l1), some (.int l2), some (.ref s0)], [.int (gI ((sI ((sI ((sI w 67 10 0)) 70 (((gI ((sI w 67 10 0)) 67 9) + 1)).toNatClampNeg ((vp_nar .byte ((gI ((sI w 67 10 0)) 69 ((gI ((sI w 67 10 0)) 67 9)).toNatClampNeg)))))) 67 9 (((gI ((sI ((sI w 67 10 0)) 70 (((gI ((sI w 67 10 0)) 67 9) + 1)).toNatClampNeg ((vp_nar .byte ((gI ((sI w 67 10 0)) 69 ((gI ((sI w 67 10 0)) 67 9)).toNatClampNeg)))))) 67 9) + 1)))) 67 9), .ref 68], (sI ((sI ((sI w 67 10 0)) 70 (((gI ((sI w 67 10 0)) 67 9) + 1)).toNatClampNeg ((vp_nar .byte ((gI ((sI w 67 10 0)) 69 ((gI ((sI w 67 10 0)) 67 9)).toNatClampNeg)))))) 67 9 (((gI ((sI ((sI w 67 10 0)) 70 (((gI ((sI w 67 10 0)) 67 9) + 1)).toNatClampNeg ((vp_nar .byte ((gI ((sI w 67 10 0)) 69 ((gI ((sI w 67 10 0)) 67 9)).toNatClampNeg)))))) 67 9) + 1)))) = _
  refine (val_g (c2 := (157, d + 5, 110, [some (.ref 67), some (.int l1), some (.int l2), some (.ref s0)], [.int l1, .int (gI ((sI ((sI ((sI w 67 10 0)) 70 (((gI ((sI w 67 10 0)) 67 9) + 1)).toNatClampNeg ((vp_nar .byte ((gI ((sI w 67 10 0)) 69 ((gI ((sI w 67 10 0)) 67 9)).toNatClampNeg)))))) 67 9 (((gI ((sI ((sI w 67 10 0)) 70 (((gI ((sI w 67 10 0)) 67 9) + 1)).toNatClampNeg ((vp_nar .byte ((gI ((sI w 67 10 0)) 69 ((gI ((sI w 67 10 0)) 67 9)).toNatClampNeg)))))) 67 9) + 1)))) 67 9), .ref 68], (sI ((sI ((sI w 67 10 0)) 70 (((gI ((sI w 67 10 0)) 67 9) + 1)).toNatClampNeg ((vp_nar .byte ((gI ((sI w 67 10 0)) 69 ((gI ((sI w 67 10 0)) 67 9)).toNatClampNeg)))))) 67 9 (((gI ((sI ((sI w 67 10 0)) 70 (((gI ((sI w 67 10 0)) 67 9) + 1)).toNatClampNeg ((vp_nar .byte ((gI ((sI w 67 10 0)) 69 ((gI ((sI w 67 10 0)) 67 9)).toNatClampNeg)))))) 67 9) + 1))))) rfl).trans ?_
  refine (val_g (c2 := (157, d + 5, 111, [some (.ref 67), some (.int l1), some (.int l2), some (.ref s0)], [.int l2, .int l1, .int (gI ((sI ((sI ((sI w 67 10 0)) 70 (((gI ((sI w 67 10 0)) 67 9) + 1)).toNatClampNeg ((vp_nar .byte ((gI ((sI w 67 10 0)) 69 ((gI ((sI w 67 10 0)) 67 9)).toNatClampNeg)))))) 67 9 (((gI ((sI ((sI w 67 10 0)) 70 (((gI ((sI w 67 10 0)) 67 9) + 1)).toNatClampNeg ((vp_nar .byte ((gI ((sI w 67 10 0)) 69 ((gI ((sI w 67 10 0)) 67 9)).toNatClampNeg)))))) 67 9) + 1)))) 67 9), .ref 68], (sI ((sI ((sI w 67 10 0)) 70 (((gI ((sI w 67 10 0)) 67 9) + 1)).toNatClampNeg ((vp_nar .byte ((gI ((sI w 67 10 0)) 69 ((gI ((sI w 67 10 0)) 67 9)).toNatClampNeg)))))) 67 9 (((gI ((sI ((sI w 67 10 0)) 70 (((gI ((sI w 67 10 0)) 67 9) + 1)).toNatClampNeg ((vp_nar .byte ((gI ((sI w 67 10 0)) 69 ((gI ((sI w 67 10 0)) 67 9)).toNatClampNeg)))))) 67 9) + 1))))) rfl).trans ?_
  refine (val_g (c2 := (157, d + 5, 112, [some (.ref 67), some (.int l1), some (.int l2), some (.ref s0)], [.ref s0, .int l2, .int l1, .int (gI ((sI ((sI ((sI w 67 10 0)) 70 (((gI ((sI w 67 10 0)) 67 9) + 1)).toNatClampNeg ((vp_nar .byte ((gI ((sI w 67 10 0)) 69 ((gI ((sI w 67 10 0)) 67 9)).toNatClampNeg)))))) 67 9 (((gI ((sI ((sI w 67 10 0)) 70 (((gI ((sI w 67 10 0)) 67 9) + 1)).toNatClampNeg ((vp_nar .byte ((gI ((sI w 67 10 0)) 69 ((gI ((sI w 67 10 0)) 67 9)).toNatClampNeg)))))) 67 9) + 1)))) 67 9), .ref 68], (sI ((sI ((sI w 67 10 0)) 70 (((gI ((sI w 67 10 0)) 67 9) + 1)).toNatClampNeg ((vp_nar .byte ((gI ((sI w 67 10 0)) 69 ((gI ((sI w 67 10 0)) 67 9)).toNatClampNeg)))))) 67 9 (((gI ((sI ((sI w 67 10 0)) 70 (((gI ((sI w 67 10 0)) 67 9) + 1)).toNatClampNeg ((vp_nar .byte ((gI ((sI w 67 10 0)) 69 ((gI ((sI w 67 10 0)) 67 9)).toNatClampNeg)))))) 67 9) + 1))))) rfl).trans ?_
  refine (val_gf (w := (sI ((sI ((sI w 67 10 0)) 70 (((gI ((sI w 67 10 0)) 67 9) + 1)).toNatClampNeg ((vp_nar .byte ((gI ((sI w 67 10 0)) 69 ((gI ((sI w 67 10 0)) 67 9)).toNatClampNeg)))))) 67 9 (((gI ((sI ((sI w 67 10 0)) 70 (((gI ((sI w 67 10 0)) 67 9) + 1)).toNatClampNeg ((vp_nar .byte ((gI ((sI w 67 10 0)) 69 ((gI ((sI w 67 10 0)) 67 9)).toNatClampNeg)))))) 67 9) + 1)))) rfl hk_s0 rfl).trans ?_
  show val (157, d + 5, 115, [some (.ref 67), some (.int l1), some (.int l2), some (.ref s0)], [.int (gI ((sI ((sI ((sI w 67 10 0)) 70 (((gI ((sI w 67 10 0)) 67 9) + 1)).toNatClampNeg ((vp_nar .byte ((gI ((sI w 67 10 0)) 69 ((gI ((sI w 67 10 0)) 67 9)).toNatClampNeg)))))) 67 9 (((gI ((sI ((sI w 67 10 0)) 70 (((gI ((sI w 67 10 0)) 67 9) + 1)).toNatClampNeg ((vp_nar .byte ((gI ((sI w 67 10 0)) 69 ((gI ((sI w 67 10 0)) 67 9)).toNatClampNeg)))))) 67 9) + 1)))) s0 5), .int l2, .int l1, .int (gI ((sI ((sI ((sI w 67 10 0)) 70 (((gI ((sI w 67 10 0)) 67 9) + 1)).toNatClampNeg ((vp_nar .byte ((gI ((sI w 67 10 0)) 69 ((gI ((sI w 67 10 0)) 67 9)).toNatClampNeg)))))) 67 9 (((gI ((sI ((sI w 67 10 0)) 70 (((gI ((sI w 67 10 0)) 67 9) + 1)).toNatClampNeg ((vp_nar .byte ((gI ((sI w 67 10 0)) 69 ((gI ((sI w 67 10 0)) 67 9)).toNatClampNeg)))))) 67 9) + 1)))) 67 9), .ref 68], (sI ((sI ((sI w 67 10 0)) 70 (((gI ((sI w 67 10 0)) 67 9) + 1)).toNatClampNeg ((vp_nar .byte ((gI ((sI w 67 10 0)) 69 ((gI ((sI w 67 10 0)) 67 9)).toNatClampNeg)))))) 67 9 (((gI ((sI ((sI w 67 10 0)) 70 (((gI ((sI w 67 10 0)) 67 9) + 1)).toNatClampNeg ((vp_nar .byte ((gI ((sI w 67 10 0)) 69 ((gI ((sI w 67 10 0)) 67 9)).toNatClampNeg)))))) 67 9) + 1)))) = _
  rfl
theorem tr_157_51_n4 (d : Nat) (w : Wd) (hW : Fix w) (l1 : Int32) (l2 : Int32)     : val (157, d + 5, 51, [some (.ref 67), some (.int l1), some (.int l2), none], [.null], w) = some (some (.int 0), (sI w 67 10 1)) := by
  refine (val_g (c2 := (157, d + 5, 52, [some (.ref 67), some (.int l1), some (.int l2), some (.null)], [], w)) rfl).trans ?_
  refine (val_g (c2 := (157, d + 5, 53, [some (.ref 67), some (.int l1), some (.int l2), some (.null)], [.ref 67], w)) rfl).trans ?_
  refine (val_g (c2 := (157, d + 5, 54, [some (.ref 67), some (.int l1), some (.int l2), some (.null)], [.null, .ref 67], w)) rfl).trans ?_
  refine (val_g (c2 := (157, d + 5, 57, [some (.ref 67), some (.int l1), some (.int l2), some (.null)], [.ref 67], w)) rfl).trans ?_
  refine (val_g (c2 := (157, d + 5, 58, [some (.ref 67), some (.int l1), some (.int l2), some (.null)], [.int 1, .ref 67], w)) rfl).trans ?_
  refine (val_g (c2 := (157, d + 5, 62, [some (.ref 67), some (.int l1), some (.int l2), some (.null)], [.int 1, .ref 67], w)) rfl).trans ?_
  refine (val_pf rfl (hW.k 67 (Nat.le_of_ble_eq_true rfl) (Nat.le_of_ble_eq_true rfl)) rfl).trans ?_
  show val (157, d + 5, 65, [some (.ref 67), some (.int l1), some (.int l2), some (.null)], [], (sI w 67 10 1)) = _
  refine (val_g (c2 := (157, d + 5, 66, [some (.ref 67), some (.int l1), some (.int l2), some (.null)], [.null], (sI w 67 10 1))) rfl).trans ?_
  refine (val_g (c2 := (157, d + 5, 69, [some (.ref 67), some (.int l1), some (.int l2), some (.null)], [], (sI w 67 10 1))) rfl).trans ?_
  refine (val_g (c2 := (157, d + 5, 70, [some (.ref 67), some (.int l1), some (.int l2), some (.null)], [.int 0], (sI w 67 10 1))) rfl).trans ?_
  exact val_r rfl
theorem tr_157_118 (d : Nat) (w : Wd) (hW : Fix w) (l1 : Int32) (l2 : Int32) (l3 : Nat) (s0 : Int32) (s1 : Int32)    (hy1 : inB s1 2001 = true) (hy2 : (¬ (¬ (gI ((sI w 68 (s1).toNatClampNeg s0)) 67 11) = (-9))) → inB ((gI ((sI w 68 (s1).toNatClampNeg s0)) 67 9)) 2001 = true) (hy3 : (¬ (¬ (gI ((sI w 68 (s1).toNatClampNeg s0)) 67 11) = (-9))) → inB 0 2001 = true) : val (157, d + 5, 118, [some (.ref 67), some (.int l1), some (.int l2), some (.ref l3)], [.int s0, .int s1, .ref 68], w) = (if ¬ (gI ((sI w 68 (s1).toNatClampNeg s0)) 67 11) = (-9) then val (157, d + 5, 159, [some (.ref 67), some (.int l1), some (.int l2), some (.ref l3)], [.int (gI ((sI w 68 (s1).toNatClampNeg s0)) 67 9), .ref 67], (sI w 68 (s1).toNatClampNeg s0)) else (if ¬ (gI ((sI w 68 (s1).toNatClampNeg s0)) 68 ((gI ((sI w 68 (s1).toNatClampNeg s0)) 67 9)).toNatClampNeg) = (gI ((sI w 68 (s1).toNatClampNeg s0)) 68 (0 : Int32).toNatClampNeg) then val (157, d + 5, 159, [some (.ref 67), some (.int l1), some (.int l2), some (.ref l3)], [.int (gI ((sI w 68 (s1).toNatClampNeg s0)) 67 9), .ref 67], (sI w 68 (s1).toNatClampNeg s0)) else val (157, d + 5, 159, [some (.ref 67), some (.int l1), some (.int l2), some (.ref l3)], [.int (gI ((sI ((sI w 68 (s1).toNatClampNeg s0)) 67 11 ((gI ((sI w 68 (s1).toNatClampNeg s0)) 67 9)))) 67 9), .ref 67], (sI ((sI w 68 (s1).toNatClampNeg s0)) 67 11 ((gI ((sI w 68 (s1).toNatClampNeg s0)) 67 9)))))) := by
  refine (val_ias rfl (hW.k 68 (Nat.le_of_ble_eq_true rfl) (Nat.le_of_ble_eq_true rfl)) hy1).trans ?_
  show val (157, d + 5, 119, [some (.ref 67), some (.int l1), some (.int l2), some (.ref l3)], [], (sI w 68 (s1).toNatClampNeg s0)) = _
  refine (val_g (c2 := (157, d + 5, 120, [some (.ref 67), some (.int l1), some (.int l2), some (.ref l3)], [.ref 67], (sI w 68 (s1).toNatClampNeg s0))) rfl).trans ?_
  refine (val_gf (w := (sI w 68 (s1).toNatClampNeg s0)) rfl (hW.k 67 (Nat.le_of_ble_eq_true rfl) (Nat.le_of_ble_eq_true rfl)) rfl).trans ?_
  show val (157, d + 5, 123, [some (.ref 67), some (.int l1), some (.int l2), some (.ref l3)], [.int (gI ((sI w 68 (s1).toNatClampNeg s0)) 67 11)], (sI w 68 (s1).toNatClampNeg s0)) = _
  refine (val_g (c2 := (157, d + 5, 125, [some (.ref 67), some (.int l1), some (.int l2), some (.ref l3)], [.int (-9), .int (gI ((sI w 68 (s1).toNatClampNeg s0)) 67 11)], (sI w 68 (s1).toNatClampNeg s0))) rfl).trans ?_
  by_cases hc782 : ¬ (gI ((sI w 68 (s1).toNatClampNeg s0)) 67 11) = (-9)
  · refine ((val_ic_ne rfl).trans (if_pos hc782)).trans ?_
    show val (157, d + 5, 154, [some (.ref 67), some (.int l1), some (.int l2), some (.ref l3)], [], (sI w 68 (s1).toNatClampNeg s0)) = _
    refine Eq.trans ?_ (if_pos hc782).symm
    refine (val_g (c2 := (157, d + 5, 155, [some (.ref 67), some (.int l1), some (.int l2), some (.ref l3)], [.ref 67], (sI w 68 (s1).toNatClampNeg s0))) rfl).trans ?_
    refine (val_g (c2 := (157, d + 5, 156, [some (.ref 67), some (.int l1), some (.int l2), some (.ref l3)], [.ref 67, .ref 67], (sI w 68 (s1).toNatClampNeg s0))) rfl).trans ?_
    refine (val_gf (w := (sI w 68 (s1).toNatClampNeg s0)) rfl (hW.k 67 (Nat.le_of_ble_eq_true rfl) (Nat.le_of_ble_eq_true rfl)) rfl).trans ?_
    show val (157, d + 5, 159, [some (.ref 67), some (.int l1), some (.int l2), some (.ref l3)], [.int (gI ((sI w 68 (s1).toNatClampNeg s0)) 67 9), .ref 67], (sI w 68 (s1).toNatClampNeg s0)) = _
    rfl
  · refine ((val_ic_ne rfl).trans (if_neg hc782)).trans ?_
    show val (157, d + 5, 128, [some (.ref 67), some (.int l1), some (.int l2), some (.ref l3)], [], (sI w 68 (s1).toNatClampNeg s0)) = _
    refine Eq.trans ?_ (if_neg hc782).symm
    refine (val_g (c2 := (157, d + 5, 129, [some (.ref 67), some (.int l1), some (.int l2), some (.ref l3)], [.ref 67], (sI w 68 (s1).toNatClampNeg s0))) rfl).trans ?_
    refine (val_gf (w := (sI w 68 (s1).toNatClampNeg s0)) rfl (hW.k 67 (Nat.le_of_ble_eq_true rfl) (Nat.le_of_ble_eq_true rfl)) (fvR (hW.r 67 1 68 rfl))).trans ?_
    show val (157, d + 5, 132, [some (.ref 67), some (.int l1), some (.int l2), some (.ref l3)], [.ref 68], (sI w 68 (s1).toNatClampNeg s0)) = _
    refine (val_g (c2 := (157, d + 5, 133, [some (.ref 67), some (.int l1), some (.int l2), some (.ref l3)], [.ref 67, .ref 68], (sI w 68 (s1).toNatClampNeg s0))) rfl).trans ?_
    refine (val_gf (w := (sI w 68 (s1).toNatClampNeg s0)) rfl (hW.k 67 (Nat.le_of_ble_eq_true rfl) (Nat.le_of_ble_eq_true rfl)) rfl).trans ?_
    show val (157, d + 5, 136, [some (.ref 67), some (.int l1), some (.int l2), some (.ref l3)], [.int (gI ((sI w 68 (s1).toNatClampNeg s0)) 67 9), .ref 68], (sI w 68 (s1).toNatClampNeg s0)) = _
    refine (val_ial (w := (sI w 68 (s1).toNatClampNeg s0)) rfl (hW.k 68 (Nat.le_of_ble_eq_true rfl) (Nat.le_of_ble_eq_true rfl)) rfl (hy2 hc782)).trans ?_
    show val (157, d + 5, 137, [some (.ref 67), some (.int l1), some (.int l2), some (.ref l3)], [.int (gI ((sI w 68 (s1).toNatClampNeg s0)) 68 ((gI ((sI w 68 (s1).toNatClampNeg s0)) 67 9)).toNatClampNeg)], (sI w 68 (s1).toNatClampNeg s0)) = _
    refine (val_g (c2 := (157, d + 5, 138, [some (.ref 67), some (.int l1), some (.int l2), some (.ref l3)], [.ref 67, .int (gI ((sI w 68 (s1).toNatClampNeg s0)) 68 ((gI ((sI w 68 (s1).toNatClampNeg s0)) 67 9)).toNatClampNeg)], (sI w 68 (s1).toNatClampNeg s0))) rfl).trans ?_
    refine (val_gf (w := (sI w 68 (s1).toNatClampNeg s0)) rfl (hW.k 67 (Nat.le_of_ble_eq_true rfl) (Nat.le_of_ble_eq_true rfl)) (fvR (hW.r 67 1 68 rfl))).trans ?_
    show val (157, d + 5, 141, [some (.ref 67), some (.int l1), some (.int l2), some (.ref l3)], [.ref 68, .int (gI ((sI w 68 (s1).toNatClampNeg s0)) 68 ((gI ((sI w 68 (s1).toNatClampNeg s0)) 67 9)).toNatClampNeg)], (sI w 68 (s1).toNatClampNeg s0)) = _
    refine (val_g (c2 := (157, d + 5, 142, [some (.ref 67), some (.int l1), some (.int l2), some (.ref l3)], [.int 0, .ref 68, .int (gI ((sI w 68 (s1).toNatClampNeg s0)) 68 ((gI ((sI w 68 (s1).toNatClampNeg s0)) 67 9)).toNatClampNeg)], (sI w 68 (s1).toNatClampNeg s0))) rfl).trans ?_
    refine (val_ial (w := (sI w 68 (s1).toNatClampNeg s0)) rfl (hW.k 68 (Nat.le_of_ble_eq_true rfl) (Nat.le_of_ble_eq_true rfl)) rfl (hy3 hc782)).trans ?_
    show val (157, d + 5, 143, [some (.ref 67), some (.int l1), some (.int l2), some (.ref l3)], [.int (gI ((sI w 68 (s1).toNatClampNeg s0)) 68 (0 : Int32).toNatClampNeg), .int (gI ((sI w 68 (s1).toNatClampNeg s0)) 68 ((gI ((sI w 68 (s1).toNatClampNeg s0)) 67 9)).toNatClampNeg)], (sI w 68 (s1).toNatClampNeg s0)) = _
    by_cases hc783 : ¬ (gI ((sI w 68 (s1).toNatClampNeg s0)) 68 ((gI ((sI w 68 (s1).toNatClampNeg s0)) 67 9)).toNatClampNeg) = (gI ((sI w 68 (s1).toNatClampNeg s0)) 68 (0 : Int32).toNatClampNeg)
    · refine ((val_ic_ne rfl).trans (if_pos hc783)).trans ?_
      show val (157, d + 5, 154, [some (.ref 67), some (.int l1), some (.int l2), some (.ref l3)], [], (sI w 68 (s1).toNatClampNeg s0)) = _
      refine Eq.trans ?_ (if_pos hc783).symm
      refine (val_g (c2 := (157, d + 5, 155, [some (.ref 67), some (.int l1), some (.int l2), some (.ref l3)], [.ref 67], (sI w 68 (s1).toNatClampNeg s0))) rfl).trans ?_
      refine (val_g (c2 := (157, d + 5, 156, [some (.ref 67), some (.int l1), some (.int l2), some (.ref l3)], [.ref 67, .ref 67], (sI w 68 (s1).toNatClampNeg s0))) rfl).trans ?_
      refine (val_gf (w := (sI w 68 (s1).toNatClampNeg s0)) rfl (hW.k 67 (Nat.le_of_ble_eq_true rfl) (Nat.le_of_ble_eq_true rfl)) rfl).trans ?_
      show val (157, d + 5, 159, [some (.ref 67), some (.int l1), some (.int l2), some (.ref l3)], [.int (gI ((sI w 68 (s1).toNatClampNeg s0)) 67 9), .ref 67], (sI w 68 (s1).toNatClampNeg s0)) = _
      rfl
    · refine ((val_ic_ne rfl).trans (if_neg hc783)).trans ?_
      show val (157, d + 5, 146, [some (.ref 67), some (.int l1), some (.int l2), some (.ref l3)], [], (sI w 68 (s1).toNatClampNeg s0)) = _
      refine Eq.trans ?_ (if_neg hc783).symm
      refine (val_g (c2 := (157, d + 5, 147, [some (.ref 67), some (.int l1), some (.int l2), some (.ref l3)], [.ref 67], (sI w 68 (s1).toNatClampNeg s0))) rfl).trans ?_
      refine (val_g (c2 := (157, d + 5, 148, [some (.ref 67), some (.int l1), some (.int l2), some (.ref l3)], [.ref 67, .ref 67], (sI w 68 (s1).toNatClampNeg s0))) rfl).trans ?_
      refine (val_gf (w := (sI w 68 (s1).toNatClampNeg s0)) rfl (hW.k 67 (Nat.le_of_ble_eq_true rfl) (Nat.le_of_ble_eq_true rfl)) rfl).trans ?_
      show val (157, d + 5, 151, [some (.ref 67), some (.int l1), some (.int l2), some (.ref l3)], [.int (gI ((sI w 68 (s1).toNatClampNeg s0)) 67 9), .ref 67], (sI w 68 (s1).toNatClampNeg s0)) = _
      refine (val_pf (w := (sI w 68 (s1).toNatClampNeg s0)) rfl (hW.k 67 (Nat.le_of_ble_eq_true rfl) (Nat.le_of_ble_eq_true rfl)) rfl).trans ?_
      show val (157, d + 5, 154, [some (.ref 67), some (.int l1), some (.int l2), some (.ref l3)], [], (sI ((sI w 68 (s1).toNatClampNeg s0)) 67 11 ((gI ((sI w 68 (s1).toNatClampNeg s0)) 67 9)))) = _
      refine (val_g (c2 := (157, d + 5, 155, [some (.ref 67), some (.int l1), some (.int l2), some (.ref l3)], [.ref 67], (sI ((sI w 68 (s1).toNatClampNeg s0)) 67 11 ((gI ((sI w 68 (s1).toNatClampNeg s0)) 67 9))))) rfl).trans ?_
      refine (val_g (c2 := (157, d + 5, 156, [some (.ref 67), some (.int l1), some (.int l2), some (.ref l3)], [.ref 67, .ref 67], (sI ((sI w 68 (s1).toNatClampNeg s0)) 67 11 ((gI ((sI w 68 (s1).toNatClampNeg s0)) 67 9))))) rfl).trans ?_
      refine (val_gf (w := (sI ((sI w 68 (s1).toNatClampNeg s0)) 67 11 ((gI ((sI w 68 (s1).toNatClampNeg s0)) 67 9)))) rfl (hW.k 67 (Nat.le_of_ble_eq_true rfl) (Nat.le_of_ble_eq_true rfl)) rfl).trans ?_
      show val (157, d + 5, 159, [some (.ref 67), some (.int l1), some (.int l2), some (.ref l3)], [.int (gI ((sI ((sI w 68 (s1).toNatClampNeg s0)) 67 11 ((gI ((sI w 68 (s1).toNatClampNeg s0)) 67 9)))) 67 9), .ref 67], (sI ((sI w 68 (s1).toNatClampNeg s0)) 67 11 ((gI ((sI w 68 (s1).toNatClampNeg s0)) 67 9)))) = _
      rfl
theorem tr_157_162 (d : Nat) (w : Wd) (l1 : Int32) (l2 : Int32) (l3 : Nat)     : val (157, d + 5, 162, [some (.ref 67), some (.int l1), some (.int l2), some (.ref l3)], [], w) = some (some (.int 1), w) := by
  refine (val_g (c2 := (157, d + 5, 163, [some (.ref 67), some (.int l1), some (.int l2), some (.ref l3)], [.int 1], w)) rfl).trans ?_
  exact val_r rfl
/-- BelfryHouse$Run.compareWithEarlier(I)V -/
theorem tr_158 (d : Nat) (w : Wd) (hW : Fix w) (x0 : Int32)    (hy1 : inB x0 2001 = true) (hy2 : inB ((ushI (((gI w 68 (x0).toNatClampNeg) * (-1640531535))) 22)) 1024 = true) : val (158, d, 0, [some (.ref 67), some (.int x0), none, none, none], [], w) = val (158, d, 23, [some (.ref 67), some (.int x0), some (.int (ushI (((gI w 68 (x0).toNatClampNeg) * (-1640531535))) 22)), some (.int (gI w 74 ((ushI (((gI w 68 (x0).toNatClampNeg) * (-1640531535))) 22)).toNatClampNeg)), some (.int 0)], [], w) := by
  refine (val_g (c2 := (158, d, 1, [some (.ref 67), some (.int x0), none, none, none], [.ref 67], w)) rfl).trans ?_
  refine (val_gf rfl (hW.k 67 (Nat.le_of_ble_eq_true rfl) (Nat.le_of_ble_eq_true rfl)) (fvR (hW.r 67 1 68 rfl))).trans ?_
  show val (158, d, 4, [some (.ref 67), some (.int x0), none, none, none], [.ref 68], w) = _
  refine (val_g (c2 := (158, d, 5, [some (.ref 67), some (.int x0), none, none, none], [.int x0, .ref 68], w)) rfl).trans ?_
  refine (val_ial rfl (hW.k 68 (Nat.le_of_ble_eq_true rfl) (Nat.le_of_ble_eq_true rfl)) rfl hy1).trans ?_
  show val (158, d, 6, [some (.ref 67), some (.int x0), none, none, none], [.int (gI w 68 (x0).toNatClampNeg)], w) = _
  refine (val_g (c2 := (158, d, 8, [some (.ref 67), some (.int x0), none, none, none], [.int (-1640531535), .int (gI w 68 (x0).toNatClampNeg)], w)) rfl).trans ?_
  refine (val_g (c2 := (158, d, 9, [some (.ref 67), some (.int x0), none, none, none], [.int ((gI w 68 (x0).toNatClampNeg) * (-1640531535))], w)) rfl).trans ?_
  refine (val_g (c2 := (158, d, 11, [some (.ref 67), some (.int x0), none, none, none], [.int 22, .int ((gI w 68 (x0).toNatClampNeg) * (-1640531535))], w)) rfl).trans ?_
  refine (val_g (c2 := (158, d, 12, [some (.ref 67), some (.int x0), none, none, none], [.int (ushI (((gI w 68 (x0).toNatClampNeg) * (-1640531535))) 22)], w)) rfl).trans ?_
  refine (val_g (c2 := (158, d, 13, [some (.ref 67), some (.int x0), some (.int (ushI (((gI w 68 (x0).toNatClampNeg) * (-1640531535))) 22)), none, none], [], w)) rfl).trans ?_
  refine (val_g (c2 := (158, d, 14, [some (.ref 67), some (.int x0), some (.int (ushI (((gI w 68 (x0).toNatClampNeg) * (-1640531535))) 22)), none, none], [.ref 67], w)) rfl).trans ?_
  refine (val_gf rfl (hW.k 67 (Nat.le_of_ble_eq_true rfl) (Nat.le_of_ble_eq_true rfl)) (fvR (hW.r 67 7 74 rfl))).trans ?_
  show val (158, d, 17, [some (.ref 67), some (.int x0), some (.int (ushI (((gI w 68 (x0).toNatClampNeg) * (-1640531535))) 22)), none, none], [.ref 74], w) = _
  refine (val_g (c2 := (158, d, 18, [some (.ref 67), some (.int x0), some (.int (ushI (((gI w 68 (x0).toNatClampNeg) * (-1640531535))) 22)), none, none], [.int (ushI (((gI w 68 (x0).toNatClampNeg) * (-1640531535))) 22), .ref 74], w)) rfl).trans ?_
  refine (val_ial rfl (hW.k 74 (Nat.le_of_ble_eq_true rfl) (Nat.le_of_ble_eq_true rfl)) rfl hy2).trans ?_
  show val (158, d, 19, [some (.ref 67), some (.int x0), some (.int (ushI (((gI w 68 (x0).toNatClampNeg) * (-1640531535))) 22)), none, none], [.int (gI w 74 ((ushI (((gI w 68 (x0).toNatClampNeg) * (-1640531535))) 22)).toNatClampNeg)], w) = _
  refine (val_g (c2 := (158, d, 20, [some (.ref 67), some (.int x0), some (.int (ushI (((gI w 68 (x0).toNatClampNeg) * (-1640531535))) 22)), some (.int (gI w 74 ((ushI (((gI w 68 (x0).toNatClampNeg) * (-1640531535))) 22)).toNatClampNeg)), none], [], w)) rfl).trans ?_
  refine (val_g (c2 := (158, d, 21, [some (.ref 67), some (.int x0), some (.int (ushI (((gI w 68 (x0).toNatClampNeg) * (-1640531535))) 22)), some (.int (gI w 74 ((ushI (((gI w 68 (x0).toNatClampNeg) * (-1640531535))) 22)).toNatClampNeg)), none], [.int 0], w)) rfl).trans ?_
  refine (val_g (c2 := (158, d, 23, [some (.ref 67), some (.int x0), some (.int (ushI (((gI w 68 (x0).toNatClampNeg) * (-1640531535))) 22)), some (.int (gI w 74 ((ushI (((gI w 68 (x0).toNatClampNeg) * (-1640531535))) 22)).toNatClampNeg)), some (.int 0)], [], w)) rfl).trans ?_
  rfl
theorem tr_158_23 (d : Nat) (w : Wd) (hW : Fix w) (l1 : Int32) (l2 : Int32) (l3 : Int32) (l4 : Int32)    (hy1 : (¬ (2000 ≤ l4)) → (¬ (l3 ≤ 0)) → inB l3 2001 = true) (hy2 : (¬ (2000 ≤ l4)) → (¬ (l3 ≤ 0)) → inB l1 2001 = true) (hy3 : (¬ (2000 ≤ l4)) → (¬ (l3 ≤ 0)) → (¬ ((gI w 68 (l3).toNatClampNeg) = (gI w 68 (l1).toNatClampNeg))) → inB l3 2001 = true) : val (158, d, 23, [some (.ref 67), some (.int l1), some (.int l2), some (.int l3), some (.int l4)], [], w) = (if 2000 ≤ l4 then val (158, d, 63, [some (.ref 67), some (.int l1), some (.int l2), some (.int l3), some (.int l4)], [], w) else (if l3 ≤ 0 then val (158, d, 63, [some (.ref 67), some (.int l1), some (.int l2), some (.int l3), some (.int l4)], [], w) else (if (gI w 68 (l3).toNatClampNeg) = (gI w 68 (l1).toNatClampNeg) then val (158, d, 63, [some (.ref 67), some (.int l1), some (.int l2), some (.int l3), some (.int l4)], [], w) else val (158, d, 23, [some (.ref 67), some (.int l1), some (.int l2), some (.int (gI w 75 (l3).toNatClampNeg)), some (.int (l4 + 1))], [], w)))) := by
  refine (val_g (c2 := (158, d, 25, [some (.ref 67), some (.int l1), some (.int l2), some (.int l3), some (.int l4)], [.int l4], w)) rfl).trans ?_
  refine (val_g (c2 := (158, d, 28, [some (.ref 67), some (.int l1), some (.int l2), some (.int l3), some (.int l4)], [.int 2000, .int l4], w)) rfl).trans ?_
  by_cases hc815 : 2000 ≤ l4
  · refine ((val_ic_ge rfl).trans (if_pos hc815)).trans ?_
    show val (158, d, 63, [some (.ref 67), some (.int l1), some (.int l2), some (.int l3), some (.int l4)], [], w) = _
    refine Eq.trans ?_ (if_pos hc815).symm
    rfl
  · refine ((val_ic_ge rfl).trans (if_neg hc815)).trans ?_
    show val (158, d, 31, [some (.ref 67), some (.int l1), some (.int l2), some (.int l3), some (.int l4)], [], w) = _
    refine Eq.trans ?_ (if_neg hc815).symm
    refine (val_g (c2 := (158, d, 32, [some (.ref 67), some (.int l1), some (.int l2), some (.int l3), some (.int l4)], [.int l3], w)) rfl).trans ?_
    by_cases hc816 : l3 ≤ 0
    · refine ((val_if_le rfl).trans (if_pos hc816)).trans ?_
      show val (158, d, 63, [some (.ref 67), some (.int l1), some (.int l2), some (.int l3), some (.int l4)], [], w) = _
      refine Eq.trans ?_ (if_pos hc816).symm
      rfl
    · refine ((val_if_le rfl).trans (if_neg hc816)).trans ?_
      show val (158, d, 35, [some (.ref 67), some (.int l1), some (.int l2), some (.int l3), some (.int l4)], [], w) = _
      refine Eq.trans ?_ (if_neg hc816).symm
      refine (val_g (c2 := (158, d, 36, [some (.ref 67), some (.int l1), some (.int l2), some (.int l3), some (.int l4)], [.ref 67], w)) rfl).trans ?_
      refine (val_gf rfl (hW.k 67 (Nat.le_of_ble_eq_true rfl) (Nat.le_of_ble_eq_true rfl)) (fvR (hW.r 67 1 68 rfl))).trans ?_
      show val (158, d, 39, [some (.ref 67), some (.int l1), some (.int l2), some (.int l3), some (.int l4)], [.ref 68], w) = _
      refine (val_g (c2 := (158, d, 40, [some (.ref 67), some (.int l1), some (.int l2), some (.int l3), some (.int l4)], [.int l3, .ref 68], w)) rfl).trans ?_
      refine (val_ial rfl (hW.k 68 (Nat.le_of_ble_eq_true rfl) (Nat.le_of_ble_eq_true rfl)) rfl (hy1 hc815 hc816)).trans ?_
      show val (158, d, 41, [some (.ref 67), some (.int l1), some (.int l2), some (.int l3), some (.int l4)], [.int (gI w 68 (l3).toNatClampNeg)], w) = _
      refine (val_g (c2 := (158, d, 42, [some (.ref 67), some (.int l1), some (.int l2), some (.int l3), some (.int l4)], [.ref 67, .int (gI w 68 (l3).toNatClampNeg)], w)) rfl).trans ?_
      refine (val_gf rfl (hW.k 67 (Nat.le_of_ble_eq_true rfl) (Nat.le_of_ble_eq_true rfl)) (fvR (hW.r 67 1 68 rfl))).trans ?_
      show val (158, d, 45, [some (.ref 67), some (.int l1), some (.int l2), some (.int l3), some (.int l4)], [.ref 68, .int (gI w 68 (l3).toNatClampNeg)], w) = _
      refine (val_g (c2 := (158, d, 46, [some (.ref 67), some (.int l1), some (.int l2), some (.int l3), some (.int l4)], [.int l1, .ref 68, .int (gI w 68 (l3).toNatClampNeg)], w)) rfl).trans ?_
      refine (val_ial rfl (hW.k 68 (Nat.le_of_ble_eq_true rfl) (Nat.le_of_ble_eq_true rfl)) rfl (hy2 hc815 hc816)).trans ?_
      show val (158, d, 47, [some (.ref 67), some (.int l1), some (.int l2), some (.int l3), some (.int l4)], [.int (gI w 68 (l1).toNatClampNeg), .int (gI w 68 (l3).toNatClampNeg)], w) = _
      by_cases hc817 : (gI w 68 (l3).toNatClampNeg) = (gI w 68 (l1).toNatClampNeg)
      · refine ((val_ic_eq rfl).trans (if_pos hc817)).trans ?_
        show val (158, d, 63, [some (.ref 67), some (.int l1), some (.int l2), some (.int l3), some (.int l4)], [], w) = _
        refine Eq.trans ?_ (if_pos hc817).symm
        rfl
      · refine ((val_ic_eq rfl).trans (if_neg hc817)).trans ?_
        show val (158, d, 50, [some (.ref 67), some (.int l1), some (.int l2), some (.int l3), some (.int l4)], [], w) = _
        refine Eq.trans ?_ (if_neg hc817).symm
        refine (val_g (c2 := (158, d, 51, [some (.ref 67), some (.int l1), some (.int l2), some (.int l3), some (.int l4)], [.ref 67], w)) rfl).trans ?_
        refine (val_gf rfl (hW.k 67 (Nat.le_of_ble_eq_true rfl) (Nat.le_of_ble_eq_true rfl)) (fvR (hW.r 67 8 75 rfl))).trans ?_
        show val (158, d, 54, [some (.ref 67), some (.int l1), some (.int l2), some (.int l3), some (.int l4)], [.ref 75], w) = _
        refine (val_g (c2 := (158, d, 55, [some (.ref 67), some (.int l1), some (.int l2), some (.int l3), some (.int l4)], [.int l3, .ref 75], w)) rfl).trans ?_
        refine (val_ial rfl (hW.k 75 (Nat.le_of_ble_eq_true rfl) (Nat.le_of_ble_eq_true rfl)) rfl (hy3 hc815 hc816 hc817)).trans ?_
        show val (158, d, 56, [some (.ref 67), some (.int l1), some (.int l2), some (.int l3), some (.int l4)], [.int (gI w 75 (l3).toNatClampNeg)], w) = _
        refine (val_g (c2 := (158, d, 57, [some (.ref 67), some (.int l1), some (.int l2), some (.int (gI w 75 (l3).toNatClampNeg)), some (.int l4)], [], w)) rfl).trans ?_
        refine (val_g (c2 := (158, d, 60, [some (.ref 67), some (.int l1), some (.int l2), some (.int (gI w 75 (l3).toNatClampNeg)), some (.int (l4 + 1))], [], w)) rfl).trans ?_
        refine (val_g (c2 := (158, d, 23, [some (.ref 67), some (.int l1), some (.int l2), some (.int (gI w 75 (l3).toNatClampNeg)), some (.int (l4 + 1))], [], w)) rfl).trans ?_
        rfl
theorem tr_158_63 (d : Nat) (w : Wd) (hW : Fix w) (l1 : Int32) (l2 : Int32) (l3 : Int32) (l4 : Int32)    (hy1 : inB l2 1024 = true) (hy2 : inB l1 2001 = true) (hy3 : (¬ (l3 ≤ 0)) → inB l3 2001 = true) : val (158, d, 63, [some (.ref 67), some (.int l1), some (.int l2), some (.int l3), some (.int l4)], [], w) = (if l3 ≤ 0 then val (158, d, 110, [some (.ref 67), some (.int l1), some (.int l2), some (.int l3), some (.int l4)], [.int 0, .int l1, .ref 72], (sI ((sI ((sI w 75 (l1).toNatClampNeg ((gI w 74 (l2).toNatClampNeg)))) 74 (l2).toNatClampNeg l1)) 71 (l1).toNatClampNeg l3)) else val (158, d, 110, [some (.ref 67), some (.int l1), some (.int l2), some (.int l3), some (.int l4)], [.int ((gI ((sI ((sI ((sI w 75 (l1).toNatClampNeg ((gI w 74 (l2).toNatClampNeg)))) 74 (l2).toNatClampNeg l1)) 71 (l1).toNatClampNeg l3)) 72 (l3).toNatClampNeg) + 1), .int l1, .ref 72], (sI ((sI ((sI w 75 (l1).toNatClampNeg ((gI w 74 (l2).toNatClampNeg)))) 74 (l2).toNatClampNeg l1)) 71 (l1).toNatClampNeg l3))) := by
  refine (val_g (c2 := (158, d, 64, [some (.ref 67), some (.int l1), some (.int l2), some (.int l3), some (.int l4)], [.ref 67], w)) rfl).trans ?_
  refine (val_gf rfl (hW.k 67 (Nat.le_of_ble_eq_true rfl) (Nat.le_of_ble_eq_true rfl)) (fvR (hW.r 67 8 75 rfl))).trans ?_
  show val (158, d, 67, [some (.ref 67), some (.int l1), some (.int l2), some (.int l3), some (.int l4)], [.ref 75], w) = _
  refine (val_g (c2 := (158, d, 68, [some (.ref 67), some (.int l1), some (.int l2), some (.int l3), some (.int l4)], [.int l1, .ref 75], w)) rfl).trans ?_
  refine (val_g (c2 := (158, d, 69, [some (.ref 67), some (.int l1), some (.int l2), some (.int l3), some (.int l4)], [.ref 67, .int l1, .ref 75], w)) rfl).trans ?_
  refine (val_gf rfl (hW.k 67 (Nat.le_of_ble_eq_true rfl) (Nat.le_of_ble_eq_true rfl)) (fvR (hW.r 67 7 74 rfl))).trans ?_
  show val (158, d, 72, [some (.ref 67), some (.int l1), some (.int l2), some (.int l3), some (.int l4)], [.ref 74, .int l1, .ref 75], w) = _
  refine (val_g (c2 := (158, d, 73, [some (.ref 67), some (.int l1), some (.int l2), some (.int l3), some (.int l4)], [.int l2, .ref 74, .int l1, .ref 75], w)) rfl).trans ?_
  refine (val_ial rfl (hW.k 74 (Nat.le_of_ble_eq_true rfl) (Nat.le_of_ble_eq_true rfl)) rfl hy1).trans ?_
  show val (158, d, 74, [some (.ref 67), some (.int l1), some (.int l2), some (.int l3), some (.int l4)], [.int (gI w 74 (l2).toNatClampNeg), .int l1, .ref 75], w) = _
  refine (val_ias rfl (hW.k 75 (Nat.le_of_ble_eq_true rfl) (Nat.le_of_ble_eq_true rfl)) hy2).trans ?_
  show val (158, d, 75, [some (.ref 67), some (.int l1), some (.int l2), some (.int l3), some (.int l4)], [], (sI w 75 (l1).toNatClampNeg ((gI w 74 (l2).toNatClampNeg)))) = _
  refine (val_g (c2 := (158, d, 76, [some (.ref 67), some (.int l1), some (.int l2), some (.int l3), some (.int l4)], [.ref 67], (sI w 75 (l1).toNatClampNeg ((gI w 74 (l2).toNatClampNeg))))) rfl).trans ?_
  refine (val_gf (w := (sI w 75 (l1).toNatClampNeg ((gI w 74 (l2).toNatClampNeg)))) rfl (hW.k 67 (Nat.le_of_ble_eq_true rfl) (Nat.le_of_ble_eq_true rfl)) (fvR (hW.r 67 7 74 rfl))).trans ?_
  show val (158, d, 79, [some (.ref 67), some (.int l1), some (.int l2), some (.int l3), some (.int l4)], [.ref 74], (sI w 75 (l1).toNatClampNeg ((gI w 74 (l2).toNatClampNeg)))) = _
  refine (val_g (c2 := (158, d, 80, [some (.ref 67), some (.int l1), some (.int l2), some (.int l3), some (.int l4)], [.int l2, .ref 74], (sI w 75 (l1).toNatClampNeg ((gI w 74 (l2).toNatClampNeg))))) rfl).trans ?_
  refine (val_g (c2 := (158, d, 81, [some (.ref 67), some (.int l1), some (.int l2), some (.int l3), some (.int l4)], [.int l1, .int l2, .ref 74], (sI w 75 (l1).toNatClampNeg ((gI w 74 (l2).toNatClampNeg))))) rfl).trans ?_
  refine (val_ias (w := (sI w 75 (l1).toNatClampNeg ((gI w 74 (l2).toNatClampNeg)))) rfl (hW.k 74 (Nat.le_of_ble_eq_true rfl) (Nat.le_of_ble_eq_true rfl)) hy1).trans ?_
  show val (158, d, 82, [some (.ref 67), some (.int l1), some (.int l2), some (.int l3), some (.int l4)], [], (sI ((sI w 75 (l1).toNatClampNeg ((gI w 74 (l2).toNatClampNeg)))) 74 (l2).toNatClampNeg l1)) = _
  refine (val_g (c2 := (158, d, 83, [some (.ref 67), some (.int l1), some (.int l2), some (.int l3), some (.int l4)], [.ref 67], (sI ((sI w 75 (l1).toNatClampNeg ((gI w 74 (l2).toNatClampNeg)))) 74 (l2).toNatClampNeg l1))) rfl).trans ?_
  refine (val_gf (w := (sI ((sI w 75 (l1).toNatClampNeg ((gI w 74 (l2).toNatClampNeg)))) 74 (l2).toNatClampNeg l1)) rfl (hW.k 67 (Nat.le_of_ble_eq_true rfl) (Nat.le_of_ble_eq_true rfl)) (fvR (hW.r 67 4 71 rfl))).trans ?_
  show val (158, d, 86, [some (.ref 67), some (.int l1), some (.int l2), some (.int l3), some (.int l4)], [.ref 71], (sI ((sI w 75 (l1).toNatClampNeg ((gI w 74 (l2).toNatClampNeg)))) 74 (l2).toNatClampNeg l1)) = _
  refine (val_g (c2 := (158, d, 87, [some (.ref 67), some (.int l1), some (.int l2), some (.int l3), some (.int l4)], [.int l1, .ref 71], (sI ((sI w 75 (l1).toNatClampNeg ((gI w 74 (l2).toNatClampNeg)))) 74 (l2).toNatClampNeg l1))) rfl).trans ?_
  refine (val_g (c2 := (158, d, 88, [some (.ref 67), some (.int l1), some (.int l2), some (.int l3), some (.int l4)], [.int l3, .int l1, .ref 71], (sI ((sI w 75 (l1).toNatClampNeg ((gI w 74 (l2).toNatClampNeg)))) 74 (l2).toNatClampNeg l1))) rfl).trans ?_
  refine (val_ias (w := (sI ((sI w 75 (l1).toNatClampNeg ((gI w 74 (l2).toNatClampNeg)))) 74 (l2).toNatClampNeg l1)) rfl (hW.k 71 (Nat.le_of_ble_eq_true rfl) (Nat.le_of_ble_eq_true rfl)) hy2).trans ?_
  show val (158, d, 89, [some (.ref 67), some (.int l1), some (.int l2), some (.int l3), some (.int l4)], [], (sI ((sI ((sI w 75 (l1).toNatClampNeg ((gI w 74 (l2).toNatClampNeg)))) 74 (l2).toNatClampNeg l1)) 71 (l1).toNatClampNeg l3)) = _
  refine (val_g (c2 := (158, d, 90, [some (.ref 67), some (.int l1), some (.int l2), some (.int l3), some (.int l4)], [.ref 67], (sI ((sI ((sI w 75 (l1).toNatClampNeg ((gI w 74 (l2).toNatClampNeg)))) 74 (l2).toNatClampNeg l1)) 71 (l1).toNatClampNeg l3))) rfl).trans ?_
  refine (val_gf (w := (sI ((sI ((sI w 75 (l1).toNatClampNeg ((gI w 74 (l2).toNatClampNeg)))) 74 (l2).toNatClampNeg l1)) 71 (l1).toNatClampNeg l3)) rfl (hW.k 67 (Nat.le_of_ble_eq_true rfl) (Nat.le_of_ble_eq_true rfl)) (fvR (hW.r 67 5 72 rfl))).trans ?_
  show val (158, d, 93, [some (.ref 67), some (.int l1), some (.int l2), some (.int l3), some (.int l4)], [.ref 72], (sI ((sI ((sI w 75 (l1).toNatClampNeg ((gI w 74 (l2).toNatClampNeg)))) 74 (l2).toNatClampNeg l1)) 71 (l1).toNatClampNeg l3)) = _
  refine (val_g (c2 := (158, d, 94, [some (.ref 67), some (.int l1), some (.int l2), some (.int l3), some (.int l4)], [.int l1, .ref 72], (sI ((sI ((sI w 75 (l1).toNatClampNeg ((gI w 74 (l2).toNatClampNeg)))) 74 (l2).toNatClampNeg l1)) 71 (l1).toNatClampNeg l3))) rfl).trans ?_
  refine (val_g (c2 := (158, d, 95, [some (.ref 67), some (.int l1), some (.int l2), some (.int l3), some (.int l4)], [.int l3, .int l1, .ref 72], (sI ((sI ((sI w 75 (l1).toNatClampNeg ((gI w 74 (l2).toNatClampNeg)))) 74 (l2).toNatClampNeg l1)) 71 (l1).toNatClampNeg l3))) rfl).trans ?_
  by_cases hc818 : l3 ≤ 0
  · refine ((val_if_le rfl).trans (if_pos hc818)).trans ?_
    show val (158, d, 109, [some (.ref 67), some (.int l1), some (.int l2), some (.int l3), some (.int l4)], [.int l1, .ref 72], (sI ((sI ((sI w 75 (l1).toNatClampNeg ((gI w 74 (l2).toNatClampNeg)))) 74 (l2).toNatClampNeg l1)) 71 (l1).toNatClampNeg l3)) = _
    refine Eq.trans ?_ (if_pos hc818).symm
    refine (val_g (c2 := (158, d, 110, [some (.ref 67), some (.int l1), some (.int l2), some (.int l3), some (.int l4)], [.int 0, .int l1, .ref 72], (sI ((sI ((sI w 75 (l1).toNatClampNeg ((gI w 74 (l2).toNatClampNeg)))) 74 (l2).toNatClampNeg l1)) 71 (l1).toNatClampNeg l3))) rfl).trans ?_
    rfl
  · refine ((val_if_le rfl).trans (if_neg hc818)).trans ?_
    show val (158, d, 98, [some (.ref 67), some (.int l1), some (.int l2), some (.int l3), some (.int l4)], [.int l1, .ref 72], (sI ((sI ((sI w 75 (l1).toNatClampNeg ((gI w 74 (l2).toNatClampNeg)))) 74 (l2).toNatClampNeg l1)) 71 (l1).toNatClampNeg l3)) = _
    refine Eq.trans ?_ (if_neg hc818).symm
    refine (val_g (c2 := (158, d, 99, [some (.ref 67), some (.int l1), some (.int l2), some (.int l3), some (.int l4)], [.ref 67, .int l1, .ref 72], (sI ((sI ((sI w 75 (l1).toNatClampNeg ((gI w 74 (l2).toNatClampNeg)))) 74 (l2).toNatClampNeg l1)) 71 (l1).toNatClampNeg l3))) rfl).trans ?_
    refine (val_gf (w := (sI ((sI ((sI w 75 (l1).toNatClampNeg ((gI w 74 (l2).toNatClampNeg)))) 74 (l2).toNatClampNeg l1)) 71 (l1).toNatClampNeg l3)) rfl (hW.k 67 (Nat.le_of_ble_eq_true rfl) (Nat.le_of_ble_eq_true rfl)) (fvR (hW.r 67 5 72 rfl))).trans ?_
    show val (158, d, 102, [some (.ref 67), some (.int l1), some (.int l2), some (.int l3), some (.int l4)], [.ref 72, .int l1, .ref 72], (sI ((sI ((sI w 75 (l1).toNatClampNeg ((gI w 74 (l2).toNatClampNeg)))) 74 (l2).toNatClampNeg l1)) 71 (l1).toNatClampNeg l3)) = _
    refine (val_g (c2 := (158, d, 103, [some (.ref 67), some (.int l1), some (.int l2), some (.int l3), some (.int l4)], [.int l3, .ref 72, .int l1, .ref 72], (sI ((sI ((sI w 75 (l1).toNatClampNeg ((gI w 74 (l2).toNatClampNeg)))) 74 (l2).toNatClampNeg l1)) 71 (l1).toNatClampNeg l3))) rfl).trans ?_
    refine (val_ial (w := (sI ((sI ((sI w 75 (l1).toNatClampNeg ((gI w 74 (l2).toNatClampNeg)))) 74 (l2).toNatClampNeg l1)) 71 (l1).toNatClampNeg l3)) rfl (hW.k 72 (Nat.le_of_ble_eq_true rfl) (Nat.le_of_ble_eq_true rfl)) rfl (hy3 hc818)).trans ?_
    show val (158, d, 104, [some (.ref 67), some (.int l1), some (.int l2), some (.int l3), some (.int l4)], [.int (gI ((sI ((sI ((sI w 75 (l1).toNatClampNeg ((gI w 74 (l2).toNatClampNeg)))) 74 (l2).toNatClampNeg l1)) 71 (l1).toNatClampNeg l3)) 72 (l3).toNatClampNeg), .int l1, .ref 72], (sI ((sI ((sI w 75 (l1).toNatClampNeg ((gI w 74 (l2).toNatClampNeg)))) 74 (l2).toNatClampNeg l1)) 71 (l1).toNatClampNeg l3)) = _
    refine (val_g (c2 := (158, d, 105, [some (.ref 67), some (.int l1), some (.int l2), some (.int l3), some (.int l4)], [.int 1, .int (gI ((sI ((sI ((sI w 75 (l1).toNatClampNeg ((gI w 74 (l2).toNatClampNeg)))) 74 (l2).toNatClampNeg l1)) 71 (l1).toNatClampNeg l3)) 72 (l3).toNatClampNeg), .int l1, .ref 72], (sI ((sI ((sI w 75 (l1).toNatClampNeg ((gI w 74 (l2).toNatClampNeg)))) 74 (l2).toNatClampNeg l1)) 71 (l1).toNatClampNeg l3))) rfl).trans ?_
    refine (val_g (c2 := (158, d, 106, [some (.ref 67), some (.int l1), some (.int l2), some (.int l3), some (.int l4)], [.int ((gI ((sI ((sI ((sI w 75 (l1).toNatClampNeg ((gI w 74 (l2).toNatClampNeg)))) 74 (l2).toNatClampNeg l1)) 71 (l1).toNatClampNeg l3)) 72 (l3).toNatClampNeg) + 1), .int l1, .ref 72], (sI ((sI ((sI w 75 (l1).toNatClampNeg ((gI w 74 (l2).toNatClampNeg)))) 74 (l2).toNatClampNeg l1)) 71 (l1).toNatClampNeg l3))) rfl).trans ?_
    refine (val_g (c2 := (158, d, 110, [some (.ref 67), some (.int l1), some (.int l2), some (.int l3), some (.int l4)], [.int ((gI ((sI ((sI ((sI w 75 (l1).toNatClampNeg ((gI w 74 (l2).toNatClampNeg)))) 74 (l2).toNatClampNeg l1)) 71 (l1).toNatClampNeg l3)) 72 (l3).toNatClampNeg) + 1), .int l1, .ref 72], (sI ((sI ((sI w 75 (l1).toNatClampNeg ((gI w 74 (l2).toNatClampNeg)))) 74 (l2).toNatClampNeg l1)) 71 (l1).toNatClampNeg l3))) rfl).trans ?_
    rfl
theorem tr_158_110 (d : Nat) (w : Wd) (hW : Fix w) (l1 : Int32) (l2 : Int32) (l3 : Int32) (l4 : Int32) (s0 : Int32) (s1 : Int32)    (hy1 : inB s1 2001 = true) (hy2 : inB l1 2001 = true) (hy3 : (¬ (gI ((sI w 72 (s1).toNatClampNeg s0)) 72 (l1).toNatClampNeg) = 0) → (¬ (9 < (gI ((sI w 72 (s1).toNatClampNeg s0)) 72 (l1).toNatClampNeg))) → inB ((gI ((sI w 72 (s1).toNatClampNeg s0)) 72 (l1).toNatClampNeg)) 10 = true) (hy4 : (¬ (gI ((sI w 72 (s1).toNatClampNeg s0)) 72 (l1).toNatClampNeg) = 0) → (¬ (9 < (gI ((sI w 72 (s1).toNatClampNeg s0)) 72 (l1).toNatClampNeg))) → (¬ (¬ (gI ((sI w 72 (s1).toNatClampNeg s0)) 73 ((gI ((sI w 72 (s1).toNatClampNeg s0)) 72 (l1).toNatClampNeg)).toNatClampNeg) = (-9))) → inB ((gI ((sI w 72 (s1).toNatClampNeg s0)) 72 (l1).toNatClampNeg)) 10 = true) : val (158, d, 110, [some (.ref 67), some (.int l1), some (.int l2), some (.int l3), some (.int l4)], [.int s0, .int s1, .ref 72], w) = (if ¬ (gI ((sI w 72 (s1).toNatClampNeg s0)) 72 (l1).toNatClampNeg) = 0 then (if 9 < (gI ((sI w 72 (s1).toNatClampNeg s0)) 72 (l1).toNatClampNeg) then val (158, d, 164, [some (.ref 67), some (.int l1), some (.int l2), some (.int l3), some (.int (gI ((sI w 72 (s1).toNatClampNeg s0)) 72 (l1).toNatClampNeg))], [], (sI w 72 (s1).toNatClampNeg s0)) else (if ¬ (gI ((sI w 72 (s1).toNatClampNeg s0)) 73 ((gI ((sI w 72 (s1).toNatClampNeg s0)) 72 (l1).toNatClampNeg)).toNatClampNeg) = (-9) then val (158, d, 164, [some (.ref 67), some (.int l1), some (.int l2), some (.int l3), some (.int (gI ((sI w 72 (s1).toNatClampNeg s0)) 72 (l1).toNatClampNeg))], [], (sI w 72 (s1).toNatClampNeg s0)) else val (158, d, 164, [some (.ref 67), some (.int l1), some (.int l2), some (.int l3), some (.int (gI ((sI w 72 (s1).toNatClampNeg s0)) 72 (l1).toNatClampNeg))], [], (sI ((sI w 72 (s1).toNatClampNeg s0)) 73 ((gI ((sI w 72 (s1).toNatClampNeg s0)) 72 (l1).toNatClampNeg)).toNatClampNeg l1)))) else val (158, d, 164, [some (.ref 67), some (.int l1), some (.int l2), some (.int l3), some (.int (gI ((sI w 72 (s1).toNatClampNeg s0)) 72 (l1).toNatClampNeg))], [], (sI ((sI w 72 (s1).toNatClampNeg s0)) 67 12 (((gI ((sI w 72 (s1).toNatClampNeg s0)) 67 12) + 1))))) := by
  refine (val_ias rfl (hW.k 72 (Nat.le_of_ble_eq_true rfl) (Nat.le_of_ble_eq_true rfl)) hy1).trans ?_
  show val (158, d, 111, [some (.ref 67), some (.int l1), some (.int l2), some (.int l3), some (.int l4)], [], (sI w 72 (s1).toNatClampNeg s0)) = _
  refine (val_g (c2 := (158, d, 112, [some (.ref 67), some (.int l1), some (.int l2), some (.int l3), some (.int l4)], [.ref 67], (sI w 72 (s1).toNatClampNeg s0))) rfl).trans ?_
  refine (val_gf (w := (sI w 72 (s1).toNatClampNeg s0)) rfl (hW.k 67 (Nat.le_of_ble_eq_true rfl) (Nat.le_of_ble_eq_true rfl)) (fvR (hW.r 67 5 72 rfl))).trans ?_
  show val (158, d, 115, [some (.ref 67), some (.int l1), some (.int l2), some (.int l3), some (.int l4)], [.ref 72], (sI w 72 (s1).toNatClampNeg s0)) = _
  refine (val_g (c2 := (158, d, 116, [some (.ref 67), some (.int l1), some (.int l2), some (.int l3), some (.int l4)], [.int l1, .ref 72], (sI w 72 (s1).toNatClampNeg s0))) rfl).trans ?_
  refine (val_ial (w := (sI w 72 (s1).toNatClampNeg s0)) rfl (hW.k 72 (Nat.le_of_ble_eq_true rfl) (Nat.le_of_ble_eq_true rfl)) rfl hy2).trans ?_
  show val (158, d, 117, [some (.ref 67), some (.int l1), some (.int l2), some (.int l3), some (.int l4)], [.int (gI ((sI w 72 (s1).toNatClampNeg s0)) 72 (l1).toNatClampNeg)], (sI w 72 (s1).toNatClampNeg s0)) = _
  refine (val_g (c2 := (158, d, 119, [some (.ref 67), some (.int l1), some (.int l2), some (.int l3), some (.int (gI ((sI w 72 (s1).toNatClampNeg s0)) 72 (l1).toNatClampNeg))], [], (sI w 72 (s1).toNatClampNeg s0))) rfl).trans ?_
  refine (val_g (c2 := (158, d, 121, [some (.ref 67), some (.int l1), some (.int l2), some (.int l3), some (.int (gI ((sI w 72 (s1).toNatClampNeg s0)) 72 (l1).toNatClampNeg))], [.int (gI ((sI w 72 (s1).toNatClampNeg s0)) 72 (l1).toNatClampNeg)], (sI w 72 (s1).toNatClampNeg s0))) rfl).trans ?_
  by_cases hc819 : ¬ (gI ((sI w 72 (s1).toNatClampNeg s0)) 72 (l1).toNatClampNeg) = 0
  · refine ((val_if_ne rfl).trans (if_pos hc819)).trans ?_
    show val (158, d, 137, [some (.ref 67), some (.int l1), some (.int l2), some (.int l3), some (.int (gI ((sI w 72 (s1).toNatClampNeg s0)) 72 (l1).toNatClampNeg))], [], (sI w 72 (s1).toNatClampNeg s0)) = _
    refine Eq.trans ?_ (if_pos hc819).symm
    refine (val_g (c2 := (158, d, 139, [some (.ref 67), some (.int l1), some (.int l2), some (.int l3), some (.int (gI ((sI w 72 (s1).toNatClampNeg s0)) 72 (l1).toNatClampNeg))], [.int (gI ((sI w 72 (s1).toNatClampNeg s0)) 72 (l1).toNatClampNeg)], (sI w 72 (s1).toNatClampNeg s0))) rfl).trans ?_
    refine (val_g (c2 := (158, d, 141, [some (.ref 67), some (.int l1), some (.int l2), some (.int l3), some (.int (gI ((sI w 72 (s1).toNatClampNeg s0)) 72 (l1).toNatClampNeg))], [.int 9, .int (gI ((sI w 72 (s1).toNatClampNeg s0)) 72 (l1).toNatClampNeg)], (sI w 72 (s1).toNatClampNeg s0))) rfl).trans ?_
    by_cases hc820 : 9 < (gI ((sI w 72 (s1).toNatClampNeg s0)) 72 (l1).toNatClampNeg)
    · refine ((val_ic_gt rfl).trans (if_pos hc820)).trans ?_
      show val (158, d, 164, [some (.ref 67), some (.int l1), some (.int l2), some (.int l3), some (.int (gI ((sI w 72 (s1).toNatClampNeg s0)) 72 (l1).toNatClampNeg))], [], (sI w 72 (s1).toNatClampNeg s0)) = _
      refine Eq.trans ?_ (if_pos hc820).symm
      rfl
    · refine ((val_ic_gt rfl).trans (if_neg hc820)).trans ?_
      show val (158, d, 144, [some (.ref 67), some (.int l1), some (.int l2), some (.int l3), some (.int (gI ((sI w 72 (s1).toNatClampNeg s0)) 72 (l1).toNatClampNeg))], [], (sI w 72 (s1).toNatClampNeg s0)) = _
      refine Eq.trans ?_ (if_neg hc820).symm
      refine (val_g (c2 := (158, d, 145, [some (.ref 67), some (.int l1), some (.int l2), some (.int l3), some (.int (gI ((sI w 72 (s1).toNatClampNeg s0)) 72 (l1).toNatClampNeg))], [.ref 67], (sI w 72 (s1).toNatClampNeg s0))) rfl).trans ?_
      refine (val_gf (w := (sI w 72 (s1).toNatClampNeg s0)) rfl (hW.k 67 (Nat.le_of_ble_eq_true rfl) (Nat.le_of_ble_eq_true rfl)) (fvR (hW.r 67 6 73 rfl))).trans ?_
      show val (158, d, 148, [some (.ref 67), some (.int l1), some (.int l2), some (.int l3), some (.int (gI ((sI w 72 (s1).toNatClampNeg s0)) 72 (l1).toNatClampNeg))], [.ref 73], (sI w 72 (s1).toNatClampNeg s0)) = _
      refine (val_g (c2 := (158, d, 150, [some (.ref 67), some (.int l1), some (.int l2), some (.int l3), some (.int (gI ((sI w 72 (s1).toNatClampNeg s0)) 72 (l1).toNatClampNeg))], [.int (gI ((sI w 72 (s1).toNatClampNeg s0)) 72 (l1).toNatClampNeg), .ref 73], (sI w 72 (s1).toNatClampNeg s0))) rfl).trans ?_
      refine (val_ial (w := (sI w 72 (s1).toNatClampNeg s0)) rfl (hW.k 73 (Nat.le_of_ble_eq_true rfl) (Nat.le_of_ble_eq_true rfl)) rfl (hy3 hc819 hc820)).trans ?_
      show val (158, d, 151, [some (.ref 67), some (.int l1), some (.int l2), some (.int l3), some (.int (gI ((sI w 72 (s1).toNatClampNeg s0)) 72 (l1).toNatClampNeg))], [.int (gI ((sI w 72 (s1).toNatClampNeg s0)) 73 ((gI ((sI w 72 (s1).toNatClampNeg s0)) 72 (l1).toNatClampNeg)).toNatClampNeg)], (sI w 72 (s1).toNatClampNeg s0)) = _
      refine (val_g (c2 := (158, d, 153, [some (.ref 67), some (.int l1), some (.int l2), some (.int l3), some (.int (gI ((sI w 72 (s1).toNatClampNeg s0)) 72 (l1).toNatClampNeg))], [.int (-9), .int (gI ((sI w 72 (s1).toNatClampNeg s0)) 73 ((gI ((sI w 72 (s1).toNatClampNeg s0)) 72 (l1).toNatClampNeg)).toNatClampNeg)], (sI w 72 (s1).toNatClampNeg s0))) rfl).trans ?_
      by_cases hc821 : ¬ (gI ((sI w 72 (s1).toNatClampNeg s0)) 73 ((gI ((sI w 72 (s1).toNatClampNeg s0)) 72 (l1).toNatClampNeg)).toNatClampNeg) = (-9)
      · refine ((val_ic_ne rfl).trans (if_pos hc821)).trans ?_
        show val (158, d, 164, [some (.ref 67), some (.int l1), some (.int l2), some (.int l3), some (.int (gI ((sI w 72 (s1).toNatClampNeg s0)) 72 (l1).toNatClampNeg))], [], (sI w 72 (s1).toNatClampNeg s0)) = _
        refine Eq.trans ?_ (if_pos hc821).symm
        rfl
      · refine ((val_ic_ne rfl).trans (if_neg hc821)).trans ?_
        show val (158, d, 156, [some (.ref 67), some (.int l1), some (.int l2), some (.int l3), some (.int (gI ((sI w 72 (s1).toNatClampNeg s0)) 72 (l1).toNatClampNeg))], [], (sI w 72 (s1).toNatClampNeg s0)) = _
        refine Eq.trans ?_ (if_neg hc821).symm
        refine (val_g (c2 := (158, d, 157, [some (.ref 67), some (.int l1), some (.int l2), some (.int l3), some (.int (gI ((sI w 72 (s1).toNatClampNeg s0)) 72 (l1).toNatClampNeg))], [.ref 67], (sI w 72 (s1).toNatClampNeg s0))) rfl).trans ?_
        refine (val_gf (w := (sI w 72 (s1).toNatClampNeg s0)) rfl (hW.k 67 (Nat.le_of_ble_eq_true rfl) (Nat.le_of_ble_eq_true rfl)) (fvR (hW.r 67 6 73 rfl))).trans ?_
        show val (158, d, 160, [some (.ref 67), some (.int l1), some (.int l2), some (.int l3), some (.int (gI ((sI w 72 (s1).toNatClampNeg s0)) 72 (l1).toNatClampNeg))], [.ref 73], (sI w 72 (s1).toNatClampNeg s0)) = _
        refine (val_g (c2 := (158, d, 162, [some (.ref 67), some (.int l1), some (.int l2), some (.int l3), some (.int (gI ((sI w 72 (s1).toNatClampNeg s0)) 72 (l1).toNatClampNeg))], [.int (gI ((sI w 72 (s1).toNatClampNeg s0)) 72 (l1).toNatClampNeg), .ref 73], (sI w 72 (s1).toNatClampNeg s0))) rfl).trans ?_
        refine (val_g (c2 := (158, d, 163, [some (.ref 67), some (.int l1), some (.int l2), some (.int l3), some (.int (gI ((sI w 72 (s1).toNatClampNeg s0)) 72 (l1).toNatClampNeg))], [.int l1, .int (gI ((sI w 72 (s1).toNatClampNeg s0)) 72 (l1).toNatClampNeg), .ref 73], (sI w 72 (s1).toNatClampNeg s0))) rfl).trans ?_
        refine (val_ias (w := (sI w 72 (s1).toNatClampNeg s0)) rfl (hW.k 73 (Nat.le_of_ble_eq_true rfl) (Nat.le_of_ble_eq_true rfl)) (hy4 hc819 hc820 hc821)).trans ?_
        show val (158, d, 164, [some (.ref 67), some (.int l1), some (.int l2), some (.int l3), some (.int (gI ((sI w 72 (s1).toNatClampNeg s0)) 72 (l1).toNatClampNeg))], [], (sI ((sI w 72 (s1).toNatClampNeg s0)) 73 ((gI ((sI w 72 (s1).toNatClampNeg s0)) 72 (l1).toNatClampNeg)).toNatClampNeg l1)) = _
        rfl
  · refine ((val_if_ne rfl).trans (if_neg hc819)).trans ?_
    show val (158, d, 124, [some (.ref 67), some (.int l1), some (.int l2), some (.int l3), some (.int (gI ((sI w 72 (s1).toNatClampNeg s0)) 72 (l1).toNatClampNeg))], [], (sI w 72 (s1).toNatClampNeg s0)) = _
    refine Eq.trans ?_ (if_neg hc819).symm
    refine (val_g (c2 := (158, d, 125, [some (.ref 67), some (.int l1), some (.int l2), some (.int l3), some (.int (gI ((sI w 72 (s1).toNatClampNeg s0)) 72 (l1).toNatClampNeg))], [.ref 67], (sI w 72 (s1).toNatClampNeg s0))) rfl).trans ?_
    refine (val_g (c2 := (158, d, 126, [some (.ref 67), some (.int l1), some (.int l2), some (.int l3), some (.int (gI ((sI w 72 (s1).toNatClampNeg s0)) 72 (l1).toNatClampNeg))], [.ref 67, .ref 67], (sI w 72 (s1).toNatClampNeg s0))) rfl).trans ?_
    refine (val_gf (w := (sI w 72 (s1).toNatClampNeg s0)) rfl (hW.k 67 (Nat.le_of_ble_eq_true rfl) (Nat.le_of_ble_eq_true rfl)) rfl).trans ?_
    show val (158, d, 129, [some (.ref 67), some (.int l1), some (.int l2), some (.int l3), some (.int (gI ((sI w 72 (s1).toNatClampNeg s0)) 72 (l1).toNatClampNeg))], [.int (gI ((sI w 72 (s1).toNatClampNeg s0)) 67 12), .ref 67], (sI w 72 (s1).toNatClampNeg s0)) = _
    refine (val_g (c2 := (158, d, 130, [some (.ref 67), some (.int l1), some (.int l2), some (.int l3), some (.int (gI ((sI w 72 (s1).toNatClampNeg s0)) 72 (l1).toNatClampNeg))], [.int 1, .int (gI ((sI w 72 (s1).toNatClampNeg s0)) 67 12), .ref 67], (sI w 72 (s1).toNatClampNeg s0))) rfl).trans ?_
    refine (val_g (c2 := (158, d, 131, [some (.ref 67), some (.int l1), some (.int l2), some (.int l3), some (.int (gI ((sI w 72 (s1).toNatClampNeg s0)) 72 (l1).toNatClampNeg))], [.int ((gI ((sI w 72 (s1).toNatClampNeg s0)) 67 12) + 1), .ref 67], (sI w 72 (s1).toNatClampNeg s0))) rfl).trans ?_
    refine (val_pf (w := (sI w 72 (s1).toNatClampNeg s0)) rfl (hW.k 67 (Nat.le_of_ble_eq_true rfl) (Nat.le_of_ble_eq_true rfl)) rfl).trans ?_
    show val (158, d, 134, [some (.ref 67), some (.int l1), some (.int l2), some (.int l3), some (.int (gI ((sI w 72 (s1).toNatClampNeg s0)) 72 (l1).toNatClampNeg))], [], (sI ((sI w 72 (s1).toNatClampNeg s0)) 67 12 (((gI ((sI w 72 (s1).toNatClampNeg s0)) 67 12) + 1)))) = _
    refine (val_g (c2 := (158, d, 164, [some (.ref 67), some (.int l1), some (.int l2), some (.int l3), some (.int (gI ((sI w 72 (s1).toNatClampNeg s0)) 72 (l1).toNatClampNeg))], [], (sI ((sI w 72 (s1).toNatClampNeg s0)) 67 12 (((gI ((sI w 72 (s1).toNatClampNeg s0)) 67 12) + 1))))) rfl).trans ?_
    rfl
theorem tr_158_164 (d : Nat) (w : Wd) (l1 : Int32) (l2 : Int32) (l3 : Int32) (l4 : Int32)     : val (158, d, 164, [some (.ref 67), some (.int l1), some (.int l2), some (.int l3), some (.int l4)], [], w) = some (none, w) := by
  exact val_r rfl
/-- BelfryHouse$Shelf.<init>()V -/
theorem tr_159 (d : Nat) (w : Wd)      : val (159, d + 1, 0, [some (.ref 96)], [], w) = val (159, d + 1, 7, [some (.ref 96)], [.int 8, .ref 96], w) := by
  refine (val_g (c2 := (159, d + 1, 1, [some (.ref 96)], [.ref 96], w)) rfl).trans ?_
  refine (val_g (c2 := (159, d + 1, 4, [some (.ref 96)], [], w)) rfl).trans ?_
  refine (val_g (c2 := (159, d + 1, 5, [some (.ref 96)], [.ref 96], w)) rfl).trans ?_
  refine (val_g (c2 := (159, d + 1, 7, [some (.ref 96)], [.int 8, .ref 96], w)) rfl).trans ?_
  rfl
theorem tr_159_12 (d : Nat) (w : Wd)      : val (159, d + 1, 12, [some (.ref 96)], [], w) = val (159, d + 1, 15, [some (.ref 96)], [.int 8, .ref 96], w) := by
  refine (val_g (c2 := (159, d + 1, 13, [some (.ref 96)], [.ref 96], w)) rfl).trans ?_
  refine (val_g (c2 := (159, d + 1, 15, [some (.ref 96)], [.int 8, .ref 96], w)) rfl).trans ?_
  rfl
theorem tr_159_20 (d : Nat) (w : Wd)      : val (159, d + 1, 20, [some (.ref 96)], [], w) = val (159, d + 1, 25, [some (.ref 96)], [.int 64, .int 8, .ref 96], w) := by
  refine (val_g (c2 := (159, d + 1, 21, [some (.ref 96)], [.ref 96], w)) rfl).trans ?_
  refine (val_g (c2 := (159, d + 1, 23, [some (.ref 96)], [.int 8, .ref 96], w)) rfl).trans ?_
  refine (val_g (c2 := (159, d + 1, 25, [some (.ref 96)], [.int 64, .int 8, .ref 96], w)) rfl).trans ?_
  rfl
/-- BelfryHouse$Shelf.sweep()V -/
theorem tr_160 (d : Nat) (w : Wd) (hW : Fix w)      : val (160, d + 1, 0, [some (.ref 96)], [], w) = val (160, d + 1, 5, [some (.ref 96)], [.int (-1), .ref 97], w) := by
  refine (val_g (c2 := (160, d + 1, 1, [some (.ref 96)], [.ref 96], w)) rfl).trans ?_
  refine (val_gf rfl (hW.k 96 (Nat.le_of_ble_eq_true rfl) (Nat.le_of_ble_eq_true rfl)) (fvR (hW.r 96 0 97 rfl))).trans ?_
  show val (160, d + 1, 4, [some (.ref 96)], [.ref 97], w) = _
  refine (val_g (c2 := (160, d + 1, 5, [some (.ref 96)], [.int (-1), .ref 97], w)) rfl).trans ?_
  rfl
theorem tr_160_8 (d : Nat) (w : Wd)      : val (160, d + 1, 8, [some (.ref 96)], [], w) = some (none, w) := by
  exact val_r rfl
/-- BelfryHouse$Shelf.lay(III)V -/
theorem tr_161 (d : Nat) (w : Wd) (hW : Fix w) (x0 : Int32) (x1 : Int32) (x2 : Int32)    (hy1 : inB x0 8 = true) : val (161, d + 1, 0, [some (.ref 96), some (.int x0), some (.int x1), some (.int x2)], [], w) = val (161, d + 1, 19, [some (.ref 96), some (.int x0), some (.int x1), some (.int x2)], [.int x0, .ref 99], (sI ((sI w 97 (x0).toNatClampNeg x1)) 98 (x0).toNatClampNeg x2)) := by
  refine (val_g (c2 := (161, d + 1, 1, [some (.ref 96), some (.int x0), some (.int x1), some (.int x2)], [.ref 96], w)) rfl).trans ?_
  refine (val_gf rfl (hW.k 96 (Nat.le_of_ble_eq_true rfl) (Nat.le_of_ble_eq_true rfl)) (fvR (hW.r 96 0 97 rfl))).trans ?_
  show val (161, d + 1, 4, [some (.ref 96), some (.int x0), some (.int x1), some (.int x2)], [.ref 97], w) = _
  refine (val_g (c2 := (161, d + 1, 5, [some (.ref 96), some (.int x0), some (.int x1), some (.int x2)], [.int x0, .ref 97], w)) rfl).trans ?_
  refine (val_g (c2 := (161, d + 1, 6, [some (.ref 96), some (.int x0), some (.int x1), some (.int x2)], [.int x1, .int x0, .ref 97], w)) rfl).trans ?_
  refine (val_ias rfl (hW.k 97 (Nat.le_of_ble_eq_true rfl) (Nat.le_of_ble_eq_true rfl)) hy1).trans ?_
  show val (161, d + 1, 7, [some (.ref 96), some (.int x0), some (.int x1), some (.int x2)], [], (sI w 97 (x0).toNatClampNeg x1)) = _
  refine (val_g (c2 := (161, d + 1, 8, [some (.ref 96), some (.int x0), some (.int x1), some (.int x2)], [.ref 96], (sI w 97 (x0).toNatClampNeg x1))) rfl).trans ?_
  refine (val_gf (w := (sI w 97 (x0).toNatClampNeg x1)) rfl (hW.k 96 (Nat.le_of_ble_eq_true rfl) (Nat.le_of_ble_eq_true rfl)) (fvR (hW.r 96 1 98 rfl))).trans ?_
  show val (161, d + 1, 11, [some (.ref 96), some (.int x0), some (.int x1), some (.int x2)], [.ref 98], (sI w 97 (x0).toNatClampNeg x1)) = _
  refine (val_g (c2 := (161, d + 1, 12, [some (.ref 96), some (.int x0), some (.int x1), some (.int x2)], [.int x0, .ref 98], (sI w 97 (x0).toNatClampNeg x1))) rfl).trans ?_
  refine (val_g (c2 := (161, d + 1, 13, [some (.ref 96), some (.int x0), some (.int x1), some (.int x2)], [.int x2, .int x0, .ref 98], (sI w 97 (x0).toNatClampNeg x1))) rfl).trans ?_
  refine (val_ias (w := (sI w 97 (x0).toNatClampNeg x1)) rfl (hW.k 98 (Nat.le_of_ble_eq_true rfl) (Nat.le_of_ble_eq_true rfl)) hy1).trans ?_
  show val (161, d + 1, 14, [some (.ref 96), some (.int x0), some (.int x1), some (.int x2)], [], (sI ((sI w 97 (x0).toNatClampNeg x1)) 98 (x0).toNatClampNeg x2)) = _
  refine (val_g (c2 := (161, d + 1, 15, [some (.ref 96), some (.int x0), some (.int x1), some (.int x2)], [.ref 96], (sI ((sI w 97 (x0).toNatClampNeg x1)) 98 (x0).toNatClampNeg x2))) rfl).trans ?_
  refine (val_gf (w := (sI ((sI w 97 (x0).toNatClampNeg x1)) 98 (x0).toNatClampNeg x2)) rfl (hW.k 96 (Nat.le_of_ble_eq_true rfl) (Nat.le_of_ble_eq_true rfl)) (fvR (hW.r 96 2 99 rfl))).trans ?_
  show val (161, d + 1, 18, [some (.ref 96), some (.int x0), some (.int x1), some (.int x2)], [.ref 99], (sI ((sI w 97 (x0).toNatClampNeg x1)) 98 (x0).toNatClampNeg x2)) = _
  refine (val_g (c2 := (161, d + 1, 19, [some (.ref 96), some (.int x0), some (.int x1), some (.int x2)], [.int x0, .ref 99], (sI ((sI w 97 (x0).toNatClampNeg x1)) 98 (x0).toNatClampNeg x2))) rfl).trans ?_
  rfl
theorem tr_161_20 (d : Nat) (w : Wd) (l1 : Int32) (l2 : Int32) (l3 : Int32) (s0 : Nat)     : val (161, d + 1, 20, [some (.ref 96), some (.int l1), some (.int l2), some (.int l3)], [.ref s0], w) = val (161, d + 1, 21, [some (.ref 96), some (.int l1), some (.int l2), some (.int l3)], [.long 0, .ref s0], w) := by
  refine (val_g (c2 := (161, d + 1, 21, [some (.ref 96), some (.int l1), some (.int l2), some (.int l3)], [.long 0, .ref s0], w)) rfl).trans ?_
  rfl
theorem tr_161_24 (d : Nat) (w : Wd) (l1 : Int32) (l2 : Int32) (l3 : Int32)     : val (161, d + 1, 24, [some (.ref 96), some (.int l1), some (.int l2), some (.int l3)], [], w) = some (none, w) := by
  exact val_r rfl
/-- BelfryHouse$Shelf.holdsNothing(I)Z -/
theorem tr_162 (d : Nat) (w : Wd) (hW : Fix w) (x0 : Int32)    (hy1 : inB x0 8 = true) : val (162, d, 0, [some (.ref 96), some (.int x0)], [], w) = (if ¬ (gI w 97 (x0).toNatClampNeg) = (-1) then some (some (.int 0), w) else some (some (.int 1), w)) := by
  refine (val_g (c2 := (162, d, 1, [some (.ref 96), some (.int x0)], [.ref 96], w)) rfl).trans ?_
  refine (val_gf rfl (hW.k 96 (Nat.le_of_ble_eq_true rfl) (Nat.le_of_ble_eq_true rfl)) (fvR (hW.r 96 0 97 rfl))).trans ?_
  show val (162, d, 4, [some (.ref 96), some (.int x0)], [.ref 97], w) = _
  refine (val_g (c2 := (162, d, 5, [some (.ref 96), some (.int x0)], [.int x0, .ref 97], w)) rfl).trans ?_
  refine (val_ial rfl (hW.k 97 (Nat.le_of_ble_eq_true rfl) (Nat.le_of_ble_eq_true rfl)) rfl hy1).trans ?_
  show val (162, d, 6, [some (.ref 96), some (.int x0)], [.int (gI w 97 (x0).toNatClampNeg)], w) = _
  refine (val_g (c2 := (162, d, 7, [some (.ref 96), some (.int x0)], [.int (-1), .int (gI w 97 (x0).toNatClampNeg)], w)) rfl).trans ?_
  by_cases hc823 : ¬ (gI w 97 (x0).toNatClampNeg) = (-1)
  · refine ((val_ic_ne rfl).trans (if_pos hc823)).trans ?_
    show val (162, d, 14, [some (.ref 96), some (.int x0)], [], w) = _
    refine Eq.trans ?_ (if_pos hc823).symm
    refine (val_g (c2 := (162, d, 15, [some (.ref 96), some (.int x0)], [.int 0], w)) rfl).trans ?_
    exact val_r rfl
  · refine ((val_ic_ne rfl).trans (if_neg hc823)).trans ?_
    show val (162, d, 10, [some (.ref 96), some (.int x0)], [], w) = _
    refine Eq.trans ?_ (if_neg hc823).symm
    refine (val_g (c2 := (162, d, 11, [some (.ref 96), some (.int x0)], [.int 1], w)) rfl).trans ?_
    refine (val_g (c2 := (162, d, 15, [some (.ref 96), some (.int x0)], [.int 1], w)) rfl).trans ?_
    exact val_r rfl
/-- BelfryHouse$Shelf.takes(IJ)Z -/
theorem tr_166 (d : Nat) (w : Wd) (hW : Fix w) (x0 : Int32) (x1 : Int64)    (hy1 : inB x0 8 = true) : val (166, d, 0, [some (.ref 96), some (.int x0), some (.long x1), none], [], w) = (if ¬ (gI w 97 (x0).toNatClampNeg) = 4 then some (some (.int 1), w) else (if (cmpL x1 0) = 0 then some (some (.int 1), w) else (if (cmpL ((x1 &&& 1)) 0) = 0 then some (some (.int 0), w) else some (some (.int 1), w)))) := by
  refine (val_g (c2 := (166, d, 1, [some (.ref 96), some (.int x0), some (.long x1), none], [.ref 96], w)) rfl).trans ?_
  refine (val_gf rfl (hW.k 96 (Nat.le_of_ble_eq_true rfl) (Nat.le_of_ble_eq_true rfl)) (fvR (hW.r 96 0 97 rfl))).trans ?_
  show val (166, d, 4, [some (.ref 96), some (.int x0), some (.long x1), none], [.ref 97], w) = _
  refine (val_g (c2 := (166, d, 5, [some (.ref 96), some (.int x0), some (.long x1), none], [.int x0, .ref 97], w)) rfl).trans ?_
  refine (val_ial rfl (hW.k 97 (Nat.le_of_ble_eq_true rfl) (Nat.le_of_ble_eq_true rfl)) rfl hy1).trans ?_
  show val (166, d, 6, [some (.ref 96), some (.int x0), some (.long x1), none], [.int (gI w 97 (x0).toNatClampNeg)], w) = _
  refine (val_g (c2 := (166, d, 7, [some (.ref 96), some (.int x0), some (.long x1), none], [.int 4, .int (gI w 97 (x0).toNatClampNeg)], w)) rfl).trans ?_
  by_cases hc827 : ¬ (gI w 97 (x0).toNatClampNeg) = 4
  · refine ((val_ic_ne rfl).trans (if_pos hc827)).trans ?_
    show val (166, d, 24, [some (.ref 96), some (.int x0), some (.long x1), none], [], w) = _
    refine Eq.trans ?_ (if_pos hc827).symm
    refine (val_g (c2 := (166, d, 25, [some (.ref 96), some (.int x0), some (.long x1), none], [.int 1], w)) rfl).trans ?_
    refine (val_g (c2 := (166, d, 29, [some (.ref 96), some (.int x0), some (.long x1), none], [.int 1], w)) rfl).trans ?_
    exact val_r rfl
  · refine ((val_ic_ne rfl).trans (if_neg hc827)).trans ?_
    show val (166, d, 10, [some (.ref 96), some (.int x0), some (.long x1), none], [], w) = _
    refine Eq.trans ?_ (if_neg hc827).symm
    refine (val_g (c2 := (166, d, 11, [some (.ref 96), some (.int x0), some (.long x1), none], [.long x1], w)) rfl).trans ?_
    refine (val_g (c2 := (166, d, 12, [some (.ref 96), some (.int x0), some (.long x1), none], [.long 0, .long x1], w)) rfl).trans ?_
    refine (val_g (c2 := (166, d, 13, [some (.ref 96), some (.int x0), some (.long x1), none], [.int (cmpL x1 0)], w)) rfl).trans ?_
    by_cases hc828 : (cmpL x1 0) = 0
    · refine ((val_if_eq rfl).trans (if_pos hc828)).trans ?_
      show val (166, d, 24, [some (.ref 96), some (.int x0), some (.long x1), none], [], w) = _
      refine Eq.trans ?_ (if_pos hc828).symm
      refine (val_g (c2 := (166, d, 25, [some (.ref 96), some (.int x0), some (.long x1), none], [.int 1], w)) rfl).trans ?_
      refine (val_g (c2 := (166, d, 29, [some (.ref 96), some (.int x0), some (.long x1), none], [.int 1], w)) rfl).trans ?_
      exact val_r rfl
    · refine ((val_if_eq rfl).trans (if_neg hc828)).trans ?_
      show val (166, d, 16, [some (.ref 96), some (.int x0), some (.long x1), none], [], w) = _
      refine Eq.trans ?_ (if_neg hc828).symm
      refine (val_g (c2 := (166, d, 17, [some (.ref 96), some (.int x0), some (.long x1), none], [.long x1], w)) rfl).trans ?_
      refine (val_g (c2 := (166, d, 18, [some (.ref 96), some (.int x0), some (.long x1), none], [.long 1, .long x1], w)) rfl).trans ?_
      refine (val_g (c2 := (166, d, 19, [some (.ref 96), some (.int x0), some (.long x1), none], [.long (x1 &&& 1)], w)) rfl).trans ?_
      refine (val_g (c2 := (166, d, 20, [some (.ref 96), some (.int x0), some (.long x1), none], [.long 0, .long (x1 &&& 1)], w)) rfl).trans ?_
      refine (val_g (c2 := (166, d, 21, [some (.ref 96), some (.int x0), some (.long x1), none], [.int (cmpL ((x1 &&& 1)) 0)], w)) rfl).trans ?_
      by_cases hc829 : (cmpL ((x1 &&& 1)) 0) = 0
      · refine ((val_if_eq rfl).trans (if_pos hc829)).trans ?_
        show val (166, d, 28, [some (.ref 96), some (.int x0), some (.long x1), none], [], w) = _
        refine Eq.trans ?_ (if_pos hc829).symm
        refine (val_g (c2 := (166, d, 29, [some (.ref 96), some (.int x0), some (.long x1), none], [.int 0], w)) rfl).trans ?_
        exact val_r rfl
      · refine ((val_if_eq rfl).trans (if_neg hc829)).trans ?_
        show val (166, d, 24, [some (.ref 96), some (.int x0), some (.long x1), none], [], w) = _
        refine Eq.trans ?_ (if_neg hc829).symm
        refine (val_g (c2 := (166, d, 25, [some (.ref 96), some (.int x0), some (.long x1), none], [.int 1], w)) rfl).trans ?_
        refine (val_g (c2 := (166, d, 29, [some (.ref 96), some (.int x0), some (.long x1), none], [.int 1], w)) rfl).trans ?_
        exact val_r rfl
/-- BelfryHouse$Shelf.readsAs(II)Z -/
theorem tr_167 (d : Nat) (w : Wd) (hW : Fix w) (x0 : Int32) (x1 : Int32)    (hy1 : inB x0 8 = true) (hy2 : (¬ ((gI w 97 (x0).toNatClampNeg) = x1)) → inB x0 8 = true) : val (167, d, 0, [some (.ref 96), some (.int x0), some (.int x1)], [], w) = (if (gI w 97 (x0).toNatClampNeg) = x1 then some (some (.int 1), w) else (if ¬ (gI w 97 (x0).toNatClampNeg) = 4 then some (some (.int 0), w) else (if ¬ x1 = 3 then some (some (.int 0), w) else some (some (.int 1), w)))) := by
  refine (val_g (c2 := (167, d, 1, [some (.ref 96), some (.int x0), some (.int x1)], [.ref 96], w)) rfl).trans ?_
  refine (val_gf rfl (hW.k 96 (Nat.le_of_ble_eq_true rfl) (Nat.le_of_ble_eq_true rfl)) (fvR (hW.r 96 0 97 rfl))).trans ?_
  show val (167, d, 4, [some (.ref 96), some (.int x0), some (.int x1)], [.ref 97], w) = _
  refine (val_g (c2 := (167, d, 5, [some (.ref 96), some (.int x0), some (.int x1)], [.int x0, .ref 97], w)) rfl).trans ?_
  refine (val_ial rfl (hW.k 97 (Nat.le_of_ble_eq_true rfl) (Nat.le_of_ble_eq_true rfl)) rfl hy1).trans ?_
  show val (167, d, 6, [some (.ref 96), some (.int x0), some (.int x1)], [.int (gI w 97 (x0).toNatClampNeg)], w) = _
  refine (val_g (c2 := (167, d, 7, [some (.ref 96), some (.int x0), some (.int x1)], [.int x1, .int (gI w 97 (x0).toNatClampNeg)], w)) rfl).trans ?_
  by_cases hc833 : (gI w 97 (x0).toNatClampNeg) = x1
  · refine ((val_ic_eq rfl).trans (if_pos hc833)).trans ?_
    show val (167, d, 25, [some (.ref 96), some (.int x0), some (.int x1)], [], w) = _
    refine Eq.trans ?_ (if_pos hc833).symm
    refine (val_g (c2 := (167, d, 26, [some (.ref 96), some (.int x0), some (.int x1)], [.int 1], w)) rfl).trans ?_
    refine (val_g (c2 := (167, d, 30, [some (.ref 96), some (.int x0), some (.int x1)], [.int 1], w)) rfl).trans ?_
    exact val_r rfl
  · refine ((val_ic_eq rfl).trans (if_neg hc833)).trans ?_
    show val (167, d, 10, [some (.ref 96), some (.int x0), some (.int x1)], [], w) = _
    refine Eq.trans ?_ (if_neg hc833).symm
    refine (val_g (c2 := (167, d, 11, [some (.ref 96), some (.int x0), some (.int x1)], [.ref 96], w)) rfl).trans ?_
    refine (val_gf rfl (hW.k 96 (Nat.le_of_ble_eq_true rfl) (Nat.le_of_ble_eq_true rfl)) (fvR (hW.r 96 0 97 rfl))).trans ?_
    show val (167, d, 14, [some (.ref 96), some (.int x0), some (.int x1)], [.ref 97], w) = _
    refine (val_g (c2 := (167, d, 15, [some (.ref 96), some (.int x0), some (.int x1)], [.int x0, .ref 97], w)) rfl).trans ?_
    refine (val_ial rfl (hW.k 97 (Nat.le_of_ble_eq_true rfl) (Nat.le_of_ble_eq_true rfl)) rfl (hy2 hc833)).trans ?_
    show val (167, d, 16, [some (.ref 96), some (.int x0), some (.int x1)], [.int (gI w 97 (x0).toNatClampNeg)], w) = _
    refine (val_g (c2 := (167, d, 17, [some (.ref 96), some (.int x0), some (.int x1)], [.int 4, .int (gI w 97 (x0).toNatClampNeg)], w)) rfl).trans ?_
    by_cases hc834 : ¬ (gI w 97 (x0).toNatClampNeg) = 4
    · refine ((val_ic_ne rfl).trans (if_pos hc834)).trans ?_
      show val (167, d, 29, [some (.ref 96), some (.int x0), some (.int x1)], [], w) = _
      refine Eq.trans ?_ (if_pos hc834).symm
      refine (val_g (c2 := (167, d, 30, [some (.ref 96), some (.int x0), some (.int x1)], [.int 0], w)) rfl).trans ?_
      exact val_r rfl
    · refine ((val_ic_ne rfl).trans (if_neg hc834)).trans ?_
      show val (167, d, 20, [some (.ref 96), some (.int x0), some (.int x1)], [], w) = _
      refine Eq.trans ?_ (if_neg hc834).symm
      refine (val_g (c2 := (167, d, 21, [some (.ref 96), some (.int x0), some (.int x1)], [.int x1], w)) rfl).trans ?_
      refine (val_g (c2 := (167, d, 22, [some (.ref 96), some (.int x0), some (.int x1)], [.int 3, .int x1], w)) rfl).trans ?_
      by_cases hc835 : ¬ x1 = 3
      · refine ((val_ic_ne rfl).trans (if_pos hc835)).trans ?_
        show val (167, d, 29, [some (.ref 96), some (.int x0), some (.int x1)], [], w) = _
        refine Eq.trans ?_ (if_pos hc835).symm
        refine (val_g (c2 := (167, d, 30, [some (.ref 96), some (.int x0), some (.int x1)], [.int 0], w)) rfl).trans ?_
        exact val_r rfl
      · refine ((val_ic_ne rfl).trans (if_neg hc835)).trans ?_
        show val (167, d, 25, [some (.ref 96), some (.int x0), some (.int x1)], [], w) = _
        refine Eq.trans ?_ (if_neg hc835).symm
        refine (val_g (c2 := (167, d, 26, [some (.ref 96), some (.int x0), some (.int x1)], [.int 1], w)) rfl).trans ?_
        refine (val_g (c2 := (167, d, 30, [some (.ref 96), some (.int x0), some (.int x1)], [.int 1], w)) rfl).trans ?_
        exact val_r rfl
/-- BelfryHouse$Shelf.copyItems(IIIII)I -/
theorem tr_168 (d : Nat) (w : Wd) (x0 : Int32) (x1 : Int32) (x2 : Int32) (x3 : Int32) (x4 : Int32)     : val (168, d + 2, 0, [some (.ref 96), some (.int x0), some (.int x1), some (.int x2), some (.int x3), some (.int x4)], [], w) = val (168, d + 2, 2, [some (.ref 96), some (.int x0), some (.int x1), some (.int x2), some (.int x3), some (.int x4)], [.int x0, .ref 96], w) := by
  refine (val_g (c2 := (168, d + 2, 1, [some (.ref 96), some (.int x0), some (.int x1), some (.int x2), some (.int x3), some (.int x4)], [.ref 96], w)) rfl).trans ?_
  refine (val_g (c2 := (168, d + 2, 2, [some (.ref 96), some (.int x0), some (.int x1), some (.int x2), some (.int x3), some (.int x4)], [.int x0, .ref 96], w)) rfl).trans ?_
  rfl
theorem tr_168_5 (d : Nat) (w : Wd) (l1 : Int32) (l2 : Int32) (l3 : Int32) (l4 : Int32) (l5 : Int32) (s0 : Int32)     : val (168, d + 2, 5, [some (.ref 96), some (.int l1), some (.int l2), some (.int l3), some (.int l4), some (.int l5)], [.int s0], w) = (if ¬ s0 = 0 then some (some (.int (-4)), w) else val (168, d + 2, 10, [some (.ref 96), some (.int l1), some (.int l2), some (.int l3), some (.int l4), some (.int l5)], [.int l3, .ref 96], w)) := by
  by_cases hc853 : ¬ s0 = 0
  · refine ((val_if_ne rfl).trans (if_pos hc853)).trans ?_
    show val (168, d + 2, 16, [some (.ref 96), some (.int l1), some (.int l2), some (.int l3), some (.int l4), some (.int l5)], [], w) = _
    refine Eq.trans ?_ (if_pos hc853).symm
    refine (val_g (c2 := (168, d + 2, 18, [some (.ref 96), some (.int l1), some (.int l2), some (.int l3), some (.int l4), some (.int l5)], [.int (-4)], w)) rfl).trans ?_
    exact val_r rfl
  · refine ((val_if_ne rfl).trans (if_neg hc853)).trans ?_
    show val (168, d + 2, 8, [some (.ref 96), some (.int l1), some (.int l2), some (.int l3), some (.int l4), some (.int l5)], [], w) = _
    refine Eq.trans ?_ (if_neg hc853).symm
    refine (val_g (c2 := (168, d + 2, 9, [some (.ref 96), some (.int l1), some (.int l2), some (.int l3), some (.int l4), some (.int l5)], [.ref 96], w)) rfl).trans ?_
    refine (val_g (c2 := (168, d + 2, 10, [some (.ref 96), some (.int l1), some (.int l2), some (.int l3), some (.int l4), some (.int l5)], [.int l3, .ref 96], w)) rfl).trans ?_
    rfl
theorem tr_168_13 (d : Nat) (w : Wd) (hW : Fix w) (l1 : Int32) (l2 : Int32) (l3 : Int32) (l4 : Int32) (l5 : Int32) (s0 : Int32)    (hy1 : (s0 = 0) → inB l1 8 = true) (hy2 : (s0 = 0) → inB l3 8 = true) (hy3 : (s0 = 0) → ((gI w 97 (l1).toNatClampNeg) = (gI w 97 (l3).toNatClampNeg)) → (¬ (l2 < 0)) → (¬ (l4 < 0)) → (¬ (l5 < 0)) → inB l1 8 = true) (hy4 : (s0 = 0) → ((gI w 97 (l1).toNatClampNeg) = (gI w 97 (l3).toNatClampNeg)) → (¬ (l2 < 0)) → (¬ (l4 < 0)) → (¬ (l5 < 0)) → (¬ (((gI w 98 (l1).toNatClampNeg) - l2) < l5)) → inB l3 8 = true) (hy5 : (s0 = 0) → ((gI w 97 (l1).toNatClampNeg) = (gI w 97 (l3).toNatClampNeg)) → (¬ (l2 < 0)) → (¬ (l4 < 0)) → (¬ (l5 < 0)) → (¬ (((gI w 98 (l1).toNatClampNeg) - l2) < l5)) → (l5 ≤ ((gI w 98 (l3).toNatClampNeg) - l4)) → inB l1 8 = true) (hy6 : (s0 = 0) → ((gI w 97 (l1).toNatClampNeg) = (gI w 97 (l3).toNatClampNeg)) → (¬ (l2 < 0)) → (¬ (l4 < 0)) → (¬ (l5 < 0)) → (¬ (((gI w 98 (l1).toNatClampNeg) - l2) < l5)) → (l5 ≤ ((gI w 98 (l3).toNatClampNeg) - l4)) → inB l3 8 = true) (hy7 : (s0 = 0) → (¬ ((gI w 97 (l1).toNatClampNeg) = (gI w 97 (l3).toNatClampNeg))) → inB l1 8 = true) (hy8 : (s0 = 0) → (¬ ((gI w 97 (l1).toNatClampNeg) = (gI w 97 (l3).toNatClampNeg))) → (¬ ((fn_163 ((gI w 97 (l1).toNatClampNeg))) = 0)) → inB l3 8 = true) (hy9 : (s0 = 0) → (¬ ((gI w 97 (l1).toNatClampNeg) = (gI w 97 (l3).toNatClampNeg))) → (¬ ((fn_163 ((gI w 97 (l1).toNatClampNeg))) = 0)) → (¬ (fn_163 ((gI w 97 (l3).toNatClampNeg))) = 0) → (¬ (l2 < 0)) → (¬ (l4 < 0)) → (¬ (l5 < 0)) → inB l1 8 = true) (hy10 : (s0 = 0) → (¬ ((gI w 97 (l1).toNatClampNeg) = (gI w 97 (l3).toNatClampNeg))) → (¬ ((fn_163 ((gI w 97 (l1).toNatClampNeg))) = 0)) → (¬ (fn_163 ((gI w 97 (l3).toNatClampNeg))) = 0) → (¬ (l2 < 0)) → (¬ (l4 < 0)) → (¬ (l5 < 0)) → (¬ (((gI w 98 (l1).toNatClampNeg) - l2) < l5)) → inB l3 8 = true) (hy11 : (s0 = 0) → (¬ ((gI w 97 (l1).toNatClampNeg) = (gI w 97 (l3).toNatClampNeg))) → (¬ ((fn_163 ((gI w 97 (l1).toNatClampNeg))) = 0)) → (¬ (fn_163 ((gI w 97 (l3).toNatClampNeg))) = 0) → (¬ (l2 < 0)) → (¬ (l4 < 0)) → (¬ (l5 < 0)) → (¬ (((gI w 98 (l1).toNatClampNeg) - l2) < l5)) → (l5 ≤ ((gI w 98 (l3).toNatClampNeg) - l4)) → inB l1 8 = true) (hy12 : (s0 = 0) → (¬ ((gI w 97 (l1).toNatClampNeg) = (gI w 97 (l3).toNatClampNeg))) → (¬ ((fn_163 ((gI w 97 (l1).toNatClampNeg))) = 0)) → (¬ (fn_163 ((gI w 97 (l3).toNatClampNeg))) = 0) → (¬ (l2 < 0)) → (¬ (l4 < 0)) → (¬ (l5 < 0)) → (¬ (((gI w 98 (l1).toNatClampNeg) - l2) < l5)) → (l5 ≤ ((gI w 98 (l3).toNatClampNeg) - l4)) → inB l3 8 = true) : val (168, d + 2, 13, [some (.ref 96), some (.int l1), some (.int l2), some (.int l3), some (.int l4), some (.int l5)], [.int s0], w) = (if s0 = 0 then (if (gI w 97 (l1).toNatClampNeg) = (gI w 97 (l3).toNatClampNeg) then (if l2 < 0 then some (some (.int (-6)), w) else (if l4 < 0 then some (some (.int (-6)), w) else (if l5 < 0 then some (some (.int (-6)), w) else (if ((gI w 98 (l1).toNatClampNeg) - l2) < l5 then some (some (.int (-6)), w) else (if l5 ≤ ((gI w 98 (l3).toNatClampNeg) - l4) then (if ¬ (gI w 97 (l1).toNatClampNeg) = (gI w 97 (l3).toNatClampNeg) then val (168, d + 2, 151, [some (.ref 96), some (.int l1), some (.int l2), some (.int l3), some (.int l4), some (.int l5)], [.int l5, .int l4, .int l3, .int l2, .int l1, .ref 96], w) else val (168, d + 2, 125, [some (.ref 96), some (.int l1), some (.int l2), some (.int l3), some (.int l4), some (.int l5)], [.int l1, .ref 99], w)) else some (some (.int (-6)), w)))))) else (if (fn_163 ((gI w 97 (l1).toNatClampNeg))) = 0 then some (some (.int (-8)), w) else (if ¬ (fn_163 ((gI w 97 (l3).toNatClampNeg))) = 0 then (if l2 < 0 then some (some (.int (-6)), w) else (if l4 < 0 then some (some (.int (-6)), w) else (if l5 < 0 then some (some (.int (-6)), w) else (if ((gI w 98 (l1).toNatClampNeg) - l2) < l5 then some (some (.int (-6)), w) else (if l5 ≤ ((gI w 98 (l3).toNatClampNeg) - l4) then (if ¬ (gI w 97 (l1).toNatClampNeg) = (gI w 97 (l3).toNatClampNeg) then val (168, d + 2, 151, [some (.ref 96), some (.int l1), some (.int l2), some (.int l3), some (.int l4), some (.int l5)], [.int l5, .int l4, .int l3, .int l2, .int l1, .ref 96], w) else val (168, d + 2, 125, [some (.ref 96), some (.int l1), some (.int l2), some (.int l3), some (.int l4), some (.int l5)], [.int l1, .ref 99], w)) else some (some (.int (-6)), w)))))) else some (some (.int (-8)), w)))) else some (some (.int (-4)), w)) := by
  by_cases hc854 : s0 = 0
  · refine ((val_if_eq rfl).trans (if_pos hc854)).trans ?_
    show val (168, d + 2, 19, [some (.ref 96), some (.int l1), some (.int l2), some (.int l3), some (.int l4), some (.int l5)], [], w) = _
    refine Eq.trans ?_ (if_pos hc854).symm
    refine (val_g (c2 := (168, d + 2, 20, [some (.ref 96), some (.int l1), some (.int l2), some (.int l3), some (.int l4), some (.int l5)], [.ref 96], w)) rfl).trans ?_
    refine (val_gf rfl (hW.k 96 (Nat.le_of_ble_eq_true rfl) (Nat.le_of_ble_eq_true rfl)) (fvR (hW.r 96 0 97 rfl))).trans ?_
    show val (168, d + 2, 23, [some (.ref 96), some (.int l1), some (.int l2), some (.int l3), some (.int l4), some (.int l5)], [.ref 97], w) = _
    refine (val_g (c2 := (168, d + 2, 24, [some (.ref 96), some (.int l1), some (.int l2), some (.int l3), some (.int l4), some (.int l5)], [.int l1, .ref 97], w)) rfl).trans ?_
    refine (val_ial rfl (hW.k 97 (Nat.le_of_ble_eq_true rfl) (Nat.le_of_ble_eq_true rfl)) rfl (hy1 hc854)).trans ?_
    show val (168, d + 2, 25, [some (.ref 96), some (.int l1), some (.int l2), some (.int l3), some (.int l4), some (.int l5)], [.int (gI w 97 (l1).toNatClampNeg)], w) = _
    refine (val_g (c2 := (168, d + 2, 26, [some (.ref 96), some (.int l1), some (.int l2), some (.int l3), some (.int l4), some (.int l5)], [.ref 96, .int (gI w 97 (l1).toNatClampNeg)], w)) rfl).trans ?_
    refine (val_gf rfl (hW.k 96 (Nat.le_of_ble_eq_true rfl) (Nat.le_of_ble_eq_true rfl)) (fvR (hW.r 96 0 97 rfl))).trans ?_
    show val (168, d + 2, 29, [some (.ref 96), some (.int l1), some (.int l2), some (.int l3), some (.int l4), some (.int l5)], [.ref 97, .int (gI w 97 (l1).toNatClampNeg)], w) = _
    refine (val_g (c2 := (168, d + 2, 30, [some (.ref 96), some (.int l1), some (.int l2), some (.int l3), some (.int l4), some (.int l5)], [.int l3, .ref 97, .int (gI w 97 (l1).toNatClampNeg)], w)) rfl).trans ?_
    refine (val_ial rfl (hW.k 97 (Nat.le_of_ble_eq_true rfl) (Nat.le_of_ble_eq_true rfl)) rfl (hy2 hc854)).trans ?_
    show val (168, d + 2, 31, [some (.ref 96), some (.int l1), some (.int l2), some (.int l3), some (.int l4), some (.int l5)], [.int (gI w 97 (l3).toNatClampNeg), .int (gI w 97 (l1).toNatClampNeg)], w) = _
    by_cases hc855 : (gI w 97 (l1).toNatClampNeg) = (gI w 97 (l3).toNatClampNeg)
    · refine ((val_ic_eq rfl).trans (if_pos hc855)).trans ?_
      show val (168, d + 2, 61, [some (.ref 96), some (.int l1), some (.int l2), some (.int l3), some (.int l4), some (.int l5)], [], w) = _
      refine Eq.trans ?_ (if_pos hc855).symm
      refine (val_g (c2 := (168, d + 2, 62, [some (.ref 96), some (.int l1), some (.int l2), some (.int l3), some (.int l4), some (.int l5)], [.int l2], w)) rfl).trans ?_
      by_cases hc856 : l2 < 0
      · refine ((val_if_lt rfl).trans (if_pos hc856)).trans ?_
        show val (168, d + 2, 102, [some (.ref 96), some (.int l1), some (.int l2), some (.int l3), some (.int l4), some (.int l5)], [], w) = _
        refine Eq.trans ?_ (if_pos hc856).symm
        refine (val_g (c2 := (168, d + 2, 104, [some (.ref 96), some (.int l1), some (.int l2), some (.int l3), some (.int l4), some (.int l5)], [.int (-6)], w)) rfl).trans ?_
        exact val_r rfl
      · refine ((val_if_lt rfl).trans (if_neg hc856)).trans ?_
        show val (168, d + 2, 65, [some (.ref 96), some (.int l1), some (.int l2), some (.int l3), some (.int l4), some (.int l5)], [], w) = _
        refine Eq.trans ?_ (if_neg hc856).symm
        refine (val_g (c2 := (168, d + 2, 67, [some (.ref 96), some (.int l1), some (.int l2), some (.int l3), some (.int l4), some (.int l5)], [.int l4], w)) rfl).trans ?_
        by_cases hc857 : l4 < 0
        · refine ((val_if_lt rfl).trans (if_pos hc857)).trans ?_
          show val (168, d + 2, 102, [some (.ref 96), some (.int l1), some (.int l2), some (.int l3), some (.int l4), some (.int l5)], [], w) = _
          refine Eq.trans ?_ (if_pos hc857).symm
          refine (val_g (c2 := (168, d + 2, 104, [some (.ref 96), some (.int l1), some (.int l2), some (.int l3), some (.int l4), some (.int l5)], [.int (-6)], w)) rfl).trans ?_
          exact val_r rfl
        · refine ((val_if_lt rfl).trans (if_neg hc857)).trans ?_
          show val (168, d + 2, 70, [some (.ref 96), some (.int l1), some (.int l2), some (.int l3), some (.int l4), some (.int l5)], [], w) = _
          refine Eq.trans ?_ (if_neg hc857).symm
          refine (val_g (c2 := (168, d + 2, 72, [some (.ref 96), some (.int l1), some (.int l2), some (.int l3), some (.int l4), some (.int l5)], [.int l5], w)) rfl).trans ?_
          by_cases hc858 : l5 < 0
          · refine ((val_if_lt rfl).trans (if_pos hc858)).trans ?_
            show val (168, d + 2, 102, [some (.ref 96), some (.int l1), some (.int l2), some (.int l3), some (.int l4), some (.int l5)], [], w) = _
            refine Eq.trans ?_ (if_pos hc858).symm
            refine (val_g (c2 := (168, d + 2, 104, [some (.ref 96), some (.int l1), some (.int l2), some (.int l3), some (.int l4), some (.int l5)], [.int (-6)], w)) rfl).trans ?_
            exact val_r rfl
          · refine ((val_if_lt rfl).trans (if_neg hc858)).trans ?_
            show val (168, d + 2, 75, [some (.ref 96), some (.int l1), some (.int l2), some (.int l3), some (.int l4), some (.int l5)], [], w) = _
            refine Eq.trans ?_ (if_neg hc858).symm
            refine (val_g (c2 := (168, d + 2, 77, [some (.ref 96), some (.int l1), some (.int l2), some (.int l3), some (.int l4), some (.int l5)], [.int l5], w)) rfl).trans ?_
            refine (val_g (c2 := (168, d + 2, 78, [some (.ref 96), some (.int l1), some (.int l2), some (.int l3), some (.int l4), some (.int l5)], [.ref 96, .int l5], w)) rfl).trans ?_
            refine (val_gf rfl (hW.k 96 (Nat.le_of_ble_eq_true rfl) (Nat.le_of_ble_eq_true rfl)) (fvR (hW.r 96 1 98 rfl))).trans ?_
            show val (168, d + 2, 81, [some (.ref 96), some (.int l1), some (.int l2), some (.int l3), some (.int l4), some (.int l5)], [.ref 98, .int l5], w) = _
            refine (val_g (c2 := (168, d + 2, 82, [some (.ref 96), some (.int l1), some (.int l2), some (.int l3), some (.int l4), some (.int l5)], [.int l1, .ref 98, .int l5], w)) rfl).trans ?_
            refine (val_ial rfl (hW.k 98 (Nat.le_of_ble_eq_true rfl) (Nat.le_of_ble_eq_true rfl)) rfl (hy3 hc854 hc855 hc856 hc857 hc858)).trans ?_
            show val (168, d + 2, 83, [some (.ref 96), some (.int l1), some (.int l2), some (.int l3), some (.int l4), some (.int l5)], [.int (gI w 98 (l1).toNatClampNeg), .int l5], w) = _
            refine (val_g (c2 := (168, d + 2, 84, [some (.ref 96), some (.int l1), some (.int l2), some (.int l3), some (.int l4), some (.int l5)], [.int l2, .int (gI w 98 (l1).toNatClampNeg), .int l5], w)) rfl).trans ?_
            refine (val_g (c2 := (168, d + 2, 85, [some (.ref 96), some (.int l1), some (.int l2), some (.int l3), some (.int l4), some (.int l5)], [.int ((gI w 98 (l1).toNatClampNeg) - l2), .int l5], w)) rfl).trans ?_
            by_cases hc859 : ((gI w 98 (l1).toNatClampNeg) - l2) < l5
            · refine ((val_ic_gt rfl).trans (if_pos hc859)).trans ?_
              show val (168, d + 2, 102, [some (.ref 96), some (.int l1), some (.int l2), some (.int l3), some (.int l4), some (.int l5)], [], w) = _
              refine Eq.trans ?_ (if_pos hc859).symm
              refine (val_g (c2 := (168, d + 2, 104, [some (.ref 96), some (.int l1), some (.int l2), some (.int l3), some (.int l4), some (.int l5)], [.int (-6)], w)) rfl).trans ?_
              exact val_r rfl
            · refine ((val_ic_gt rfl).trans (if_neg hc859)).trans ?_
              show val (168, d + 2, 88, [some (.ref 96), some (.int l1), some (.int l2), some (.int l3), some (.int l4), some (.int l5)], [], w) = _
              refine Eq.trans ?_ (if_neg hc859).symm
              refine (val_g (c2 := (168, d + 2, 90, [some (.ref 96), some (.int l1), some (.int l2), some (.int l3), some (.int l4), some (.int l5)], [.int l5], w)) rfl).trans ?_
              refine (val_g (c2 := (168, d + 2, 91, [some (.ref 96), some (.int l1), some (.int l2), some (.int l3), some (.int l4), some (.int l5)], [.ref 96, .int l5], w)) rfl).trans ?_
              refine (val_gf rfl (hW.k 96 (Nat.le_of_ble_eq_true rfl) (Nat.le_of_ble_eq_true rfl)) (fvR (hW.r 96 1 98 rfl))).trans ?_
              show val (168, d + 2, 94, [some (.ref 96), some (.int l1), some (.int l2), some (.int l3), some (.int l4), some (.int l5)], [.ref 98, .int l5], w) = _
              refine (val_g (c2 := (168, d + 2, 95, [some (.ref 96), some (.int l1), some (.int l2), some (.int l3), some (.int l4), some (.int l5)], [.int l3, .ref 98, .int l5], w)) rfl).trans ?_
              refine (val_ial rfl (hW.k 98 (Nat.le_of_ble_eq_true rfl) (Nat.le_of_ble_eq_true rfl)) rfl (hy4 hc854 hc855 hc856 hc857 hc858 hc859)).trans ?_
              show val (168, d + 2, 96, [some (.ref 96), some (.int l1), some (.int l2), some (.int l3), some (.int l4), some (.int l5)], [.int (gI w 98 (l3).toNatClampNeg), .int l5], w) = _
              refine (val_g (c2 := (168, d + 2, 98, [some (.ref 96), some (.int l1), some (.int l2), some (.int l3), some (.int l4), some (.int l5)], [.int l4, .int (gI w 98 (l3).toNatClampNeg), .int l5], w)) rfl).trans ?_
              refine (val_g (c2 := (168, d + 2, 99, [some (.ref 96), some (.int l1), some (.int l2), some (.int l3), some (.int l4), some (.int l5)], [.int ((gI w 98 (l3).toNatClampNeg) - l4), .int l5], w)) rfl).trans ?_
              by_cases hc860 : l5 ≤ ((gI w 98 (l3).toNatClampNeg) - l4)
              · refine ((val_ic_le rfl).trans (if_pos hc860)).trans ?_
                show val (168, d + 2, 105, [some (.ref 96), some (.int l1), some (.int l2), some (.int l3), some (.int l4), some (.int l5)], [], w) = _
                refine Eq.trans ?_ (if_pos hc860).symm
                refine (val_g (c2 := (168, d + 2, 106, [some (.ref 96), some (.int l1), some (.int l2), some (.int l3), some (.int l4), some (.int l5)], [.ref 96], w)) rfl).trans ?_
                refine (val_gf rfl (hW.k 96 (Nat.le_of_ble_eq_true rfl) (Nat.le_of_ble_eq_true rfl)) (fvR (hW.r 96 0 97 rfl))).trans ?_
                show val (168, d + 2, 109, [some (.ref 96), some (.int l1), some (.int l2), some (.int l3), some (.int l4), some (.int l5)], [.ref 97], w) = _
                refine (val_g (c2 := (168, d + 2, 110, [some (.ref 96), some (.int l1), some (.int l2), some (.int l3), some (.int l4), some (.int l5)], [.int l1, .ref 97], w)) rfl).trans ?_
                refine (val_ial rfl (hW.k 97 (Nat.le_of_ble_eq_true rfl) (Nat.le_of_ble_eq_true rfl)) rfl (hy5 hc854 hc855 hc856 hc857 hc858 hc859 hc860)).trans ?_
                show val (168, d + 2, 111, [some (.ref 96), some (.int l1), some (.int l2), some (.int l3), some (.int l4), some (.int l5)], [.int (gI w 97 (l1).toNatClampNeg)], w) = _
                refine (val_g (c2 := (168, d + 2, 112, [some (.ref 96), some (.int l1), some (.int l2), some (.int l3), some (.int l4), some (.int l5)], [.ref 96, .int (gI w 97 (l1).toNatClampNeg)], w)) rfl).trans ?_
                refine (val_gf rfl (hW.k 96 (Nat.le_of_ble_eq_true rfl) (Nat.le_of_ble_eq_true rfl)) (fvR (hW.r 96 0 97 rfl))).trans ?_
                show val (168, d + 2, 115, [some (.ref 96), some (.int l1), some (.int l2), some (.int l3), some (.int l4), some (.int l5)], [.ref 97, .int (gI w 97 (l1).toNatClampNeg)], w) = _
                refine (val_g (c2 := (168, d + 2, 116, [some (.ref 96), some (.int l1), some (.int l2), some (.int l3), some (.int l4), some (.int l5)], [.int l3, .ref 97, .int (gI w 97 (l1).toNatClampNeg)], w)) rfl).trans ?_
                refine (val_ial rfl (hW.k 97 (Nat.le_of_ble_eq_true rfl) (Nat.le_of_ble_eq_true rfl)) rfl (hy6 hc854 hc855 hc856 hc857 hc858 hc859 hc860)).trans ?_
                show val (168, d + 2, 117, [some (.ref 96), some (.int l1), some (.int l2), some (.int l3), some (.int l4), some (.int l5)], [.int (gI w 97 (l3).toNatClampNeg), .int (gI w 97 (l1).toNatClampNeg)], w) = _
                by_cases hc861 : ¬ (gI w 97 (l1).toNatClampNeg) = (gI w 97 (l3).toNatClampNeg)
                · refine ((val_ic_ne rfl).trans (if_pos hc861)).trans ?_
                  show val (168, d + 2, 143, [some (.ref 96), some (.int l1), some (.int l2), some (.int l3), some (.int l4), some (.int l5)], [], w) = _
                  refine Eq.trans ?_ (if_pos hc861).symm
                  refine (val_g (c2 := (168, d + 2, 144, [some (.ref 96), some (.int l1), some (.int l2), some (.int l3), some (.int l4), some (.int l5)], [.ref 96], w)) rfl).trans ?_
                  refine (val_g (c2 := (168, d + 2, 145, [some (.ref 96), some (.int l1), some (.int l2), some (.int l3), some (.int l4), some (.int l5)], [.int l1, .ref 96], w)) rfl).trans ?_
                  refine (val_g (c2 := (168, d + 2, 146, [some (.ref 96), some (.int l1), some (.int l2), some (.int l3), some (.int l4), some (.int l5)], [.int l2, .int l1, .ref 96], w)) rfl).trans ?_
                  refine (val_g (c2 := (168, d + 2, 147, [some (.ref 96), some (.int l1), some (.int l2), some (.int l3), some (.int l4), some (.int l5)], [.int l3, .int l2, .int l1, .ref 96], w)) rfl).trans ?_
                  refine (val_g (c2 := (168, d + 2, 149, [some (.ref 96), some (.int l1), some (.int l2), some (.int l3), some (.int l4), some (.int l5)], [.int l4, .int l3, .int l2, .int l1, .ref 96], w)) rfl).trans ?_
                  refine (val_g (c2 := (168, d + 2, 151, [some (.ref 96), some (.int l1), some (.int l2), some (.int l3), some (.int l4), some (.int l5)], [.int l5, .int l4, .int l3, .int l2, .int l1, .ref 96], w)) rfl).trans ?_
                  rfl
                · refine ((val_ic_ne rfl).trans (if_neg hc861)).trans ?_
                  show val (168, d + 2, 120, [some (.ref 96), some (.int l1), some (.int l2), some (.int l3), some (.int l4), some (.int l5)], [], w) = _
                  refine Eq.trans ?_ (if_neg hc861).symm
                  refine (val_g (c2 := (168, d + 2, 121, [some (.ref 96), some (.int l1), some (.int l2), some (.int l3), some (.int l4), some (.int l5)], [.ref 96], w)) rfl).trans ?_
                  refine (val_gf rfl (hW.k 96 (Nat.le_of_ble_eq_true rfl) (Nat.le_of_ble_eq_true rfl)) (fvR (hW.r 96 2 99 rfl))).trans ?_
                  show val (168, d + 2, 124, [some (.ref 96), some (.int l1), some (.int l2), some (.int l3), some (.int l4), some (.int l5)], [.ref 99], w) = _
                  refine (val_g (c2 := (168, d + 2, 125, [some (.ref 96), some (.int l1), some (.int l2), some (.int l3), some (.int l4), some (.int l5)], [.int l1, .ref 99], w)) rfl).trans ?_
                  rfl
              · refine ((val_ic_le rfl).trans (if_neg hc860)).trans ?_
                show val (168, d + 2, 102, [some (.ref 96), some (.int l1), some (.int l2), some (.int l3), some (.int l4), some (.int l5)], [], w) = _
                refine Eq.trans ?_ (if_neg hc860).symm
                refine (val_g (c2 := (168, d + 2, 104, [some (.ref 96), some (.int l1), some (.int l2), some (.int l3), some (.int l4), some (.int l5)], [.int (-6)], w)) rfl).trans ?_
                exact val_r rfl
    · refine ((val_ic_eq rfl).trans (if_neg hc855)).trans ?_
      show val (168, d + 2, 34, [some (.ref 96), some (.int l1), some (.int l2), some (.int l3), some (.int l4), some (.int l5)], [], w) = _
      refine Eq.trans ?_ (if_neg hc855).symm
      refine (val_g (c2 := (168, d + 2, 35, [some (.ref 96), some (.int l1), some (.int l2), some (.int l3), some (.int l4), some (.int l5)], [.ref 96], w)) rfl).trans ?_
      refine (val_gf rfl (hW.k 96 (Nat.le_of_ble_eq_true rfl) (Nat.le_of_ble_eq_true rfl)) (fvR (hW.r 96 0 97 rfl))).trans ?_
      show val (168, d + 2, 38, [some (.ref 96), some (.int l1), some (.int l2), some (.int l3), some (.int l4), some (.int l5)], [.ref 97], w) = _
      refine (val_g (c2 := (168, d + 2, 39, [some (.ref 96), some (.int l1), some (.int l2), some (.int l3), some (.int l4), some (.int l5)], [.int l1, .ref 97], w)) rfl).trans ?_
      refine (val_ial rfl (hW.k 97 (Nat.le_of_ble_eq_true rfl) (Nat.le_of_ble_eq_true rfl)) rfl (hy7 hc854 hc855)).trans ?_
      show val (168, d + 2, 40, [some (.ref 96), some (.int l1), some (.int l2), some (.int l3), some (.int l4), some (.int l5)], [.int (gI w 97 (l1).toNatClampNeg)], w) = _
      refine (val_call (w1 := w) (pc2 := 43) rfl rfl rfl rfl rfl (Nat.le_of_ble_eq_true rfl) (Nat.le_of_ble_eq_true rfl) rfl (ev_163 (d + 1) w ((gI w 97 (l1).toNatClampNeg))) rfl).trans ?_
      show val (168, d + 2, 43, [some (.ref 96), some (.int l1), some (.int l2), some (.int l3), some (.int l4), some (.int l5)], [.int (fn_163 ((gI w 97 (l1).toNatClampNeg)))], w) = _
      by_cases hc862 : (fn_163 ((gI w 97 (l1).toNatClampNeg))) = 0
      · refine ((val_if_eq rfl).trans (if_pos hc862)).trans ?_
        show val (168, d + 2, 58, [some (.ref 96), some (.int l1), some (.int l2), some (.int l3), some (.int l4), some (.int l5)], [], w) = _
        refine Eq.trans ?_ (if_pos hc862).symm
        refine (val_g (c2 := (168, d + 2, 60, [some (.ref 96), some (.int l1), some (.int l2), some (.int l3), some (.int l4), some (.int l5)], [.int (-8)], w)) rfl).trans ?_
        exact val_r rfl
      · refine ((val_if_eq rfl).trans (if_neg hc862)).trans ?_
        show val (168, d + 2, 46, [some (.ref 96), some (.int l1), some (.int l2), some (.int l3), some (.int l4), some (.int l5)], [], w) = _
        refine Eq.trans ?_ (if_neg hc862).symm
        refine (val_g (c2 := (168, d + 2, 47, [some (.ref 96), some (.int l1), some (.int l2), some (.int l3), some (.int l4), some (.int l5)], [.ref 96], w)) rfl).trans ?_
        refine (val_gf rfl (hW.k 96 (Nat.le_of_ble_eq_true rfl) (Nat.le_of_ble_eq_true rfl)) (fvR (hW.r 96 0 97 rfl))).trans ?_
        show val (168, d + 2, 50, [some (.ref 96), some (.int l1), some (.int l2), some (.int l3), some (.int l4), some (.int l5)], [.ref 97], w) = _
        refine (val_g (c2 := (168, d + 2, 51, [some (.ref 96), some (.int l1), some (.int l2), some (.int l3), some (.int l4), some (.int l5)], [.int l3, .ref 97], w)) rfl).trans ?_
        refine (val_ial rfl (hW.k 97 (Nat.le_of_ble_eq_true rfl) (Nat.le_of_ble_eq_true rfl)) rfl (hy8 hc854 hc855 hc862)).trans ?_
        show val (168, d + 2, 52, [some (.ref 96), some (.int l1), some (.int l2), some (.int l3), some (.int l4), some (.int l5)], [.int (gI w 97 (l3).toNatClampNeg)], w) = _
        refine (val_call (w1 := w) (pc2 := 55) rfl rfl rfl rfl rfl (Nat.le_of_ble_eq_true rfl) (Nat.le_of_ble_eq_true rfl) rfl (ev_163 (d + 1) w ((gI w 97 (l3).toNatClampNeg))) rfl).trans ?_
        show val (168, d + 2, 55, [some (.ref 96), some (.int l1), some (.int l2), some (.int l3), some (.int l4), some (.int l5)], [.int (fn_163 ((gI w 97 (l3).toNatClampNeg)))], w) = _
        by_cases hc863 : ¬ (fn_163 ((gI w 97 (l3).toNatClampNeg))) = 0
        · refine ((val_if_ne rfl).trans (if_pos hc863)).trans ?_
          show val (168, d + 2, 61, [some (.ref 96), some (.int l1), some (.int l2), some (.int l3), some (.int l4), some (.int l5)], [], w) = _
          refine Eq.trans ?_ (if_pos hc863).symm
          refine (val_g (c2 := (168, d + 2, 62, [some (.ref 96), some (.int l1), some (.int l2), some (.int l3), some (.int l4), some (.int l5)], [.int l2], w)) rfl).trans ?_
          by_cases hc864 : l2 < 0
          · refine ((val_if_lt rfl).trans (if_pos hc864)).trans ?_
            show val (168, d + 2, 102, [some (.ref 96), some (.int l1), some (.int l2), some (.int l3), some (.int l4), some (.int l5)], [], w) = _
            refine Eq.trans ?_ (if_pos hc864).symm
            refine (val_g (c2 := (168, d + 2, 104, [some (.ref 96), some (.int l1), some (.int l2), some (.int l3), some (.int l4), some (.int l5)], [.int (-6)], w)) rfl).trans ?_
            exact val_r rfl
          · refine ((val_if_lt rfl).trans (if_neg hc864)).trans ?_
            show val (168, d + 2, 65, [some (.ref 96), some (.int l1), some (.int l2), some (.int l3), some (.int l4), some (.int l5)], [], w) = _
            refine Eq.trans ?_ (if_neg hc864).symm
            refine (val_g (c2 := (168, d + 2, 67, [some (.ref 96), some (.int l1), some (.int l2), some (.int l3), some (.int l4), some (.int l5)], [.int l4], w)) rfl).trans ?_
            by_cases hc865 : l4 < 0
            · refine ((val_if_lt rfl).trans (if_pos hc865)).trans ?_
              show val (168, d + 2, 102, [some (.ref 96), some (.int l1), some (.int l2), some (.int l3), some (.int l4), some (.int l5)], [], w) = _
              refine Eq.trans ?_ (if_pos hc865).symm
              refine (val_g (c2 := (168, d + 2, 104, [some (.ref 96), some (.int l1), some (.int l2), some (.int l3), some (.int l4), some (.int l5)], [.int (-6)], w)) rfl).trans ?_
              exact val_r rfl
            · refine ((val_if_lt rfl).trans (if_neg hc865)).trans ?_
              show val (168, d + 2, 70, [some (.ref 96), some (.int l1), some (.int l2), some (.int l3), some (.int l4), some (.int l5)], [], w) = _
              refine Eq.trans ?_ (if_neg hc865).symm
              refine (val_g (c2 := (168, d + 2, 72, [some (.ref 96), some (.int l1), some (.int l2), some (.int l3), some (.int l4), some (.int l5)], [.int l5], w)) rfl).trans ?_
              by_cases hc866 : l5 < 0
              · refine ((val_if_lt rfl).trans (if_pos hc866)).trans ?_
                show val (168, d + 2, 102, [some (.ref 96), some (.int l1), some (.int l2), some (.int l3), some (.int l4), some (.int l5)], [], w) = _
                refine Eq.trans ?_ (if_pos hc866).symm
                refine (val_g (c2 := (168, d + 2, 104, [some (.ref 96), some (.int l1), some (.int l2), some (.int l3), some (.int l4), some (.int l5)], [.int (-6)], w)) rfl).trans ?_
                exact val_r rfl
              · refine ((val_if_lt rfl).trans (if_neg hc866)).trans ?_
                show val (168, d + 2, 75, [some (.ref 96), some (.int l1), some (.int l2), some (.int l3), some (.int l4), some (.int l5)], [], w) = _
                refine Eq.trans ?_ (if_neg hc866).symm
                refine (val_g (c2 := (168, d + 2, 77, [some (.ref 96), some (.int l1), some (.int l2), some (.int l3), some (.int l4), some (.int l5)], [.int l5], w)) rfl).trans ?_
                refine (val_g (c2 := (168, d + 2, 78, [some (.ref 96), some (.int l1), some (.int l2), some (.int l3), some (.int l4), some (.int l5)], [.ref 96, .int l5], w)) rfl).trans ?_
                refine (val_gf rfl (hW.k 96 (Nat.le_of_ble_eq_true rfl) (Nat.le_of_ble_eq_true rfl)) (fvR (hW.r 96 1 98 rfl))).trans ?_
                show val (168, d + 2, 81, [some (.ref 96), some (.int l1), some (.int l2), some (.int l3), some (.int l4), some (.int l5)], [.ref 98, .int l5], w) = _
                refine (val_g (c2 := (168, d + 2, 82, [some (.ref 96), some (.int l1), some (.int l2), some (.int l3), some (.int l4), some (.int l5)], [.int l1, .ref 98, .int l5], w)) rfl).trans ?_
                refine (val_ial rfl (hW.k 98 (Nat.le_of_ble_eq_true rfl) (Nat.le_of_ble_eq_true rfl)) rfl (hy9 hc854 hc855 hc862 hc863 hc864 hc865 hc866)).trans ?_
                show val (168, d + 2, 83, [some (.ref 96), some (.int l1), some (.int l2), some (.int l3), some (.int l4), some (.int l5)], [.int (gI w 98 (l1).toNatClampNeg), .int l5], w) = _
                refine (val_g (c2 := (168, d + 2, 84, [some (.ref 96), some (.int l1), some (.int l2), some (.int l3), some (.int l4), some (.int l5)], [.int l2, .int (gI w 98 (l1).toNatClampNeg), .int l5], w)) rfl).trans ?_
                refine (val_g (c2 := (168, d + 2, 85, [some (.ref 96), some (.int l1), some (.int l2), some (.int l3), some (.int l4), some (.int l5)], [.int ((gI w 98 (l1).toNatClampNeg) - l2), .int l5], w)) rfl).trans ?_
                by_cases hc867 : ((gI w 98 (l1).toNatClampNeg) - l2) < l5
                · refine ((val_ic_gt rfl).trans (if_pos hc867)).trans ?_
                  show val (168, d + 2, 102, [some (.ref 96), some (.int l1), some (.int l2), some (.int l3), some (.int l4), some (.int l5)], [], w) = _
                  refine Eq.trans ?_ (if_pos hc867).symm
                  refine (val_g (c2 := (168, d + 2, 104, [some (.ref 96), some (.int l1), some (.int l2), some (.int l3), some (.int l4), some (.int l5)], [.int (-6)], w)) rfl).trans ?_
                  exact val_r rfl
                · refine ((val_ic_gt rfl).trans (if_neg hc867)).trans ?_
                  show val (168, d + 2, 88, [some (.ref 96), some (.int l1), some (.int l2), some (.int l3), some (.int l4), some (.int l5)], [], w) = _
                  refine Eq.trans ?_ (if_neg hc867).symm
                  refine (val_g (c2 := (168, d + 2, 90, [some (.ref 96), some (.int l1), some (.int l2), some (.int l3), some (.int l4), some (.int l5)], [.int l5], w)) rfl).trans ?_
                  refine (val_g (c2 := (168, d + 2, 91, [some (.ref 96), some (.int l1), some (.int l2), some (.int l3), some (.int l4), some (.int l5)], [.ref 96, .int l5], w)) rfl).trans ?_
                  refine (val_gf rfl (hW.k 96 (Nat.le_of_ble_eq_true rfl) (Nat.le_of_ble_eq_true rfl)) (fvR (hW.r 96 1 98 rfl))).trans ?_
                  show val (168, d + 2, 94, [some (.ref 96), some (.int l1), some (.int l2), some (.int l3), some (.int l4), some (.int l5)], [.ref 98, .int l5], w) = _
                  refine (val_g (c2 := (168, d + 2, 95, [some (.ref 96), some (.int l1), some (.int l2), some (.int l3), some (.int l4), some (.int l5)], [.int l3, .ref 98, .int l5], w)) rfl).trans ?_
                  refine (val_ial rfl (hW.k 98 (Nat.le_of_ble_eq_true rfl) (Nat.le_of_ble_eq_true rfl)) rfl (hy10 hc854 hc855 hc862 hc863 hc864 hc865 hc866 hc867)).trans ?_
                  show val (168, d + 2, 96, [some (.ref 96), some (.int l1), some (.int l2), some (.int l3), some (.int l4), some (.int l5)], [.int (gI w 98 (l3).toNatClampNeg), .int l5], w) = _
                  refine (val_g (c2 := (168, d + 2, 98, [some (.ref 96), some (.int l1), some (.int l2), some (.int l3), some (.int l4), some (.int l5)], [.int l4, .int (gI w 98 (l3).toNatClampNeg), .int l5], w)) rfl).trans ?_
                  refine (val_g (c2 := (168, d + 2, 99, [some (.ref 96), some (.int l1), some (.int l2), some (.int l3), some (.int l4), some (.int l5)], [.int ((gI w 98 (l3).toNatClampNeg) - l4), .int l5], w)) rfl).trans ?_
                  by_cases hc868 : l5 ≤ ((gI w 98 (l3).toNatClampNeg) - l4)
                  · refine ((val_ic_le rfl).trans (if_pos hc868)).trans ?_
                    show val (168, d + 2, 105, [some (.ref 96), some (.int l1), some (.int l2), some (.int l3), some (.int l4), some (.int l5)], [], w) = _
                    refine Eq.trans ?_ (if_pos hc868).symm
                    refine (val_g (c2 := (168, d + 2, 106, [some (.ref 96), some (.int l1), some (.int l2), some (.int l3), some (.int l4), some (.int l5)], [.ref 96], w)) rfl).trans ?_
                    refine (val_gf rfl (hW.k 96 (Nat.le_of_ble_eq_true rfl) (Nat.le_of_ble_eq_true rfl)) (fvR (hW.r 96 0 97 rfl))).trans ?_
                    show val (168, d + 2, 109, [some (.ref 96), some (.int l1), some (.int l2), some (.int l3), some (.int l4), some (.int l5)], [.ref 97], w) = _
                    refine (val_g (c2 := (168, d + 2, 110, [some (.ref 96), some (.int l1), some (.int l2), some (.int l3), some (.int l4), some (.int l5)], [.int l1, .ref 97], w)) rfl).trans ?_
                    refine (val_ial rfl (hW.k 97 (Nat.le_of_ble_eq_true rfl) (Nat.le_of_ble_eq_true rfl)) rfl (hy11 hc854 hc855 hc862 hc863 hc864 hc865 hc866 hc867 hc868)).trans ?_
                    show val (168, d + 2, 111, [some (.ref 96), some (.int l1), some (.int l2), some (.int l3), some (.int l4), some (.int l5)], [.int (gI w 97 (l1).toNatClampNeg)], w) = _
                    refine (val_g (c2 := (168, d + 2, 112, [some (.ref 96), some (.int l1), some (.int l2), some (.int l3), some (.int l4), some (.int l5)], [.ref 96, .int (gI w 97 (l1).toNatClampNeg)], w)) rfl).trans ?_
                    refine (val_gf rfl (hW.k 96 (Nat.le_of_ble_eq_true rfl) (Nat.le_of_ble_eq_true rfl)) (fvR (hW.r 96 0 97 rfl))).trans ?_
                    show val (168, d + 2, 115, [some (.ref 96), some (.int l1), some (.int l2), some (.int l3), some (.int l4), some (.int l5)], [.ref 97, .int (gI w 97 (l1).toNatClampNeg)], w) = _
                    refine (val_g (c2 := (168, d + 2, 116, [some (.ref 96), some (.int l1), some (.int l2), some (.int l3), some (.int l4), some (.int l5)], [.int l3, .ref 97, .int (gI w 97 (l1).toNatClampNeg)], w)) rfl).trans ?_
                    refine (val_ial rfl (hW.k 97 (Nat.le_of_ble_eq_true rfl) (Nat.le_of_ble_eq_true rfl)) rfl (hy12 hc854 hc855 hc862 hc863 hc864 hc865 hc866 hc867 hc868)).trans ?_
                    show val (168, d + 2, 117, [some (.ref 96), some (.int l1), some (.int l2), some (.int l3), some (.int l4), some (.int l5)], [.int (gI w 97 (l3).toNatClampNeg), .int (gI w 97 (l1).toNatClampNeg)], w) = _
                    by_cases hc869 : ¬ (gI w 97 (l1).toNatClampNeg) = (gI w 97 (l3).toNatClampNeg)
                    · refine ((val_ic_ne rfl).trans (if_pos hc869)).trans ?_
                      show val (168, d + 2, 143, [some (.ref 96), some (.int l1), some (.int l2), some (.int l3), some (.int l4), some (.int l5)], [], w) = _
                      refine Eq.trans ?_ (if_pos hc869).symm
                      refine (val_g (c2 := (168, d + 2, 144, [some (.ref 96), some (.int l1), some (.int l2), some (.int l3), some (.int l4), some (.int l5)], [.ref 96], w)) rfl).trans ?_
                      refine (val_g (c2 := (168, d + 2, 145, [some (.ref 96), some (.int l1), some (.int l2), some (.int l3), some (.int l4), some (.int l5)], [.int l1, .ref 96], w)) rfl).trans ?_
                      refine (val_g (c2 := (168, d + 2, 146, [some (.ref 96), some (.int l1), some (.int l2), some (.int l3), some (.int l4), some (.int l5)], [.int l2, .int l1, .ref 96], w)) rfl).trans ?_
                      refine (val_g (c2 := (168, d + 2, 147, [some (.ref 96), some (.int l1), some (.int l2), some (.int l3), some (.int l4), some (.int l5)], [.int l3, .int l2, .int l1, .ref 96], w)) rfl).trans ?_
                      refine (val_g (c2 := (168, d + 2, 149, [some (.ref 96), some (.int l1), some (.int l2), some (.int l3), some (.int l4), some (.int l5)], [.int l4, .int l3, .int l2, .int l1, .ref 96], w)) rfl).trans ?_
                      refine (val_g (c2 := (168, d + 2, 151, [some (.ref 96), some (.int l1), some (.int l2), some (.int l3), some (.int l4), some (.int l5)], [.int l5, .int l4, .int l3, .int l2, .int l1, .ref 96], w)) rfl).trans ?_
                      rfl
                    · refine ((val_ic_ne rfl).trans (if_neg hc869)).trans ?_
                      show val (168, d + 2, 120, [some (.ref 96), some (.int l1), some (.int l2), some (.int l3), some (.int l4), some (.int l5)], [], w) = _
                      refine Eq.trans ?_ (if_neg hc869).symm
                      refine (val_g (c2 := (168, d + 2, 121, [some (.ref 96), some (.int l1), some (.int l2), some (.int l3), some (.int l4), some (.int l5)], [.ref 96], w)) rfl).trans ?_
                      refine (val_gf rfl (hW.k 96 (Nat.le_of_ble_eq_true rfl) (Nat.le_of_ble_eq_true rfl)) (fvR (hW.r 96 2 99 rfl))).trans ?_
                      show val (168, d + 2, 124, [some (.ref 96), some (.int l1), some (.int l2), some (.int l3), some (.int l4), some (.int l5)], [.ref 99], w) = _
                      refine (val_g (c2 := (168, d + 2, 125, [some (.ref 96), some (.int l1), some (.int l2), some (.int l3), some (.int l4), some (.int l5)], [.int l1, .ref 99], w)) rfl).trans ?_
                      rfl
                  · refine ((val_ic_le rfl).trans (if_neg hc868)).trans ?_
                    show val (168, d + 2, 102, [some (.ref 96), some (.int l1), some (.int l2), some (.int l3), some (.int l4), some (.int l5)], [], w) = _
                    refine Eq.trans ?_ (if_neg hc868).symm
                    refine (val_g (c2 := (168, d + 2, 104, [some (.ref 96), some (.int l1), some (.int l2), some (.int l3), some (.int l4), some (.int l5)], [.int (-6)], w)) rfl).trans ?_
                    exact val_r rfl
        · refine ((val_if_ne rfl).trans (if_neg hc863)).trans ?_
          show val (168, d + 2, 58, [some (.ref 96), some (.int l1), some (.int l2), some (.int l3), some (.int l4), some (.int l5)], [], w) = _
          refine Eq.trans ?_ (if_neg hc863).symm
          refine (val_g (c2 := (168, d + 2, 60, [some (.ref 96), some (.int l1), some (.int l2), some (.int l3), some (.int l4), some (.int l5)], [.int (-8)], w)) rfl).trans ?_
          exact val_r rfl
  · refine ((val_if_eq rfl).trans (if_neg hc854)).trans ?_
    show val (168, d + 2, 16, [some (.ref 96), some (.int l1), some (.int l2), some (.int l3), some (.int l4), some (.int l5)], [], w) = _
    refine Eq.trans ?_ (if_neg hc854).symm
    refine (val_g (c2 := (168, d + 2, 18, [some (.ref 96), some (.int l1), some (.int l2), some (.int l3), some (.int l4), some (.int l5)], [.int (-4)], w)) rfl).trans ?_
    exact val_r rfl
theorem tr_168_126 (d : Nat) (w : Wd) (hW : Fix w) (l1 : Int32) (l2 : Int32) (l3 : Int32) (l4 : Int32) (l5 : Int32) (s0 : Nat)     : val (168, d + 2, 126, [some (.ref 96), some (.int l1), some (.int l2), some (.int l3), some (.int l4), some (.int l5)], [.ref s0], w) = val (168, d + 2, 132, [some (.ref 96), some (.int l1), some (.int l2), some (.int l3), some (.int l4), some (.int l5)], [.int l3, .ref 99, .int l2, .ref s0], w) := by
  refine (val_g (c2 := (168, d + 2, 127, [some (.ref 96), some (.int l1), some (.int l2), some (.int l3), some (.int l4), some (.int l5)], [.int l2, .ref s0], w)) rfl).trans ?_
  refine (val_g (c2 := (168, d + 2, 128, [some (.ref 96), some (.int l1), some (.int l2), some (.int l3), some (.int l4), some (.int l5)], [.ref 96, .int l2, .ref s0], w)) rfl).trans ?_
  refine (val_gf rfl (hW.k 96 (Nat.le_of_ble_eq_true rfl) (Nat.le_of_ble_eq_true rfl)) (fvR (hW.r 96 2 99 rfl))).trans ?_
  show val (168, d + 2, 131, [some (.ref 96), some (.int l1), some (.int l2), some (.int l3), some (.int l4), some (.int l5)], [.ref 99, .int l2, .ref s0], w) = _
  refine (val_g (c2 := (168, d + 2, 132, [some (.ref 96), some (.int l1), some (.int l2), some (.int l3), some (.int l4), some (.int l5)], [.int l3, .ref 99, .int l2, .ref s0], w)) rfl).trans ?_
  rfl
theorem tr_168_133 (d : Nat) (w : Wd) (l1 : Int32) (l2 : Int32) (l3 : Int32) (l4 : Int32) (l5 : Int32) (s0 : Nat) (s1 : Int32) (s2 : Nat)     : val (168, d + 2, 133, [some (.ref 96), some (.int l1), some (.int l2), some (.int l3), some (.int l4), some (.int l5)], [.ref s0, .int s1, .ref s2], w) = val (168, d + 2, 137, [some (.ref 96), some (.int l1), some (.int l2), some (.int l3), some (.int l4), some (.int l5)], [.int l5, .int l4, .ref s0, .int s1, .ref s2], w) := by
  refine (val_g (c2 := (168, d + 2, 135, [some (.ref 96), some (.int l1), some (.int l2), some (.int l3), some (.int l4), some (.int l5)], [.int l4, .ref s0, .int s1, .ref s2], w)) rfl).trans ?_
  refine (val_g (c2 := (168, d + 2, 137, [some (.ref 96), some (.int l1), some (.int l2), some (.int l3), some (.int l4), some (.int l5)], [.int l5, .int l4, .ref s0, .int s1, .ref s2], w)) rfl).trans ?_
  rfl
theorem tr_168_140 (d : Nat) (w : Wd) (l1 : Int32) (l2 : Int32) (l3 : Int32) (l4 : Int32) (l5 : Int32)     : val (168, d + 2, 140, [some (.ref 96), some (.int l1), some (.int l2), some (.int l3), some (.int l4), some (.int l5)], [], w) = some (some (.int 0), w) := by
  refine (val_g (c2 := (168, d + 2, 155, [some (.ref 96), some (.int l1), some (.int l2), some (.int l3), some (.int l4), some (.int l5)], [], w)) rfl).trans ?_
  refine (val_g (c2 := (168, d + 2, 156, [some (.ref 96), some (.int l1), some (.int l2), some (.int l3), some (.int l4), some (.int l5)], [.int 0], w)) rfl).trans ?_
  exact val_r rfl
theorem tr_168_154 (d : Nat) (w : Wd) (l1 : Int32) (l2 : Int32) (l3 : Int32) (l4 : Int32) (l5 : Int32) (s0 : Int32)     : val (168, d + 2, 154, [some (.ref 96), some (.int l1), some (.int l2), some (.int l3), some (.int l4), some (.int l5)], [.int s0], w) = some (some (.int s0), w) := by
  exact val_r rfl
/-- BelfryHouse$Shelf.copyLines(IIIII)I -/
theorem tr_169 (d : Nat) (w : Wd) (x0 : Int32) (x1 : Int32) (x2 : Int32) (x3 : Int32) (x4 : Int32)     : val (169, d + 1, 0, [some (.ref 96), some (.int x0), some (.int x1), some (.int x2), some (.int x3), some (.int x4), none, none, none], [], w) = val (169, d + 1, 3, [some (.ref 96), some (.int x0), some (.int x1), some (.int x2), some (.int x3), some (.int x4), some (.int 0), none, none], [], w) := by
  refine (val_g (c2 := (169, d + 1, 1, [some (.ref 96), some (.int x0), some (.int x1), some (.int x2), some (.int x3), some (.int x4), none, none, none], [.int 0], w)) rfl).trans ?_
  refine (val_g (c2 := (169, d + 1, 3, [some (.ref 96), some (.int x0), some (.int x1), some (.int x2), some (.int x3), some (.int x4), some (.int 0), none, none], [], w)) rfl).trans ?_
  rfl
theorem tr_169_3 (d : Nat) (w : Wd) (hW : Fix w) (l1 : Int32) (l2 : Int32) (l3 : Int32) (l4 : Int32) (l5 : Int32) (l6 : Int32) (l7 : Option Value)    : val (169, d + 1, 3, [some (.ref 96), some (.int l1), some (.int l2), some (.int l3), some (.int l4), some (.int l5), some (.int l6), l7, none], [], w) = (if l5 ≤ l6 then some (some (.int 0), w) else val (169, d + 1, 15, [some (.ref 96), some (.int l1), some (.int l2), some (.int l3), some (.int l4), some (.int l5), some (.int l6), l7, none], [.int l1, .ref 99], w)) := by
  refine (val_g (c2 := (169, d + 1, 5, [some (.ref 96), some (.int l1), some (.int l2), some (.int l3), some (.int l4), some (.int l5), some (.int l6), l7, none], [.int l6], w)) rfl).trans ?_
  refine (val_g (c2 := (169, d + 1, 7, [some (.ref 96), some (.int l1), some (.int l2), some (.int l3), some (.int l4), some (.int l5), some (.int l6), l7, none], [.int l5, .int l6], w)) rfl).trans ?_
  by_cases hc873 : l5 ≤ l6
  · refine ((val_ic_ge rfl).trans (if_pos hc873)).trans ?_
    show val (169, d + 1, 56, [some (.ref 96), some (.int l1), some (.int l2), some (.int l3), some (.int l4), some (.int l5), some (.int l6), l7, none], [], w) = _
    refine Eq.trans ?_ (if_pos hc873).symm
    refine (val_g (c2 := (169, d + 1, 57, [some (.ref 96), some (.int l1), some (.int l2), some (.int l3), some (.int l4), some (.int l5), some (.int l6), l7, none], [.int 0], w)) rfl).trans ?_
    exact val_r rfl
  · refine ((val_ic_ge rfl).trans (if_neg hc873)).trans ?_
    show val (169, d + 1, 10, [some (.ref 96), some (.int l1), some (.int l2), some (.int l3), some (.int l4), some (.int l5), some (.int l6), l7, none], [], w) = _
    refine Eq.trans ?_ (if_neg hc873).symm
    refine (val_g (c2 := (169, d + 1, 11, [some (.ref 96), some (.int l1), some (.int l2), some (.int l3), some (.int l4), some (.int l5), some (.int l6), l7, none], [.ref 96], w)) rfl).trans ?_
    refine (val_gf rfl (hW.k 96 (Nat.le_of_ble_eq_true rfl) (Nat.le_of_ble_eq_true rfl)) (fvR (hW.r 96 2 99 rfl))).trans ?_
    show val (169, d + 1, 14, [some (.ref 96), some (.int l1), some (.int l2), some (.int l3), some (.int l4), some (.int l5), some (.int l6), l7, none], [.ref 99], w) = _
    refine (val_g (c2 := (169, d + 1, 15, [some (.ref 96), some (.int l1), some (.int l2), some (.int l3), some (.int l4), some (.int l5), some (.int l6), l7, none], [.int l1, .ref 99], w)) rfl).trans ?_
    rfl
theorem tr_169_16 (d : Nat) (w : Wd) (l1 : Int32) (l2 : Int32) (l3 : Int32) (l4 : Int32) (l5 : Int32) (l6 : Int32) (s0 : Nat) (l7 : Option Value)   (m_s0 : Nat) (hk_s0 : wK w s0 = (23, m_s0)) (hy3 : inB ((l2 + l6)) m_s0 = true) : val (169, d + 1, 16, [some (.ref 96), some (.int l1), some (.int l2), some (.int l3), some (.int l4), some (.int l5), some (.int l6), l7, none], [.ref s0], w) = val (169, d + 1, 27, [some (.ref 96), some (.int l1), some (.int l2), some (.int l3), some (.int l4), some (.int l5), some (.int l6), some (.long (gL w s0 ((l2 + l6)).toNatClampNeg)), none], [.long (gL w s0 ((l2 + l6)).toNatClampNeg), .int l3, .ref 96], w) := by
  refine (val_g (c2 := (169, d + 1, 17, [some (.ref 96), some (.int l1), some (.int l2), some (.int l3), some (.int l4), some (.int l5), some (.int l6), l7, none], [.int l2, .ref s0], w)) rfl).trans ?_
  refine (val_g (c2 := (169, d + 1, 19, [some (.ref 96), some (.int l1), some (.int l2), some (.int l3), some (.int l4), some (.int l5), some (.int l6), l7, none], [.int l6, .int l2, .ref s0], w)) rfl).trans ?_
  refine (val_g (c2 := (169, d + 1, 20, [some (.ref 96), some (.int l1), some (.int l2), some (.int l3), some (.int l4), some (.int l5), some (.int l6), l7, none], [.int (l2 + l6), .ref s0], w)) rfl).trans ?_
  refine (val_lal rfl hk_s0 hy3).trans ?_
  show val (169, d + 1, 21, [some (.ref 96), some (.int l1), some (.int l2), some (.int l3), some (.int l4), some (.int l5), some (.int l6), l7, none], [.long (gL w s0 ((l2 + l6)).toNatClampNeg)], w) = _
  refine (val_g (c2 := (169, d + 1, 23, [some (.ref 96), some (.int l1), some (.int l2), some (.int l3), some (.int l4), some (.int l5), some (.int l6), some (.long (gL w s0 ((l2 + l6)).toNatClampNeg)), none], [], w)) rfl).trans ?_
  refine (val_g (c2 := (169, d + 1, 24, [some (.ref 96), some (.int l1), some (.int l2), some (.int l3), some (.int l4), some (.int l5), some (.int l6), some (.long (gL w s0 ((l2 + l6)).toNatClampNeg)), none], [.ref 96], w)) rfl).trans ?_
  refine (val_g (c2 := (169, d + 1, 25, [some (.ref 96), some (.int l1), some (.int l2), some (.int l3), some (.int l4), some (.int l5), some (.int l6), some (.long (gL w s0 ((l2 + l6)).toNatClampNeg)), none], [.int l3, .ref 96], w)) rfl).trans ?_
  refine (val_g (c2 := (169, d + 1, 27, [some (.ref 96), some (.int l1), some (.int l2), some (.int l3), some (.int l4), some (.int l5), some (.int l6), some (.long (gL w s0 ((l2 + l6)).toNatClampNeg)), none], [.long (gL w s0 ((l2 + l6)).toNatClampNeg), .int l3, .ref 96], w)) rfl).trans ?_
  rfl
theorem tr_169_30 (d : Nat) (w : Wd) (hW : Fix w) (l1 : Int32) (l2 : Int32) (l3 : Int32) (l4 : Int32) (l5 : Int32) (l6 : Int32) (l7 : Int64) (s0 : Int32)     : val (169, d + 1, 30, [some (.ref 96), some (.int l1), some (.int l2), some (.int l3), some (.int l4), some (.int l5), some (.int l6), some (.long l7), none], [.int s0], w) = (if ¬ s0 = 0 then val (169, d + 1, 41, [some (.ref 96), some (.int l1), some (.int l2), some (.int l3), some (.int l4), some (.int l5), some (.int l6), some (.long l7), none], [.int l3, .ref 99], w) else some (some (.int (-8)), w)) := by
  by_cases hc874 : ¬ s0 = 0
  · refine ((val_if_ne rfl).trans (if_pos hc874)).trans ?_
    show val (169, d + 1, 36, [some (.ref 96), some (.int l1), some (.int l2), some (.int l3), some (.int l4), some (.int l5), some (.int l6), some (.long l7), none], [], w) = _
    refine Eq.trans ?_ (if_pos hc874).symm
    refine (val_g (c2 := (169, d + 1, 37, [some (.ref 96), some (.int l1), some (.int l2), some (.int l3), some (.int l4), some (.int l5), some (.int l6), some (.long l7), none], [.ref 96], w)) rfl).trans ?_
    refine (val_gf rfl (hW.k 96 (Nat.le_of_ble_eq_true rfl) (Nat.le_of_ble_eq_true rfl)) (fvR (hW.r 96 2 99 rfl))).trans ?_
    show val (169, d + 1, 40, [some (.ref 96), some (.int l1), some (.int l2), some (.int l3), some (.int l4), some (.int l5), some (.int l6), some (.long l7), none], [.ref 99], w) = _
    refine (val_g (c2 := (169, d + 1, 41, [some (.ref 96), some (.int l1), some (.int l2), some (.int l3), some (.int l4), some (.int l5), some (.int l6), some (.long l7), none], [.int l3, .ref 99], w)) rfl).trans ?_
    rfl
  · refine ((val_if_ne rfl).trans (if_neg hc874)).trans ?_
    show val (169, d + 1, 33, [some (.ref 96), some (.int l1), some (.int l2), some (.int l3), some (.int l4), some (.int l5), some (.int l6), some (.long l7), none], [], w) = _
    refine Eq.trans ?_ (if_neg hc874).symm
    refine (val_g (c2 := (169, d + 1, 35, [some (.ref 96), some (.int l1), some (.int l2), some (.int l3), some (.int l4), some (.int l5), some (.int l6), some (.long l7), none], [.int (-8)], w)) rfl).trans ?_
    exact val_r rfl
theorem tr_169_42 (d : Nat) (w : Wd) (l1 : Int32) (l2 : Int32) (l3 : Int32) (l4 : Int32) (l5 : Int32) (l6 : Int32) (l7 : Int64) (s0 : Nat)    (m_s0 : Nat) (hk_s0 : wK w s0 = (23, m_s0)) (hy3 : inB ((l4 + l6)) m_s0 = true) : val (169, d + 1, 42, [some (.ref 96), some (.int l1), some (.int l2), some (.int l3), some (.int l4), some (.int l5), some (.int l6), some (.long l7), none], [.ref s0], w) = val (169, d + 1, 3, [some (.ref 96), some (.int l1), some (.int l2), some (.int l3), some (.int l4), some (.int l5), some (.int (l6 + 1)), some (.long l7), none], [], (sL w s0 ((l4 + l6)).toNatClampNeg l7)) := by
  refine (val_g (c2 := (169, d + 1, 44, [some (.ref 96), some (.int l1), some (.int l2), some (.int l3), some (.int l4), some (.int l5), some (.int l6), some (.long l7), none], [.int l4, .ref s0], w)) rfl).trans ?_
  refine (val_g (c2 := (169, d + 1, 46, [some (.ref 96), some (.int l1), some (.int l2), some (.int l3), some (.int l4), some (.int l5), some (.int l6), some (.long l7), none], [.int l6, .int l4, .ref s0], w)) rfl).trans ?_
  refine (val_g (c2 := (169, d + 1, 47, [some (.ref 96), some (.int l1), some (.int l2), some (.int l3), some (.int l4), some (.int l5), some (.int l6), some (.long l7), none], [.int (l4 + l6), .ref s0], w)) rfl).trans ?_
  refine (val_g (c2 := (169, d + 1, 49, [some (.ref 96), some (.int l1), some (.int l2), some (.int l3), some (.int l4), some (.int l5), some (.int l6), some (.long l7), none], [.long l7, .int (l4 + l6), .ref s0], w)) rfl).trans ?_
  refine (val_las rfl hk_s0 hy3).trans ?_
  show val (169, d + 1, 50, [some (.ref 96), some (.int l1), some (.int l2), some (.int l3), some (.int l4), some (.int l5), some (.int l6), some (.long l7), none], [], (sL w s0 ((l4 + l6)).toNatClampNeg l7)) = _
  refine (val_g (c2 := (169, d + 1, 53, [some (.ref 96), some (.int l1), some (.int l2), some (.int l3), some (.int l4), some (.int l5), some (.int (l6 + 1)), some (.long l7), none], [], (sL w s0 ((l4 + l6)).toNatClampNeg l7))) rfl).trans ?_
  refine (val_g (c2 := (169, d + 1, 3, [some (.ref 96), some (.int l1), some (.int l2), some (.int l3), some (.int l4), some (.int l5), some (.int (l6 + 1)), some (.long l7), none], [], (sL w s0 ((l4 + l6)).toNatClampNeg l7))) rfl).trans ?_
  rfl
