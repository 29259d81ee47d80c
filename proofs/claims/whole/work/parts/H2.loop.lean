/-! the law's loop; printed by program (wip/gen/p_h2.py) -/
theorem sw_0 (w : Wd) (i : Int32) : val (0, 1000, 33, [some (.ref 0), some (.ref 64), some (.ref 108), some (.int i)], [.int (nI 0)], w) = val (0, 1000, 204, [some (.ref 0), some (.ref 64), some (.ref 108), some (.int i)], [], w) := val_tsw (t := 204) rfl rfl
theorem sw_1 (w : Wd) (i : Int32) : val (0, 1000, 33, [some (.ref 0), some (.ref 64), some (.ref 108), some (.int i)], [.int (nI 1)], w) = val (0, 1000, 227, [some (.ref 0), some (.ref 64), some (.ref 108), some (.int i)], [], w) := val_tsw (t := 227) rfl rfl
theorem sw_2 (w : Wd) (i : Int32) : val (0, 1000, 33, [some (.ref 0), some (.ref 64), some (.ref 108), some (.int i)], [.int (nI 2)], w) = val (0, 1000, 260, [some (.ref 0), some (.ref 64), some (.ref 108), some (.int i)], [], w) := val_tsw (t := 260) rfl rfl
theorem sw_3 (w : Wd) (i : Int32) : val (0, 1000, 33, [some (.ref 0), some (.ref 64), some (.ref 108), some (.int i)], [.int (nI 3)], w) = val (0, 1000, 283, [some (.ref 0), some (.ref 64), some (.ref 108), some (.int i)], [], w) := val_tsw (t := 283) rfl rfl
theorem sw_4 (w : Wd) (i : Int32) : val (0, 1000, 33, [some (.ref 0), some (.ref 64), some (.ref 108), some (.int i)], [.int (nI 4)], w) = val (0, 1000, 316, [some (.ref 0), some (.ref 64), some (.ref 108), some (.int i)], [], w) := val_tsw (t := 316) rfl rfl
theorem sw_5 (w : Wd) (i : Int32) : val (0, 1000, 33, [some (.ref 0), some (.ref 64), some (.ref 108), some (.int i)], [.int (nI 5)], w) = val (0, 1000, 339, [some (.ref 0), some (.ref 64), some (.ref 108), some (.int i)], [], w) := val_tsw (t := 339) rfl rfl
theorem sw_6 (w : Wd) (i : Int32) : val (0, 1000, 33, [some (.ref 0), some (.ref 64), some (.ref 108), some (.int i)], [.int (nI 6)], w) = val (0, 1000, 402, [some (.ref 0), some (.ref 64), some (.ref 108), some (.int i)], [], w) := val_tsw (t := 402) rfl rfl
theorem sw_7 (w : Wd) (i : Int32) : val (0, 1000, 33, [some (.ref 0), some (.ref 64), some (.ref 108), some (.int i)], [.int (nI 7)], w) = val (0, 1000, 415, [some (.ref 0), some (.ref 64), some (.ref 108), some (.int i)], [], w) := val_tsw (t := 415) rfl rfl
theorem sw_8 (w : Wd) (i : Int32) : val (0, 1000, 33, [some (.ref 0), some (.ref 64), some (.ref 108), some (.int i)], [.int (nI 8)], w) = val (0, 1000, 448, [some (.ref 0), some (.ref 64), some (.ref 108), some (.int i)], [], w) := val_tsw (t := 448) rfl rfl
theorem sw_9 (w : Wd) (i : Int32) : val (0, 1000, 33, [some (.ref 0), some (.ref 64), some (.ref 108), some (.int i)], [.int (nI 9)], w) = val (0, 1000, 491, [some (.ref 0), some (.ref 64), some (.ref 108), some (.int i)], [], w) := val_tsw (t := 491) rfl rfl
theorem sw_10 (w : Wd) (i : Int32) : val (0, 1000, 33, [some (.ref 0), some (.ref 64), some (.ref 108), some (.int i)], [.int (nI 10)], w) = val (0, 1000, 514, [some (.ref 0), some (.ref 64), some (.ref 108), some (.int i)], [], w) := val_tsw (t := 514) rfl rfl
theorem sw_11 (w : Wd) (i : Int32) : val (0, 1000, 33, [some (.ref 0), some (.ref 64), some (.ref 108), some (.int i)], [.int (nI 11)], w) = val (0, 1000, 547, [some (.ref 0), some (.ref 64), some (.ref 108), some (.int i)], [], w) := val_tsw (t := 547) rfl rfl
theorem sw_12 (w : Wd) (i : Int32) : val (0, 1000, 33, [some (.ref 0), some (.ref 64), some (.ref 108), some (.int i)], [.int (nI 12)], w) = val (0, 1000, 570, [some (.ref 0), some (.ref 64), some (.ref 108), some (.int i)], [], w) := val_tsw (t := 570) rfl rfl
theorem sw_13 (w : Wd) (i : Int32) : val (0, 1000, 33, [some (.ref 0), some (.ref 64), some (.ref 108), some (.int i)], [.int (nI 13)], w) = val (0, 1000, 593, [some (.ref 0), some (.ref 64), some (.ref 108), some (.int i)], [], w) := val_tsw (t := 593) rfl rfl
theorem sw_14 (w : Wd) (i : Int32) : val (0, 1000, 33, [some (.ref 0), some (.ref 64), some (.ref 108), some (.int i)], [.int (nI 14)], w) = val (0, 1000, 616, [some (.ref 0), some (.ref 64), some (.ref 108), some (.int i)], [], w) := val_tsw (t := 616) rfl rfl
theorem sw_15 (w : Wd) (i : Int32) : val (0, 1000, 33, [some (.ref 0), some (.ref 64), some (.ref 108), some (.int i)], [.int (nI 15)], w) = val (0, 1000, 649, [some (.ref 0), some (.ref 64), some (.ref 108), some (.int i)], [], w) := val_tsw (t := 649) rfl rfl
theorem sw_16 (w : Wd) (i : Int32) : val (0, 1000, 33, [some (.ref 0), some (.ref 64), some (.ref 108), some (.int i)], [.int (nI 16)], w) = val (0, 1000, 672, [some (.ref 0), some (.ref 64), some (.ref 108), some (.int i)], [], w) := val_tsw (t := 672) rfl rfl
theorem sw_17 (w : Wd) (i : Int32) : val (0, 1000, 33, [some (.ref 0), some (.ref 64), some (.ref 108), some (.int i)], [.int (nI 17)], w) = val (0, 1000, 685, [some (.ref 0), some (.ref 64), some (.ref 108), some (.int i)], [], w) := val_tsw (t := 685) rfl rfl
theorem sw_18 (w : Wd) (i : Int32) : val (0, 1000, 33, [some (.ref 0), some (.ref 64), some (.ref 108), some (.int i)], [.int (nI 18)], w) = val (0, 1000, 698, [some (.ref 0), some (.ref 64), some (.ref 108), some (.int i)], [], w) := val_tsw (t := 698) rfl rfl
theorem sw_19 (w : Wd) (i : Int32) : val (0, 1000, 33, [some (.ref 0), some (.ref 64), some (.ref 108), some (.int i)], [.int (nI 19)], w) = val (0, 1000, 721, [some (.ref 0), some (.ref 64), some (.ref 108), some (.int i)], [], w) := val_tsw (t := 721) rfl rfl
theorem sw_20 (w : Wd) (i : Int32) : val (0, 1000, 33, [some (.ref 0), some (.ref 64), some (.ref 108), some (.int i)], [.int (nI 20)], w) = val (0, 1000, 754, [some (.ref 0), some (.ref 64), some (.ref 108), some (.int i)], [], w) := val_tsw (t := 754) rfl rfl
theorem sw_21 (w : Wd) (i : Int32) : val (0, 1000, 33, [some (.ref 0), some (.ref 64), some (.ref 108), some (.int i)], [.int (nI 21)], w) = val (0, 1000, 777, [some (.ref 0), some (.ref 64), some (.ref 108), some (.int i)], [], w) := val_tsw (t := 777) rfl rfl
theorem sw_22 (w : Wd) (i : Int32) : val (0, 1000, 33, [some (.ref 0), some (.ref 64), some (.ref 108), some (.int i)], [.int (nI 22)], w) = val (0, 1000, 820, [some (.ref 0), some (.ref 64), some (.ref 108), some (.int i)], [], w) := val_tsw (t := 820) rfl rfl
theorem sw_23 (w : Wd) (i : Int32) : val (0, 1000, 33, [some (.ref 0), some (.ref 64), some (.ref 108), some (.int i)], [.int (nI 23)], w) = val (0, 1000, 863, [some (.ref 0), some (.ref 64), some (.ref 108), some (.int i)], [], w) := val_tsw (t := 863) rfl rfl
theorem sw_24 (w : Wd) (i : Int32) : val (0, 1000, 33, [some (.ref 0), some (.ref 64), some (.ref 108), some (.int i)], [.int (nI 24)], w) = val (0, 1000, 896, [some (.ref 0), some (.ref 64), some (.ref 108), some (.int i)], [], w) := val_tsw (t := 896) rfl rfl
theorem sw_25 (w : Wd) (i : Int32) : val (0, 1000, 33, [some (.ref 0), some (.ref 64), some (.ref 108), some (.int i)], [.int (nI 25)], w) = val (0, 1000, 919, [some (.ref 0), some (.ref 64), some (.ref 108), some (.int i)], [], w) := val_tsw (t := 919) rfl rfl
theorem sw_26 (w : Wd) (i : Int32) : val (0, 1000, 33, [some (.ref 0), some (.ref 64), some (.ref 108), some (.int i)], [.int (nI 26)], w) = val (0, 1000, 942, [some (.ref 0), some (.ref 64), some (.ref 108), some (.int i)], [], w) := val_tsw (t := 942) rfl rfl
theorem sw_27 (w : Wd) (i : Int32) : val (0, 1000, 33, [some (.ref 0), some (.ref 64), some (.ref 108), some (.int i)], [.int (nI 27)], w) = val (0, 1000, 1005, [some (.ref 0), some (.ref 64), some (.ref 108), some (.int i)], [], w) := val_tsw (t := 1005) rfl rfl
theorem sw_28 (w : Wd) (i : Int32) : val (0, 1000, 33, [some (.ref 0), some (.ref 64), some (.ref 108), some (.int i)], [.int (nI 28)], w) = val (0, 1000, 1018, [some (.ref 0), some (.ref 64), some (.ref 108), some (.int i)], [], w) := val_tsw (t := 1018) rfl rfl
theorem sw_29 (w : Wd) (i : Int32) : val (0, 1000, 33, [some (.ref 0), some (.ref 64), some (.ref 108), some (.int i)], [.int (nI 29)], w) = val (0, 1000, 1031, [some (.ref 0), some (.ref 64), some (.ref 108), some (.int i)], [], w) := val_tsw (t := 1031) rfl rfl
theorem sw_30 (w : Wd) (i : Int32) : val (0, 1000, 33, [some (.ref 0), some (.ref 64), some (.ref 108), some (.int i)], [.int (nI 30)], w) = val (0, 1000, 1064, [some (.ref 0), some (.ref 64), some (.ref 108), some (.int i)], [], w) := val_tsw (t := 1064) rfl rfl
theorem sw_31 (w : Wd) (i : Int32) : val (0, 1000, 33, [some (.ref 0), some (.ref 64), some (.ref 108), some (.int i)], [.int (nI 31)], w) = val (0, 1000, 1087, [some (.ref 0), some (.ref 64), some (.ref 108), some (.int i)], [], w) := val_tsw (t := 1087) rfl rfl
theorem sw_32 (w : Wd) (i : Int32) : val (0, 1000, 33, [some (.ref 0), some (.ref 64), some (.ref 108), some (.int i)], [.int (nI 32)], w) = val (0, 1000, 1111, [some (.ref 0), some (.ref 64), some (.ref 108), some (.int i)], [], w) := val_tsw (t := 1111) rfl rfl
theorem sw_33 (w : Wd) (i : Int32) : val (0, 1000, 33, [some (.ref 0), some (.ref 64), some (.ref 108), some (.int i)], [.int (nI 33)], w) = val (0, 1000, 1145, [some (.ref 0), some (.ref 64), some (.ref 108), some (.int i)], [], w) := val_tsw (t := 1145) rfl rfl
theorem sw_34 (w : Wd) (i : Int32) : val (0, 1000, 33, [some (.ref 0), some (.ref 64), some (.ref 108), some (.int i)], [.int (nI 34)], w) = val (0, 1000, 1188, [some (.ref 0), some (.ref 64), some (.ref 108), some (.int i)], [], w) := val_tsw (t := 1188) rfl rfl
theorem sw_35 (w : Wd) (i : Int32) : val (0, 1000, 33, [some (.ref 0), some (.ref 64), some (.ref 108), some (.int i)], [.int (nI 35)], w) = val (0, 1000, 1211, [some (.ref 0), some (.ref 64), some (.ref 108), some (.int i)], [], w) := val_tsw (t := 1211) rfl rfl
theorem sw_36 (w : Wd) (i : Int32) : val (0, 1000, 33, [some (.ref 0), some (.ref 64), some (.ref 108), some (.int i)], [.int (nI 36)], w) = val (0, 1000, 1234, [some (.ref 0), some (.ref 64), some (.ref 108), some (.int i)], [], w) := val_tsw (t := 1234) rfl rfl
theorem sw_37 (w : Wd) (i : Int32) : val (0, 1000, 33, [some (.ref 0), some (.ref 64), some (.ref 108), some (.int i)], [.int (nI 37)], w) = val (0, 1000, 1277, [some (.ref 0), some (.ref 64), some (.ref 108), some (.int i)], [], w) := val_tsw (t := 1277) rfl rfl
theorem sw_38 (w : Wd) (i : Int32) : val (0, 1000, 33, [some (.ref 0), some (.ref 64), some (.ref 108), some (.int i)], [.int (nI 38)], w) = val (0, 1000, 1340, [some (.ref 0), some (.ref 64), some (.ref 108), some (.int i)], [], w) := val_tsw (t := 1340) rfl rfl
theorem sw_39 (w : Wd) (i : Int32) : val (0, 1000, 33, [some (.ref 0), some (.ref 64), some (.ref 108), some (.int i)], [.int (nI 39)], w) = val (0, 1000, 1384, [some (.ref 0), some (.ref 64), some (.ref 108), some (.int i)], [], w) := val_tsw (t := 1384) rfl rfl
theorem sw_40 (w : Wd) (i : Int32) : val (0, 1000, 33, [some (.ref 0), some (.ref 64), some (.ref 108), some (.int i)], [.int (nI 40)], w) = val (0, 1000, 1384, [some (.ref 0), some (.ref 64), some (.ref 108), some (.int i)], [], w) := val_tsw (t := 1384) rfl rfl
theorem sw_41 (w : Wd) (i : Int32) : val (0, 1000, 33, [some (.ref 0), some (.ref 64), some (.ref 108), some (.int i)], [.int (nI 41)], w) = val (0, 1000, 1384, [some (.ref 0), some (.ref 64), some (.ref 108), some (.int i)], [], w) := val_tsw (t := 1384) rfl rfl
theorem sw_42 (w : Wd) (i : Int32) : val (0, 1000, 33, [some (.ref 0), some (.ref 64), some (.ref 108), some (.int i)], [.int (nI 42)], w) = val (0, 1000, 1384, [some (.ref 0), some (.ref 64), some (.ref 108), some (.int i)], [], w) := val_tsw (t := 1384) rfl rfl
theorem sw_43 (w : Wd) (i : Int32) : val (0, 1000, 33, [some (.ref 0), some (.ref 64), some (.ref 108), some (.int i)], [.int (nI 43)], w) = val (0, 1000, 1384, [some (.ref 0), some (.ref 64), some (.ref 108), some (.int i)], [], w) := val_tsw (t := 1384) rfl rfl
theorem sw_44 (w : Wd) (i : Int32) : val (0, 1000, 33, [some (.ref 0), some (.ref 64), some (.ref 108), some (.int i)], [.int (nI 44)], w) = val (0, 1000, 1384, [some (.ref 0), some (.ref 64), some (.ref 108), some (.int i)], [], w) := val_tsw (t := 1384) rfl rfl
theorem sw_45 (w : Wd) (i : Int32) : val (0, 1000, 33, [some (.ref 0), some (.ref 64), some (.ref 108), some (.int i)], [.int (nI 45)], w) = val (0, 1000, 1384, [some (.ref 0), some (.ref 64), some (.ref 108), some (.int i)], [], w) := val_tsw (t := 1384) rfl rfl
theorem sw_46 (w : Wd) (i : Int32) : val (0, 1000, 33, [some (.ref 0), some (.ref 64), some (.ref 108), some (.int i)], [.int (nI 46)], w) = val (0, 1000, 1384, [some (.ref 0), some (.ref 64), some (.ref 108), some (.int i)], [], w) := val_tsw (t := 1384) rfl rfl
theorem sw_47 (w : Wd) (i : Int32) : val (0, 1000, 33, [some (.ref 0), some (.ref 64), some (.ref 108), some (.int i)], [.int (nI 47)], w) = val (0, 1000, 1384, [some (.ref 0), some (.ref 64), some (.ref 108), some (.int i)], [], w) := val_tsw (t := 1384) rfl rfl
theorem sw_48 (w : Wd) (i : Int32) : val (0, 1000, 33, [some (.ref 0), some (.ref 64), some (.ref 108), some (.int i)], [.int (nI 48)], w) = val (0, 1000, 1384, [some (.ref 0), some (.ref 64), some (.ref 108), some (.int i)], [], w) := val_tsw (t := 1384) rfl rfl
theorem sw_49 (w : Wd) (i : Int32) : val (0, 1000, 33, [some (.ref 0), some (.ref 64), some (.ref 108), some (.int i)], [.int (nI 49)], w) = val (0, 1000, 1384, [some (.ref 0), some (.ref 64), some (.ref 108), some (.int i)], [], w) := val_tsw (t := 1384) rfl rfl
theorem sw_50 (w : Wd) (i : Int32) : val (0, 1000, 33, [some (.ref 0), some (.ref 64), some (.ref 108), some (.int i)], [.int (nI 50)], w) = val (0, 1000, 1384, [some (.ref 0), some (.ref 64), some (.ref 108), some (.int i)], [], w) := val_tsw (t := 1384) rfl rfl
theorem sw_51 (w : Wd) (i : Int32) : val (0, 1000, 33, [some (.ref 0), some (.ref 64), some (.ref 108), some (.int i)], [.int (nI 51)], w) = val (0, 1000, 1384, [some (.ref 0), some (.ref 64), some (.ref 108), some (.int i)], [], w) := val_tsw (t := 1384) rfl rfl
theorem sw_52 (w : Wd) (i : Int32) : val (0, 1000, 33, [some (.ref 0), some (.ref 64), some (.ref 108), some (.int i)], [.int (nI 52)], w) = val (0, 1000, 1384, [some (.ref 0), some (.ref 64), some (.ref 108), some (.int i)], [], w) := val_tsw (t := 1384) rfl rfl
theorem sw_53 (w : Wd) (i : Int32) : val (0, 1000, 33, [some (.ref 0), some (.ref 64), some (.ref 108), some (.int i)], [.int (nI 53)], w) = val (0, 1000, 1384, [some (.ref 0), some (.ref 64), some (.ref 108), some (.int i)], [], w) := val_tsw (t := 1384) rfl rfl
theorem sw_54 (w : Wd) (i : Int32) : val (0, 1000, 33, [some (.ref 0), some (.ref 64), some (.ref 108), some (.int i)], [.int (nI 54)], w) = val (0, 1000, 1384, [some (.ref 0), some (.ref 64), some (.ref 108), some (.int i)], [], w) := val_tsw (t := 1384) rfl rfl
theorem sw_55 (w : Wd) (i : Int32) : val (0, 1000, 33, [some (.ref 0), some (.ref 64), some (.ref 108), some (.int i)], [.int (nI 55)], w) = val (0, 1000, 1384, [some (.ref 0), some (.ref 64), some (.ref 108), some (.int i)], [], w) := val_tsw (t := 1384) rfl rfl
theorem sw_56 (w : Wd) (i : Int32) : val (0, 1000, 33, [some (.ref 0), some (.ref 64), some (.ref 108), some (.int i)], [.int (nI 56)], w) = val (0, 1000, 1384, [some (.ref 0), some (.ref 64), some (.ref 108), some (.int i)], [], w) := val_tsw (t := 1384) rfl rfl
theorem sw_57 (w : Wd) (i : Int32) : val (0, 1000, 33, [some (.ref 0), some (.ref 64), some (.ref 108), some (.int i)], [.int (nI 57)], w) = val (0, 1000, 1384, [some (.ref 0), some (.ref 64), some (.ref 108), some (.int i)], [], w) := val_tsw (t := 1384) rfl rfl
theorem sw_58 (w : Wd) (i : Int32) : val (0, 1000, 33, [some (.ref 0), some (.ref 64), some (.ref 108), some (.int i)], [.int (nI 58)], w) = val (0, 1000, 1384, [some (.ref 0), some (.ref 64), some (.ref 108), some (.int i)], [], w) := val_tsw (t := 1384) rfl rfl
theorem sw_59 (w : Wd) (i : Int32) : val (0, 1000, 33, [some (.ref 0), some (.ref 64), some (.ref 108), some (.int i)], [.int (nI 59)], w) = val (0, 1000, 1384, [some (.ref 0), some (.ref 64), some (.ref 108), some (.int i)], [], w) := val_tsw (t := 1384) rfl rfl
theorem sw_60 (w : Wd) (i : Int32) : val (0, 1000, 33, [some (.ref 0), some (.ref 64), some (.ref 108), some (.int i)], [.int (nI 60)], w) = val (0, 1000, 1384, [some (.ref 0), some (.ref 64), some (.ref 108), some (.int i)], [], w) := val_tsw (t := 1384) rfl rfl
theorem sw_61 (w : Wd) (i : Int32) : val (0, 1000, 33, [some (.ref 0), some (.ref 64), some (.ref 108), some (.int i)], [.int (nI 61)], w) = val (0, 1000, 1384, [some (.ref 0), some (.ref 64), some (.ref 108), some (.int i)], [], w) := val_tsw (t := 1384) rfl rfl
theorem sw_62 (w : Wd) (i : Int32) : val (0, 1000, 33, [some (.ref 0), some (.ref 64), some (.ref 108), some (.int i)], [.int (nI 62)], w) = val (0, 1000, 1384, [some (.ref 0), some (.ref 64), some (.ref 108), some (.int i)], [], w) := val_tsw (t := 1384) rfl rfl
theorem sw_63 (w : Wd) (i : Int32) : val (0, 1000, 33, [some (.ref 0), some (.ref 64), some (.ref 108), some (.int i)], [.int (nI 63)], w) = val (0, 1000, 1384, [some (.ref 0), some (.ref 64), some (.ref 108), some (.int i)], [], w) := val_tsw (t := 1384) rfl rfl
theorem sw_def (w : Wd) (i : Int32) : val (0, 1000, 1384, [some (.ref 0), some (.ref 64), some (.ref 108), some (.int i)], [], w) = val (0, 1000, 18, [some (.ref 0), some (.ref 64), some (.ref 108), some (.int (i + 6))], [], w) := by
  refine (val_g (c2 := (0, 1000, 1387, [some (.ref 0), some (.ref 64), some (.ref 108), some (.int (i + 6))], [], w)) rfl).trans ?_
  exact val_g (c2 := (0, 1000, 18, [some (.ref 0), some (.ref 64), some (.ref 108), some (.int (i + 6))], [], w)) rfl
theorem head_on {w : Wd} {L : Nat} {i : Nat} (hL : wK w 0 = (30, L)) (hi : i + 6 ≤ L) (hL2 : L ≤ 3072) : ∃ q, q < 64 ∧ val (0, 1000, 18, [some (.ref 0), some (.ref 64), some (.ref 108), some (.int (nI i))], [], w) = val (0, 1000, 33, [some (.ref 0), some (.ref 64), some (.ref 108), some (.int (nI i))], [.int (nI q)], w) := by
  obtain ⟨m, hm⟩ : ∃ m, gI w 0 (nI i).toNatClampNeg = nI m := by
    obtain ⟨z, -, -, hz⟩ := i_ex (gI w 0 (nI i).toNatClampNeg)
    exact ⟨_, hz.trans (i_mod z)⟩
  refine ⟨m % 64, Nat.mod_lt _ (by decide), ?_⟩
  refine (val_g (c2 := (0, 1000, 19, [some (.ref 0), some (.ref 64), some (.ref 108), some (.int (nI i))], [.int (nI i)], w)) rfl).trans ?_
  refine (val_g (c2 := (0, 1000, 20, [some (.ref 0), some (.ref 64), some (.ref 108), some (.int (nI i))], [.ref 0, .int (nI i)], w)) rfl).trans ?_
  refine (val_alen rfl hL rfl).trans ?_
  refine (val_g (c2 := (0, 1000, 23, [some (.ref 0), some (.ref 64), some (.ref 108), some (.int (nI i))], [.int 6, .int (nI L), .int (nI i)], w)) rfl).trans ?_
  refine (val_g (c2 := (0, 1000, 24, [some (.ref 0), some (.ref 64), some (.ref 108), some (.int (nI i))], [.int (nI L - nI 6), .int (nI i)], w)) rfl).trans ?_
  rw [n_sub (show 6 ≤ L by omega)]
  refine ((val_ic_gt rfl).trans (if_neg (n_nlt (by omega) (by omega)))).trans ?_
  refine (val_g (c2 := (0, 1000, 28, [some (.ref 0), some (.ref 64), some (.ref 108), some (.int (nI i))], [.ref 0], w)) rfl).trans ?_
  refine (val_g (c2 := (0, 1000, 29, [some (.ref 0), some (.ref 64), some (.ref 108), some (.int (nI i))], [.int (nI i), .ref 0], w)) rfl).trans ?_
  refine (val_ial rfl hL rfl (inB_nI (by omega) (by omega))).trans ?_
  rw [hm]
  refine (val_g (c2 := (0, 1000, 32, [some (.ref 0), some (.ref 64), some (.ref 108), some (.int (nI i))], [.int 63, .int (nI m)], w)) rfl).trans ?_
  refine (val_g (c2 := (0, 1000, 33, [some (.ref 0), some (.ref 64), some (.ref 108), some (.int (nI i))], [.int (nI m &&& nI 63)], w)) rfl).trans ?_
  rw [n_and, show (63 : Nat) = 2 ^ 6 - 1 from rfl, Nat.and_two_pow_sub_one_eq_mod]
theorem head_off {w : Wd} {L : Nat} {i : Nat} (hL : wK w 0 = (30, L)) (hi : L < i + 6) (hL2 : L ≤ 3072) (hi2 : i ≤ 4000) : val (0, 1000, 18, [some (.ref 0), some (.ref 64), some (.ref 108), some (.int (nI i))], [], w) = some (some (.int 1), w) := by
  refine (val_g (c2 := (0, 1000, 19, [some (.ref 0), some (.ref 64), some (.ref 108), some (.int (nI i))], [.int (nI i)], w)) rfl).trans ?_
  refine (val_g (c2 := (0, 1000, 20, [some (.ref 0), some (.ref 64), some (.ref 108), some (.int (nI i))], [.ref 0, .int (nI i)], w)) rfl).trans ?_
  refine (val_alen rfl hL rfl).trans ?_
  refine (val_g (c2 := (0, 1000, 23, [some (.ref 0), some (.ref 64), some (.ref 108), some (.int (nI i))], [.int 6, .int (nI L), .int (nI i)], w)) rfl).trans ?_
  refine (val_g (c2 := (0, 1000, 24, [some (.ref 0), some (.ref 64), some (.ref 108), some (.int (nI i))], [.int (nI L - nI 6), .int (nI i)], w)) rfl).trans ?_
  refine ((val_ic_gt rfl).trans (if_pos ((n_sublt (by omega) (by omega) (by omega)).mpr (by omega)))).trans ?_
  refine (val_g (c2 := (0, 1000, 1391, [some (.ref 0), some (.ref 64), some (.ref 108), some (.int (nI i))], [.int 1], w)) rfl).trans ?_
  exact val_r rfl
theorem loop_step {w : Wd} {c N C L : Nat} {T bl : Nat → Nat} (h : InvS w c N C T bl) (hL : wK w 0 = (30, L)) (hi : 6 * c + 6 ≤ L) (hL2 : L ≤ 3072) : ∃ w2, val (0, 1000, 18, [some (.ref 0), some (.ref 64), some (.ref 108), some (.int (nI (6 * c)))], [], w) = val (0, 1000, 18, [some (.ref 0), some (.ref 64), some (.ref 108), some (.int (nI (6 * (c + 1))))], [], w2) ∧ InvE w2 (c + 1) ∧ wK w2 0 = (30, L) := by
  obtain ⟨q, hq, e⟩ := head_on hL hi hL2
  have hc : c < 512 := by omega
  have hy : ∀ j, j < 6 → inB (nI (6 * c) + nI j) L = true := fun j hj => by
    rw [n_add]
    exact inB_nI (by omega) (by omega)
  have y1 : inB (nI (6 * c) + 1) L = true := hy 1 (by decide)
  have y2 : inB (nI (6 * c) + 2) L = true := hy 2 (by decide)
  have y3 : inB (nI (6 * c) + 3) L = true := hy 3 (by decide)
  have y4 : inB (nI (6 * c) + 4) L = true := hy 4 (by decide)
  have y5 : inB (nI (6 * c) + 5) L = true := hy 5 (by decide)
  have hn : nI (6 * c) + 6 = nI (6 * (c + 1)) := n_add (6 * c) 6
  suffices hN : ∃ pc, val (0, 1000, 33, [some (.ref 0), some (.ref 64), some (.ref 108), some (.int (nI (6 * c)))], [.int (nI q)], w) = val (0, 1000, pc, [some (.ref 0), some (.ref 64), some (.ref 108), some (.int (nI (6 * c)))], [], w) ∧ Nx w (nI (6 * c)) c L pc by
    obtain ⟨pc, e2, w2, e3, e4, e5⟩ := hN
    rw [hn] at e3
    exact ⟨w2, e.trans (e2.trans e3), e4, e5⟩
  have hd : Nx w (nI (6 * c)) c L 1384 := ⟨w, sw_def w _, h.same, hL⟩
  clear e hy hn
  have hq2 : q = 0 ∨ q = 1 ∨ q = 2 ∨ q = 3 ∨ q = 4 ∨ q = 5 ∨ q = 6 ∨ q = 7 ∨ q = 8 ∨ q = 9 ∨ q = 10 ∨ q = 11 ∨ q = 12 ∨ q = 13 ∨ q = 14 ∨ q = 15 ∨ q = 16 ∨ q = 17 ∨ q = 18 ∨ q = 19 ∨ q = 20 ∨ q = 21 ∨ q = 22 ∨ q = 23 ∨ q = 24 ∨ q = 25 ∨ q = 26 ∨ q = 27 ∨ q = 28 ∨ q = 29 ∨ q = 30 ∨ q = 31 ∨ q = 32 ∨ q = 33 ∨ q = 34 ∨ q = 35 ∨ q = 36 ∨ q = 37 ∨ q = 38 ∨ q = 39 ∨ q = 40 ∨ q = 41 ∨ q = 42 ∨ q = 43 ∨ q = 44 ∨ q = 45 ∨ q = 46 ∨ q = 47 ∨ q = 48 ∨ q = 49 ∨ q = 50 ∨ q = 51 ∨ q = 52 ∨ q = 53 ∨ q = 54 ∨ q = 55 ∨ q = 56 ∨ q = 57 ∨ q = 58 ∨ q = 59 ∨ q = 60 ∨ q = 61 ∨ q = 62 ∨ q = 63 := by omega
  rcases hq2 with rfl | rfl | rfl | rfl | rfl | rfl | rfl | rfl | rfl | rfl | rfl | rfl | rfl | rfl | rfl | rfl | rfl | rfl | rfl | rfl | rfl | rfl | rfl | rfl | rfl | rfl | rfl | rfl | rfl | rfl | rfl | rfl | rfl | rfl | rfl | rfl | rfl | rfl | rfl | rfl | rfl | rfl | rfl | rfl | rfl | rfl | rfl | rfl | rfl | rfl | rfl | rfl | rfl | rfl | rfl | rfl | rfl | rfl | rfl | rfl | rfl | rfl | rfl | rfl
  · exact ⟨204, sw_0 w _, n_0 h hL y1⟩
  · exact ⟨227, sw_1 w _, n_1 h hc hL y1 y2⟩
  · exact ⟨260, sw_2 w _, n_2 h hc hL y1⟩
  · exact ⟨283, sw_3 w _, n_3 h hc hL y1 y2⟩
  · exact ⟨316, sw_4 w _, n_4 h hc hL y1⟩
  · exact ⟨339, sw_5 w _, n_5 h hc hL y1 y2 y3⟩
  · exact ⟨402, sw_6 w _, n_6 h hL⟩
  · exact ⟨415, sw_7 w _, n_7 h hc hL y1 y2⟩
  · exact ⟨448, sw_8 w _, n_8 h hc hL y1 y2 y3⟩
  · exact ⟨491, sw_9 w _, n_9 h hc hL y1⟩
  · exact ⟨514, sw_10 w _, n_10 h hc hL y1 y2⟩
  · exact ⟨547, sw_11 w _, n_11 h hc hL y1⟩
  · exact ⟨570, sw_12 w _, n_12 h hc hL y1⟩
  · exact ⟨593, sw_13 w _, n_13 h hc hL y1⟩
  · exact ⟨616, sw_14 w _, n_14 h hc hL y1 y2⟩
  · exact ⟨649, sw_15 w _, n_15 h hc hL y1⟩
  · exact ⟨672, sw_16 w _, n_16 h hc hL⟩
  · exact ⟨685, sw_17 w _, n_17 h hc hL⟩
  · exact ⟨698, sw_18 w _, n_18 h hc hL y1⟩
  · exact ⟨721, sw_19 w _, n_19 h hc hL y1 y2⟩
  · exact ⟨754, sw_20 w _, n_20 h hc hL y1⟩
  · exact ⟨777, sw_21 w _, n_21 h hc hL y1 y2 y3⟩
  · exact ⟨820, sw_22 w _, n_22 h hc hL y1 y2 y3⟩
  · exact ⟨863, sw_23 w _, n_23 h hc hL y1 y2⟩
  · exact ⟨896, sw_24 w _, n_24 h hc hL y1⟩
  · exact ⟨919, sw_25 w _, n_25 h hc hL y1⟩
  · exact ⟨942, sw_26 w _, n_26 h hc hL y1 y2 y3⟩
  · exact ⟨1005, sw_27 w _, n_27 h hc hL⟩
  · exact ⟨1018, sw_28 w _, n_28 h hc hL⟩
  · exact ⟨1031, sw_29 w _, n_29 h hc hL y1 y2⟩
  · exact ⟨1064, sw_30 w _, n_30 h hc hL y1⟩
  · exact ⟨1087, sw_31 w _, n_31 h hc hL y1⟩
  · exact ⟨1111, sw_32 w _, n_32 h hc hL y1 y2⟩
  · exact ⟨1145, sw_33 w _, n_33 h hc hL y1 y2 y3⟩
  · exact ⟨1188, sw_34 w _, n_34 h hc hL y1⟩
  · exact ⟨1211, sw_35 w _, n_35 h hc hL y1⟩
  · exact ⟨1234, sw_36 w _, n_36 h hc hL y1 y2 y3⟩
  · exact ⟨1277, sw_37 w _, n_37 h hc hL y1 y2 y3 y4 y5⟩
  · exact ⟨1340, sw_38 w _, n_38 h hc hL y1 y2 y3⟩
  · exact ⟨1384, sw_39 w _, hd⟩
  · exact ⟨1384, sw_40 w _, hd⟩
  · exact ⟨1384, sw_41 w _, hd⟩
  · exact ⟨1384, sw_42 w _, hd⟩
  · exact ⟨1384, sw_43 w _, hd⟩
  · exact ⟨1384, sw_44 w _, hd⟩
  · exact ⟨1384, sw_45 w _, hd⟩
  · exact ⟨1384, sw_46 w _, hd⟩
  · exact ⟨1384, sw_47 w _, hd⟩
  · exact ⟨1384, sw_48 w _, hd⟩
  · exact ⟨1384, sw_49 w _, hd⟩
  · exact ⟨1384, sw_50 w _, hd⟩
  · exact ⟨1384, sw_51 w _, hd⟩
  · exact ⟨1384, sw_52 w _, hd⟩
  · exact ⟨1384, sw_53 w _, hd⟩
  · exact ⟨1384, sw_54 w _, hd⟩
  · exact ⟨1384, sw_55 w _, hd⟩
  · exact ⟨1384, sw_56 w _, hd⟩
  · exact ⟨1384, sw_57 w _, hd⟩
  · exact ⟨1384, sw_58 w _, hd⟩
  · exact ⟨1384, sw_59 w _, hd⟩
  · exact ⟨1384, sw_60 w _, hd⟩
  · exact ⟨1384, sw_61 w _, hd⟩
  · exact ⟨1384, sw_62 w _, hd⟩
  · exact ⟨1384, sw_63 w _, hd⟩
theorem loop_all {L : Nat} (hL2 : L ≤ 3072) (n : Nat) : ∀ (c : Nat) (w : Wd), L / 6 = c + n → InvE w c → wK w 0 = (30, L) → ∃ w2, val (0, 1000, 18, [some (.ref 0), some (.ref 64), some (.ref 108), some (.int (nI (6 * c)))], [], w) = some (some (.int 1), w2) ∧ wN w2 ≤ 500064 ∧ wS w2 ≤ 7000000 := by
  induction n with
  | zero =>
    intro c w hc h hL
    obtain ⟨N, C, T, bl, h⟩ := h
    refine ⟨w, head_off hL (by omega) hL2 (by omega), ?_, ?_⟩
    · have := h.hn2
      omega
    · have := h.hs
      omega
  | succ n ih =>
    intro c w hc h hL
    obtain ⟨N, C, T, bl, h⟩ := h
    obtain ⟨w2, e1, e2, e3⟩ := loop_step h hL (by omega) hL2
    obtain ⟨w3, g1, g2, g3⟩ := ih (c + 1) w2 (by omega) e2 e3
    exact ⟨w3, e1.trans g1, g2, g3⟩
