/-! the words of the methods, chunk by chunk -/
def mq_75 : Mi := (yX4_refuse, cX4_refuse, 1, none, [3013, 1013, 3012, 9005])
set_option maxRecDepth 100000 in
theorem okc_75_0 : (tb_75_0.all (fun x => okE mq_75 x.1 x.2)) = true := by decide +kernel
theorem okt_75 : okT mq_75 tb_75 = true := by
  show (List.all [(16, tb_75_0)] _) = true
  simp only [List.all_cons, List.all_nil, Bool.and_true, Bool.and_eq_true]
  exact okc_75_0
theorem okm_75 : okM 75 = true := by decide +kernel
def mq_76 : Mi := (yX4_kindOf, cX4_kindOf, 1, (some .int), [3009, 1013, 3008, 0])
set_option maxRecDepth 100000 in
theorem okc_76_0 : (tb_76_0.all (fun x => okE mq_76 x.1 x.2)) = true := by decide +kernel
set_option maxRecDepth 100000 in
theorem okc_76_1 : (tb_76_1.all (fun x => okE mq_76 x.1 x.2)) = true := by decide +kernel
set_option maxRecDepth 100000 in
theorem okc_76_2 : (tb_76_2.all (fun x => okE mq_76 x.1 x.2)) = true := by decide +kernel
set_option maxRecDepth 100000 in
theorem okc_76_3 : (tb_76_3.all (fun x => okE mq_76 x.1 x.2)) = true := by decide +kernel
set_option maxRecDepth 100000 in
theorem okc_76_4 : (tb_76_4.all (fun x => okE mq_76 x.1 x.2)) = true := by decide +kernel
theorem okt_76 : okT mq_76 tb_76 = true := by
  show (List.all [(14, tb_76_0), (28, tb_76_1), (42, tb_76_2), (57, tb_76_3), (72, tb_76_4)] _) = true
  simp only [List.all_cons, List.all_nil, Bool.and_true, Bool.and_eq_true]
  exact ⟨okc_76_0, okc_76_1, okc_76_2, okc_76_3, okc_76_4⟩
theorem okm_76 : okM 76 = true := by decide +kernel
def mq_80 : Mi := (yX4_nextToken, cX4_nextToken, 2, none, [3006, 1013, 3005, 9004])
set_option maxRecDepth 100000 in
theorem okc_80_0 : (tb_80_0.all (fun x => okE mq_80 x.1 x.2)) = true := by decide +kernel
set_option maxRecDepth 100000 in
theorem okc_80_1 : (tb_80_1.all (fun x => okE mq_80 x.1 x.2)) = true := by decide +kernel
set_option maxRecDepth 100000 in
theorem okc_80_2 : (tb_80_2.all (fun x => okE mq_80 x.1 x.2)) = true := by decide +kernel
set_option maxRecDepth 100000 in
theorem okc_80_3 : (tb_80_3.all (fun x => okE mq_80 x.1 x.2)) = true := by decide +kernel
set_option maxRecDepth 100000 in
theorem okc_80_4 : (tb_80_4.all (fun x => okE mq_80 x.1 x.2)) = true := by decide +kernel
set_option maxRecDepth 100000 in
theorem okc_80_5 : (tb_80_5.all (fun x => okE mq_80 x.1 x.2)) = true := by decide +kernel
set_option maxRecDepth 100000 in
theorem okc_80_6 : (tb_80_6.all (fun x => okE mq_80 x.1 x.2)) = true := by decide +kernel
set_option maxRecDepth 100000 in
theorem okc_80_7 : (tb_80_7.all (fun x => okE mq_80 x.1 x.2)) = true := by decide +kernel
set_option maxRecDepth 100000 in
theorem okc_80_8 : (tb_80_8.all (fun x => okE mq_80 x.1 x.2)) = true := by decide +kernel
theorem okt_80 : okT mq_80 tb_80 = true := by
  show (List.all [(20, tb_80_0), (40, tb_80_1), (60, tb_80_2), (80, tb_80_3), (98, tb_80_4), (118, tb_80_5), (138, tb_80_6), (158, tb_80_7), (167, tb_80_8)] _) = true
  simp only [List.all_cons, List.all_nil, Bool.and_true, Bool.and_eq_true]
  exact ⟨okc_80_0, okc_80_1, okc_80_2, okc_80_3, okc_80_4, okc_80_5, okc_80_6, okc_80_7, okc_80_8⟩
theorem okm_80 : okM 80 = true := by decide +kernel
def mq_81 : Mi := (yX4_number, cX4_number, 3, (some .int), [3119, 1013, 3118, 9012])
set_option maxRecDepth 100000 in
theorem okc_81_0 : (tb_81_0.all (fun x => okE mq_81 x.1 x.2)) = true := by decide +kernel
set_option maxRecDepth 100000 in
theorem okc_81_1 : (tb_81_1.all (fun x => okE mq_81 x.1 x.2)) = true := by decide +kernel
set_option maxRecDepth 100000 in
theorem okc_81_2 : (tb_81_2.all (fun x => okE mq_81 x.1 x.2)) = true := by decide +kernel
set_option maxRecDepth 100000 in
theorem okc_81_3 : (tb_81_3.all (fun x => okE mq_81 x.1 x.2)) = true := by decide +kernel
set_option maxRecDepth 100000 in
theorem okc_81_4 : (tb_81_4.all (fun x => okE mq_81 x.1 x.2)) = true := by decide +kernel
theorem okt_81 : okT mq_81 tb_81 = true := by
  show (List.all [(16, tb_81_0), (27, tb_81_1), (42, tb_81_2), (53, tb_81_3), (62, tb_81_4)] _) = true
  simp only [List.all_cons, List.all_nil, Bool.and_true, Bool.and_eq_true]
  exact ⟨okc_81_0, okc_81_1, okc_81_2, okc_81_3, okc_81_4⟩
theorem okm_81 : okM 81 = true := by decide +kernel
def mq_82 : Mi := (yX4_isWord, cX4_isWord, 3, (some .boolean), [3054, 1013, 3053, 9008])
set_option maxRecDepth 100000 in
theorem okc_82_0 : (tb_82_0.all (fun x => okE mq_82 x.1 x.2)) = true := by decide +kernel
set_option maxRecDepth 100000 in
theorem okc_82_1 : (tb_82_1.all (fun x => okE mq_82 x.1 x.2)) = true := by decide +kernel
set_option maxRecDepth 100000 in
theorem okc_82_2 : (tb_82_2.all (fun x => okE mq_82 x.1 x.2)) = true := by decide +kernel
set_option maxRecDepth 100000 in
theorem okc_82_3 : (tb_82_3.all (fun x => okE mq_82 x.1 x.2)) = true := by decide +kernel
set_option maxRecDepth 100000 in
theorem okc_82_4 : (tb_82_4.all (fun x => okE mq_82 x.1 x.2)) = true := by decide +kernel
theorem okt_82 : okT mq_82 tb_82 = true := by
  show (List.all [(16, tb_82_0), (28, tb_82_1), (44, tb_82_2), (56, tb_82_3), (65, tb_82_4)] _) = true
  simp only [List.all_cons, List.all_nil, Bool.and_true, Bool.and_eq_true]
  exact ⟨okc_82_0, okc_82_1, okc_82_2, okc_82_3, okc_82_4⟩
theorem okm_82 : okM 82 = true := by decide +kernel
def mq_83 : Mi := (yX4_takesWord, cX4_takesWord, 3, (some .boolean), [3050, 1013, 3049, 9007])
set_option maxRecDepth 100000 in
theorem okc_83_0 : (tb_83_0.all (fun x => okE mq_83 x.1 x.2)) = true := by decide +kernel
set_option maxRecDepth 100000 in
theorem okc_83_1 : (tb_83_1.all (fun x => okE mq_83 x.1 x.2)) = true := by decide +kernel
theorem okt_83 : okT mq_83 tb_83 = true := by
  show (List.all [(14, tb_83_0), (16, tb_83_1)] _) = true
  simp only [List.all_cons, List.all_nil, Bool.and_true, Bool.and_eq_true]
  exact ⟨okc_83_0, okc_83_1⟩
theorem okm_83 : okM 83 = true := by decide +kernel
def mq_84 : Mi := (yX4_takesSign, cX4_takesSign, 3, (some .boolean), [3175, 1013, 3174, 9017])
set_option maxRecDepth 100000 in
theorem okc_84_0 : (tb_84_0.all (fun x => okE mq_84 x.1 x.2)) = true := by decide +kernel
set_option maxRecDepth 100000 in
theorem okc_84_1 : (tb_84_1.all (fun x => okE mq_84 x.1 x.2)) = true := by decide +kernel
set_option maxRecDepth 100000 in
theorem okc_84_2 : (tb_84_2.all (fun x => okE mq_84 x.1 x.2)) = true := by decide +kernel
theorem okt_84 : okT mq_84 tb_84 = true := by
  show (List.all [(16, tb_84_0), (28, tb_84_1), (37, tb_84_2)] _) = true
  simp only [List.all_cons, List.all_nil, Bool.and_true, Bool.and_eq_true]
  exact ⟨okc_84_0, okc_84_1, okc_84_2⟩
theorem okm_84 : okM 84 = true := by decide +kernel
def mq_85 : Mi := (yX4_numberWithin, cX4_numberWithin, 5, (some .int), [3115, 1013, 3114, 9011])
set_option maxRecDepth 100000 in
theorem okc_85_0 : (tb_85_0.all (fun x => okE mq_85 x.1 x.2)) = true := by decide +kernel
set_option maxRecDepth 100000 in
theorem okc_85_1 : (tb_85_1.all (fun x => okE mq_85 x.1 x.2)) = true := by decide +kernel
set_option maxRecDepth 100000 in
theorem okc_85_2 : (tb_85_2.all (fun x => okE mq_85 x.1 x.2)) = true := by decide +kernel
theorem okt_85 : okT mq_85 tb_85 = true := by
  show (List.all [(15, tb_85_0), (30, tb_85_1), (37, tb_85_2)] _) = true
  simp only [List.all_cons, List.all_nil, Bool.and_true, Bool.and_eq_true]
  exact ⟨okc_85_0, okc_85_1, okc_85_2⟩
theorem okm_85 : okM 85 = true := by decide +kernel
def mq_87 : Mi := (yX4_readMethod, cX4_readMethod, 2, none, [3002, 1013, 3000, 3001])
set_option maxRecDepth 100000 in
theorem okc_87_0 : (tb_87_0.all (fun x => okE mq_87 x.1 x.2)) = true := by decide +kernel
set_option maxRecDepth 100000 in
theorem okc_87_1 : (tb_87_1.all (fun x => okE mq_87 x.1 x.2)) = true := by decide +kernel
set_option maxRecDepth 100000 in
theorem okc_87_2 : (tb_87_2.all (fun x => okE mq_87 x.1 x.2)) = true := by decide +kernel
set_option maxRecDepth 100000 in
theorem okc_87_3 : (tb_87_3.all (fun x => okE mq_87 x.1 x.2)) = true := by decide +kernel
theorem okt_87 : okT mq_87 tb_87 = true := by
  show (List.all [(13, tb_87_0), (31, tb_87_1), (50, tb_87_2), (54, tb_87_3)] _) = true
  simp only [List.all_cons, List.all_nil, Bool.and_true, Bool.and_eq_true]
  exact ⟨okc_87_0, okc_87_1, okc_87_2, okc_87_3⟩
theorem okm_87 : okM 87 = true := by decide +kernel
def mq_88 : Mi := (yX4_readRule, cX4_readRule, 4, none, [3017, 1013, 3016, 9006])
set_option maxRecDepth 100000 in
theorem okc_88_0 : (tb_88_0.all (fun x => okE mq_88 x.1 x.2)) = true := by decide +kernel
set_option maxRecDepth 100000 in
theorem okc_88_1 : (tb_88_1.all (fun x => okE mq_88 x.1 x.2)) = true := by decide +kernel
set_option maxRecDepth 100000 in
theorem okc_88_2 : (tb_88_2.all (fun x => okE mq_88 x.1 x.2)) = true := by decide +kernel
set_option maxRecDepth 100000 in
theorem okc_88_3 : (tb_88_3.all (fun x => okE mq_88 x.1 x.2)) = true := by decide +kernel
set_option maxRecDepth 100000 in
theorem okc_88_4 : (tb_88_4.all (fun x => okE mq_88 x.1 x.2)) = true := by decide +kernel
set_option maxRecDepth 100000 in
theorem okc_88_5 : (tb_88_5.all (fun x => okE mq_88 x.1 x.2)) = true := by decide +kernel
set_option maxRecDepth 100000 in
theorem okc_88_6 : (tb_88_6.all (fun x => okE mq_88 x.1 x.2)) = true := by decide +kernel
set_option maxRecDepth 100000 in
theorem okc_88_7 : (tb_88_7.all (fun x => okE mq_88 x.1 x.2)) = true := by decide +kernel
theorem okt_88 : okT mq_88 tb_88 = true := by
  show (List.all [(15, tb_88_0), (28, tb_88_1), (45, tb_88_2), (62, tb_88_3), (80, tb_88_4), (96, tb_88_5), (113, tb_88_6), (118, tb_88_7)] _) = true
  simp only [List.all_cons, List.all_nil, Bool.and_true, Bool.and_eq_true]
  exact ⟨okc_88_0, okc_88_1, okc_88_2, okc_88_3, okc_88_4, okc_88_5, okc_88_6, okc_88_7⟩
theorem okm_88 : okM 88 = true := by decide +kernel
def mq_89 : Mi := (yX4_readCond, cX4_readCond, 4, none, [3106, 1013, 3105, 9009])
set_option maxRecDepth 100000 in
theorem okc_89_0 : (tb_89_0.all (fun x => okE mq_89 x.1 x.2)) = true := by decide +kernel
set_option maxRecDepth 100000 in
theorem okc_89_1 : (tb_89_1.all (fun x => okE mq_89 x.1 x.2)) = true := by decide +kernel
set_option maxRecDepth 100000 in
theorem okc_89_2 : (tb_89_2.all (fun x => okE mq_89 x.1 x.2)) = true := by decide +kernel
set_option maxRecDepth 100000 in
theorem okc_89_3 : (tb_89_3.all (fun x => okE mq_89 x.1 x.2)) = true := by decide +kernel
set_option maxRecDepth 100000 in
theorem okc_89_4 : (tb_89_4.all (fun x => okE mq_89 x.1 x.2)) = true := by decide +kernel
set_option maxRecDepth 100000 in
theorem okc_89_5 : (tb_89_5.all (fun x => okE mq_89 x.1 x.2)) = true := by decide +kernel
set_option maxRecDepth 100000 in
theorem okc_89_6 : (tb_89_6.all (fun x => okE mq_89 x.1 x.2)) = true := by decide +kernel
set_option maxRecDepth 100000 in
theorem okc_89_7 : (tb_89_7.all (fun x => okE mq_89 x.1 x.2)) = true := by decide +kernel
theorem okt_89 : okT mq_89 tb_89 = true := by
  show (List.all [(16, tb_89_0), (34, tb_89_1), (50, tb_89_2), (65, tb_89_3), (81, tb_89_4), (98, tb_89_5), (109, tb_89_6), (126, tb_89_7)] _) = true
  simp only [List.all_cons, List.all_nil, Bool.and_true, Bool.and_eq_true]
  exact ⟨okc_89_0, okc_89_1, okc_89_2, okc_89_3, okc_89_4, okc_89_5, okc_89_6, okc_89_7⟩
theorem okm_89 : okM 89 = true := by decide +kernel
def mq_90 : Mi := (yX4_readPlacing, cX4_readPlacing, 4, none, [3111, 1013, 3110, 9010])
set_option maxRecDepth 100000 in
theorem okc_90_0 : (tb_90_0.all (fun x => okE mq_90 x.1 x.2)) = true := by decide +kernel
set_option maxRecDepth 100000 in
theorem okc_90_1 : (tb_90_1.all (fun x => okE mq_90 x.1 x.2)) = true := by decide +kernel
set_option maxRecDepth 100000 in
theorem okc_90_2 : (tb_90_2.all (fun x => okE mq_90 x.1 x.2)) = true := by decide +kernel
set_option maxRecDepth 100000 in
theorem okc_90_3 : (tb_90_3.all (fun x => okE mq_90 x.1 x.2)) = true := by decide +kernel
set_option maxRecDepth 100000 in
theorem okc_90_4 : (tb_90_4.all (fun x => okE mq_90 x.1 x.2)) = true := by decide +kernel
set_option maxRecDepth 100000 in
theorem okc_90_5 : (tb_90_5.all (fun x => okE mq_90 x.1 x.2)) = true := by decide +kernel
theorem okt_90 : okT mq_90 tb_90 = true := by
  show (List.all [(12, tb_90_0), (25, tb_90_1), (41, tb_90_2), (54, tb_90_3), (70, tb_90_4), (74, tb_90_5)] _) = true
  simp only [List.all_cons, List.all_nil, Bool.and_true, Bool.and_eq_true]
  exact ⟨okc_90_0, okc_90_1, okc_90_2, okc_90_3, okc_90_4, okc_90_5⟩
theorem okm_90 : okM 90 = true := by decide +kernel
def mq_91 : Mi := (yX4_readChange, cX4_readChange, 4, (some .int), [3134, 1013, 3133, 9013])
set_option maxRecDepth 100000 in
theorem okc_91_0 : (tb_91_0.all (fun x => okE mq_91 x.1 x.2)) = true := by decide +kernel
set_option maxRecDepth 100000 in
theorem okc_91_1 : (tb_91_1.all (fun x => okE mq_91 x.1 x.2)) = true := by decide +kernel
set_option maxRecDepth 100000 in
theorem okc_91_2 : (tb_91_2.all (fun x => okE mq_91 x.1 x.2)) = true := by decide +kernel
set_option maxRecDepth 100000 in
theorem okc_91_3 : (tb_91_3.all (fun x => okE mq_91 x.1 x.2)) = true := by decide +kernel
set_option maxRecDepth 100000 in
theorem okc_91_4 : (tb_91_4.all (fun x => okE mq_91 x.1 x.2)) = true := by decide +kernel
set_option maxRecDepth 100000 in
theorem okc_91_5 : (tb_91_5.all (fun x => okE mq_91 x.1 x.2)) = true := by decide +kernel
set_option maxRecDepth 100000 in
theorem okc_91_6 : (tb_91_6.all (fun x => okE mq_91 x.1 x.2)) = true := by decide +kernel
set_option maxRecDepth 100000 in
theorem okc_91_7 : (tb_91_7.all (fun x => okE mq_91 x.1 x.2)) = true := by decide +kernel
set_option maxRecDepth 100000 in
theorem okc_91_8 : (tb_91_8.all (fun x => okE mq_91 x.1 x.2)) = true := by decide +kernel
set_option maxRecDepth 100000 in
theorem okc_91_9 : (tb_91_9.all (fun x => okE mq_91 x.1 x.2)) = true := by decide +kernel
theorem okt_91 : okT mq_91 tb_91 = true := by
  show (List.all [(23, tb_91_0), (42, tb_91_1), (64, tb_91_2), (84, tb_91_3), (107, tb_91_4), (125, tb_91_5), (145, tb_91_6), (165, tb_91_7), (185, tb_91_8), (196, tb_91_9)] _) = true
  simp only [List.all_cons, List.all_nil, Bool.and_true, Bool.and_eq_true]
  exact ⟨okc_91_0, okc_91_1, okc_91_2, okc_91_3, okc_91_4, okc_91_5, okc_91_6, okc_91_7, okc_91_8, okc_91_9⟩
theorem okm_91 : okM 91 = true := by decide +kernel
def mq_92 : Mi := (yX4_readSome, cX4_readSome, 4, (some .int), [3179, 1013, 3178, 9018])
set_option maxRecDepth 100000 in
theorem okc_92_0 : (tb_92_0.all (fun x => okE mq_92 x.1 x.2)) = true := by decide +kernel
set_option maxRecDepth 100000 in
theorem okc_92_1 : (tb_92_1.all (fun x => okE mq_92 x.1 x.2)) = true := by decide +kernel
set_option maxRecDepth 100000 in
theorem okc_92_2 : (tb_92_2.all (fun x => okE mq_92 x.1 x.2)) = true := by decide +kernel
set_option maxRecDepth 100000 in
theorem okc_92_3 : (tb_92_3.all (fun x => okE mq_92 x.1 x.2)) = true := by decide +kernel
set_option maxRecDepth 100000 in
theorem okc_92_4 : (tb_92_4.all (fun x => okE mq_92 x.1 x.2)) = true := by decide +kernel
set_option maxRecDepth 100000 in
theorem okc_92_5 : (tb_92_5.all (fun x => okE mq_92 x.1 x.2)) = true := by decide +kernel
theorem okt_92 : okT mq_92 tb_92 = true := by
  show (List.all [(10, tb_92_0), (26, tb_92_1), (40, tb_92_2), (58, tb_92_3), (75, tb_92_4), (76, tb_92_5)] _) = true
  simp only [List.all_cons, List.all_nil, Bool.and_true, Bool.and_eq_true]
  exact ⟨okc_92_0, okc_92_1, okc_92_2, okc_92_3, okc_92_4, okc_92_5⟩
theorem okm_92 : okM 92 = true := by decide +kernel
def mq_93 : Mi := (yX4_readPlaces, cX4_readPlaces, 6, (some .int), [3147, 1013, 3146, 9014])
set_option maxRecDepth 100000 in
theorem okc_93_0 : (tb_93_0.all (fun x => okE mq_93 x.1 x.2)) = true := by decide +kernel
set_option maxRecDepth 100000 in
theorem okc_93_1 : (tb_93_1.all (fun x => okE mq_93 x.1 x.2)) = true := by decide +kernel
set_option maxRecDepth 100000 in
theorem okc_93_2 : (tb_93_2.all (fun x => okE mq_93 x.1 x.2)) = true := by decide +kernel
set_option maxRecDepth 100000 in
theorem okc_93_3 : (tb_93_3.all (fun x => okE mq_93 x.1 x.2)) = true := by decide +kernel
set_option maxRecDepth 100000 in
theorem okc_93_4 : (tb_93_4.all (fun x => okE mq_93 x.1 x.2)) = true := by decide +kernel
set_option maxRecDepth 100000 in
theorem okc_93_5 : (tb_93_5.all (fun x => okE mq_93 x.1 x.2)) = true := by decide +kernel
set_option maxRecDepth 100000 in
theorem okc_93_6 : (tb_93_6.all (fun x => okE mq_93 x.1 x.2)) = true := by decide +kernel
set_option maxRecDepth 100000 in
theorem okc_93_7 : (tb_93_7.all (fun x => okE mq_93 x.1 x.2)) = true := by decide +kernel
set_option maxRecDepth 100000 in
theorem okc_93_8 : (tb_93_8.all (fun x => okE mq_93 x.1 x.2)) = true := by decide +kernel
theorem okt_93 : okT mq_93 tb_93 = true := by
  show (List.all [(15, tb_93_0), (30, tb_93_1), (47, tb_93_2), (64, tb_93_3), (79, tb_93_4), (92, tb_93_5), (109, tb_93_6), (126, tb_93_7), (134, tb_93_8)] _) = true
  simp only [List.all_cons, List.all_nil, Bool.and_true, Bool.and_eq_true]
  exact ⟨okc_93_0, okc_93_1, okc_93_2, okc_93_3, okc_93_4, okc_93_5, okc_93_6, okc_93_7, okc_93_8⟩
theorem okm_93 : okM 93 = true := by decide +kernel
def mq_94 : Mi := (yX4_readJump, cX4_readJump, 4, (some .int), [3152, 1013, 3151, 9015])
set_option maxRecDepth 100000 in
theorem okc_94_0 : (tb_94_0.all (fun x => okE mq_94 x.1 x.2)) = true := by decide +kernel
set_option maxRecDepth 100000 in
theorem okc_94_1 : (tb_94_1.all (fun x => okE mq_94 x.1 x.2)) = true := by decide +kernel
set_option maxRecDepth 100000 in
theorem okc_94_2 : (tb_94_2.all (fun x => okE mq_94 x.1 x.2)) = true := by decide +kernel
set_option maxRecDepth 100000 in
theorem okc_94_3 : (tb_94_3.all (fun x => okE mq_94 x.1 x.2)) = true := by decide +kernel
theorem okt_94 : okT mq_94 tb_94 = true := by
  show (List.all [(12, tb_94_0), (26, tb_94_1), (36, tb_94_2), (37, tb_94_3)] _) = true
  simp only [List.all_cons, List.all_nil, Bool.and_true, Bool.and_eq_true]
  exact ⟨okc_94_0, okc_94_1, okc_94_2, okc_94_3⟩
theorem okm_94 : okM 94 = true := by decide +kernel
def mq_95 : Mi := (yX4_readTurn, cX4_readTurn, 4, (some .int), [3163, 1013, 3162, 9016])
set_option maxRecDepth 100000 in
theorem okc_95_0 : (tb_95_0.all (fun x => okE mq_95 x.1 x.2)) = true := by decide +kernel
set_option maxRecDepth 100000 in
theorem okc_95_1 : (tb_95_1.all (fun x => okE mq_95 x.1 x.2)) = true := by decide +kernel
set_option maxRecDepth 100000 in
theorem okc_95_2 : (tb_95_2.all (fun x => okE mq_95 x.1 x.2)) = true := by decide +kernel
set_option maxRecDepth 100000 in
theorem okc_95_3 : (tb_95_3.all (fun x => okE mq_95 x.1 x.2)) = true := by decide +kernel
theorem okt_95 : okT mq_95 tb_95 = true := by
  show (List.all [(12, tb_95_0), (24, tb_95_1), (38, tb_95_2), (50, tb_95_3)] _) = true
  simp only [List.all_cons, List.all_nil, Bool.and_true, Bool.and_eq_true]
  exact ⟨okc_95_0, okc_95_1, okc_95_2, okc_95_3⟩
theorem okm_95 : okM 95 = true := by decide +kernel
def mq_96 : Mi := (yX5_size, cX5_size, 2, (some .long), [4163, 1021, 4162, 0])
set_option maxRecDepth 100000 in
theorem okc_96_0 : (tb_96_0.all (fun x => okE mq_96 x.1 x.2)) = true := by decide +kernel
theorem okt_96 : okT mq_96 tb_96 = true := by
  show (List.all [(6, tb_96_0)] _) = true
  simp only [List.all_cons, List.all_nil, Bool.and_true, Bool.and_eq_true]
  exact okc_96_0
theorem okm_96 : okM 96 = true := by decide +kernel
def mq_97 : Mi := (yX5_isNaN, cX5_isNaN, 2, (some .boolean), [4160, 1021, 4159, 0])
set_option maxRecDepth 100000 in
theorem okc_97_0 : (tb_97_0.all (fun x => okE mq_97 x.1 x.2)) = true := by decide +kernel
set_option maxRecDepth 100000 in
theorem okc_97_1 : (tb_97_1.all (fun x => okE mq_97 x.1 x.2)) = true := by decide +kernel
theorem okt_97 : okT mq_97 tb_97 = true := by
  show (List.all [(16, tb_97_0), (17, tb_97_1)] _) = true
  simp only [List.all_cons, List.all_nil, Bool.and_true, Bool.and_eq_true]
  exact ⟨okc_97_0, okc_97_1⟩
theorem okm_97 : okM 97 = true := by decide +kernel
def mq_98 : Mi := (yX5_isInfinite, cX5_isInfinite, 2, (some .boolean), [4207, 1021, 4206, 0])
set_option maxRecDepth 100000 in
theorem okc_98_0 : (tb_98_0.all (fun x => okE mq_98 x.1 x.2)) = true := by decide +kernel
set_option maxRecDepth 100000 in
theorem okc_98_1 : (tb_98_1.all (fun x => okE mq_98 x.1 x.2)) = true := by decide +kernel
theorem okt_98 : okT mq_98 tb_98 = true := by
  show (List.all [(16, tb_98_0), (17, tb_98_1)] _) = true
  simp only [List.all_cons, List.all_nil, Bool.and_true, Bool.and_eq_true]
  exact ⟨okc_98_0, okc_98_1⟩
theorem okm_98 : okM 98 = true := by decide +kernel
def mq_99 : Mi := (yX5_isZero, cX5_isZero, 2, (some .boolean), [4210, 1021, 4209, 0])
set_option maxRecDepth 100000 in
theorem okc_99_0 : (tb_99_0.all (fun x => okE mq_99 x.1 x.2)) = true := by decide +kernel
set_option maxRecDepth 100000 in
theorem okc_99_1 : (tb_99_1.all (fun x => okE mq_99 x.1 x.2)) = true := by decide +kernel
theorem okt_99 : okT mq_99 tb_99 = true := by
  show (List.all [(14, tb_99_0), (15, tb_99_1)] _) = true
  simp only [List.all_cons, List.all_nil, Bool.and_true, Bool.and_eq_true]
  exact ⟨okc_99_0, okc_99_1⟩
theorem okm_99 : okM 99 = true := by decide +kernel
def mq_100 : Mi := (yX5_level, cX5_level, 2, (some .long), [4175, 1021, 4174, 0])
set_option maxRecDepth 100000 in
theorem okc_100_0 : (tb_100_0.all (fun x => okE mq_100 x.1 x.2)) = true := by decide +kernel
set_option maxRecDepth 100000 in
theorem okc_100_1 : (tb_100_1.all (fun x => okE mq_100 x.1 x.2)) = true := by decide +kernel
theorem okt_100 : okT mq_100 tb_100 = true := by
  show (List.all [(14, tb_100_0), (16, tb_100_1)] _) = true
  simp only [List.all_cons, List.all_nil, Bool.and_true, Bool.and_eq_true]
  exact ⟨okc_100_0, okc_100_1⟩
theorem okm_100 : okM 100 = true := by decide +kernel
def mq_101 : Mi := (yX5_isLess, cX5_isLess, 4, (some .boolean), [4172, 1021, 4171, 0])
set_option maxRecDepth 100000 in
theorem okc_101_0 : (tb_101_0.all (fun x => okE mq_101 x.1 x.2)) = true := by decide +kernel
set_option maxRecDepth 100000 in
theorem okc_101_1 : (tb_101_1.all (fun x => okE mq_101 x.1 x.2)) = true := by decide +kernel
theorem okt_101 : okT mq_101 tb_101 = true := by
  show (List.all [(16, tb_101_0), (18, tb_101_1)] _) = true
  simp only [List.all_cons, List.all_nil, Bool.and_true, Bool.and_eq_true]
  exact ⟨okc_101_0, okc_101_1⟩
theorem okm_101 : okM 101 = true := by decide +kernel
def mq_102 : Mi := (yX5_greater, cX5_greater, 4, (some .long), [5043, 1021, 5042, 0])
set_option maxRecDepth 100000 in
theorem okc_102_0 : (tb_102_0.all (fun x => okE mq_102 x.1 x.2)) = true := by decide +kernel
set_option maxRecDepth 100000 in
theorem okc_102_1 : (tb_102_1.all (fun x => okE mq_102 x.1 x.2)) = true := by decide +kernel
theorem okt_102 : okT mq_102 tb_102 = true := by
  show (List.all [(20, tb_102_0), (26, tb_102_1)] _) = true
  simp only [List.all_cons, List.all_nil, Bool.and_true, Bool.and_eq_true]
  exact ⟨okc_102_0, okc_102_1⟩
theorem okm_102 : okM 102 = true := by decide +kernel
def mq_103 : Mi := (yX5_exponentField, cX5_exponentField, 2, (some .int), [4216, 1021, 4215, 0])
set_option maxRecDepth 100000 in
theorem okc_103_0 : (tb_103_0.all (fun x => okE mq_103 x.1 x.2)) = true := by decide +kernel
theorem okt_103 : okT mq_103 tb_103 = true := by
  show (List.all [(10, tb_103_0)] _) = true
  simp only [List.all_cons, List.all_nil, Bool.and_true, Bool.and_eq_true]
  exact okc_103_0
theorem okm_103 : okM 103 = true := by decide +kernel
def mq_104 : Mi := (yX5_significand, cX5_significand, 2, (some .long), [4213, 1021, 4212, 0])
set_option maxRecDepth 100000 in
theorem okc_104_0 : (tb_104_0.all (fun x => okE mq_104 x.1 x.2)) = true := by decide +kernel
set_option maxRecDepth 100000 in
theorem okc_104_1 : (tb_104_1.all (fun x => okE mq_104 x.1 x.2)) = true := by decide +kernel
theorem okt_104 : okT mq_104 tb_104 = true := by
  show (List.all [(16, tb_104_0), (25, tb_104_1)] _) = true
  simp only [List.all_cons, List.all_nil, Bool.and_true, Bool.and_eq_true]
  exact ⟨okc_104_0, okc_104_1⟩
theorem okm_104 : okM 104 = true := by decide +kernel
def mq_105 : Mi := (yX5_exponent, cX5_exponent, 2, (some .int), [4224, 1021, 4223, 0])
set_option maxRecDepth 100000 in
theorem okc_105_0 : (tb_105_0.all (fun x => okE mq_105 x.1 x.2)) = true := by decide +kernel
set_option maxRecDepth 100000 in
theorem okc_105_1 : (tb_105_1.all (fun x => okE mq_105 x.1 x.2)) = true := by decide +kernel
theorem okt_105 : okT mq_105 tb_105 = true := by
  show (List.all [(14, tb_105_0), (15, tb_105_1)] _) = true
  simp only [List.all_cons, List.all_nil, Bool.and_true, Bool.and_eq_true]
  exact ⟨okc_105_0, okc_105_1⟩
theorem okm_105 : okM 105 = true := by decide +kernel
def mq_106 : Mi := (yX5_missingBits, cX5_missingBits, 3, (some .int), [4221, 1021, 4220, 0])
set_option maxRecDepth 100000 in
theorem okc_106_0 : (tb_106_0.all (fun x => okE mq_106 x.1 x.2)) = true := by decide +kernel
set_option maxRecDepth 100000 in
theorem okc_106_1 : (tb_106_1.all (fun x => okE mq_106 x.1 x.2)) = true := by decide +kernel
theorem okt_106 : okT mq_106 tb_106 = true := by
  show (List.all [(11, tb_106_0), (26, tb_106_1)] _) = true
  simp only [List.all_cons, List.all_nil, Bool.and_true, Bool.and_eq_true]
  exact ⟨okc_106_0, okc_106_1⟩
theorem okm_106 : okM 106 = true := by decide +kernel
def mq_107 : Mi := (yX5_shiftedRight, cX5_shiftedRight, 3, (some .long), [4197, 1021, 4196, 0])
set_option maxRecDepth 100000 in
theorem okc_107_0 : (tb_107_0.all (fun x => okE mq_107 x.1 x.2)) = true := by decide +kernel
set_option maxRecDepth 100000 in
theorem okc_107_1 : (tb_107_1.all (fun x => okE mq_107 x.1 x.2)) = true := by decide +kernel
set_option maxRecDepth 100000 in
theorem okc_107_2 : (tb_107_2.all (fun x => okE mq_107 x.1 x.2)) = true := by decide +kernel
set_option maxRecDepth 100000 in
theorem okc_107_3 : (tb_107_3.all (fun x => okE mq_107 x.1 x.2)) = true := by decide +kernel
theorem okt_107 : okT mq_107 tb_107 = true := by
  show (List.all [(13, tb_107_0), (25, tb_107_1), (34, tb_107_2), (46, tb_107_3)] _) = true
  simp only [List.all_cons, List.all_nil, Bool.and_true, Bool.and_eq_true]
  exact ⟨okc_107_0, okc_107_1, okc_107_2, okc_107_3⟩
theorem okm_107 : okM 107 = true := by decide +kernel
def mq_108 : Mi := (yX5_rounded, cX5_rounded, 12, (some .long), [4193, 1021, 4192, 0])
set_option maxRecDepth 100000 in
theorem okc_108_0 : (tb_108_0.all (fun x => okE mq_108 x.1 x.2)) = true := by decide +kernel
set_option maxRecDepth 100000 in
theorem okc_108_1 : (tb_108_1.all (fun x => okE mq_108 x.1 x.2)) = true := by decide +kernel
set_option maxRecDepth 100000 in
theorem okc_108_2 : (tb_108_2.all (fun x => okE mq_108 x.1 x.2)) = true := by decide +kernel
set_option maxRecDepth 100000 in
theorem okc_108_3 : (tb_108_3.all (fun x => okE mq_108 x.1 x.2)) = true := by decide +kernel
set_option maxRecDepth 100000 in
theorem okc_108_4 : (tb_108_4.all (fun x => okE mq_108 x.1 x.2)) = true := by decide +kernel
set_option maxRecDepth 100000 in
theorem okc_108_5 : (tb_108_5.all (fun x => okE mq_108 x.1 x.2)) = true := by decide +kernel
set_option maxRecDepth 100000 in
theorem okc_108_6 : (tb_108_6.all (fun x => okE mq_108 x.1 x.2)) = true := by decide +kernel
set_option maxRecDepth 100000 in
theorem okc_108_7 : (tb_108_7.all (fun x => okE mq_108 x.1 x.2)) = true := by decide +kernel
set_option maxRecDepth 100000 in
theorem okc_108_8 : (tb_108_8.all (fun x => okE mq_108 x.1 x.2)) = true := by decide +kernel
theorem okt_108 : okT mq_108 tb_108 = true := by
  show (List.all [(14, tb_108_0), (34, tb_108_1), (55, tb_108_2), (71, tb_108_3), (87, tb_108_4), (106, tb_108_5), (122, tb_108_6), (134, tb_108_7), (142, tb_108_8)] _) = true
  simp only [List.all_cons, List.all_nil, Bool.and_true, Bool.and_eq_true]
  exact ⟨okc_108_0, okc_108_1, okc_108_2, okc_108_3, okc_108_4, okc_108_5, okc_108_6, okc_108_7, okc_108_8⟩
theorem okm_108 : okM 108 = true := by decide +kernel
def mq_109 : Mi := (yX5_fromInt, cX5_fromInt, 1, (some .long), [4186, 1021, 4185, 0])
set_option maxRecDepth 100000 in
theorem okc_109_0 : (tb_109_0.all (fun x => okE mq_109 x.1 x.2)) = true := by decide +kernel
set_option maxRecDepth 100000 in
theorem okc_109_1 : (tb_109_1.all (fun x => okE mq_109 x.1 x.2)) = true := by decide +kernel
set_option maxRecDepth 100000 in
theorem okc_109_2 : (tb_109_2.all (fun x => okE mq_109 x.1 x.2)) = true := by decide +kernel
theorem okt_109 : okT mq_109 tb_109 = true := by
  show (List.all [(16, tb_109_0), (30, tb_109_1), (31, tb_109_2)] _) = true
  simp only [List.all_cons, List.all_nil, Bool.and_true, Bool.and_eq_true]
  exact ⟨okc_109_0, okc_109_1, okc_109_2⟩
theorem okm_109 : okM 109 = true := by decide +kernel
def mq_110 : Mi := (yX5_add, cX5_add, 7, (some .long), [5018, 1021, 5017, 0])
set_option maxRecDepth 100000 in
theorem okc_110_0 : (tb_110_0.all (fun x => okE mq_110 x.1 x.2)) = true := by decide +kernel
set_option maxRecDepth 100000 in
theorem okc_110_1 : (tb_110_1.all (fun x => okE mq_110 x.1 x.2)) = true := by decide +kernel
set_option maxRecDepth 100000 in
theorem okc_110_2 : (tb_110_2.all (fun x => okE mq_110 x.1 x.2)) = true := by decide +kernel
set_option maxRecDepth 100000 in
theorem okc_110_3 : (tb_110_3.all (fun x => okE mq_110 x.1 x.2)) = true := by decide +kernel
set_option maxRecDepth 100000 in
theorem okc_110_4 : (tb_110_4.all (fun x => okE mq_110 x.1 x.2)) = true := by decide +kernel
set_option maxRecDepth 100000 in
theorem okc_110_5 : (tb_110_5.all (fun x => okE mq_110 x.1 x.2)) = true := by decide +kernel
set_option maxRecDepth 100000 in
theorem okc_110_6 : (tb_110_6.all (fun x => okE mq_110 x.1 x.2)) = true := by decide +kernel
set_option maxRecDepth 100000 in
theorem okc_110_7 : (tb_110_7.all (fun x => okE mq_110 x.1 x.2)) = true := by decide +kernel
theorem okt_110 : okT mq_110 tb_110 = true := by
  show (List.all [(19, tb_110_0), (38, tb_110_1), (55, tb_110_2), (74, tb_110_3), (91, tb_110_4), (107, tb_110_5), (125, tb_110_6), (134, tb_110_7)] _) = true
  simp only [List.all_cons, List.all_nil, Bool.and_true, Bool.and_eq_true]
  exact ⟨okc_110_0, okc_110_1, okc_110_2, okc_110_3, okc_110_4, okc_110_5, okc_110_6, okc_110_7⟩
theorem okm_110 : okM 110 = true := by decide +kernel
def mq_111 : Mi := (yX5_aligned, cX5_aligned, 5, (some .long), [5021, 1021, 5020, 0])
set_option maxRecDepth 100000 in
theorem okc_111_0 : (tb_111_0.all (fun x => okE mq_111 x.1 x.2)) = true := by decide +kernel
set_option maxRecDepth 100000 in
theorem okc_111_1 : (tb_111_1.all (fun x => okE mq_111 x.1 x.2)) = true := by decide +kernel
set_option maxRecDepth 100000 in
theorem okc_111_2 : (tb_111_2.all (fun x => okE mq_111 x.1 x.2)) = true := by decide +kernel
theorem okt_111 : okT mq_111 tb_111 = true := by
  show (List.all [(13, tb_111_0), (25, tb_111_1), (30, tb_111_2)] _) = true
  simp only [List.all_cons, List.all_nil, Bool.and_true, Bool.and_eq_true]
  exact ⟨okc_111_0, okc_111_1, okc_111_2⟩
theorem okm_111 : okM 111 = true := by decide +kernel
def mq_112 : Mi := (yX5_subtract, cX5_subtract, 4, (some .long), [5033, 1021, 5032, 0])
set_option maxRecDepth 100000 in
theorem okc_112_0 : (tb_112_0.all (fun x => okE mq_112 x.1 x.2)) = true := by decide +kernel
theorem okt_112 : okT mq_112 tb_112 = true := by
  show (List.all [(10, tb_112_0)] _) = true
  simp only [List.all_cons, List.all_nil, Bool.and_true, Bool.and_eq_true]
  exact okc_112_0
theorem okm_112 : okM 112 = true := by decide +kernel
def mq_113 : Mi := (yX5_multiply, cX5_multiply, 13, (some .long), [5025, 1021, 5024, 0])
set_option maxRecDepth 100000 in
theorem okc_113_0 : (tb_113_0.all (fun x => okE mq_113 x.1 x.2)) = true := by decide +kernel
set_option maxRecDepth 100000 in
theorem okc_113_1 : (tb_113_1.all (fun x => okE mq_113 x.1 x.2)) = true := by decide +kernel
set_option maxRecDepth 100000 in
theorem okc_113_2 : (tb_113_2.all (fun x => okE mq_113 x.1 x.2)) = true := by decide +kernel
set_option maxRecDepth 100000 in
theorem okc_113_3 : (tb_113_3.all (fun x => okE mq_113 x.1 x.2)) = true := by decide +kernel
set_option maxRecDepth 100000 in
theorem okc_113_4 : (tb_113_4.all (fun x => okE mq_113 x.1 x.2)) = true := by decide +kernel
set_option maxRecDepth 100000 in
theorem okc_113_5 : (tb_113_5.all (fun x => okE mq_113 x.1 x.2)) = true := by decide +kernel
set_option maxRecDepth 100000 in
theorem okc_113_6 : (tb_113_6.all (fun x => okE mq_113 x.1 x.2)) = true := by decide +kernel
set_option maxRecDepth 100000 in
theorem okc_113_7 : (tb_113_7.all (fun x => okE mq_113 x.1 x.2)) = true := by decide +kernel
set_option maxRecDepth 100000 in
theorem okc_113_8 : (tb_113_8.all (fun x => okE mq_113 x.1 x.2)) = true := by decide +kernel
theorem okt_113 : okT mq_113 tb_113 = true := by
  show (List.all [(16, tb_113_0), (35, tb_113_1), (58, tb_113_2), (76, tb_113_3), (95, tb_113_4), (115, tb_113_5), (130, tb_113_6), (145, tb_113_7), (152, tb_113_8)] _) = true
  simp only [List.all_cons, List.all_nil, Bool.and_true, Bool.and_eq_true]
  exact ⟨okc_113_0, okc_113_1, okc_113_2, okc_113_3, okc_113_4, okc_113_5, okc_113_6, okc_113_7, okc_113_8⟩
theorem okm_113 : okM 113 = true := by decide +kernel
def mq_114 : Mi := (yX5_highProduct, cX5_highProduct, 20, (some .long), [5028, 1021, 5027, 0])
set_option maxRecDepth 100000 in
theorem okc_114_0 : (tb_114_0.all (fun x => okE mq_114 x.1 x.2)) = true := by decide +kernel
set_option maxRecDepth 100000 in
theorem okc_114_1 : (tb_114_1.all (fun x => okE mq_114 x.1 x.2)) = true := by decide +kernel
set_option maxRecDepth 100000 in
theorem okc_114_2 : (tb_114_2.all (fun x => okE mq_114 x.1 x.2)) = true := by decide +kernel
set_option maxRecDepth 100000 in
theorem okc_114_3 : (tb_114_3.all (fun x => okE mq_114 x.1 x.2)) = true := by decide +kernel
set_option maxRecDepth 100000 in
theorem okc_114_4 : (tb_114_4.all (fun x => okE mq_114 x.1 x.2)) = true := by decide +kernel
set_option maxRecDepth 100000 in
theorem okc_114_5 : (tb_114_5.all (fun x => okE mq_114 x.1 x.2)) = true := by decide +kernel
set_option maxRecDepth 100000 in
theorem okc_114_6 : (tb_114_6.all (fun x => okE mq_114 x.1 x.2)) = true := by decide +kernel
set_option maxRecDepth 100000 in
theorem okc_114_7 : (tb_114_7.all (fun x => okE mq_114 x.1 x.2)) = true := by decide +kernel
theorem okt_114 : okT mq_114 tb_114 = true := by
  show (List.all [(14, tb_114_0), (30, tb_114_1), (44, tb_114_2), (59, tb_114_3), (76, tb_114_4), (91, tb_114_5), (106, tb_114_6), (110, tb_114_7)] _) = true
  simp only [List.all_cons, List.all_nil, Bool.and_true, Bool.and_eq_true]
  exact ⟨okc_114_0, okc_114_1, okc_114_2, okc_114_3, okc_114_4, okc_114_5, okc_114_6, okc_114_7⟩
theorem okm_114 : okM 114 = true := by decide +kernel
def mq_115 : Mi := (yX5_divide, cX5_divide, 13, (some .long), [4202, 1021, 4201, 0])
set_option maxRecDepth 100000 in
theorem okc_115_0 : (tb_115_0.all (fun x => okE mq_115 x.1 x.2)) = true := by decide +kernel
set_option maxRecDepth 100000 in
theorem okc_115_1 : (tb_115_1.all (fun x => okE mq_115 x.1 x.2)) = true := by decide +kernel
set_option maxRecDepth 100000 in
theorem okc_115_2 : (tb_115_2.all (fun x => okE mq_115 x.1 x.2)) = true := by decide +kernel
set_option maxRecDepth 100000 in
theorem okc_115_3 : (tb_115_3.all (fun x => okE mq_115 x.1 x.2)) = true := by decide +kernel
set_option maxRecDepth 100000 in
theorem okc_115_4 : (tb_115_4.all (fun x => okE mq_115 x.1 x.2)) = true := by decide +kernel
set_option maxRecDepth 100000 in
theorem okc_115_5 : (tb_115_5.all (fun x => okE mq_115 x.1 x.2)) = true := by decide +kernel
set_option maxRecDepth 100000 in
theorem okc_115_6 : (tb_115_6.all (fun x => okE mq_115 x.1 x.2)) = true := by decide +kernel
set_option maxRecDepth 100000 in
theorem okc_115_7 : (tb_115_7.all (fun x => okE mq_115 x.1 x.2)) = true := by decide +kernel
set_option maxRecDepth 100000 in
theorem okc_115_8 : (tb_115_8.all (fun x => okE mq_115 x.1 x.2)) = true := by decide +kernel
theorem okt_115 : okT mq_115 tb_115 = true := by
  show (List.all [(17, tb_115_0), (41, tb_115_1), (63, tb_115_2), (86, tb_115_3), (105, tb_115_4), (127, tb_115_5), (144, tb_115_6), (161, tb_115_7), (168, tb_115_8)] _) = true
  simp only [List.all_cons, List.all_nil, Bool.and_true, Bool.and_eq_true]
  exact ⟨okc_115_0, okc_115_1, okc_115_2, okc_115_3, okc_115_4, okc_115_5, okc_115_6, okc_115_7, okc_115_8⟩
theorem okm_115 : okM 115 = true := by decide +kernel
def mq_116 : Mi := (yX5_quotient, cX5_quotient, 9, (some .long), [4230, 1021, 4229, 0])
set_option maxRecDepth 100000 in
theorem okc_116_0 : (tb_116_0.all (fun x => okE mq_116 x.1 x.2)) = true := by decide +kernel
set_option maxRecDepth 100000 in
theorem okc_116_1 : (tb_116_1.all (fun x => okE mq_116 x.1 x.2)) = true := by decide +kernel
set_option maxRecDepth 100000 in
theorem okc_116_2 : (tb_116_2.all (fun x => okE mq_116 x.1 x.2)) = true := by decide +kernel
set_option maxRecDepth 100000 in
theorem okc_116_3 : (tb_116_3.all (fun x => okE mq_116 x.1 x.2)) = true := by decide +kernel
set_option maxRecDepth 100000 in
theorem okc_116_4 : (tb_116_4.all (fun x => okE mq_116 x.1 x.2)) = true := by decide +kernel
set_option maxRecDepth 100000 in
theorem okc_116_5 : (tb_116_5.all (fun x => okE mq_116 x.1 x.2)) = true := by decide +kernel
theorem okt_116 : okT mq_116 tb_116 = true := by
  show (List.all [(10, tb_116_0), (21, tb_116_1), (37, tb_116_2), (49, tb_116_3), (64, tb_116_4), (76, tb_116_5)] _) = true
  simp only [List.all_cons, List.all_nil, Bool.and_true, Bool.and_eq_true]
  exact ⟨okc_116_0, okc_116_1, okc_116_2, okc_116_3, okc_116_4, okc_116_5⟩
theorem okm_116 : okM 116 = true := by decide +kernel
def mq_117 : Mi := (yX5_root, cX5_root, 6, (some .long), [5049, 1021, 5048, 0])
set_option maxRecDepth 100000 in
theorem okc_117_0 : (tb_117_0.all (fun x => okE mq_117 x.1 x.2)) = true := by decide +kernel
set_option maxRecDepth 100000 in
theorem okc_117_1 : (tb_117_1.all (fun x => okE mq_117 x.1 x.2)) = true := by decide +kernel
set_option maxRecDepth 100000 in
theorem okc_117_2 : (tb_117_2.all (fun x => okE mq_117 x.1 x.2)) = true := by decide +kernel
set_option maxRecDepth 100000 in
theorem okc_117_3 : (tb_117_3.all (fun x => okE mq_117 x.1 x.2)) = true := by decide +kernel
set_option maxRecDepth 100000 in
theorem okc_117_4 : (tb_117_4.all (fun x => okE mq_117 x.1 x.2)) = true := by decide +kernel
set_option maxRecDepth 100000 in
theorem okc_117_5 : (tb_117_5.all (fun x => okE mq_117 x.1 x.2)) = true := by decide +kernel
set_option maxRecDepth 100000 in
theorem okc_117_6 : (tb_117_6.all (fun x => okE mq_117 x.1 x.2)) = true := by decide +kernel
set_option maxRecDepth 100000 in
theorem okc_117_7 : (tb_117_7.all (fun x => okE mq_117 x.1 x.2)) = true := by decide +kernel
theorem okt_117 : okT mq_117 tb_117 = true := by
  show (List.all [(18, tb_117_0), (30, tb_117_1), (44, tb_117_2), (59, tb_117_3), (71, tb_117_4), (83, tb_117_5), (95, tb_117_6), (96, tb_117_7)] _) = true
  simp only [List.all_cons, List.all_nil, Bool.and_true, Bool.and_eq_true]
  exact ⟨okc_117_0, okc_117_1, okc_117_2, okc_117_3, okc_117_4, okc_117_5, okc_117_6, okc_117_7⟩
theorem okm_117 : okM 117 = true := by decide +kernel
def mq_118 : Mi := (yX5_longRoot, cX5_longRoot, 11, (some .long), [5052, 1021, 5051, 0])
set_option maxRecDepth 100000 in
theorem okc_118_0 : (tb_118_0.all (fun x => okE mq_118 x.1 x.2)) = true := by decide +kernel
set_option maxRecDepth 100000 in
theorem okc_118_1 : (tb_118_1.all (fun x => okE mq_118 x.1 x.2)) = true := by decide +kernel
set_option maxRecDepth 100000 in
theorem okc_118_2 : (tb_118_2.all (fun x => okE mq_118 x.1 x.2)) = true := by decide +kernel
set_option maxRecDepth 100000 in
theorem okc_118_3 : (tb_118_3.all (fun x => okE mq_118 x.1 x.2)) = true := by decide +kernel
set_option maxRecDepth 100000 in
theorem okc_118_4 : (tb_118_4.all (fun x => okE mq_118 x.1 x.2)) = true := by decide +kernel
set_option maxRecDepth 100000 in
theorem okc_118_5 : (tb_118_5.all (fun x => okE mq_118 x.1 x.2)) = true := by decide +kernel
set_option maxRecDepth 100000 in
theorem okc_118_6 : (tb_118_6.all (fun x => okE mq_118 x.1 x.2)) = true := by decide +kernel
set_option maxRecDepth 100000 in
theorem okc_118_7 : (tb_118_7.all (fun x => okE mq_118 x.1 x.2)) = true := by decide +kernel
theorem okt_118 : okT mq_118 tb_118 = true := by
  show (List.all [(15, tb_118_0), (30, tb_118_1), (45, tb_118_2), (57, tb_118_3), (71, tb_118_4), (86, tb_118_5), (100, tb_118_6), (104, tb_118_7)] _) = true
  simp only [List.all_cons, List.all_nil, Bool.and_true, Bool.and_eq_true]
  exact ⟨okc_118_0, okc_118_1, okc_118_2, okc_118_3, okc_118_4, okc_118_5, okc_118_6, okc_118_7⟩
theorem okm_118 : okM 118 = true := by decide +kernel
def mq_119 : Mi := (yX5_whole, cX5_whole, 7, (some .long), [5065, 1021, 5064, 0])
set_option maxRecDepth 100000 in
theorem okc_119_0 : (tb_119_0.all (fun x => okE mq_119 x.1 x.2)) = true := by decide +kernel
set_option maxRecDepth 100000 in
theorem okc_119_1 : (tb_119_1.all (fun x => okE mq_119 x.1 x.2)) = true := by decide +kernel
set_option maxRecDepth 100000 in
theorem okc_119_2 : (tb_119_2.all (fun x => okE mq_119 x.1 x.2)) = true := by decide +kernel
set_option maxRecDepth 100000 in
theorem okc_119_3 : (tb_119_3.all (fun x => okE mq_119 x.1 x.2)) = true := by decide +kernel
set_option maxRecDepth 100000 in
theorem okc_119_4 : (tb_119_4.all (fun x => okE mq_119 x.1 x.2)) = true := by decide +kernel
set_option maxRecDepth 100000 in
theorem okc_119_5 : (tb_119_5.all (fun x => okE mq_119 x.1 x.2)) = true := by decide +kernel
set_option maxRecDepth 100000 in
theorem okc_119_6 : (tb_119_6.all (fun x => okE mq_119 x.1 x.2)) = true := by decide +kernel
set_option maxRecDepth 100000 in
theorem okc_119_7 : (tb_119_7.all (fun x => okE mq_119 x.1 x.2)) = true := by decide +kernel
set_option maxRecDepth 100000 in
theorem okc_119_8 : (tb_119_8.all (fun x => okE mq_119 x.1 x.2)) = true := by decide +kernel
theorem okt_119 : okT mq_119 tb_119 = true := by
  show (List.all [(17, tb_119_0), (36, tb_119_1), (51, tb_119_2), (68, tb_119_3), (81, tb_119_4), (92, tb_119_5), (106, tb_119_6), (120, tb_119_7), (121, tb_119_8)] _) = true
  simp only [List.all_cons, List.all_nil, Bool.and_true, Bool.and_eq_true]
  exact ⟨okc_119_0, okc_119_1, okc_119_2, okc_119_3, okc_119_4, okc_119_5, okc_119_6, okc_119_7, okc_119_8⟩
theorem okm_119 : okM 119 = true := by decide +kernel
