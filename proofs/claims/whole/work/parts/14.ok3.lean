/-! the words of the methods, chunk by chunk -/
def mq_120 : Mi := (yX6_init, cX6_init, 1, none, [1194, 1006, 1193, 0])
set_option maxRecDepth 100000 in
theorem okc_120_0 : (tb_120_0.all (fun x => okE mq_120 x.1 x.2)) = true := by decide +kernel
set_option maxRecDepth 100000 in
theorem okc_120_1 : (tb_120_1.all (fun x => okE mq_120 x.1 x.2)) = true := by decide +kernel
set_option maxRecDepth 100000 in
theorem okc_120_2 : (tb_120_2.all (fun x => okE mq_120 x.1 x.2)) = true := by decide +kernel
set_option maxRecDepth 100000 in
theorem okc_120_3 : (tb_120_3.all (fun x => okE mq_120 x.1 x.2)) = true := by decide +kernel
set_option maxRecDepth 100000 in
theorem okc_120_4 : (tb_120_4.all (fun x => okE mq_120 x.1 x.2)) = true := by decide +kernel
theorem okt_120 : okT mq_120 tb_120 = true := by
  show (List.all [(17, tb_120_0), (35, tb_120_1), (50, tb_120_2), (62, tb_120_3), (76, tb_120_4)] _) = true
  simp only [List.all_cons, List.all_nil, Bool.and_true, Bool.and_eq_true]
  exact ⟨okc_120_0, okc_120_1, okc_120_2, okc_120_3, okc_120_4⟩
theorem okm_120 : okM 120 = true := by decide +kernel
def mq_121 : Mi := (yX6_erase, cX6_erase, 1, none, [2077, 1006, 2075, 2076])
set_option maxRecDepth 100000 in
theorem okc_121_0 : (tb_121_0.all (fun x => okE mq_121 x.1 x.2)) = true := by decide +kernel
set_option maxRecDepth 100000 in
theorem okc_121_1 : (tb_121_1.all (fun x => okE mq_121 x.1 x.2)) = true := by decide +kernel
theorem okt_121 : okT mq_121 tb_121 = true := by
  show (List.all [(12, tb_121_0), (16, tb_121_1)] _) = true
  simp only [List.all_cons, List.all_nil, Bool.and_true, Bool.and_eq_true]
  exact ⟨okc_121_0, okc_121_1⟩
theorem okm_121 : okM 121 = true := by decide +kernel
def mq_122 : Mi := (yX6_add, cX6_add, 4, (some .int), [4157, 1006, 4155, 4156])
set_option maxRecDepth 100000 in
theorem okc_122_0 : (tb_122_0.all (fun x => okE mq_122 x.1 x.2)) = true := by decide +kernel
set_option maxRecDepth 100000 in
theorem okc_122_1 : (tb_122_1.all (fun x => okE mq_122 x.1 x.2)) = true := by decide +kernel
set_option maxRecDepth 100000 in
theorem okc_122_2 : (tb_122_2.all (fun x => okE mq_122 x.1 x.2)) = true := by decide +kernel
set_option maxRecDepth 100000 in
theorem okc_122_3 : (tb_122_3.all (fun x => okE mq_122 x.1 x.2)) = true := by decide +kernel
set_option maxRecDepth 100000 in
theorem okc_122_4 : (tb_122_4.all (fun x => okE mq_122 x.1 x.2)) = true := by decide +kernel
theorem okt_122 : okT mq_122 tb_122 = true := by
  show (List.all [(17, tb_122_0), (31, tb_122_1), (45, tb_122_2), (59, tb_122_3), (60, tb_122_4)] _) = true
  simp only [List.all_cons, List.all_nil, Bool.and_true, Bool.and_eq_true]
  exact ⟨okc_122_0, okc_122_1, okc_122_2, okc_122_3, okc_122_4⟩
theorem okm_122 : okM 122 = true := by decide +kernel
def mq_123 : Mi := (yX6_putInOrder, cX6_putInOrder, 3, none, [4169, 1006, 4168, 9031])
set_option maxRecDepth 100000 in
theorem okc_123_0 : (tb_123_0.all (fun x => okE mq_123 x.1 x.2)) = true := by decide +kernel
set_option maxRecDepth 100000 in
theorem okc_123_1 : (tb_123_1.all (fun x => okE mq_123 x.1 x.2)) = true := by decide +kernel
set_option maxRecDepth 100000 in
theorem okc_123_2 : (tb_123_2.all (fun x => okE mq_123 x.1 x.2)) = true := by decide +kernel
set_option maxRecDepth 100000 in
theorem okc_123_3 : (tb_123_3.all (fun x => okE mq_123 x.1 x.2)) = true := by decide +kernel
set_option maxRecDepth 100000 in
theorem okc_123_4 : (tb_123_4.all (fun x => okE mq_123 x.1 x.2)) = true := by decide +kernel
set_option maxRecDepth 100000 in
theorem okc_123_5 : (tb_123_5.all (fun x => okE mq_123 x.1 x.2)) = true := by decide +kernel
theorem okt_123 : okT mq_123 tb_123 = true := by
  show (List.all [(12, tb_123_0), (26, tb_123_1), (38, tb_123_2), (52, tb_123_3), (66, tb_123_4), (74, tb_123_5)] _) = true
  simp only [List.all_cons, List.all_nil, Bool.and_true, Bool.and_eq_true]
  exact ⟨okc_123_0, okc_123_1, okc_123_2, okc_123_3, okc_123_4, okc_123_5⟩
theorem okm_123 : okM 123 = true := by decide +kernel
def mq_124 : Mi := (yX6_timeInOrder, cX6_timeInOrder, 2, (some .long), [5015, 1006, 5013, 5014])
set_option maxRecDepth 100000 in
theorem okc_124_0 : (tb_124_0.all (fun x => okE mq_124 x.1 x.2)) = true := by decide +kernel
theorem okt_124 : okT mq_124 tb_124 = true := by
  show (List.all [(12, tb_124_0)] _) = true
  simp only [List.all_cons, List.all_nil, Bool.and_true, Bool.and_eq_true]
  exact okc_124_0
theorem okm_124 : okM 124 = true := by decide +kernel
def mq_125 : Mi := (yX6_rowHeard, cX6_rowHeard, 7, (some .int), [5003, 1006, 5001, 5002])
set_option maxRecDepth 100000 in
theorem okc_125_0 : (tb_125_0.all (fun x => okE mq_125 x.1 x.2)) = true := by decide +kernel
set_option maxRecDepth 100000 in
theorem okc_125_1 : (tb_125_1.all (fun x => okE mq_125 x.1 x.2)) = true := by decide +kernel
set_option maxRecDepth 100000 in
theorem okc_125_2 : (tb_125_2.all (fun x => okE mq_125 x.1 x.2)) = true := by decide +kernel
set_option maxRecDepth 100000 in
theorem okc_125_3 : (tb_125_3.all (fun x => okE mq_125 x.1 x.2)) = true := by decide +kernel
set_option maxRecDepth 100000 in
theorem okc_125_4 : (tb_125_4.all (fun x => okE mq_125 x.1 x.2)) = true := by decide +kernel
set_option maxRecDepth 100000 in
theorem okc_125_5 : (tb_125_5.all (fun x => okE mq_125 x.1 x.2)) = true := by decide +kernel
theorem okt_125 : okT mq_125 tb_125 = true := by
  show (List.all [(10, tb_125_0), (21, tb_125_1), (36, tb_125_2), (48, tb_125_3), (59, tb_125_4), (71, tb_125_5)] _) = true
  simp only [List.all_cons, List.all_nil, Bool.and_true, Bool.and_eq_true]
  exact ⟨okc_125_0, okc_125_1, okc_125_2, okc_125_3, okc_125_4, okc_125_5⟩
theorem okm_125 : okM 125 = true := by decide +kernel
def mq_126 : Mi := (yX6_lay, cX6_lay, 16, none, [5011, 1006, 5009, 5010])
set_option maxRecDepth 100000 in
theorem okc_126_0 : (tb_126_0.all (fun x => okE mq_126 x.1 x.2)) = true := by decide +kernel
set_option maxRecDepth 100000 in
theorem okc_126_1 : (tb_126_1.all (fun x => okE mq_126 x.1 x.2)) = true := by decide +kernel
set_option maxRecDepth 100000 in
theorem okc_126_2 : (tb_126_2.all (fun x => okE mq_126 x.1 x.2)) = true := by decide +kernel
set_option maxRecDepth 100000 in
theorem okc_126_3 : (tb_126_3.all (fun x => okE mq_126 x.1 x.2)) = true := by decide +kernel
set_option maxRecDepth 100000 in
theorem okc_126_4 : (tb_126_4.all (fun x => okE mq_126 x.1 x.2)) = true := by decide +kernel
set_option maxRecDepth 100000 in
theorem okc_126_5 : (tb_126_5.all (fun x => okE mq_126 x.1 x.2)) = true := by decide +kernel
set_option maxRecDepth 100000 in
theorem okc_126_6 : (tb_126_6.all (fun x => okE mq_126 x.1 x.2)) = true := by decide +kernel
set_option maxRecDepth 100000 in
theorem okc_126_7 : (tb_126_7.all (fun x => okE mq_126 x.1 x.2)) = true := by decide +kernel
set_option maxRecDepth 100000 in
theorem okc_126_8 : (tb_126_8.all (fun x => okE mq_126 x.1 x.2)) = true := by decide +kernel
set_option maxRecDepth 100000 in
theorem okc_126_9 : (tb_126_9.all (fun x => okE mq_126 x.1 x.2)) = true := by decide +kernel
theorem okt_126 : okT mq_126 tb_126 = true := by
  show (List.all [(16, tb_126_0), (33, tb_126_1), (53, tb_126_2), (72, tb_126_3), (95, tb_126_4), (112, tb_126_5), (133, tb_126_6), (156, tb_126_7), (178, tb_126_8), (188, tb_126_9)] _) = true
  simp only [List.all_cons, List.all_nil, Bool.and_true, Bool.and_eq_true]
  exact ⟨okc_126_0, okc_126_1, okc_126_2, okc_126_3, okc_126_4, okc_126_5, okc_126_6, okc_126_7, okc_126_8, okc_126_9⟩
theorem okm_126 : okM 126 = true := by decide +kernel
def mq_127 : Mi := (yX6_measureErrors, cX6_measureErrors, 10, none, [5039, 1006, 5038, 9032])
set_option maxRecDepth 100000 in
theorem okc_127_0 : (tb_127_0.all (fun x => okE mq_127 x.1 x.2)) = true := by decide +kernel
set_option maxRecDepth 100000 in
theorem okc_127_1 : (tb_127_1.all (fun x => okE mq_127 x.1 x.2)) = true := by decide +kernel
set_option maxRecDepth 100000 in
theorem okc_127_2 : (tb_127_2.all (fun x => okE mq_127 x.1 x.2)) = true := by decide +kernel
set_option maxRecDepth 100000 in
theorem okc_127_3 : (tb_127_3.all (fun x => okE mq_127 x.1 x.2)) = true := by decide +kernel
set_option maxRecDepth 100000 in
theorem okc_127_4 : (tb_127_4.all (fun x => okE mq_127 x.1 x.2)) = true := by decide +kernel
set_option maxRecDepth 100000 in
theorem okc_127_5 : (tb_127_5.all (fun x => okE mq_127 x.1 x.2)) = true := by decide +kernel
set_option maxRecDepth 100000 in
theorem okc_127_6 : (tb_127_6.all (fun x => okE mq_127 x.1 x.2)) = true := by decide +kernel
theorem okt_127 : okT mq_127 tb_127 = true := by
  show (List.all [(12, tb_127_0), (29, tb_127_1), (48, tb_127_2), (63, tb_127_3), (81, tb_127_4), (98, tb_127_5), (109, tb_127_6)] _) = true
  simp only [List.all_cons, List.all_nil, Bool.and_true, Bool.and_eq_true]
  exact ⟨okc_127_0, okc_127_1, okc_127_2, okc_127_3, okc_127_4, okc_127_5, okc_127_6⟩
theorem okm_127 : okM 127 = true := by decide +kernel
def mq_128 : Mi := (yX6_placeOnLine, cX6_placeOnLine, 2, (some .long), [5062, 1006, 5060, 5061])
set_option maxRecDepth 100000 in
theorem okc_128_0 : (tb_128_0.all (fun x => okE mq_128 x.1 x.2)) = true := by decide +kernel
set_option maxRecDepth 100000 in
theorem okc_128_1 : (tb_128_1.all (fun x => okE mq_128 x.1 x.2)) = true := by decide +kernel
theorem okt_128 : okT mq_128 tb_128 = true := by
  show (List.all [(16, tb_128_0), (23, tb_128_1)] _) = true
  simp only [List.all_cons, List.all_nil, Bool.and_true, Bool.and_eq_true]
  exact ⟨okc_128_0, okc_128_1⟩
theorem okm_128 : okM 128 = true := by decide +kernel
def mq_129 : Mi := (yX7_howMany, cX7_howMany, 1, (some .int), [2167, 1008, 2166, 0])
set_option maxRecDepth 100000 in
theorem okc_129_0 : (tb_129_0.all (fun x => okE mq_129 x.1 x.2)) = true := by decide +kernel
theorem okt_129 : okT mq_129 tb_129 = true := by
  show (List.all [(6, tb_129_0)] _) = true
  simp only [List.all_cons, List.all_nil, Bool.and_true, Bool.and_eq_true]
  exact okc_129_0
theorem okm_129 : okM 129 = true := by decide +kernel
def mq_130 : Mi := (yX7_at, cX7_at, 3, (some .int), [2048, 1008, 2047, 0])
set_option maxRecDepth 100000 in
theorem okc_130_0 : (tb_130_0.all (fun x => okE mq_130 x.1 x.2)) = true := by decide +kernel
set_option maxRecDepth 100000 in
theorem okc_130_1 : (tb_130_1.all (fun x => okE mq_130 x.1 x.2)) = true := by decide +kernel
theorem okt_130 : okT mq_130 tb_130 = true := by
  show (List.all [(8, tb_130_0), (13, tb_130_1)] _) = true
  simp only [List.all_cons, List.all_nil, Bool.and_true, Bool.and_eq_true]
  exact ⟨okc_130_0, okc_130_1⟩
theorem okm_130 : okM 130 = true := by decide +kernel
def mq_131 : Mi := (yX7_put, cX7_put, 3, (some .int), [2132, 1008, 2131, 0])
set_option maxRecDepth 100000 in
theorem okc_131_0 : (tb_131_0.all (fun x => okE mq_131 x.1 x.2)) = true := by decide +kernel
set_option maxRecDepth 100000 in
theorem okc_131_1 : (tb_131_1.all (fun x => okE mq_131 x.1 x.2)) = true := by decide +kernel
theorem okt_131 : okT mq_131 tb_131 = true := by
  show (List.all [(8, tb_131_0), (10, tb_131_1)] _) = true
  simp only [List.all_cons, List.all_nil, Bool.and_true, Bool.and_eq_true]
  exact ⟨okc_131_0, okc_131_1⟩
theorem okm_131 : okM 131 = true := by decide +kernel
def mq_132 : Mi := (yX7_placeOf, cX7_placeOf, 4, (some .int), [4004, 1008, 4003, 0])
set_option maxRecDepth 100000 in
theorem okc_132_0 : (tb_132_0.all (fun x => okE mq_132 x.1 x.2)) = true := by decide +kernel
set_option maxRecDepth 100000 in
theorem okc_132_1 : (tb_132_1.all (fun x => okE mq_132 x.1 x.2)) = true := by decide +kernel
set_option maxRecDepth 100000 in
theorem okc_132_2 : (tb_132_2.all (fun x => okE mq_132 x.1 x.2)) = true := by decide +kernel
theorem okt_132 : okT mq_132 tb_132 = true := by
  show (List.all [(10, tb_132_0), (26, tb_132_1), (27, tb_132_2)] _) = true
  simp only [List.all_cons, List.all_nil, Bool.and_true, Bool.and_eq_true]
  exact ⟨okc_132_0, okc_132_1, okc_132_2⟩
theorem okm_132 : okM 132 = true := by decide +kernel
def mq_133 : Mi := (yX7_rounds, cX7_rounds, 3, (some .int), [2038, 1008, 2037, 0])
set_option maxRecDepth 100000 in
theorem okc_133_0 : (tb_133_0.all (fun x => okE mq_133 x.1 x.2)) = true := by decide +kernel
set_option maxRecDepth 100000 in
theorem okc_133_1 : (tb_133_1.all (fun x => okE mq_133 x.1 x.2)) = true := by decide +kernel
set_option maxRecDepth 100000 in
theorem okc_133_2 : (tb_133_2.all (fun x => okE mq_133 x.1 x.2)) = true := by decide +kernel
theorem okt_133 : okT mq_133 tb_133 = true := by
  show (List.all [(10, tb_133_0), (22, tb_133_1), (23, tb_133_2)] _) = true
  simp only [List.all_cons, List.all_nil, Bool.and_true, Bool.and_eq_true]
  exact ⟨okc_133_0, okc_133_1, okc_133_2⟩
theorem okm_133 : okM 133 = true := by decide +kernel
def mq_134 : Mi := (yX7_fromNumber, cX7_fromNumber, 7, (some .int), [2129, 1008, 2128, 0])
set_option maxRecDepth 100000 in
theorem okc_134_0 : (tb_134_0.all (fun x => okE mq_134 x.1 x.2)) = true := by decide +kernel
set_option maxRecDepth 100000 in
theorem okc_134_1 : (tb_134_1.all (fun x => okE mq_134 x.1 x.2)) = true := by decide +kernel
set_option maxRecDepth 100000 in
theorem okc_134_2 : (tb_134_2.all (fun x => okE mq_134 x.1 x.2)) = true := by decide +kernel
set_option maxRecDepth 100000 in
theorem okc_134_3 : (tb_134_3.all (fun x => okE mq_134 x.1 x.2)) = true := by decide +kernel
set_option maxRecDepth 100000 in
theorem okc_134_4 : (tb_134_4.all (fun x => okE mq_134 x.1 x.2)) = true := by decide +kernel
set_option maxRecDepth 100000 in
theorem okc_134_5 : (tb_134_5.all (fun x => okE mq_134 x.1 x.2)) = true := by decide +kernel
set_option maxRecDepth 100000 in
theorem okc_134_6 : (tb_134_6.all (fun x => okE mq_134 x.1 x.2)) = true := by decide +kernel
theorem okt_134 : okT mq_134 tb_134 = true := by
  show (List.all [(9, tb_134_0), (23, tb_134_1), (38, tb_134_2), (49, tb_134_3), (59, tb_134_4), (73, tb_134_5), (90, tb_134_6)] _) = true
  simp only [List.all_cons, List.all_nil, Bool.and_true, Bool.and_eq_true]
  exact ⟨okc_134_0, okc_134_1, okc_134_2, okc_134_3, okc_134_4, okc_134_5, okc_134_6⟩
theorem okm_134 : okM 134 = true := by decide +kernel
def mq_135 : Mi := (yX7_toNumber, cX7_toNumber, 4, (some .int), [2140, 1008, 2139, 0])
set_option maxRecDepth 100000 in
theorem okc_135_0 : (tb_135_0.all (fun x => okE mq_135 x.1 x.2)) = true := by decide +kernel
set_option maxRecDepth 100000 in
theorem okc_135_1 : (tb_135_1.all (fun x => okE mq_135 x.1 x.2)) = true := by decide +kernel
set_option maxRecDepth 100000 in
theorem okc_135_2 : (tb_135_2.all (fun x => okE mq_135 x.1 x.2)) = true := by decide +kernel
theorem okt_135 : okT mq_135 tb_135 = true := by
  show (List.all [(10, tb_135_0), (21, tb_135_1), (31, tb_135_2)] _) = true
  simp only [List.all_cons, List.all_nil, Bool.and_true, Bool.and_eq_true]
  exact ⟨okc_135_0, okc_135_1, okc_135_2⟩
theorem okm_135 : okM 135 = true := by decide +kernel
def mq_136 : Mi := (yX7_times, cX7_times, 5, (some .int), [2057, 1008, 2056, 0])
set_option maxRecDepth 100000 in
theorem okc_136_0 : (tb_136_0.all (fun x => okE mq_136 x.1 x.2)) = true := by decide +kernel
set_option maxRecDepth 100000 in
theorem okc_136_1 : (tb_136_1.all (fun x => okE mq_136 x.1 x.2)) = true := by decide +kernel
set_option maxRecDepth 100000 in
theorem okc_136_2 : (tb_136_2.all (fun x => okE mq_136 x.1 x.2)) = true := by decide +kernel
theorem okt_136 : okT mq_136 tb_136 = true := by
  show (List.all [(12, tb_136_0), (23, tb_136_1), (36, tb_136_2)] _) = true
  simp only [List.all_cons, List.all_nil, Bool.and_true, Bool.and_eq_true]
  exact ⟨okc_136_0, okc_136_1, okc_136_2⟩
theorem okm_136 : okM 136 = true := by decide +kernel
def mq_137 : Mi := (yX7_undone, cX7_undone, 4, (some .int), [2147, 1008, 2146, 0])
set_option maxRecDepth 100000 in
theorem okc_137_0 : (tb_137_0.all (fun x => okE mq_137 x.1 x.2)) = true := by decide +kernel
set_option maxRecDepth 100000 in
theorem okc_137_1 : (tb_137_1.all (fun x => okE mq_137 x.1 x.2)) = true := by decide +kernel
set_option maxRecDepth 100000 in
theorem okc_137_2 : (tb_137_2.all (fun x => okE mq_137 x.1 x.2)) = true := by decide +kernel
theorem okt_137 : okT mq_137 tb_137 = true := by
  show (List.all [(10, tb_137_0), (22, tb_137_1), (31, tb_137_2)] _) = true
  simp only [List.all_cons, List.all_nil, Bool.and_true, Bool.and_eq_true]
  exact ⟨okc_137_0, okc_137_1, okc_137_2⟩
theorem okm_137 : okM 137 = true := by decide +kernel
def mq_138 : Mi := (yX7_order, cX7_order, 5, (some .int), [2154, 1008, 2153, 0])
set_option maxRecDepth 100000 in
theorem okc_138_0 : (tb_138_0.all (fun x => okE mq_138 x.1 x.2)) = true := by decide +kernel
set_option maxRecDepth 100000 in
theorem okc_138_1 : (tb_138_1.all (fun x => okE mq_138 x.1 x.2)) = true := by decide +kernel
set_option maxRecDepth 100000 in
theorem okc_138_2 : (tb_138_2.all (fun x => okE mq_138 x.1 x.2)) = true := by decide +kernel
theorem okt_138 : okT mq_138 tb_138 = true := by
  show (List.all [(12, tb_138_0), (25, tb_138_1), (38, tb_138_2)] _) = true
  simp only [List.all_cons, List.all_nil, Bool.and_true, Bool.and_eq_true]
  exact ⟨okc_138_0, okc_138_1, okc_138_2⟩
theorem okm_138 : okM 138 = true := by decide +kernel
def mq_139 : Mi := (yX7_rank, cX7_rank, 7, (some .int), [2045, 1008, 2044, 0])
set_option maxRecDepth 100000 in
theorem okc_139_0 : (tb_139_0.all (fun x => okE mq_139 x.1 x.2)) = true := by decide +kernel
set_option maxRecDepth 100000 in
theorem okc_139_1 : (tb_139_1.all (fun x => okE mq_139 x.1 x.2)) = true := by decide +kernel
set_option maxRecDepth 100000 in
theorem okc_139_2 : (tb_139_2.all (fun x => okE mq_139 x.1 x.2)) = true := by decide +kernel
set_option maxRecDepth 100000 in
theorem okc_139_3 : (tb_139_3.all (fun x => okE mq_139 x.1 x.2)) = true := by decide +kernel
set_option maxRecDepth 100000 in
theorem okc_139_4 : (tb_139_4.all (fun x => okE mq_139 x.1 x.2)) = true := by decide +kernel
set_option maxRecDepth 100000 in
theorem okc_139_5 : (tb_139_5.all (fun x => okE mq_139 x.1 x.2)) = true := by decide +kernel
theorem okt_139 : okT mq_139 tb_139 = true := by
  show (List.all [(10, tb_139_0), (24, tb_139_1), (36, tb_139_2), (47, tb_139_3), (58, tb_139_4), (63, tb_139_5)] _) = true
  simp only [List.all_cons, List.all_nil, Bool.and_true, Bool.and_eq_true]
  exact ⟨okc_139_0, okc_139_1, okc_139_2, okc_139_3, okc_139_4, okc_139_5⟩
theorem okm_139 : okM 139 = true := by decide +kernel
def mq_140 : Mi := (yX7_ofRank, cX7_ofRank, 8, (some .int), [2172, 1008, 2171, 0])
set_option maxRecDepth 100000 in
theorem okc_140_0 : (tb_140_0.all (fun x => okE mq_140 x.1 x.2)) = true := by decide +kernel
set_option maxRecDepth 100000 in
theorem okc_140_1 : (tb_140_1.all (fun x => okE mq_140 x.1 x.2)) = true := by decide +kernel
set_option maxRecDepth 100000 in
theorem okc_140_2 : (tb_140_2.all (fun x => okE mq_140 x.1 x.2)) = true := by decide +kernel
set_option maxRecDepth 100000 in
theorem okc_140_3 : (tb_140_3.all (fun x => okE mq_140 x.1 x.2)) = true := by decide +kernel
set_option maxRecDepth 100000 in
theorem okc_140_4 : (tb_140_4.all (fun x => okE mq_140 x.1 x.2)) = true := by decide +kernel
set_option maxRecDepth 100000 in
theorem okc_140_5 : (tb_140_5.all (fun x => okE mq_140 x.1 x.2)) = true := by decide +kernel
theorem okt_140 : okT mq_140 tb_140 = true := by
  show (List.all [(10, tb_140_0), (24, tb_140_1), (35, tb_140_2), (49, tb_140_3), (59, tb_140_4), (69, tb_140_5)] _) = true
  simp only [List.all_cons, List.all_nil, Bool.and_true, Bool.and_eq_true]
  exact ⟨okc_140_0, okc_140_1, okc_140_2, okc_140_3, okc_140_4, okc_140_5⟩
theorem okm_140 : okM 140 = true := by decide +kernel
def mq_141 : Mi := (yX7_unseen, cX7_unseen, 5, (some .int), [2175, 1008, 2174, 0])
set_option maxRecDepth 100000 in
theorem okc_141_0 : (tb_141_0.all (fun x => okE mq_141 x.1 x.2)) = true := by decide +kernel
set_option maxRecDepth 100000 in
theorem okc_141_1 : (tb_141_1.all (fun x => okE mq_141 x.1 x.2)) = true := by decide +kernel
set_option maxRecDepth 100000 in
theorem okc_141_2 : (tb_141_2.all (fun x => okE mq_141 x.1 x.2)) = true := by decide +kernel
theorem okt_141 : okT mq_141 tb_141 = true := by
  show (List.all [(12, tb_141_0), (27, tb_141_1), (41, tb_141_2)] _) = true
  simp only [List.all_cons, List.all_nil, Bool.and_true, Bool.and_eq_true]
  exact ⟨okc_141_0, okc_141_1, okc_141_2⟩
theorem okm_141 : okM 141 = true := by decide +kernel
def mq_142 : Mi := (yX7_isEven, cX7_isEven, 6, (some .boolean), [2160, 1008, 2159, 0])
set_option maxRecDepth 100000 in
theorem okc_142_0 : (tb_142_0.all (fun x => okE mq_142 x.1 x.2)) = true := by decide +kernel
set_option maxRecDepth 100000 in
theorem okc_142_1 : (tb_142_1.all (fun x => okE mq_142 x.1 x.2)) = true := by decide +kernel
set_option maxRecDepth 100000 in
theorem okc_142_2 : (tb_142_2.all (fun x => okE mq_142 x.1 x.2)) = true := by decide +kernel
set_option maxRecDepth 100000 in
theorem okc_142_3 : (tb_142_3.all (fun x => okE mq_142 x.1 x.2)) = true := by decide +kernel
set_option maxRecDepth 100000 in
theorem okc_142_4 : (tb_142_4.all (fun x => okE mq_142 x.1 x.2)) = true := by decide +kernel
theorem okt_142 : okT mq_142 tb_142 = true := by
  show (List.all [(10, tb_142_0), (24, tb_142_1), (36, tb_142_2), (48, tb_142_3), (57, tb_142_4)] _) = true
  simp only [List.all_cons, List.all_nil, Bool.and_true, Bool.and_eq_true]
  exact ⟨okc_142_0, okc_142_1, okc_142_2, okc_142_3, okc_142_4⟩
theorem okm_142 : okM 142 = true := by decide +kernel
def mq_143 : Mi := (yX7_swapped, cX7_swapped, 5, (some .int), [3142, 1008, 3141, 0])
set_option maxRecDepth 100000 in
theorem okc_143_0 : (tb_143_0.all (fun x => okE mq_143 x.1 x.2)) = true := by decide +kernel
set_option maxRecDepth 100000 in
theorem okc_143_1 : (tb_143_1.all (fun x => okE mq_143 x.1 x.2)) = true := by decide +kernel
set_option maxRecDepth 100000 in
theorem okc_143_2 : (tb_143_2.all (fun x => okE mq_143 x.1 x.2)) = true := by decide +kernel
theorem okt_143 : okT mq_143 tb_143 = true := by
  show (List.all [(12, tb_143_0), (24, tb_143_1), (33, tb_143_2)] _) = true
  simp only [List.all_cons, List.all_nil, Bool.and_true, Bool.and_eq_true]
  exact ⟨okc_143_0, okc_143_1, okc_143_2⟩
theorem okm_143 : okM 143 = true := by decide +kernel
def mq_144 : Mi := (yX7_paired, cX7_paired, 6, (some .int), [3139, 1008, 3138, 0])
set_option maxRecDepth 100000 in
theorem okc_144_0 : (tb_144_0.all (fun x => okE mq_144 x.1 x.2)) = true := by decide +kernel
set_option maxRecDepth 100000 in
theorem okc_144_1 : (tb_144_1.all (fun x => okE mq_144 x.1 x.2)) = true := by decide +kernel
set_option maxRecDepth 100000 in
theorem okc_144_2 : (tb_144_2.all (fun x => okE mq_144 x.1 x.2)) = true := by decide +kernel
theorem okt_144 : okT mq_144 tb_144 = true := by
  show (List.all [(11, tb_144_0), (26, tb_144_1), (37, tb_144_2)] _) = true
  simp only [List.all_cons, List.all_nil, Bool.and_true, Bool.and_eq_true]
  exact ⟨okc_144_0, okc_144_1, okc_144_2⟩
theorem okm_144 : okM 144 = true := by decide +kernel
def mq_145 : Mi := (yX7_jumped, cX7_jumped, 8, (some .int), [3155, 1008, 3154, 0])
set_option maxRecDepth 100000 in
theorem okc_145_0 : (tb_145_0.all (fun x => okE mq_145 x.1 x.2)) = true := by decide +kernel
set_option maxRecDepth 100000 in
theorem okc_145_1 : (tb_145_1.all (fun x => okE mq_145 x.1 x.2)) = true := by decide +kernel
set_option maxRecDepth 100000 in
theorem okc_145_2 : (tb_145_2.all (fun x => okE mq_145 x.1 x.2)) = true := by decide +kernel
set_option maxRecDepth 100000 in
theorem okc_145_3 : (tb_145_3.all (fun x => okE mq_145 x.1 x.2)) = true := by decide +kernel
set_option maxRecDepth 100000 in
theorem okc_145_4 : (tb_145_4.all (fun x => okE mq_145 x.1 x.2)) = true := by decide +kernel
theorem okt_145 : okT mq_145 tb_145 = true := by
  show (List.all [(13, tb_145_0), (26, tb_145_1), (41, tb_145_2), (59, tb_145_3), (62, tb_145_4)] _) = true
  simp only [List.all_cons, List.all_nil, Bool.and_true, Bool.and_eq_true]
  exact ⟨okc_145_0, okc_145_1, okc_145_2, okc_145_3, okc_145_4⟩
theorem okm_145 : okM 145 = true := by decide +kernel
def mq_146 : Mi := (yX7_turned, cX7_turned, 7, (some .int), [3166, 1008, 3165, 0])
set_option maxRecDepth 100000 in
theorem okc_146_0 : (tb_146_0.all (fun x => okE mq_146 x.1 x.2)) = true := by decide +kernel
set_option maxRecDepth 100000 in
theorem okc_146_1 : (tb_146_1.all (fun x => okE mq_146 x.1 x.2)) = true := by decide +kernel
set_option maxRecDepth 100000 in
theorem okc_146_2 : (tb_146_2.all (fun x => okE mq_146 x.1 x.2)) = true := by decide +kernel
theorem okt_146 : okT mq_146 tb_146 = true := by
  show (List.all [(13, tb_146_0), (31, tb_146_1), (40, tb_146_2)] _) = true
  simp only [List.all_cons, List.all_nil, Bool.and_true, Bool.and_eq_true]
  exact ⟨okc_146_0, okc_146_1, okc_146_2⟩
theorem okm_146 : okM 146 = true := by decide +kernel
def mq_147 : Mi := (yX8_init, cX8_init, 1, none, [3022, 1015, 3021, 0])
set_option maxRecDepth 100000 in
theorem okc_147_0 : (tb_147_0.all (fun x => okE mq_147 x.1 x.2)) = true := by decide +kernel
set_option maxRecDepth 100000 in
theorem okc_147_1 : (tb_147_1.all (fun x => okE mq_147 x.1 x.2)) = true := by decide +kernel
set_option maxRecDepth 100000 in
theorem okc_147_2 : (tb_147_2.all (fun x => okE mq_147 x.1 x.2)) = true := by decide +kernel
set_option maxRecDepth 100000 in
theorem okc_147_3 : (tb_147_3.all (fun x => okE mq_147 x.1 x.2)) = true := by decide +kernel
theorem okt_147 : okT mq_147 tb_147 = true := by
  show (List.all [(15, tb_147_0), (31, tb_147_1), (46, tb_147_2), (47, tb_147_3)] _) = true
  simp only [List.all_cons, List.all_nil, Bool.and_true, Bool.and_eq_true]
  exact ⟨okc_147_0, okc_147_1, okc_147_2, okc_147_3⟩
theorem okm_147 : okM 147 = true := by decide +kernel
def mq_148 : Mi := (yX8_require, cX8_require, 5, none, [3124, 1015, 3122, 3123])
set_option maxRecDepth 100000 in
theorem okc_148_0 : (tb_148_0.all (fun x => okE mq_148 x.1 x.2)) = true := by decide +kernel
set_option maxRecDepth 100000 in
theorem okc_148_1 : (tb_148_1.all (fun x => okE mq_148 x.1 x.2)) = true := by decide +kernel
set_option maxRecDepth 100000 in
theorem okc_148_2 : (tb_148_2.all (fun x => okE mq_148 x.1 x.2)) = true := by decide +kernel
set_option maxRecDepth 100000 in
theorem okc_148_3 : (tb_148_3.all (fun x => okE mq_148 x.1 x.2)) = true := by decide +kernel
set_option maxRecDepth 100000 in
theorem okc_148_4 : (tb_148_4.all (fun x => okE mq_148 x.1 x.2)) = true := by decide +kernel
theorem okt_148 : okT mq_148 tb_148 = true := by
  show (List.all [(15, tb_148_0), (29, tb_148_1), (41, tb_148_2), (56, tb_148_3), (62, tb_148_4)] _) = true
  simp only [List.all_cons, List.all_nil, Bool.and_true, Bool.and_eq_true]
  exact ⟨okc_148_0, okc_148_1, okc_148_2, okc_148_3, okc_148_4⟩
theorem okm_148 : okM 148 = true := by decide +kernel
def mq_149 : Mi := (yX8_holds, cX8_holds, 6, (some .boolean), [3236, 1015, 3234, 3235])
set_option maxRecDepth 100000 in
theorem okc_149_0 : (tb_149_0.all (fun x => okE mq_149 x.1 x.2)) = true := by decide +kernel
set_option maxRecDepth 100000 in
theorem okc_149_1 : (tb_149_1.all (fun x => okE mq_149 x.1 x.2)) = true := by decide +kernel
set_option maxRecDepth 100000 in
theorem okc_149_2 : (tb_149_2.all (fun x => okE mq_149 x.1 x.2)) = true := by decide +kernel
theorem okt_149 : okT mq_149 tb_149 = true := by
  show (List.all [(15, tb_149_0), (29, tb_149_1), (43, tb_149_2)] _) = true
  simp only [List.all_cons, List.all_nil, Bool.and_true, Bool.and_eq_true]
  exact ⟨okc_149_0, okc_149_1, okc_149_2⟩
theorem okm_149 : okM 149 = true := by decide +kernel
def mq_150 : Mi := (yX8_isSo, cX8_isSo, 8, (some .boolean), [4000, 1015, 3239, 9021])
set_option maxRecDepth 100000 in
theorem okc_150_0 : (tb_150_0.all (fun x => okE mq_150 x.1 x.2)) = true := by decide +kernel
set_option maxRecDepth 100000 in
theorem okc_150_1 : (tb_150_1.all (fun x => okE mq_150 x.1 x.2)) = true := by decide +kernel
set_option maxRecDepth 100000 in
theorem okc_150_2 : (tb_150_2.all (fun x => okE mq_150 x.1 x.2)) = true := by decide +kernel
set_option maxRecDepth 100000 in
theorem okc_150_3 : (tb_150_3.all (fun x => okE mq_150 x.1 x.2)) = true := by decide +kernel
set_option maxRecDepth 100000 in
theorem okc_150_4 : (tb_150_4.all (fun x => okE mq_150 x.1 x.2)) = true := by decide +kernel
set_option maxRecDepth 100000 in
theorem okc_150_5 : (tb_150_5.all (fun x => okE mq_150 x.1 x.2)) = true := by decide +kernel
set_option maxRecDepth 100000 in
theorem okc_150_6 : (tb_150_6.all (fun x => okE mq_150 x.1 x.2)) = true := by decide +kernel
set_option maxRecDepth 100000 in
theorem okc_150_7 : (tb_150_7.all (fun x => okE mq_150 x.1 x.2)) = true := by decide +kernel
theorem okt_150 : okT mq_150 tb_150 = true := by
  show (List.all [(14, tb_150_0), (60, tb_150_1), (76, tb_150_2), (88, tb_150_3), (104, tb_150_4), (119, tb_150_5), (135, tb_150_6), (150, tb_150_7)] _) = true
  simp only [List.all_cons, List.all_nil, Bool.and_true, Bool.and_eq_true]
  exact ⟨okc_150_0, okc_150_1, okc_150_2, okc_150_3, okc_150_4, okc_150_5, okc_150_6, okc_150_7⟩
theorem okm_150 : okM 150 = true := by decide +kernel
def mq_151 : Mi := (yX9_init, cX9_init, 1, none, [1038, 1002, 1037, 0])
set_option maxRecDepth 100000 in
theorem okc_151_0 : (tb_151_0.all (fun x => okE mq_151 x.1 x.2)) = true := by decide +kernel
set_option maxRecDepth 100000 in
theorem okc_151_1 : (tb_151_1.all (fun x => okE mq_151 x.1 x.2)) = true := by decide +kernel
set_option maxRecDepth 100000 in
theorem okc_151_2 : (tb_151_2.all (fun x => okE mq_151 x.1 x.2)) = true := by decide +kernel
set_option maxRecDepth 100000 in
theorem okc_151_3 : (tb_151_3.all (fun x => okE mq_151 x.1 x.2)) = true := by decide +kernel
set_option maxRecDepth 100000 in
theorem okc_151_4 : (tb_151_4.all (fun x => okE mq_151 x.1 x.2)) = true := by decide +kernel
set_option maxRecDepth 100000 in
theorem okc_151_5 : (tb_151_5.all (fun x => okE mq_151 x.1 x.2)) = true := by decide +kernel
set_option maxRecDepth 100000 in
theorem okc_151_6 : (tb_151_6.all (fun x => okE mq_151 x.1 x.2)) = true := by decide +kernel
theorem okt_151 : okT mq_151 tb_151 = true := by
  show (List.all [(15, tb_151_0), (33, tb_151_1), (51, tb_151_2), (68, tb_151_3), (85, tb_151_4), (98, tb_151_5), (102, tb_151_6)] _) = true
  simp only [List.all_cons, List.all_nil, Bool.and_true, Bool.and_eq_true]
  exact ⟨okc_151_0, okc_151_1, okc_151_2, okc_151_3, okc_151_4, okc_151_5, okc_151_6⟩
theorem okm_151 : okM 151 = true := by decide +kernel
def mq_152 : Mi := (yX9_isOn, cX9_isOn, 1, (some .boolean), [3216, 1002, 3214, 3215])
set_option maxRecDepth 100000 in
theorem okc_152_0 : (tb_152_0.all (fun x => okE mq_152 x.1 x.2)) = true := by decide +kernel
theorem okt_152 : okT mq_152 tb_152 = true := by
  show (List.all [(13, tb_152_0)] _) = true
  simp only [List.all_cons, List.all_nil, Bool.and_true, Bool.and_eq_true]
  exact okc_152_0
theorem okm_152 : okM 152 = true := by decide +kernel
def mq_153 : Mi := (yX9_end, cX9_end, 1, none, [2027, 1002, 2025, 2026])
set_option maxRecDepth 100000 in
theorem okc_153_0 : (tb_153_0.all (fun x => okE mq_153 x.1 x.2)) = true := by decide +kernel
theorem okt_153 : okT mq_153 tb_153 = true := by
  show (List.all [(6, tb_153_0)] _) = true
  simp only [List.all_cons, List.all_nil, Bool.and_true, Bool.and_eq_true]
  exact okc_153_0
theorem okm_153 : okM 153 = true := by decide +kernel
def mq_154 : Mi := (yX9_begin, cX9_begin, 3, none, [3203, 1002, 3201, 3202])
set_option maxRecDepth 100000 in
theorem okc_154_0 : (tb_154_0.all (fun x => okE mq_154 x.1 x.2)) = true := by decide +kernel
set_option maxRecDepth 100000 in
theorem okc_154_1 : (tb_154_1.all (fun x => okE mq_154 x.1 x.2)) = true := by decide +kernel
set_option maxRecDepth 100000 in
theorem okc_154_2 : (tb_154_2.all (fun x => okE mq_154 x.1 x.2)) = true := by decide +kernel
set_option maxRecDepth 100000 in
theorem okc_154_3 : (tb_154_3.all (fun x => okE mq_154 x.1 x.2)) = true := by decide +kernel
set_option maxRecDepth 100000 in
theorem okc_154_4 : (tb_154_4.all (fun x => okE mq_154 x.1 x.2)) = true := by decide +kernel
theorem okt_154 : okT mq_154 tb_154 = true := by
  show (List.all [(12, tb_154_0), (27, tb_154_1), (41, tb_154_2), (58, tb_154_3), (62, tb_154_4)] _) = true
  simp only [List.all_cons, List.all_nil, Bool.and_true, Bool.and_eq_true]
  exact ⟨okc_154_0, okc_154_1, okc_154_2, okc_154_3, okc_154_4⟩
theorem okm_154 : okM 154 = true := by decide +kernel
def mq_155 : Mi := (yX9_hasRows, cX9_hasRows, 3, (some .boolean), [4020, 1002, 4018, 4019])
set_option maxRecDepth 100000 in
theorem okc_155_0 : (tb_155_0.all (fun x => okE mq_155 x.1 x.2)) = true := by decide +kernel
set_option maxRecDepth 100000 in
theorem okc_155_1 : (tb_155_1.all (fun x => okE mq_155 x.1 x.2)) = true := by decide +kernel
set_option maxRecDepth 100000 in
theorem okc_155_2 : (tb_155_2.all (fun x => okE mq_155 x.1 x.2)) = true := by decide +kernel
theorem okt_155 : okT mq_155 tb_155 = true := by
  show (List.all [(16, tb_155_0), (28, tb_155_1), (29, tb_155_2)] _) = true
  simp only [List.all_cons, List.all_nil, Bool.and_true, Bool.and_eq_true]
  exact ⟨okc_155_0, okc_155_1, okc_155_2⟩
theorem okm_155 : okM 155 = true := by decide +kernel
def mq_156 : Mi := (yX9_goOn, cX9_goOn, 5, (some .int), [3224, 1002, 3222, 3223])
set_option maxRecDepth 100000 in
theorem okc_156_0 : (tb_156_0.all (fun x => okE mq_156 x.1 x.2)) = true := by decide +kernel
set_option maxRecDepth 100000 in
theorem okc_156_1 : (tb_156_1.all (fun x => okE mq_156 x.1 x.2)) = true := by decide +kernel
set_option maxRecDepth 100000 in
theorem okc_156_2 : (tb_156_2.all (fun x => okE mq_156 x.1 x.2)) = true := by decide +kernel
theorem okt_156 : okT mq_156 tb_156 = true := by
  show (List.all [(12, tb_156_0), (30, tb_156_1), (45, tb_156_2)] _) = true
  simp only [List.all_cons, List.all_nil, Bool.and_true, Bool.and_eq_true]
  exact ⟨okc_156_0, okc_156_1, okc_156_2⟩
theorem okm_156 : okM 156 = true := by decide +kernel
def mq_157 : Mi := (yX9_goOneStep, cX9_goOneStep, 4, (some .boolean), [3228, 1002, 3227, 9020])
set_option maxRecDepth 100000 in
theorem okc_157_0 : (tb_157_0.all (fun x => okE mq_157 x.1 x.2)) = true := by decide +kernel
set_option maxRecDepth 100000 in
theorem okc_157_1 : (tb_157_1.all (fun x => okE mq_157 x.1 x.2)) = true := by decide +kernel
set_option maxRecDepth 100000 in
theorem okc_157_2 : (tb_157_2.all (fun x => okE mq_157 x.1 x.2)) = true := by decide +kernel
set_option maxRecDepth 100000 in
theorem okc_157_3 : (tb_157_3.all (fun x => okE mq_157 x.1 x.2)) = true := by decide +kernel
set_option maxRecDepth 100000 in
theorem okc_157_4 : (tb_157_4.all (fun x => okE mq_157 x.1 x.2)) = true := by decide +kernel
set_option maxRecDepth 100000 in
theorem okc_157_5 : (tb_157_5.all (fun x => okE mq_157 x.1 x.2)) = true := by decide +kernel
set_option maxRecDepth 100000 in
theorem okc_157_6 : (tb_157_6.all (fun x => okE mq_157 x.1 x.2)) = true := by decide +kernel
set_option maxRecDepth 100000 in
theorem okc_157_7 : (tb_157_7.all (fun x => okE mq_157 x.1 x.2)) = true := by decide +kernel
set_option maxRecDepth 100000 in
theorem okc_157_8 : (tb_157_8.all (fun x => okE mq_157 x.1 x.2)) = true := by decide +kernel
set_option maxRecDepth 100000 in
theorem okc_157_9 : (tb_157_9.all (fun x => okE mq_157 x.1 x.2)) = true := by decide +kernel
theorem okt_157 : okT mq_157 tb_157 = true := by
  show (List.all [(18, tb_157_0), (36, tb_157_1), (54, tb_157_2), (72, tb_157_3), (90, tb_157_4), (106, tb_157_5), (125, tb_157_6), (143, tb_157_7), (163, tb_157_8), (164, tb_157_9)] _) = true
  simp only [List.all_cons, List.all_nil, Bool.and_true, Bool.and_eq_true]
  exact ⟨okc_157_0, okc_157_1, okc_157_2, okc_157_3, okc_157_4, okc_157_5, okc_157_6, okc_157_7, okc_157_8, okc_157_9⟩
theorem okm_157 : okM 157 = true := by decide +kernel
def mq_158 : Mi := (yX9_compareWithEarlier, cX9_compareWithEarlier, 5, none, [4011, 1002, 4010, 9022])
set_option maxRecDepth 100000 in
theorem okc_158_0 : (tb_158_0.all (fun x => okE mq_158 x.1 x.2)) = true := by decide +kernel
set_option maxRecDepth 100000 in
theorem okc_158_1 : (tb_158_1.all (fun x => okE mq_158 x.1 x.2)) = true := by decide +kernel
set_option maxRecDepth 100000 in
theorem okc_158_2 : (tb_158_2.all (fun x => okE mq_158 x.1 x.2)) = true := by decide +kernel
set_option maxRecDepth 100000 in
theorem okc_158_3 : (tb_158_3.all (fun x => okE mq_158 x.1 x.2)) = true := by decide +kernel
set_option maxRecDepth 100000 in
theorem okc_158_4 : (tb_158_4.all (fun x => okE mq_158 x.1 x.2)) = true := by decide +kernel
set_option maxRecDepth 100000 in
theorem okc_158_5 : (tb_158_5.all (fun x => okE mq_158 x.1 x.2)) = true := by decide +kernel
set_option maxRecDepth 100000 in
theorem okc_158_6 : (tb_158_6.all (fun x => okE mq_158 x.1 x.2)) = true := by decide +kernel
set_option maxRecDepth 100000 in
theorem okc_158_7 : (tb_158_7.all (fun x => okE mq_158 x.1 x.2)) = true := by decide +kernel
set_option maxRecDepth 100000 in
theorem okc_158_8 : (tb_158_8.all (fun x => okE mq_158 x.1 x.2)) = true := by decide +kernel
set_option maxRecDepth 100000 in
theorem okc_158_9 : (tb_158_9.all (fun x => okE mq_158 x.1 x.2)) = true := by decide +kernel
theorem okt_158 : okT mq_158 tb_158 = true := by
  show (List.all [(14, tb_158_0), (32, tb_158_1), (50, tb_158_2), (68, tb_158_3), (82, tb_158_4), (98, tb_158_5), (112, tb_158_6), (130, tb_158_7), (151, tb_158_8), (165, tb_158_9)] _) = true
  simp only [List.all_cons, List.all_nil, Bool.and_true, Bool.and_eq_true]
  exact ⟨okc_158_0, okc_158_1, okc_158_2, okc_158_3, okc_158_4, okc_158_5, okc_158_6, okc_158_7, okc_158_8, okc_158_9⟩
theorem okm_158 : okM 158 = true := by decide +kernel
def mq_159 : Mi := (yX10_init, cX10_init, 1, none, [2003, 1007, 2002, 0])
set_option maxRecDepth 100000 in
theorem okc_159_0 : (tb_159_0.all (fun x => okE mq_159 x.1 x.2)) = true := by decide +kernel
set_option maxRecDepth 100000 in
theorem okc_159_1 : (tb_159_1.all (fun x => okE mq_159 x.1 x.2)) = true := by decide +kernel
theorem okt_159 : okT mq_159 tb_159 = true := by
  show (List.all [(15, tb_159_0), (33, tb_159_1)] _) = true
  simp only [List.all_cons, List.all_nil, Bool.and_true, Bool.and_eq_true]
  exact ⟨okc_159_0, okc_159_1⟩
theorem okm_159 : okM 159 = true := by decide +kernel
def mq_160 : Mi := (yX10_sweep, cX10_sweep, 1, none, [2081, 1007, 2079, 2080])
set_option maxRecDepth 100000 in
theorem okc_160_0 : (tb_160_0.all (fun x => okE mq_160 x.1 x.2)) = true := by decide +kernel
theorem okt_160 : okT mq_160 tb_160 = true := by
  show (List.all [(9, tb_160_0)] _) = true
  simp only [List.all_cons, List.all_nil, Bool.and_true, Bool.and_eq_true]
  exact okc_160_0
theorem okm_160 : okM 160 = true := by decide +kernel
def mq_161 : Mi := (yX10_lay, cX10_lay, 4, none, [5081, 1007, 5079, 5080])
set_option maxRecDepth 100000 in
theorem okc_161_0 : (tb_161_0.all (fun x => okE mq_161 x.1 x.2)) = true := by decide +kernel
set_option maxRecDepth 100000 in
theorem okc_161_1 : (tb_161_1.all (fun x => okE mq_161 x.1 x.2)) = true := by decide +kernel
set_option maxRecDepth 100000 in
theorem okc_161_2 : (tb_161_2.all (fun x => okE mq_161 x.1 x.2)) = true := by decide +kernel
theorem okt_161 : okT mq_161 tb_161 = true := by
  show (List.all [(12, tb_161_0), (24, tb_161_1), (25, tb_161_2)] _) = true
  simp only [List.all_cons, List.all_nil, Bool.and_true, Bool.and_eq_true]
  exact ⟨okc_161_0, okc_161_1, okc_161_2⟩
theorem okm_161 : okM 161 = true := by decide +kernel
def mq_162 : Mi := (yX10_holdsNothing, cX10_holdsNothing, 2, (some .boolean), [5094, 1007, 5092, 5093])
set_option maxRecDepth 100000 in
theorem okc_162_0 : (tb_162_0.all (fun x => okE mq_162 x.1 x.2)) = true := by decide +kernel
set_option maxRecDepth 100000 in
theorem okc_162_1 : (tb_162_1.all (fun x => okE mq_162 x.1 x.2)) = true := by decide +kernel
theorem okt_162 : okT mq_162 tb_162 = true := by
  show (List.all [(14, tb_162_0), (16, tb_162_1)] _) = true
  simp only [List.all_cons, List.all_nil, Bool.and_true, Bool.and_eq_true]
  exact ⟨okc_162_0, okc_162_1⟩
theorem okm_162 : okM 162 = true := by decide +kernel
def mq_163 : Mi := (yX10_isOfLines, cX10_isOfLines, 1, (some .boolean), [5121, 1007, 5120, 0])
set_option maxRecDepth 100000 in
theorem okc_163_0 : (tb_163_0.all (fun x => okE mq_163 x.1 x.2)) = true := by decide +kernel
set_option maxRecDepth 100000 in
theorem okc_163_1 : (tb_163_1.all (fun x => okE mq_163 x.1 x.2)) = true := by decide +kernel
theorem okt_163 : okT mq_163 tb_163 = true := by
  show (List.all [(14, tb_163_0), (16, tb_163_1)] _) = true
  simp only [List.all_cons, List.all_nil, Bool.and_true, Bool.and_eq_true]
  exact ⟨okc_163_0, okc_163_1⟩
theorem okm_163 : okM 163 = true := by decide +kernel
def mq_164 : Mi := (yX10_lineOf, cX10_lineOf, 2, (some .long), [5105, 1007, 5104, 0])
set_option maxRecDepth 100000 in
theorem okc_164_0 : (tb_164_0.all (fun x => okE mq_164 x.1 x.2)) = true := by decide +kernel
set_option maxRecDepth 100000 in
theorem okc_164_1 : (tb_164_1.all (fun x => okE mq_164 x.1 x.2)) = true := by decide +kernel
theorem okt_164 : okT mq_164 tb_164 = true := by
  show (List.all [(12, tb_164_0), (16, tb_164_1)] _) = true
  simp only [List.all_cons, List.all_nil, Bool.and_true, Bool.and_eq_true]
  exact ⟨okc_164_0, okc_164_1⟩
theorem okm_164 : okM 164 = true := by decide +kernel
def mq_165 : Mi := (yX10_rowOfLine, cX10_rowOfLine, 2, (some .int), [5144, 1007, 5143, 0])
set_option maxRecDepth 100000 in
theorem okc_165_0 : (tb_165_0.all (fun x => okE mq_165 x.1 x.2)) = true := by decide +kernel
theorem okt_165 : okT mq_165 tb_165 = true := by
  show (List.all [(5, tb_165_0)] _) = true
  simp only [List.all_cons, List.all_nil, Bool.and_true, Bool.and_eq_true]
  exact okc_165_0
theorem okm_165 : okM 165 = true := by decide +kernel
def mq_166 : Mi := (yX10_takes, cX10_takes, 4, (some .boolean), [5109, 1007, 5107, 5108])
set_option maxRecDepth 100000 in
theorem okc_166_0 : (tb_166_0.all (fun x => okE mq_166 x.1 x.2)) = true := by decide +kernel
set_option maxRecDepth 100000 in
theorem okc_166_1 : (tb_166_1.all (fun x => okE mq_166 x.1 x.2)) = true := by decide +kernel
set_option maxRecDepth 100000 in
theorem okc_166_2 : (tb_166_2.all (fun x => okE mq_166 x.1 x.2)) = true := by decide +kernel
theorem okt_166 : okT mq_166 tb_166 = true := by
  show (List.all [(12, tb_166_0), (24, tb_166_1), (30, tb_166_2)] _) = true
  simp only [List.all_cons, List.all_nil, Bool.and_true, Bool.and_eq_true]
  exact ⟨okc_166_0, okc_166_1, okc_166_2⟩
theorem okm_166 : okM 166 = true := by decide +kernel
def mq_167 : Mi := (yX10_readsAs, cX10_readsAs, 3, (some .boolean), [5138, 1007, 5136, 5137])
set_option maxRecDepth 100000 in
theorem okc_167_0 : (tb_167_0.all (fun x => okE mq_167 x.1 x.2)) = true := by decide +kernel
set_option maxRecDepth 100000 in
theorem okc_167_1 : (tb_167_1.all (fun x => okE mq_167 x.1 x.2)) = true := by decide +kernel
set_option maxRecDepth 100000 in
theorem okc_167_2 : (tb_167_2.all (fun x => okE mq_167 x.1 x.2)) = true := by decide +kernel
theorem okt_167 : okT mq_167 tb_167 = true := by
  show (List.all [(14, tb_167_0), (26, tb_167_1), (31, tb_167_2)] _) = true
  simp only [List.all_cons, List.all_nil, Bool.and_true, Bool.and_eq_true]
  exact ⟨okc_167_0, okc_167_1, okc_167_2⟩
theorem okm_167 : okM 167 = true := by decide +kernel
def mq_168 : Mi := (yX10_copyItems, cX10_copyItems, 6, (some .int), [5117, 1007, 5115, 5116])
set_option maxRecDepth 100000 in
theorem okc_168_0 : (tb_168_0.all (fun x => okE mq_168 x.1 x.2)) = true := by decide +kernel
set_option maxRecDepth 100000 in
theorem okc_168_1 : (tb_168_1.all (fun x => okE mq_168 x.1 x.2)) = true := by decide +kernel
set_option maxRecDepth 100000 in
theorem okc_168_2 : (tb_168_2.all (fun x => okE mq_168 x.1 x.2)) = true := by decide +kernel
set_option maxRecDepth 100000 in
theorem okc_168_3 : (tb_168_3.all (fun x => okE mq_168 x.1 x.2)) = true := by decide +kernel
set_option maxRecDepth 100000 in
theorem okc_168_4 : (tb_168_4.all (fun x => okE mq_168 x.1 x.2)) = true := by decide +kernel
set_option maxRecDepth 100000 in
theorem okc_168_5 : (tb_168_5.all (fun x => okE mq_168 x.1 x.2)) = true := by decide +kernel
set_option maxRecDepth 100000 in
theorem okc_168_6 : (tb_168_6.all (fun x => okE mq_168 x.1 x.2)) = true := by decide +kernel
set_option maxRecDepth 100000 in
theorem okc_168_7 : (tb_168_7.all (fun x => okE mq_168 x.1 x.2)) = true := by decide +kernel
set_option maxRecDepth 100000 in
theorem okc_168_8 : (tb_168_8.all (fun x => okE mq_168 x.1 x.2)) = true := by decide +kernel
theorem okt_168 : okT mq_168 tb_168 = true := by
  show (List.all [(19, tb_168_0), (35, tb_168_1), (55, tb_168_2), (77, tb_168_3), (94, tb_168_4), (110, tb_168_5), (126, tb_168_6), (144, tb_168_7), (157, tb_168_8)] _) = true
  simp only [List.all_cons, List.all_nil, Bool.and_true, Bool.and_eq_true]
  exact ⟨okc_168_0, okc_168_1, okc_168_2, okc_168_3, okc_168_4, okc_168_5, okc_168_6, okc_168_7, okc_168_8⟩
theorem okm_168 : okM 168 = true := by decide +kernel
def mq_169 : Mi := (yX10_copyLines, cX10_copyLines, 9, (some .int), [5128, 1007, 5127, 9034])
set_option maxRecDepth 100000 in
theorem okc_169_0 : (tb_169_0.all (fun x => okE mq_169 x.1 x.2)) = true := by decide +kernel
set_option maxRecDepth 100000 in
theorem okc_169_1 : (tb_169_1.all (fun x => okE mq_169 x.1 x.2)) = true := by decide +kernel
set_option maxRecDepth 100000 in
theorem okc_169_2 : (tb_169_2.all (fun x => okE mq_169 x.1 x.2)) = true := by decide +kernel
set_option maxRecDepth 100000 in
theorem okc_169_3 : (tb_169_3.all (fun x => okE mq_169 x.1 x.2)) = true := by decide +kernel
set_option maxRecDepth 100000 in
theorem okc_169_4 : (tb_169_4.all (fun x => okE mq_169 x.1 x.2)) = true := by decide +kernel
theorem okt_169 : okT mq_169 tb_169 = true := by
  show (List.all [(15, tb_169_0), (25, tb_169_1), (41, tb_169_2), (56, tb_169_3), (58, tb_169_4)] _) = true
  simp only [List.all_cons, List.all_nil, Bool.and_true, Bool.and_eq_true]
  exact ⟨okc_169_0, okc_169_1, okc_169_2, okc_169_3, okc_169_4⟩
theorem okm_169 : okM 169 = true := by decide +kernel
