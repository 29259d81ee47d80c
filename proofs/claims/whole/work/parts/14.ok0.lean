/-! the words of the methods, chunk by chunk -/
def mq_0 : Mi := (x, code, 4, (some .boolean), [0, 1000, 0, 0])
set_option maxRecDepth 100000 in
theorem okc_0_0 : (tb_0_0.all (fun x => okE mq_0 x.1 x.2)) = true := by decide +kernel
set_option maxRecDepth 100000 in
theorem okc_0_1 : (tb_0_1.all (fun x => okE mq_0 x.1 x.2)) = true := by decide +kernel
set_option maxRecDepth 100000 in
theorem okc_0_2 : (tb_0_2.all (fun x => okE mq_0 x.1 x.2)) = true := by decide +kernel
set_option maxRecDepth 100000 in
theorem okc_0_3 : (tb_0_3.all (fun x => okE mq_0 x.1 x.2)) = true := by decide +kernel
set_option maxRecDepth 100000 in
theorem okc_0_4 : (tb_0_4.all (fun x => okE mq_0 x.1 x.2)) = true := by decide +kernel
set_option maxRecDepth 100000 in
theorem okc_0_5 : (tb_0_5.all (fun x => okE mq_0 x.1 x.2)) = true := by decide +kernel
set_option maxRecDepth 100000 in
theorem okc_0_6 : (tb_0_6.all (fun x => okE mq_0 x.1 x.2)) = true := by decide +kernel
set_option maxRecDepth 100000 in
theorem okc_0_7 : (tb_0_7.all (fun x => okE mq_0 x.1 x.2)) = true := by decide +kernel
set_option maxRecDepth 100000 in
theorem okc_0_8 : (tb_0_8.all (fun x => okE mq_0 x.1 x.2)) = true := by decide +kernel
set_option maxRecDepth 100000 in
theorem okc_0_9 : (tb_0_9.all (fun x => okE mq_0 x.1 x.2)) = true := by decide +kernel
set_option maxRecDepth 100000 in
theorem okc_0_10 : (tb_0_10.all (fun x => okE mq_0 x.1 x.2)) = true := by decide +kernel
set_option maxRecDepth 100000 in
theorem okc_0_11 : (tb_0_11.all (fun x => okE mq_0 x.1 x.2)) = true := by decide +kernel
set_option maxRecDepth 100000 in
theorem okc_0_12 : (tb_0_12.all (fun x => okE mq_0 x.1 x.2)) = true := by decide +kernel
set_option maxRecDepth 100000 in
theorem okc_0_13 : (tb_0_13.all (fun x => okE mq_0 x.1 x.2)) = true := by decide +kernel
set_option maxRecDepth 100000 in
theorem okc_0_14 : (tb_0_14.all (fun x => okE mq_0 x.1 x.2)) = true := by decide +kernel
set_option maxRecDepth 100000 in
theorem okc_0_15 : (tb_0_15.all (fun x => okE mq_0 x.1 x.2)) = true := by decide +kernel
set_option maxRecDepth 100000 in
theorem okc_0_16 : (tb_0_16.all (fun x => okE mq_0 x.1 x.2)) = true := by decide +kernel
set_option maxRecDepth 100000 in
theorem okc_0_17 : (tb_0_17.all (fun x => okE mq_0 x.1 x.2)) = true := by decide +kernel
set_option maxRecDepth 100000 in
theorem okc_0_18 : (tb_0_18.all (fun x => okE mq_0 x.1 x.2)) = true := by decide +kernel
set_option maxRecDepth 100000 in
theorem okc_0_19 : (tb_0_19.all (fun x => okE mq_0 x.1 x.2)) = true := by decide +kernel
set_option maxRecDepth 100000 in
theorem okc_0_20 : (tb_0_20.all (fun x => okE mq_0 x.1 x.2)) = true := by decide +kernel
set_option maxRecDepth 100000 in
theorem okc_0_21 : (tb_0_21.all (fun x => okE mq_0 x.1 x.2)) = true := by decide +kernel
set_option maxRecDepth 100000 in
theorem okc_0_22 : (tb_0_22.all (fun x => okE mq_0 x.1 x.2)) = true := by decide +kernel
set_option maxRecDepth 100000 in
theorem okc_0_23 : (tb_0_23.all (fun x => okE mq_0 x.1 x.2)) = true := by decide +kernel
set_option maxRecDepth 100000 in
theorem okc_0_24 : (tb_0_24.all (fun x => okE mq_0 x.1 x.2)) = true := by decide +kernel
set_option maxRecDepth 100000 in
theorem okc_0_25 : (tb_0_25.all (fun x => okE mq_0 x.1 x.2)) = true := by decide +kernel
set_option maxRecDepth 100000 in
theorem okc_0_26 : (tb_0_26.all (fun x => okE mq_0 x.1 x.2)) = true := by decide +kernel
set_option maxRecDepth 100000 in
theorem okc_0_27 : (tb_0_27.all (fun x => okE mq_0 x.1 x.2)) = true := by decide +kernel
set_option maxRecDepth 100000 in
theorem okc_0_28 : (tb_0_28.all (fun x => okE mq_0 x.1 x.2)) = true := by decide +kernel
set_option maxRecDepth 100000 in
theorem okc_0_29 : (tb_0_29.all (fun x => okE mq_0 x.1 x.2)) = true := by decide +kernel
set_option maxRecDepth 100000 in
theorem okc_0_30 : (tb_0_30.all (fun x => okE mq_0 x.1 x.2)) = true := by decide +kernel
theorem okt_0 : okT mq_0 tb_0 = true := by
  show (List.all [(215, tb_0_0), (252, tb_0_1), (293, tb_0_2), (334, tb_0_3), (372, tb_0_4), (416, tb_0_5), (453, tb_0_6), (490, tb_0_7), (529, tb_0_8), (570, tb_0_9), (611, tb_0_10), (650, tb_0_11), (699, tb_0_12), (738, tb_0_13), (779, tb_0_14), (812, tb_0_15), (849, tb_0_16), (886, tb_0_17), (929, tb_0_18), (967, tb_0_19), (1009, tb_0_20), (1052, tb_0_21), (1093, tb_0_22), (1132, tb_0_23), (1169, tb_0_24), (1210, tb_0_25), (1247, tb_0_26), (1284, tb_0_27), (1317, tb_0_28), (1352, tb_0_29), (1392, tb_0_30)] _) = true
  simp only [List.all_cons, List.all_nil, Bool.and_true, Bool.and_eq_true]
  exact ⟨okc_0_0, okc_0_1, okc_0_2, okc_0_3, okc_0_4, okc_0_5, okc_0_6, okc_0_7, okc_0_8, okc_0_9, okc_0_10, okc_0_11, okc_0_12, okc_0_13, okc_0_14, okc_0_15, okc_0_16, okc_0_17, okc_0_18, okc_0_19, okc_0_20, okc_0_21, okc_0_22, okc_0_23, okc_0_24, okc_0_25, okc_0_26, okc_0_27, okc_0_28, okc_0_29, okc_0_30⟩
theorem okm_0 : okM 0 = true := by decide +kernel
def mq_1 : Mi := (yX11_init, cX11_init, 1, none, [1028, 1001, 1027, 0])
set_option maxRecDepth 100000 in
theorem okc_1_0 : (tb_1_0.all (fun x => okE mq_1 x.1 x.2)) = true := by decide +kernel
set_option maxRecDepth 100000 in
theorem okc_1_1 : (tb_1_1.all (fun x => okE mq_1 x.1 x.2)) = true := by decide +kernel
set_option maxRecDepth 100000 in
theorem okc_1_2 : (tb_1_2.all (fun x => okE mq_1 x.1 x.2)) = true := by decide +kernel
set_option maxRecDepth 100000 in
theorem okc_1_3 : (tb_1_3.all (fun x => okE mq_1 x.1 x.2)) = true := by decide +kernel
set_option maxRecDepth 100000 in
theorem okc_1_4 : (tb_1_4.all (fun x => okE mq_1 x.1 x.2)) = true := by decide +kernel
set_option maxRecDepth 100000 in
theorem okc_1_5 : (tb_1_5.all (fun x => okE mq_1 x.1 x.2)) = true := by decide +kernel
set_option maxRecDepth 100000 in
theorem okc_1_6 : (tb_1_6.all (fun x => okE mq_1 x.1 x.2)) = true := by decide +kernel
theorem okt_1 : okT mq_1 tb_1 = true := by
  show (List.all [(16, tb_1_0), (33, tb_1_1), (49, tb_1_2), (65, tb_1_3), (83, tb_1_4), (101, tb_1_5), (109, tb_1_6)] _) = true
  simp only [List.all_cons, List.all_nil, Bool.and_true, Bool.and_eq_true]
  exact ⟨okc_1_0, okc_1_1, okc_1_2, okc_1_3, okc_1_4, okc_1_5, okc_1_6⟩
theorem okm_1 : okM 1 = true := by decide +kernel
def mq_2 : Mi := (yX11_beginAnew, cX11_beginAnew, 1, none, [2023, 1001, 2022, 9000])
set_option maxRecDepth 100000 in
theorem okc_2_0 : (tb_2_0.all (fun x => okE mq_2 x.1 x.2)) = true := by decide +kernel
set_option maxRecDepth 100000 in
theorem okc_2_1 : (tb_2_1.all (fun x => okE mq_2 x.1 x.2)) = true := by decide +kernel
set_option maxRecDepth 100000 in
theorem okc_2_2 : (tb_2_2.all (fun x => okE mq_2 x.1 x.2)) = true := by decide +kernel
theorem okt_2 : okT mq_2 tb_2 = true := by
  show (List.all [(16, tb_2_0), (34, tb_2_1), (52, tb_2_2)] _) = true
  simp only [List.all_cons, List.all_nil, Bool.and_true, Bool.and_eq_true]
  exact ⟨okc_2_0, okc_2_1, okc_2_2⟩
theorem okm_2 : okM 2 = true := by decide +kernel
def mq_3 : Mi := (yX11_stage, cX11_stage, 3, (some .int), [2122, 1001, 2120, 2121])
set_option maxRecDepth 100000 in
theorem okc_3_0 : (tb_3_0.all (fun x => okE mq_3 x.1 x.2)) = true := by decide +kernel
set_option maxRecDepth 100000 in
theorem okc_3_1 : (tb_3_1.all (fun x => okE mq_3 x.1 x.2)) = true := by decide +kernel
set_option maxRecDepth 100000 in
theorem okc_3_2 : (tb_3_2.all (fun x => okE mq_3 x.1 x.2)) = true := by decide +kernel
theorem okt_3 : okT mq_3 tb_3 = true := by
  show (List.all [(13, tb_3_0), (27, tb_3_1), (29, tb_3_2)] _) = true
  simp only [List.all_cons, List.all_nil, Bool.and_true, Bool.and_eq_true]
  exact ⟨okc_3_0, okc_3_1, okc_3_2⟩
theorem okm_3 : okM 3 = true := by decide +kernel
def mq_4 : Mi := (yX11_isBell, cX11_isBell, 2, (some .boolean), [4097, 1001, 4096, 9025])
set_option maxRecDepth 100000 in
theorem okc_4_0 : (tb_4_0.all (fun x => okE mq_4 x.1 x.2)) = true := by decide +kernel
set_option maxRecDepth 100000 in
theorem okc_4_1 : (tb_4_1.all (fun x => okE mq_4 x.1 x.2)) = true := by decide +kernel
theorem okt_4 : okT mq_4 tb_4 = true := by
  show (List.all [(14, tb_4_0), (19, tb_4_1)] _) = true
  simp only [List.all_cons, List.all_nil, Bool.and_true, Bool.and_eq_true]
  exact ⟨okc_4_0, okc_4_1⟩
theorem okm_4 : okM 4 = true := by decide +kernel
def mq_5 : Mi := (yX11_numberOf, cX11_numberOf, 2, (some .int), [2137, 1001, 2136, 9003])
set_option maxRecDepth 100000 in
theorem okc_5_0 : (tb_5_0.all (fun x => okE mq_5 x.1 x.2)) = true := by decide +kernel
theorem okt_5 : okT mq_5 tb_5 = true := by
  show (List.all [(9, tb_5_0)] _) = true
  simp only [List.all_cons, List.all_nil, Bool.and_true, Bool.and_eq_true]
  exact okc_5_0
theorem okm_5 : okM 5 = true := by decide +kernel
def mq_6 : Mi := (yX11_product, cX11_product, 5, (some .int), [2126, 1001, 2124, 2125])
set_option maxRecDepth 100000 in
theorem okc_6_0 : (tb_6_0.all (fun x => okE mq_6 x.1 x.2)) = true := by decide +kernel
set_option maxRecDepth 100000 in
theorem okc_6_1 : (tb_6_1.all (fun x => okE mq_6 x.1 x.2)) = true := by decide +kernel
set_option maxRecDepth 100000 in
theorem okc_6_2 : (tb_6_2.all (fun x => okE mq_6 x.1 x.2)) = true := by decide +kernel
set_option maxRecDepth 100000 in
theorem okc_6_3 : (tb_6_3.all (fun x => okE mq_6 x.1 x.2)) = true := by decide +kernel
theorem okt_6 : okT mq_6 tb_6 = true := by
  show (List.all [(14, tb_6_0), (30, tb_6_1), (43, tb_6_2), (47, tb_6_3)] _) = true
  simp only [List.all_cons, List.all_nil, Bool.and_true, Bool.and_eq_true]
  exact ⟨okc_6_0, okc_6_1, okc_6_2, okc_6_3⟩
theorem okm_6 : okM 6 = true := by decide +kernel
def mq_7 : Mi := (yX11_inverse, cX11_inverse, 3, (some .int), [2144, 1001, 2142, 2143])
set_option maxRecDepth 100000 in
theorem okc_7_0 : (tb_7_0.all (fun x => okE mq_7 x.1 x.2)) = true := by decide +kernel
set_option maxRecDepth 100000 in
theorem okc_7_1 : (tb_7_1.all (fun x => okE mq_7 x.1 x.2)) = true := by decide +kernel
set_option maxRecDepth 100000 in
theorem okc_7_2 : (tb_7_2.all (fun x => okE mq_7 x.1 x.2)) = true := by decide +kernel
theorem okt_7 : okT mq_7 tb_7 = true := by
  show (List.all [(14, tb_7_0), (30, tb_7_1), (31, tb_7_2)] _) = true
  simp only [List.all_cons, List.all_nil, Bool.and_true, Bool.and_eq_true]
  exact ⟨okc_7_0, okc_7_1, okc_7_2⟩
theorem okm_7 : okM 7 = true := by decide +kernel
def mq_8 : Mi := (yX11_told, cX11_told, 4, (some .int), [2151, 1001, 2149, 2150])
set_option maxRecDepth 100000 in
theorem okc_8_0 : (tb_8_0.all (fun x => okE mq_8 x.1 x.2)) = true := by decide +kernel
set_option maxRecDepth 100000 in
theorem okc_8_1 : (tb_8_1.all (fun x => okE mq_8 x.1 x.2)) = true := by decide +kernel
set_option maxRecDepth 100000 in
theorem okc_8_2 : (tb_8_2.all (fun x => okE mq_8 x.1 x.2)) = true := by decide +kernel
set_option maxRecDepth 100000 in
theorem okc_8_3 : (tb_8_3.all (fun x => okE mq_8 x.1 x.2)) = true := by decide +kernel
set_option maxRecDepth 100000 in
theorem okc_8_4 : (tb_8_4.all (fun x => okE mq_8 x.1 x.2)) = true := by decide +kernel
theorem okt_8 : okT mq_8 tb_8 = true := by
  show (List.all [(14, tb_8_0), (52, tb_8_1), (66, tb_8_2), (80, tb_8_3), (81, tb_8_4)] _) = true
  simp only [List.all_cons, List.all_nil, Bool.and_true, Bool.and_eq_true]
  exact ⟨okc_8_0, okc_8_1, okc_8_2, okc_8_3, okc_8_4⟩
theorem okm_8 : okM 8 = true := by decide +kernel
def mq_9 : Mi := (yX11_ranked, cX11_ranked, 2, (some .int), [2164, 1001, 2162, 2163])
set_option maxRecDepth 100000 in
theorem okc_9_0 : (tb_9_0.all (fun x => okE mq_9 x.1 x.2)) = true := by decide +kernel
set_option maxRecDepth 100000 in
theorem okc_9_1 : (tb_9_1.all (fun x => okE mq_9 x.1 x.2)) = true := by decide +kernel
theorem okt_9 : okT mq_9 tb_9 = true := by
  show (List.all [(16, tb_9_0), (30, tb_9_1)] _) = true
  simp only [List.all_cons, List.all_nil, Bool.and_true, Bool.and_eq_true]
  exact ⟨okc_9_0, okc_9_1⟩
theorem okm_9 : okM 9 = true := by decide +kernel
def mq_10 : Mi := (yX11_feed, cX11_feed, 5, (some .int), [2179, 1001, 2177, 2178])
set_option maxRecDepth 100000 in
theorem okc_10_0 : (tb_10_0.all (fun x => okE mq_10 x.1 x.2)) = true := by decide +kernel
set_option maxRecDepth 100000 in
theorem okc_10_1 : (tb_10_1.all (fun x => okE mq_10 x.1 x.2)) = true := by decide +kernel
set_option maxRecDepth 100000 in
theorem okc_10_2 : (tb_10_2.all (fun x => okE mq_10 x.1 x.2)) = true := by decide +kernel
set_option maxRecDepth 100000 in
theorem okc_10_3 : (tb_10_3.all (fun x => okE mq_10 x.1 x.2)) = true := by decide +kernel
set_option maxRecDepth 100000 in
theorem okc_10_4 : (tb_10_4.all (fun x => okE mq_10 x.1 x.2)) = true := by decide +kernel
set_option maxRecDepth 100000 in
theorem okc_10_5 : (tb_10_5.all (fun x => okE mq_10 x.1 x.2)) = true := by decide +kernel
theorem okt_10 : okT mq_10 tb_10 = true := by
  show (List.all [(13, tb_10_0), (28, tb_10_1), (42, tb_10_2), (55, tb_10_3), (68, tb_10_4), (73, tb_10_5)] _) = true
  simp only [List.all_cons, List.all_nil, Bool.and_true, Bool.and_eq_true]
  exact ⟨okc_10_0, okc_10_1, okc_10_2, okc_10_3, okc_10_4, okc_10_5⟩
theorem okm_10 : okM 10 = true := by decide +kernel
def mq_11 : Mi := (yX11_method, cX11_method, 3, (some .int), [2183, 1001, 2181, 2182])
set_option maxRecDepth 100000 in
theorem okc_11_0 : (tb_11_0.all (fun x => okE mq_11 x.1 x.2)) = true := by decide +kernel
set_option maxRecDepth 100000 in
theorem okc_11_1 : (tb_11_1.all (fun x => okE mq_11 x.1 x.2)) = true := by decide +kernel
set_option maxRecDepth 100000 in
theorem okc_11_2 : (tb_11_2.all (fun x => okE mq_11 x.1 x.2)) = true := by decide +kernel
set_option maxRecDepth 100000 in
theorem okc_11_3 : (tb_11_3.all (fun x => okE mq_11 x.1 x.2)) = true := by decide +kernel
set_option maxRecDepth 100000 in
theorem okc_11_4 : (tb_11_4.all (fun x => okE mq_11 x.1 x.2)) = true := by decide +kernel
set_option maxRecDepth 100000 in
theorem okc_11_5 : (tb_11_5.all (fun x => okE mq_11 x.1 x.2)) = true := by decide +kernel
theorem okt_11 : okT mq_11 tb_11 = true := by
  show (List.all [(14, tb_11_0), (30, tb_11_1), (44, tb_11_2), (59, tb_11_3), (73, tb_11_4), (83, tb_11_5)] _) = true
  simp only [List.all_cons, List.all_nil, Bool.and_true, Bool.and_eq_true]
  exact ⟨okc_11_0, okc_11_1, okc_11_2, okc_11_3, okc_11_4, okc_11_5⟩
theorem okm_11 : okM 11 = true := by decide +kernel
def mq_12 : Mi := (yX11_isMethod, cX11_isMethod, 2, (some .boolean), [3191, 1001, 3190, 9019])
set_option maxRecDepth 100000 in
theorem okc_12_0 : (tb_12_0.all (fun x => okE mq_12 x.1 x.2)) = true := by decide +kernel
set_option maxRecDepth 100000 in
theorem okc_12_1 : (tb_12_1.all (fun x => okE mq_12 x.1 x.2)) = true := by decide +kernel
theorem okt_12 : okT mq_12 tb_12 = true := by
  show (List.all [(16, tb_12_0), (18, tb_12_1)] _) = true
  simp only [List.all_cons, List.all_nil, Bool.and_true, Bool.and_eq_true]
  exact ⟨okc_12_0, okc_12_1⟩
theorem okm_12 : okM 12 = true := by decide +kernel
def mq_13 : Mi := (yX11_about, cX11_about, 3, (some .int), [3187, 1001, 3185, 3186])
set_option maxRecDepth 100000 in
theorem okc_13_0 : (tb_13_0.all (fun x => okE mq_13 x.1 x.2)) = true := by decide +kernel
set_option maxRecDepth 100000 in
theorem okc_13_1 : (tb_13_1.all (fun x => okE mq_13 x.1 x.2)) = true := by decide +kernel
set_option maxRecDepth 100000 in
theorem okc_13_2 : (tb_13_2.all (fun x => okE mq_13 x.1 x.2)) = true := by decide +kernel
theorem okt_13 : okT mq_13 tb_13 = true := by
  show (List.all [(36, tb_13_0), (50, tb_13_1), (58, tb_13_2)] _) = true
  simp only [List.all_cons, List.all_nil, Bool.and_true, Bool.and_eq_true]
  exact ⟨okc_13_0, okc_13_1, okc_13_2⟩
theorem okm_13 : okM 13 = true := by decide +kernel
def mq_14 : Mi := (yX11_change, cX11_change, 5, (some .int), [3195, 1001, 3193, 3194])
set_option maxRecDepth 100000 in
theorem okc_14_0 : (tb_14_0.all (fun x => okE mq_14 x.1 x.2)) = true := by decide +kernel
set_option maxRecDepth 100000 in
theorem okc_14_1 : (tb_14_1.all (fun x => okE mq_14 x.1 x.2)) = true := by decide +kernel
set_option maxRecDepth 100000 in
theorem okc_14_2 : (tb_14_2.all (fun x => okE mq_14 x.1 x.2)) = true := by decide +kernel
set_option maxRecDepth 100000 in
theorem okc_14_3 : (tb_14_3.all (fun x => okE mq_14 x.1 x.2)) = true := by decide +kernel
set_option maxRecDepth 100000 in
theorem okc_14_4 : (tb_14_4.all (fun x => okE mq_14 x.1 x.2)) = true := by decide +kernel
theorem okt_14 : okT mq_14 tb_14 = true := by
  show (List.all [(15, tb_14_0), (30, tb_14_1), (44, tb_14_2), (57, tb_14_3), (73, tb_14_4)] _) = true
  simp only [List.all_cons, List.all_nil, Bool.and_true, Bool.and_eq_true]
  exact ⟨okc_14_0, okc_14_1, okc_14_2, okc_14_3, okc_14_4⟩
theorem okm_14 : okM 14 = true := by decide +kernel
def mq_15 : Mi := (yX11_ring, cX11_ring, 2, (some .int), [3199, 1001, 3197, 3198])
set_option maxRecDepth 100000 in
theorem okc_15_0 : (tb_15_0.all (fun x => okE mq_15 x.1 x.2)) = true := by decide +kernel
set_option maxRecDepth 100000 in
theorem okc_15_1 : (tb_15_1.all (fun x => okE mq_15 x.1 x.2)) = true := by decide +kernel
set_option maxRecDepth 100000 in
theorem okc_15_2 : (tb_15_2.all (fun x => okE mq_15 x.1 x.2)) = true := by decide +kernel
theorem okt_15 : okT mq_15 tb_15 = true := by
  show (List.all [(14, tb_15_0), (28, tb_15_1), (29, tb_15_2)] _) = true
  simp only [List.all_cons, List.all_nil, Bool.and_true, Bool.and_eq_true]
  exact ⟨okc_15_0, okc_15_1, okc_15_2⟩
theorem okm_15 : okM 15 = true := by decide +kernel
def mq_16 : Mi := (yX11_call, cX11_call, 3, (some .int), [3212, 1001, 3210, 3211])
set_option maxRecDepth 100000 in
theorem okc_16_0 : (tb_16_0.all (fun x => okE mq_16 x.1 x.2)) = true := by decide +kernel
set_option maxRecDepth 100000 in
theorem okc_16_1 : (tb_16_1.all (fun x => okE mq_16 x.1 x.2)) = true := by decide +kernel
set_option maxRecDepth 100000 in
theorem okc_16_2 : (tb_16_2.all (fun x => okE mq_16 x.1 x.2)) = true := by decide +kernel
set_option maxRecDepth 100000 in
theorem okc_16_3 : (tb_16_3.all (fun x => okE mq_16 x.1 x.2)) = true := by decide +kernel
theorem okt_16 : okT mq_16 tb_16 = true := by
  show (List.all [(16, tb_16_0), (32, tb_16_1), (45, tb_16_2), (48, tb_16_3)] _) = true
  simp only [List.all_cons, List.all_nil, Bool.and_true, Bool.and_eq_true]
  exact ⟨okc_16_0, okc_16_1, okc_16_2, okc_16_3⟩
theorem okm_16 : okM 16 = true := by decide +kernel
def mq_17 : Mi := (yX11_go, cX11_go, 2, (some .int), [3220, 1001, 3218, 3219])
set_option maxRecDepth 100000 in
theorem okc_17_0 : (tb_17_0.all (fun x => okE mq_17 x.1 x.2)) = true := by decide +kernel
set_option maxRecDepth 100000 in
theorem okc_17_1 : (tb_17_1.all (fun x => okE mq_17 x.1 x.2)) = true := by decide +kernel
set_option maxRecDepth 100000 in
theorem okc_17_2 : (tb_17_2.all (fun x => okE mq_17 x.1 x.2)) = true := by decide +kernel
theorem okt_17 : okT mq_17 tb_17 = true := by
  show (List.all [(14, tb_17_0), (31, tb_17_1), (40, tb_17_2)] _) = true
  simp only [List.all_cons, List.all_nil, Bool.and_true, Bool.and_eq_true]
  exact ⟨okc_17_0, okc_17_1, okc_17_2⟩
theorem okm_17 : okM 17 = true := by decide +kernel
def mq_18 : Mi := (yX11_rowAt, cX11_rowAt, 2, (some .int), [4016, 1001, 4014, 4015])
set_option maxRecDepth 100000 in
theorem okc_18_0 : (tb_18_0.all (fun x => okE mq_18 x.1 x.2)) = true := by decide +kernel
set_option maxRecDepth 100000 in
theorem okc_18_1 : (tb_18_1.all (fun x => okE mq_18 x.1 x.2)) = true := by decide +kernel
theorem okt_18 : okT mq_18 tb_18 = true := by
  show (List.all [(14, tb_18_0), (30, tb_18_1)] _) = true
  simp only [List.all_cons, List.all_nil, Bool.and_true, Bool.and_eq_true]
  exact ⟨okc_18_0, okc_18_1⟩
theorem okm_18 : okM 18 = true := by decide +kernel
def mq_19 : Mi := (yX11_run, cX11_run, 2, (some .int), [4025, 1001, 4023, 4024])
set_option maxRecDepth 100000 in
theorem okc_19_0 : (tb_19_0.all (fun x => okE mq_19 x.1 x.2)) = true := by decide +kernel
set_option maxRecDepth 100000 in
theorem okc_19_1 : (tb_19_1.all (fun x => okE mq_19 x.1 x.2)) = true := by decide +kernel
set_option maxRecDepth 100000 in
theorem okc_19_2 : (tb_19_2.all (fun x => okE mq_19 x.1 x.2)) = true := by decide +kernel
set_option maxRecDepth 100000 in
theorem okc_19_3 : (tb_19_3.all (fun x => okE mq_19 x.1 x.2)) = true := by decide +kernel
set_option maxRecDepth 100000 in
theorem okc_19_4 : (tb_19_4.all (fun x => okE mq_19 x.1 x.2)) = true := by decide +kernel
theorem okt_19 : okT mq_19 tb_19 = true := by
  show (List.all [(12, tb_19_0), (53, tb_19_1), (71, tb_19_2), (85, tb_19_3), (92, tb_19_4)] _) = true
  simp only [List.all_cons, List.all_nil, Bool.and_true, Bool.and_eq_true]
  exact ⟨okc_19_0, okc_19_1, okc_19_2, okc_19_3, okc_19_4⟩
theorem okm_19 : okM 19 = true := by decide +kernel
def mq_20 : Mi := (yX11_truth, cX11_truth, 4, (some .int), [4029, 1001, 4027, 4028])
set_option maxRecDepth 100000 in
theorem okc_20_0 : (tb_20_0.all (fun x => okE mq_20 x.1 x.2)) = true := by decide +kernel
set_option maxRecDepth 100000 in
theorem okc_20_1 : (tb_20_1.all (fun x => okE mq_20 x.1 x.2)) = true := by decide +kernel
set_option maxRecDepth 100000 in
theorem okc_20_2 : (tb_20_2.all (fun x => okE mq_20 x.1 x.2)) = true := by decide +kernel
set_option maxRecDepth 100000 in
theorem okc_20_3 : (tb_20_3.all (fun x => okE mq_20 x.1 x.2)) = true := by decide +kernel
set_option maxRecDepth 100000 in
theorem okc_20_4 : (tb_20_4.all (fun x => okE mq_20 x.1 x.2)) = true := by decide +kernel
theorem okt_20 : okT mq_20 tb_20 = true := by
  show (List.all [(15, tb_20_0), (29, tb_20_1), (44, tb_20_2), (59, tb_20_3), (69, tb_20_4)] _) = true
  simp only [List.all_cons, List.all_nil, Bool.and_true, Bool.and_eq_true]
  exact ⟨okc_20_0, okc_20_1, okc_20_2, okc_20_3, okc_20_4⟩
theorem okm_20 : okM 20 = true := by decide +kernel
def mq_21 : Mi := (yX11_generator, cX11_generator, 3, (some .int), [4033, 1001, 4031, 4032])
set_option maxRecDepth 100000 in
theorem okc_21_0 : (tb_21_0.all (fun x => okE mq_21 x.1 x.2)) = true := by decide +kernel
set_option maxRecDepth 100000 in
theorem okc_21_1 : (tb_21_1.all (fun x => okE mq_21 x.1 x.2)) = true := by decide +kernel
set_option maxRecDepth 100000 in
theorem okc_21_2 : (tb_21_2.all (fun x => okE mq_21 x.1 x.2)) = true := by decide +kernel
set_option maxRecDepth 100000 in
theorem okc_21_3 : (tb_21_3.all (fun x => okE mq_21 x.1 x.2)) = true := by decide +kernel
set_option maxRecDepth 100000 in
theorem okc_21_4 : (tb_21_4.all (fun x => okE mq_21 x.1 x.2)) = true := by decide +kernel
theorem okt_21 : okT mq_21 tb_21 = true := by
  show (List.all [(14, tb_21_0), (28, tb_21_1), (44, tb_21_2), (62, tb_21_3), (63, tb_21_4)] _) = true
  simp only [List.all_cons, List.all_nil, Bool.and_true, Bool.and_eq_true]
  exact ⟨okc_21_0, okc_21_1, okc_21_2, okc_21_3, okc_21_4⟩
theorem okm_21 : okM 21 = true := by decide +kernel
