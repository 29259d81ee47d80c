/-! the words of the methods, chunk by chunk -/
def mq_22 : Mi := (yX11_free, cX11_free, 2, (some .int), [4045, 1001, 4043, 4044])
set_option maxRecDepth 100000 in
theorem okc_22_0 : (tb_22_0.all (fun x => okE mq_22 x.1 x.2)) = true := by decide +kernel
set_option maxRecDepth 100000 in
theorem okc_22_1 : (tb_22_1.all (fun x => okE mq_22 x.1 x.2)) = true := by decide +kernel
theorem okt_22 : okT mq_22 tb_22 = true := by
  show (List.all [(16, tb_22_0), (21, tb_22_1)] _) = true
  simp only [List.all_cons, List.all_nil, Bool.and_true, Bool.and_eq_true]
  exact ⟨okc_22_0, okc_22_1⟩
theorem okm_22 : okM 22 = true := by decide +kernel
def mq_23 : Mi := (yX11_group, cX11_group, 1, (some .int), [4049, 1001, 4047, 4048])
set_option maxRecDepth 100000 in
theorem okc_23_0 : (tb_23_0.all (fun x => okE mq_23 x.1 x.2)) = true := by decide +kernel
set_option maxRecDepth 100000 in
theorem okc_23_1 : (tb_23_1.all (fun x => okE mq_23 x.1 x.2)) = true := by decide +kernel
theorem okt_23 : okT mq_23 tb_23 = true := by
  show (List.all [(18, tb_23_0), (22, tb_23_1)] _) = true
  simp only [List.all_cons, List.all_nil, Bool.and_true, Bool.and_eq_true]
  exact ⟨okc_23_0, okc_23_1⟩
theorem okm_23 : okM 23 = true := by decide +kernel
def mq_24 : Mi := (yX11_coset, cX11_coset, 3, (some .int), [4053, 1001, 4051, 4052])
set_option maxRecDepth 100000 in
theorem okc_24_0 : (tb_24_0.all (fun x => okE mq_24 x.1 x.2)) = true := by decide +kernel
set_option maxRecDepth 100000 in
theorem okc_24_1 : (tb_24_1.all (fun x => okE mq_24 x.1 x.2)) = true := by decide +kernel
set_option maxRecDepth 100000 in
theorem okc_24_2 : (tb_24_2.all (fun x => okE mq_24 x.1 x.2)) = true := by decide +kernel
set_option maxRecDepth 100000 in
theorem okc_24_3 : (tb_24_3.all (fun x => okE mq_24 x.1 x.2)) = true := by decide +kernel
set_option maxRecDepth 100000 in
theorem okc_24_4 : (tb_24_4.all (fun x => okE mq_24 x.1 x.2)) = true := by decide +kernel
theorem okt_24 : okT mq_24 tb_24 = true := by
  show (List.all [(14, tb_24_0), (28, tb_24_1), (45, tb_24_2), (61, tb_24_3), (68, tb_24_4)] _) = true
  simp only [List.all_cons, List.all_nil, Bool.and_true, Bool.and_eq_true]
  exact ⟨okc_24_0, okc_24_1, okc_24_2, okc_24_3, okc_24_4⟩
theorem okm_24 : okM 24 = true := by decide +kernel
def mq_25 : Mi := (yX11_heads, cX11_heads, 3, (some .int), [4065, 1001, 4063, 4064])
set_option maxRecDepth 100000 in
theorem okc_25_0 : (tb_25_0.all (fun x => okE mq_25 x.1 x.2)) = true := by decide +kernel
set_option maxRecDepth 100000 in
theorem okc_25_1 : (tb_25_1.all (fun x => okE mq_25 x.1 x.2)) = true := by decide +kernel
set_option maxRecDepth 100000 in
theorem okc_25_2 : (tb_25_2.all (fun x => okE mq_25 x.1 x.2)) = true := by decide +kernel
set_option maxRecDepth 100000 in
theorem okc_25_3 : (tb_25_3.all (fun x => okE mq_25 x.1 x.2)) = true := by decide +kernel
set_option maxRecDepth 100000 in
theorem okc_25_4 : (tb_25_4.all (fun x => okE mq_25 x.1 x.2)) = true := by decide +kernel
theorem okt_25 : okT mq_25 tb_25 = true := by
  show (List.all [(12, tb_25_0), (25, tb_25_1), (39, tb_25_2), (55, tb_25_3), (63, tb_25_4)] _) = true
  simp only [List.all_cons, List.all_nil, Bool.and_true, Bool.and_eq_true]
  exact ⟨okc_25_0, okc_25_1, okc_25_2, okc_25_3, okc_25_4⟩
theorem okm_25 : okM 25 = true := by decide +kernel
def mq_26 : Mi := (yX11_head, cX11_head, 2, (some .int), [4089, 1001, 4087, 4088])
set_option maxRecDepth 100000 in
theorem okc_26_0 : (tb_26_0.all (fun x => okE mq_26 x.1 x.2)) = true := by decide +kernel
set_option maxRecDepth 100000 in
theorem okc_26_1 : (tb_26_1.all (fun x => okE mq_26 x.1 x.2)) = true := by decide +kernel
set_option maxRecDepth 100000 in
theorem okc_26_2 : (tb_26_2.all (fun x => okE mq_26 x.1 x.2)) = true := by decide +kernel
theorem okt_26 : okT mq_26 tb_26 = true := by
  show (List.all [(16, tb_26_0), (30, tb_26_1), (38, tb_26_2)] _) = true
  simp only [List.all_cons, List.all_nil, Bool.and_true, Bool.and_eq_true]
  exact ⟨okc_26_0, okc_26_1, okc_26_2⟩
theorem okm_26 : okM 26 = true := by decide +kernel
def mq_27 : Mi := (yX11_ringer, cX11_ringer, 4, (some .int), [4093, 1001, 4091, 4092])
set_option maxRecDepth 100000 in
theorem okc_27_0 : (tb_27_0.all (fun x => okE mq_27 x.1 x.2)) = true := by decide +kernel
set_option maxRecDepth 100000 in
theorem okc_27_1 : (tb_27_1.all (fun x => okE mq_27 x.1 x.2)) = true := by decide +kernel
set_option maxRecDepth 100000 in
theorem okc_27_2 : (tb_27_2.all (fun x => okE mq_27 x.1 x.2)) = true := by decide +kernel
theorem okt_27 : okT mq_27 tb_27 = true := by
  show (List.all [(14, tb_27_0), (29, tb_27_1), (41, tb_27_2)] _) = true
  simp only [List.all_cons, List.all_nil, Bool.and_true, Bool.and_eq_true]
  exact ⟨okc_27_0, okc_27_1, okc_27_2⟩
theorem okm_27 : okM 27 = true := by decide +kernel
def mq_28 : Mi := (yX11_band, cX11_band, 6, (some .int), [4102, 1001, 4100, 4101])
set_option maxRecDepth 100000 in
theorem okc_28_0 : (tb_28_0.all (fun x => okE mq_28 x.1 x.2)) = true := by decide +kernel
set_option maxRecDepth 100000 in
theorem okc_28_1 : (tb_28_1.all (fun x => okE mq_28 x.1 x.2)) = true := by decide +kernel
set_option maxRecDepth 100000 in
theorem okc_28_2 : (tb_28_2.all (fun x => okE mq_28 x.1 x.2)) = true := by decide +kernel
set_option maxRecDepth 100000 in
theorem okc_28_3 : (tb_28_3.all (fun x => okE mq_28 x.1 x.2)) = true := by decide +kernel
set_option maxRecDepth 100000 in
theorem okc_28_4 : (tb_28_4.all (fun x => okE mq_28 x.1 x.2)) = true := by decide +kernel
set_option maxRecDepth 100000 in
theorem okc_28_5 : (tb_28_5.all (fun x => okE mq_28 x.1 x.2)) = true := by decide +kernel
theorem okt_28 : okT mq_28 tb_28 = true := by
  show (List.all [(16, tb_28_0), (30, tb_28_1), (43, tb_28_2), (59, tb_28_3), (76, tb_28_4), (92, tb_28_5)] _) = true
  simp only [List.all_cons, List.all_nil, Bool.and_true, Bool.and_eq_true]
  exact ⟨okc_28_0, okc_28_1, okc_28_2, okc_28_3, okc_28_4, okc_28_5⟩
theorem okm_28 : okM 28 = true := by decide +kernel
def mq_29 : Mi := (yX11_blow, cX11_blow, 3, (some .int), [4134, 1001, 4132, 4133])
set_option maxRecDepth 100000 in
theorem okc_29_0 : (tb_29_0.all (fun x => okE mq_29 x.1 x.2)) = true := by decide +kernel
set_option maxRecDepth 100000 in
theorem okc_29_1 : (tb_29_1.all (fun x => okE mq_29 x.1 x.2)) = true := by decide +kernel
theorem okt_29 : okT mq_29 tb_29 = true := by
  show (List.all [(16, tb_29_0), (27, tb_29_1)] _) = true
  simp only [List.all_cons, List.all_nil, Bool.and_true, Bool.and_eq_true]
  exact ⟨okc_29_0, okc_29_1⟩
theorem okm_29 : okM 29 = true := by decide +kernel
def mq_30 : Mi := (yX11_ringing, cX11_ringing, 2, (some .int), [4145, 1001, 4143, 4144])
set_option maxRecDepth 100000 in
theorem okc_30_0 : (tb_30_0.all (fun x => okE mq_30 x.1 x.2)) = true := by decide +kernel
set_option maxRecDepth 100000 in
theorem okc_30_1 : (tb_30_1.all (fun x => okE mq_30 x.1 x.2)) = true := by decide +kernel
set_option maxRecDepth 100000 in
theorem okc_30_2 : (tb_30_2.all (fun x => okE mq_30 x.1 x.2)) = true := by decide +kernel
theorem okt_30 : okT mq_30 tb_30 = true := by
  show (List.all [(44, tb_30_0), (60, tb_30_1), (66, tb_30_2)] _) = true
  simp only [List.all_cons, List.all_nil, Bool.and_true, Bool.and_eq_true]
  exact ⟨okc_30_0, okc_30_1, okc_30_2⟩
theorem okm_30 : okM 30 = true := by decide +kernel
def mq_31 : Mi := (yX11_slips, cX11_slips, 2, (some .int), [4149, 1001, 4147, 4148])
set_option maxRecDepth 100000 in
theorem okc_31_0 : (tb_31_0.all (fun x => okE mq_31 x.1 x.2)) = true := by decide +kernel
set_option maxRecDepth 100000 in
theorem okc_31_1 : (tb_31_1.all (fun x => okE mq_31 x.1 x.2)) = true := by decide +kernel
theorem okt_31 : okT mq_31 tb_31 = true := by
  show (List.all [(16, tb_31_0), (22, tb_31_1)] _) = true
  simp only [List.all_cons, List.all_nil, Bool.and_true, Bool.and_eq_true]
  exact ⟨okc_31_0, okc_31_1⟩
theorem okm_31 : okM 31 = true := by decide +kernel
def mq_32 : Mi := (yX11_note, cX11_note, 4, (some .int), [4153, 1001, 4151, 4152])
set_option maxRecDepth 100000 in
theorem okc_32_0 : (tb_32_0.all (fun x => okE mq_32 x.1 x.2)) = true := by decide +kernel
set_option maxRecDepth 100000 in
theorem okc_32_1 : (tb_32_1.all (fun x => okE mq_32 x.1 x.2)) = true := by decide +kernel
set_option maxRecDepth 100000 in
theorem okc_32_2 : (tb_32_2.all (fun x => okE mq_32 x.1 x.2)) = true := by decide +kernel
theorem okt_32 : okT mq_32 tb_32 = true := by
  show (List.all [(14, tb_32_0), (31, tb_32_1), (36, tb_32_2)] _) = true
  simp only [List.all_cons, List.all_nil, Bool.and_true, Bool.and_eq_true]
  exact ⟨okc_32_0, okc_32_1, okc_32_2⟩
theorem okm_32 : okM 32 = true := by decide +kernel
def mq_33 : Mi := (yX11_wipe, cX11_wipe, 2, (some .int), [4179, 1001, 4177, 4178])
set_option maxRecDepth 100000 in
theorem okc_33_0 : (tb_33_0.all (fun x => okE mq_33 x.1 x.2)) = true := by decide +kernel
set_option maxRecDepth 100000 in
theorem okc_33_1 : (tb_33_1.all (fun x => okE mq_33 x.1 x.2)) = true := by decide +kernel
theorem okt_33 : okT mq_33 tb_33 = true := by
  show (List.all [(16, tb_33_0), (17, tb_33_1)] _) = true
  simp only [List.all_cons, List.all_nil, Bool.and_true, Bool.and_eq_true]
  exact ⟨okc_33_0, okc_33_1⟩
theorem okm_33 : okM 33 = true := by decide +kernel
def mq_34 : Mi := (yX11_listen, cX11_listen, 7, (some .int), [4183, 1001, 4181, 4182])
set_option maxRecDepth 100000 in
theorem okc_34_0 : (tb_34_0.all (fun x => okE mq_34 x.1 x.2)) = true := by decide +kernel
set_option maxRecDepth 100000 in
theorem okc_34_1 : (tb_34_1.all (fun x => okE mq_34 x.1 x.2)) = true := by decide +kernel
set_option maxRecDepth 100000 in
theorem okc_34_2 : (tb_34_2.all (fun x => okE mq_34 x.1 x.2)) = true := by decide +kernel
set_option maxRecDepth 100000 in
theorem okc_34_3 : (tb_34_3.all (fun x => okE mq_34 x.1 x.2)) = true := by decide +kernel
set_option maxRecDepth 100000 in
theorem okc_34_4 : (tb_34_4.all (fun x => okE mq_34 x.1 x.2)) = true := by decide +kernel
set_option maxRecDepth 100000 in
theorem okc_34_5 : (tb_34_5.all (fun x => okE mq_34 x.1 x.2)) = true := by decide +kernel
set_option maxRecDepth 100000 in
theorem okc_34_6 : (tb_34_6.all (fun x => okE mq_34 x.1 x.2)) = true := by decide +kernel
set_option maxRecDepth 100000 in
theorem okc_34_7 : (tb_34_7.all (fun x => okE mq_34 x.1 x.2)) = true := by decide +kernel
theorem okt_34 : okT mq_34 tb_34 = true := by
  show (List.all [(21, tb_34_0), (35, tb_34_1), (56, tb_34_2), (72, tb_34_3), (89, tb_34_4), (107, tb_34_5), (127, tb_34_6), (135, tb_34_7)] _) = true
  simp only [List.all_cons, List.all_nil, Bool.and_true, Bool.and_eq_true]
  exact ⟨okc_34_0, okc_34_1, okc_34_2, okc_34_3, okc_34_4, okc_34_5, okc_34_6, okc_34_7⟩
theorem okm_34 : okM 34 = true := by decide +kernel
def mq_35 : Mi := (yX11_inOrder, cX11_inOrder, 4, (some .int), [4235, 1001, 4233, 4234])
set_option maxRecDepth 100000 in
theorem okc_35_0 : (tb_35_0.all (fun x => okE mq_35 x.1 x.2)) = true := by decide +kernel
set_option maxRecDepth 100000 in
theorem okc_35_1 : (tb_35_1.all (fun x => okE mq_35 x.1 x.2)) = true := by decide +kernel
set_option maxRecDepth 100000 in
theorem okc_35_2 : (tb_35_2.all (fun x => okE mq_35 x.1 x.2)) = true := by decide +kernel
set_option maxRecDepth 100000 in
theorem okc_35_3 : (tb_35_3.all (fun x => okE mq_35 x.1 x.2)) = true := by decide +kernel
theorem okt_35 : okT mq_35 tb_35 = true := by
  show (List.all [(16, tb_35_0), (28, tb_35_1), (67, tb_35_2), (70, tb_35_3)] _) = true
  simp only [List.all_cons, List.all_nil, Bool.and_true, Bool.and_eq_true]
  exact ⟨okc_35_0, okc_35_1, okc_35_2, okc_35_3⟩
theorem okm_35 : okM 35 = true := by decide +kernel
def mq_36 : Mi := (yX11_heard, cX11_heard, 2, (some .int), [4239, 1001, 4237, 4238])
set_option maxRecDepth 100000 in
theorem okc_36_0 : (tb_36_0.all (fun x => okE mq_36 x.1 x.2)) = true := by decide +kernel
set_option maxRecDepth 100000 in
theorem okc_36_1 : (tb_36_1.all (fun x => okE mq_36 x.1 x.2)) = true := by decide +kernel
set_option maxRecDepth 100000 in
theorem okc_36_2 : (tb_36_2.all (fun x => okE mq_36 x.1 x.2)) = true := by decide +kernel
theorem okt_36 : okT mq_36 tb_36 = true := by
  show (List.all [(16, tb_36_0), (30, tb_36_1), (35, tb_36_2)] _) = true
  simp only [List.all_cons, List.all_nil, Bool.and_true, Bool.and_eq_true]
  exact ⟨okc_36_0, okc_36_1, okc_36_2⟩
theorem okm_36 : okM 36 = true := by decide +kernel
def mq_37 : Mi := (yX11_line, cX11_line, 2, (some .long), [5007, 1001, 5005, 5006])
set_option maxRecDepth 100000 in
theorem okc_37_0 : (tb_37_0.all (fun x => okE mq_37 x.1 x.2)) = true := by decide +kernel
set_option maxRecDepth 100000 in
theorem okc_37_1 : (tb_37_1.all (fun x => okE mq_37 x.1 x.2)) = true := by decide +kernel
set_option maxRecDepth 100000 in
theorem okc_37_2 : (tb_37_2.all (fun x => okE mq_37 x.1 x.2)) = true := by decide +kernel
set_option maxRecDepth 100000 in
theorem okc_37_3 : (tb_37_3.all (fun x => okE mq_37 x.1 x.2)) = true := by decide +kernel
theorem okt_37 : okT mq_37 tb_37 = true := by
  show (List.all [(12, tb_37_0), (52, tb_37_1), (68, tb_37_2), (76, tb_37_3)] _) = true
  simp only [List.all_cons, List.all_nil, Bool.and_true, Bool.and_eq_true]
  exact ⟨okc_37_0, okc_37_1, okc_37_2, okc_37_3⟩
theorem okm_37 : okM 37 = true := by decide +kernel
def mq_38 : Mi := (yX11_along, cX11_along, 3, (some .long), [5057, 1001, 5055, 5056])
set_option maxRecDepth 100000 in
theorem okc_38_0 : (tb_38_0.all (fun x => okE mq_38 x.1 x.2)) = true := by decide +kernel
set_option maxRecDepth 100000 in
theorem okc_38_1 : (tb_38_1.all (fun x => okE mq_38 x.1 x.2)) = true := by decide +kernel
set_option maxRecDepth 100000 in
theorem okc_38_2 : (tb_38_2.all (fun x => okE mq_38 x.1 x.2)) = true := by decide +kernel
set_option maxRecDepth 100000 in
theorem okc_38_3 : (tb_38_3.all (fun x => okE mq_38 x.1 x.2)) = true := by decide +kernel
set_option maxRecDepth 100000 in
theorem okc_38_4 : (tb_38_4.all (fun x => okE mq_38 x.1 x.2)) = true := by decide +kernel
theorem okt_38 : okT mq_38 tb_38 = true := by
  show (List.all [(16, tb_38_0), (30, tb_38_1), (69, tb_38_2), (83, tb_38_3), (88, tb_38_4)] _) = true
  simp only [List.all_cons, List.all_nil, Bool.and_true, Bool.and_eq_true]
  exact ⟨okc_38_0, okc_38_1, okc_38_2, okc_38_3, okc_38_4⟩
theorem okm_38 : okM 38 = true := by decide +kernel
def mq_39 : Mi := (yX11_isBoard, cX11_isBoard, 1, (some .boolean), [5074, 1001, 5073, 0])
set_option maxRecDepth 100000 in
theorem okc_39_0 : (tb_39_0.all (fun x => okE mq_39 x.1 x.2)) = true := by decide +kernel
set_option maxRecDepth 100000 in
theorem okc_39_1 : (tb_39_1.all (fun x => okE mq_39 x.1 x.2)) = true := by decide +kernel
theorem okt_39 : okT mq_39 tb_39 = true := by
  show (List.all [(15, tb_39_0), (16, tb_39_1)] _) = true
  simp only [List.all_cons, List.all_nil, Bool.and_true, Bool.and_eq_true]
  exact ⟨okc_39_0, okc_39_1⟩
theorem okm_39 : okM 39 = true := by decide +kernel
def mq_40 : Mi := (yX11_isSort, cX11_isSort, 1, (some .boolean), [5077, 1001, 5076, 0])
set_option maxRecDepth 100000 in
theorem okc_40_0 : (tb_40_0.all (fun x => okE mq_40 x.1 x.2)) = true := by decide +kernel
set_option maxRecDepth 100000 in
theorem okc_40_1 : (tb_40_1.all (fun x => okE mq_40 x.1 x.2)) = true := by decide +kernel
theorem okt_40 : okT mq_40 tb_40 = true := by
  show (List.all [(14, tb_40_0), (15, tb_40_1)] _) = true
  simp only [List.all_cons, List.all_nil, Bool.and_true, Bool.and_eq_true]
  exact ⟨okc_40_0, okc_40_1⟩
theorem okm_40 : okM 40 = true := by decide +kernel
def mq_41 : Mi := (yX11_board, cX11_board, 4, (some .int), [5071, 1001, 5069, 5070])
set_option maxRecDepth 100000 in
theorem okc_41_0 : (tb_41_0.all (fun x => okE mq_41 x.1 x.2)) = true := by decide +kernel
set_option maxRecDepth 100000 in
theorem okc_41_1 : (tb_41_1.all (fun x => okE mq_41 x.1 x.2)) = true := by decide +kernel
set_option maxRecDepth 100000 in
theorem okc_41_2 : (tb_41_2.all (fun x => okE mq_41 x.1 x.2)) = true := by decide +kernel
theorem okt_41 : okT mq_41 tb_41 = true := by
  show (List.all [(17, tb_41_0), (30, tb_41_1), (41, tb_41_2)] _) = true
  simp only [List.all_cons, List.all_nil, Bool.and_true, Bool.and_eq_true]
  exact ⟨okc_41_0, okc_41_1, okc_41_2⟩
theorem okm_41 : okM 41 = true := by decide +kernel
def mq_42 : Mi := (yX11_clear, cX11_clear, 2, (some .int), [5086, 1001, 5084, 5085])
set_option maxRecDepth 100000 in
theorem okc_42_0 : (tb_42_0.all (fun x => okE mq_42 x.1 x.2)) = true := by decide +kernel
set_option maxRecDepth 100000 in
theorem okc_42_1 : (tb_42_1.all (fun x => okE mq_42 x.1 x.2)) = true := by decide +kernel
theorem okt_42 : okT mq_42 tb_42 = true := by
  show (List.all [(16, tb_42_0), (21, tb_42_1)] _) = true
  simp only [List.all_cons, List.all_nil, Bool.and_true, Bool.and_eq_true]
  exact ⟨okc_42_0, okc_42_1⟩
theorem okm_42 : okM 42 = true := by decide +kernel
def mq_43 : Mi := (yX11_items, cX11_items, 2, (some .int), [5090, 1001, 5088, 5089])
set_option maxRecDepth 100000 in
theorem okc_43_0 : (tb_43_0.all (fun x => okE mq_43 x.1 x.2)) = true := by decide +kernel
set_option maxRecDepth 100000 in
theorem okc_43_1 : (tb_43_1.all (fun x => okE mq_43 x.1 x.2)) = true := by decide +kernel
set_option maxRecDepth 100000 in
theorem okc_43_2 : (tb_43_2.all (fun x => okE mq_43 x.1 x.2)) = true := by decide +kernel
theorem okt_43 : okT mq_43 tb_43 = true := by
  show (List.all [(14, tb_43_0), (33, tb_43_1), (35, tb_43_2)] _) = true
  simp only [List.all_cons, List.all_nil, Bool.and_true, Bool.and_eq_true]
  exact ⟨okc_43_0, okc_43_1, okc_43_2⟩
theorem okm_43 : okM 43 = true := by decide +kernel
def mq_44 : Mi := (yX11_fill, cX11_fill, 7, (some .int), [5098, 1001, 5096, 5097])
set_option maxRecDepth 100000 in
theorem okc_44_0 : (tb_44_0.all (fun x => okE mq_44 x.1 x.2)) = true := by decide +kernel
set_option maxRecDepth 100000 in
theorem okc_44_1 : (tb_44_1.all (fun x => okE mq_44 x.1 x.2)) = true := by decide +kernel
set_option maxRecDepth 100000 in
theorem okc_44_2 : (tb_44_2.all (fun x => okE mq_44 x.1 x.2)) = true := by decide +kernel
set_option maxRecDepth 100000 in
theorem okc_44_3 : (tb_44_3.all (fun x => okE mq_44 x.1 x.2)) = true := by decide +kernel
set_option maxRecDepth 100000 in
theorem okc_44_4 : (tb_44_4.all (fun x => okE mq_44 x.1 x.2)) = true := by decide +kernel
set_option maxRecDepth 100000 in
theorem okc_44_5 : (tb_44_5.all (fun x => okE mq_44 x.1 x.2)) = true := by decide +kernel
set_option maxRecDepth 100000 in
theorem okc_44_6 : (tb_44_6.all (fun x => okE mq_44 x.1 x.2)) = true := by decide +kernel
set_option maxRecDepth 100000 in
theorem okc_44_7 : (tb_44_7.all (fun x => okE mq_44 x.1 x.2)) = true := by decide +kernel
theorem okt_44 : okT mq_44 tb_44 = true := by
  show (List.all [(18, tb_44_0), (35, tb_44_1), (51, tb_44_2), (69, tb_44_3), (85, tb_44_4), (100, tb_44_5), (119, tb_44_6), (134, tb_44_7)] _) = true
  simp only [List.all_cons, List.all_nil, Bool.and_true, Bool.and_eq_true]
  exact ⟨okc_44_0, okc_44_1, okc_44_2, okc_44_3, okc_44_4, okc_44_5, okc_44_6, okc_44_7⟩
theorem okm_44 : okM 44 = true := by decide +kernel
def mq_45 : Mi := (yX11_itemFromRow, cX11_itemFromRow, 4, (some .long), [5102, 1001, 5101, 9033])
set_option maxRecDepth 100000 in
theorem okc_45_0 : (tb_45_0.all (fun x => okE mq_45 x.1 x.2)) = true := by decide +kernel
set_option maxRecDepth 100000 in
theorem okc_45_1 : (tb_45_1.all (fun x => okE mq_45 x.1 x.2)) = true := by decide +kernel
set_option maxRecDepth 100000 in
theorem okc_45_2 : (tb_45_2.all (fun x => okE mq_45 x.1 x.2)) = true := by decide +kernel
set_option maxRecDepth 100000 in
theorem okc_45_3 : (tb_45_3.all (fun x => okE mq_45 x.1 x.2)) = true := by decide +kernel
set_option maxRecDepth 100000 in
theorem okc_45_4 : (tb_45_4.all (fun x => okE mq_45 x.1 x.2)) = true := by decide +kernel
set_option maxRecDepth 100000 in
theorem okc_45_5 : (tb_45_5.all (fun x => okE mq_45 x.1 x.2)) = true := by decide +kernel
theorem okt_45 : okT mq_45 tb_45 = true := by
  show (List.all [(36, tb_45_0), (48, tb_45_1), (60, tb_45_2), (78, tb_45_3), (92, tb_45_4), (100, tb_45_5)] _) = true
  simp only [List.all_cons, List.all_nil, Bool.and_true, Bool.and_eq_true]
  exact ⟨okc_45_0, okc_45_1, okc_45_2, okc_45_3, okc_45_4, okc_45_5⟩
theorem okm_45 : okM 45 = true := by decide +kernel
def mq_46 : Mi := (yX11_copy, cX11_copy, 6, (some .int), [5113, 1001, 5111, 5112])
set_option maxRecDepth 100000 in
theorem okc_46_0 : (tb_46_0.all (fun x => okE mq_46 x.1 x.2)) = true := by decide +kernel
set_option maxRecDepth 100000 in
theorem okc_46_1 : (tb_46_1.all (fun x => okE mq_46 x.1 x.2)) = true := by decide +kernel
set_option maxRecDepth 100000 in
theorem okc_46_2 : (tb_46_2.all (fun x => okE mq_46 x.1 x.2)) = true := by decide +kernel
theorem okt_46 : okT mq_46 tb_46 = true := by
  show (List.all [(16, tb_46_0), (30, tb_46_1), (31, tb_46_2)] _) = true
  simp only [List.all_cons, List.all_nil, Bool.and_true, Bool.and_eq_true]
  exact ⟨okc_46_0, okc_46_1, okc_46_2⟩
theorem okm_46 : okM 46 = true := by decide +kernel
def mq_47 : Mi := (yX11_item, cX11_item, 6, (some .long), [5133, 1001, 5131, 5132])
set_option maxRecDepth 100000 in
theorem okc_47_0 : (tb_47_0.all (fun x => okE mq_47 x.1 x.2)) = true := by decide +kernel
set_option maxRecDepth 100000 in
theorem okc_47_1 : (tb_47_1.all (fun x => okE mq_47 x.1 x.2)) = true := by decide +kernel
set_option maxRecDepth 100000 in
theorem okc_47_2 : (tb_47_2.all (fun x => okE mq_47 x.1 x.2)) = true := by decide +kernel
set_option maxRecDepth 100000 in
theorem okc_47_3 : (tb_47_3.all (fun x => okE mq_47 x.1 x.2)) = true := by decide +kernel
set_option maxRecDepth 100000 in
theorem okc_47_4 : (tb_47_4.all (fun x => okE mq_47 x.1 x.2)) = true := by decide +kernel
set_option maxRecDepth 100000 in
theorem okc_47_5 : (tb_47_5.all (fun x => okE mq_47 x.1 x.2)) = true := by decide +kernel
set_option maxRecDepth 100000 in
theorem okc_47_6 : (tb_47_6.all (fun x => okE mq_47 x.1 x.2)) = true := by decide +kernel
set_option maxRecDepth 100000 in
theorem okc_47_7 : (tb_47_7.all (fun x => okE mq_47 x.1 x.2)) = true := by decide +kernel
theorem okt_47 : okT mq_47 tb_47 = true := by
  show (List.all [(16, tb_47_0), (32, tb_47_1), (48, tb_47_2), (64, tb_47_3), (78, tb_47_4), (93, tb_47_5), (110, tb_47_6), (115, tb_47_7)] _) = true
  simp only [List.all_cons, List.all_nil, Bool.and_true, Bool.and_eq_true]
  exact ⟨okc_47_0, okc_47_1, okc_47_2, okc_47_3, okc_47_4, okc_47_5, okc_47_6, okc_47_7⟩
theorem okm_47 : okM 47 = true := by decide +kernel
def mq_48 : Mi := (yX0_init, cX0_init, 1, none, [1145, 1005, 1144, 0])
set_option maxRecDepth 100000 in
theorem okc_48_0 : (tb_48_0.all (fun x => okE mq_48 x.1 x.2)) = true := by decide +kernel
set_option maxRecDepth 100000 in
theorem okc_48_1 : (tb_48_1.all (fun x => okE mq_48 x.1 x.2)) = true := by decide +kernel
set_option maxRecDepth 100000 in
theorem okc_48_2 : (tb_48_2.all (fun x => okE mq_48 x.1 x.2)) = true := by decide +kernel
set_option maxRecDepth 100000 in
theorem okc_48_3 : (tb_48_3.all (fun x => okE mq_48 x.1 x.2)) = true := by decide +kernel
set_option maxRecDepth 100000 in
theorem okc_48_4 : (tb_48_4.all (fun x => okE mq_48 x.1 x.2)) = true := by decide +kernel
set_option maxRecDepth 100000 in
theorem okc_48_5 : (tb_48_5.all (fun x => okE mq_48 x.1 x.2)) = true := by decide +kernel
theorem okt_48 : okT mq_48 tb_48 = true := by
  show (List.all [(15, tb_48_0), (32, tb_48_1), (50, tb_48_2), (65, tb_48_3), (78, tb_48_4), (82, tb_48_5)] _) = true
  simp only [List.all_cons, List.all_nil, Bool.and_true, Bool.and_eq_true]
  exact ⟨okc_48_0, okc_48_1, okc_48_2, okc_48_3, okc_48_4, okc_48_5⟩
theorem okm_48 : okM 48 = true := by decide +kernel
def mq_49 : Mi := (yX0_assemble, cX0_assemble, 2, none, [2065, 1005, 2063, 2064])
set_option maxRecDepth 100000 in
theorem okc_49_0 : (tb_49_0.all (fun x => okE mq_49 x.1 x.2)) = true := by decide +kernel
set_option maxRecDepth 100000 in
theorem okc_49_1 : (tb_49_1.all (fun x => okE mq_49 x.1 x.2)) = true := by decide +kernel
theorem okt_49 : okT mq_49 tb_49 = true := by
  show (List.all [(11, tb_49_0), (27, tb_49_1)] _) = true
  simp only [List.all_cons, List.all_nil, Bool.and_true, Bool.and_eq_true]
  exact ⟨okc_49_0, okc_49_1⟩
theorem okm_49 : okM 49 = true := by decide +kernel
def mq_50 : Mi := (yX0_put, cX0_put, 4, none, [2069, 1005, 2067, 2068])
set_option maxRecDepth 100000 in
theorem okc_50_0 : (tb_50_0.all (fun x => okE mq_50 x.1 x.2)) = true := by decide +kernel
set_option maxRecDepth 100000 in
theorem okc_50_1 : (tb_50_1.all (fun x => okE mq_50 x.1 x.2)) = true := by decide +kernel
theorem okt_50 : okT mq_50 tb_50 = true := by
  show (List.all [(12, tb_50_0), (22, tb_50_1)] _) = true
  simp only [List.all_cons, List.all_nil, Bool.and_true, Bool.and_eq_true]
  exact ⟨okc_50_0, okc_50_1⟩
theorem okm_50 : okM 50 = true := by decide +kernel
def mq_51 : Mi := (yX0_beginRinging, cX0_beginRinging, 1, none, [2073, 1005, 2071, 2072])
set_option maxRecDepth 100000 in
theorem okc_51_0 : (tb_51_0.all (fun x => okE mq_51 x.1 x.2)) = true := by decide +kernel
set_option maxRecDepth 100000 in
theorem okc_51_1 : (tb_51_1.all (fun x => okE mq_51 x.1 x.2)) = true := by decide +kernel
theorem okt_51 : okT mq_51 tb_51 = true := by
  show (List.all [(12, tb_51_0), (27, tb_51_1)] _) = true
  simp only [List.all_cons, List.all_nil, Bool.and_true, Bool.and_eq_true]
  exact ⟨okc_51_0, okc_51_1⟩
theorem okm_51 : okM 51 = true := by decide +kernel
def mq_52 : Mi := (yX0_draw, cX0_draw, 6, (some .int), [4112, 1005, 4111, 9026])
set_option maxRecDepth 100000 in
theorem okc_52_0 : (tb_52_0.all (fun x => okE mq_52 x.1 x.2)) = true := by decide +kernel
set_option maxRecDepth 100000 in
theorem okc_52_1 : (tb_52_1.all (fun x => okE mq_52 x.1 x.2)) = true := by decide +kernel
set_option maxRecDepth 100000 in
theorem okc_52_2 : (tb_52_2.all (fun x => okE mq_52 x.1 x.2)) = true := by decide +kernel
set_option maxRecDepth 100000 in
theorem okc_52_3 : (tb_52_3.all (fun x => okE mq_52 x.1 x.2)) = true := by decide +kernel
set_option maxRecDepth 100000 in
theorem okc_52_4 : (tb_52_4.all (fun x => okE mq_52 x.1 x.2)) = true := by decide +kernel
set_option maxRecDepth 100000 in
theorem okc_52_5 : (tb_52_5.all (fun x => okE mq_52 x.1 x.2)) = true := by decide +kernel
theorem okt_52 : okT mq_52 tb_52 = true := by
  show (List.all [(10, tb_52_0), (23, tb_52_1), (35, tb_52_2), (49, tb_52_3), (63, tb_52_4), (67, tb_52_5)] _) = true
  simp only [List.all_cons, List.all_nil, Bool.and_true, Bool.and_eq_true]
  exact ⟨okc_52_0, okc_52_1, okc_52_2, okc_52_3, okc_52_4, okc_52_5⟩
theorem okm_52 : okM 52 = true := by decide +kernel
def mq_53 : Mi := (yX0_offset, cX0_offset, 4, (some .int), [4118, 1005, 4117, 9027])
set_option maxRecDepth 100000 in
theorem okc_53_0 : (tb_53_0.all (fun x => okE mq_53 x.1 x.2)) = true := by decide +kernel
set_option maxRecDepth 100000 in
theorem okc_53_1 : (tb_53_1.all (fun x => okE mq_53 x.1 x.2)) = true := by decide +kernel
set_option maxRecDepth 100000 in
theorem okc_53_2 : (tb_53_2.all (fun x => okE mq_53 x.1 x.2)) = true := by decide +kernel
set_option maxRecDepth 100000 in
theorem okc_53_3 : (tb_53_3.all (fun x => okE mq_53 x.1 x.2)) = true := by decide +kernel
set_option maxRecDepth 100000 in
theorem okc_53_4 : (tb_53_4.all (fun x => okE mq_53 x.1 x.2)) = true := by decide +kernel
theorem okt_53 : okT mq_53 tb_53 = true := by
  show (List.all [(10, tb_53_0), (49, tb_53_1), (60, tb_53_2), (68, tb_53_3), (72, tb_53_4)] _) = true
  simp only [List.all_cons, List.all_nil, Bool.and_true, Bool.and_eq_true]
  exact ⟨okc_53_0, okc_53_1, okc_53_2, okc_53_3, okc_53_4⟩
theorem okm_53 : okM 53 = true := by decide +kernel
def mq_54 : Mi := (yX0_ringRow, cX0_ringRow, 10, (some .boolean), [4107, 1005, 4105, 4106])
set_option maxRecDepth 100000 in
theorem okc_54_0 : (tb_54_0.all (fun x => okE mq_54 x.1 x.2)) = true := by decide +kernel
set_option maxRecDepth 100000 in
theorem okc_54_1 : (tb_54_1.all (fun x => okE mq_54 x.1 x.2)) = true := by decide +kernel
set_option maxRecDepth 100000 in
theorem okc_54_2 : (tb_54_2.all (fun x => okE mq_54 x.1 x.2)) = true := by decide +kernel
set_option maxRecDepth 100000 in
theorem okc_54_3 : (tb_54_3.all (fun x => okE mq_54 x.1 x.2)) = true := by decide +kernel
set_option maxRecDepth 100000 in
theorem okc_54_4 : (tb_54_4.all (fun x => okE mq_54 x.1 x.2)) = true := by decide +kernel
set_option maxRecDepth 100000 in
theorem okc_54_5 : (tb_54_5.all (fun x => okE mq_54 x.1 x.2)) = true := by decide +kernel
set_option maxRecDepth 100000 in
theorem okc_54_6 : (tb_54_6.all (fun x => okE mq_54 x.1 x.2)) = true := by decide +kernel
set_option maxRecDepth 100000 in
theorem okc_54_7 : (tb_54_7.all (fun x => okE mq_54 x.1 x.2)) = true := by decide +kernel
set_option maxRecDepth 100000 in
theorem okc_54_8 : (tb_54_8.all (fun x => okE mq_54 x.1 x.2)) = true := by decide +kernel
set_option maxRecDepth 100000 in
theorem okc_54_9 : (tb_54_9.all (fun x => okE mq_54 x.1 x.2)) = true := by decide +kernel
theorem okt_54 : okT mq_54 tb_54 = true := by
  show (List.all [(19, tb_54_0), (37, tb_54_1), (55, tb_54_2), (72, tb_54_3), (85, tb_54_4), (106, tb_54_5), (122, tb_54_6), (142, tb_54_7), (165, tb_54_8), (177, tb_54_9)] _) = true
  simp only [List.all_cons, List.all_nil, Bool.and_true, Bool.and_eq_true]
  exact ⟨okc_54_0, okc_54_1, okc_54_2, okc_54_3, okc_54_4, okc_54_5, okc_54_6, okc_54_7, okc_54_8, okc_54_9⟩
theorem okm_54 : okM 54 = true := by decide +kernel
def mq_55 : Mi := (yX0_losesItself, cX0_losesItself, 2, (some .boolean), [4122, 1005, 4121, 9028])
set_option maxRecDepth 100000 in
theorem okc_55_0 : (tb_55_0.all (fun x => okE mq_55 x.1 x.2)) = true := by decide +kernel
set_option maxRecDepth 100000 in
theorem okc_55_1 : (tb_55_1.all (fun x => okE mq_55 x.1 x.2)) = true := by decide +kernel
set_option maxRecDepth 100000 in
theorem okc_55_2 : (tb_55_2.all (fun x => okE mq_55 x.1 x.2)) = true := by decide +kernel
set_option maxRecDepth 100000 in
theorem okc_55_3 : (tb_55_3.all (fun x => okE mq_55 x.1 x.2)) = true := by decide +kernel
theorem okt_55 : okT mq_55 tb_55 = true := by
  show (List.all [(14, tb_55_0), (24, tb_55_1), (36, tb_55_2), (46, tb_55_3)] _) = true
  simp only [List.all_cons, List.all_nil, Bool.and_true, Bool.and_eq_true]
  exact ⟨okc_55_0, okc_55_1, okc_55_2, okc_55_3⟩
theorem okm_55 : okM 55 = true := by decide +kernel
def mq_56 : Mi := (yX0_getsWords, cX0_getsWords, 3, (some .boolean), [4126, 1005, 4125, 9029])
set_option maxRecDepth 100000 in
theorem okc_56_0 : (tb_56_0.all (fun x => okE mq_56 x.1 x.2)) = true := by decide +kernel
set_option maxRecDepth 100000 in
theorem okc_56_1 : (tb_56_1.all (fun x => okE mq_56 x.1 x.2)) = true := by decide +kernel
set_option maxRecDepth 100000 in
theorem okc_56_2 : (tb_56_2.all (fun x => okE mq_56 x.1 x.2)) = true := by decide +kernel
set_option maxRecDepth 100000 in
theorem okc_56_3 : (tb_56_3.all (fun x => okE mq_56 x.1 x.2)) = true := by decide +kernel
theorem okt_56 : okT mq_56 tb_56 = true := by
  show (List.all [(14, tb_56_0), (28, tb_56_1), (40, tb_56_2), (42, tb_56_3)] _) = true
  simp only [List.all_cons, List.all_nil, Bool.and_true, Bool.and_eq_true]
  exact ⟨okc_56_0, okc_56_1, okc_56_2, okc_56_3⟩
theorem okm_56 : okM 56 = true := by decide +kernel
def mq_57 : Mi := (yX0_hasConductor, cX0_hasConductor, 3, (some .boolean), [4130, 1005, 4129, 9030])
set_option maxRecDepth 100000 in
theorem okc_57_0 : (tb_57_0.all (fun x => okE mq_57 x.1 x.2)) = true := by decide +kernel
set_option maxRecDepth 100000 in
theorem okc_57_1 : (tb_57_1.all (fun x => okE mq_57 x.1 x.2)) = true := by decide +kernel
set_option maxRecDepth 100000 in
theorem okc_57_2 : (tb_57_2.all (fun x => okE mq_57 x.1 x.2)) = true := by decide +kernel
theorem okt_57 : okT mq_57 tb_57 = true := by
  show (List.all [(12, tb_57_0), (24, tb_57_1), (37, tb_57_2)] _) = true
  simp only [List.all_cons, List.all_nil, Bool.and_true, Bool.and_eq_true]
  exact ⟨okc_57_0, okc_57_1, okc_57_2⟩
theorem okm_57 : okM 57 = true := by decide +kernel
def mq_58 : Mi := (yX0_timeOf, cX0_timeOf, 5, (some .int), [4138, 1005, 4136, 4137])
set_option maxRecDepth 100000 in
theorem okc_58_0 : (tb_58_0.all (fun x => okE mq_58 x.1 x.2)) = true := by decide +kernel
set_option maxRecDepth 100000 in
theorem okc_58_1 : (tb_58_1.all (fun x => okE mq_58 x.1 x.2)) = true := by decide +kernel
set_option maxRecDepth 100000 in
theorem okc_58_2 : (tb_58_2.all (fun x => okE mq_58 x.1 x.2)) = true := by decide +kernel
set_option maxRecDepth 100000 in
theorem okc_58_3 : (tb_58_3.all (fun x => okE mq_58 x.1 x.2)) = true := by decide +kernel
set_option maxRecDepth 100000 in
theorem okc_58_4 : (tb_58_4.all (fun x => okE mq_58 x.1 x.2)) = true := by decide +kernel
theorem okt_58 : okT mq_58 tb_58 = true := by
  show (List.all [(15, tb_58_0), (25, tb_58_1), (41, tb_58_2), (53, tb_58_3), (59, tb_58_4)] _) = true
  simp only [List.all_cons, List.all_nil, Bool.and_true, Bool.and_eq_true]
  exact ⟨okc_58_0, okc_58_1, okc_58_2, okc_58_3, okc_58_4⟩
theorem okm_58 : okM 58 = true := by decide +kernel
def mq_59 : Mi := (yX1_init, cX1_init, 1, none, [1095, 1003, 1094, 0])
set_option maxRecDepth 100000 in
theorem okc_59_0 : (tb_59_0.all (fun x => okE mq_59 x.1 x.2)) = true := by decide +kernel
set_option maxRecDepth 100000 in
theorem okc_59_1 : (tb_59_1.all (fun x => okE mq_59 x.1 x.2)) = true := by decide +kernel
set_option maxRecDepth 100000 in
theorem okc_59_2 : (tb_59_2.all (fun x => okE mq_59 x.1 x.2)) = true := by decide +kernel
theorem okt_59 : okT mq_59 tb_59 = true := by
  show (List.all [(17, tb_59_0), (32, tb_59_1), (46, tb_59_2)] _) = true
  simp only [List.all_cons, List.all_nil, Bool.and_true, Bool.and_eq_true]
  exact ⟨okc_59_0, okc_59_1, okc_59_2⟩
theorem okm_59 : okM 59 = true := by decide +kernel
def mq_60 : Mi := (yX1_dissolve, cX1_dissolve, 2, none, [2031, 1003, 2029, 2030])
set_option maxRecDepth 100000 in
theorem okc_60_0 : (tb_60_0.all (fun x => okE mq_60 x.1 x.2)) = true := by decide +kernel
set_option maxRecDepth 100000 in
theorem okc_60_1 : (tb_60_1.all (fun x => okE mq_60 x.1 x.2)) = true := by decide +kernel
theorem okt_60 : okT mq_60 tb_60 = true := by
  show (List.all [(12, tb_60_0), (16, tb_60_1)] _) = true
  simp only [List.all_cons, List.all_nil, Bool.and_true, Bool.and_eq_true]
  exact ⟨okc_60_0, okc_60_1⟩
theorem okm_60 : okM 60 = true := by decide +kernel
def mq_61 : Mi := (yX1_has, cX1_has, 4, (some .boolean), [4041, 1003, 4039, 4040])
set_option maxRecDepth 100000 in
theorem okc_61_0 : (tb_61_0.all (fun x => okE mq_61 x.1 x.2)) = true := by decide +kernel
set_option maxRecDepth 100000 in
theorem okc_61_1 : (tb_61_1.all (fun x => okE mq_61 x.1 x.2)) = true := by decide +kernel
theorem okt_61 : okT mq_61 tb_61 = true := by
  show (List.all [(14, tb_61_0), (28, tb_61_1)] _) = true
  simp only [List.all_cons, List.all_nil, Bool.and_true, Bool.and_eq_true]
  exact ⟨okc_61_0, okc_61_1⟩
theorem okm_61 : okM 61 = true := by decide +kernel
def mq_62 : Mi := (yX1_include, cX1_include, 4, none, [2042, 1003, 2041, 9002])
set_option maxRecDepth 100000 in
theorem okc_62_0 : (tb_62_0.all (fun x => okE mq_62 x.1 x.2)) = true := by decide +kernel
set_option maxRecDepth 100000 in
theorem okc_62_1 : (tb_62_1.all (fun x => okE mq_62 x.1 x.2)) = true := by decide +kernel
set_option maxRecDepth 100000 in
theorem okc_62_2 : (tb_62_2.all (fun x => okE mq_62 x.1 x.2)) = true := by decide +kernel
set_option maxRecDepth 100000 in
theorem okc_62_3 : (tb_62_3.all (fun x => okE mq_62 x.1 x.2)) = true := by decide +kernel
set_option maxRecDepth 100000 in
theorem okc_62_4 : (tb_62_4.all (fun x => okE mq_62 x.1 x.2)) = true := by decide +kernel
theorem okt_62 : okT mq_62 tb_62 = true := by
  show (List.all [(14, tb_62_0), (32, tb_62_1), (44, tb_62_2), (56, tb_62_3), (58, tb_62_4)] _) = true
  simp only [List.all_cons, List.all_nil, Bool.and_true, Bool.and_eq_true]
  exact ⟨okc_62_0, okc_62_1, okc_62_2, okc_62_3, okc_62_4⟩
theorem okm_62 : okM 62 = true := by decide +kernel
def mq_63 : Mi := (yX1_admit, cX1_admit, 3, none, [4037, 1003, 4035, 4036])
set_option maxRecDepth 100000 in
theorem okc_63_0 : (tb_63_0.all (fun x => okE mq_63 x.1 x.2)) = true := by decide +kernel
set_option maxRecDepth 100000 in
theorem okc_63_1 : (tb_63_1.all (fun x => okE mq_63 x.1 x.2)) = true := by decide +kernel
set_option maxRecDepth 100000 in
theorem okc_63_2 : (tb_63_2.all (fun x => okE mq_63 x.1 x.2)) = true := by decide +kernel
set_option maxRecDepth 100000 in
theorem okc_63_3 : (tb_63_3.all (fun x => okE mq_63 x.1 x.2)) = true := by decide +kernel
theorem okt_63 : okT mq_63 tb_63 = true := by
  show (List.all [(12, tb_63_0), (29, tb_63_1), (41, tb_63_2), (52, tb_63_3)] _) = true
  simp only [List.all_cons, List.all_nil, Bool.and_true, Bool.and_eq_true]
  exact ⟨okc_63_0, okc_63_1, okc_63_2, okc_63_3⟩
theorem okm_63 : okM 63 = true := by decide +kernel
def mq_64 : Mi := (yX1_close, cX1_close, 4, none, [2035, 1003, 2034, 9001])
set_option maxRecDepth 100000 in
theorem okc_64_0 : (tb_64_0.all (fun x => okE mq_64 x.1 x.2)) = true := by decide +kernel
set_option maxRecDepth 100000 in
theorem okc_64_1 : (tb_64_1.all (fun x => okE mq_64 x.1 x.2)) = true := by decide +kernel
set_option maxRecDepth 100000 in
theorem okc_64_2 : (tb_64_2.all (fun x => okE mq_64 x.1 x.2)) = true := by decide +kernel
set_option maxRecDepth 100000 in
theorem okc_64_3 : (tb_64_3.all (fun x => okE mq_64 x.1 x.2)) = true := by decide +kernel
set_option maxRecDepth 100000 in
theorem okc_64_4 : (tb_64_4.all (fun x => okE mq_64 x.1 x.2)) = true := by decide +kernel
set_option maxRecDepth 100000 in
theorem okc_64_5 : (tb_64_5.all (fun x => okE mq_64 x.1 x.2)) = true := by decide +kernel
set_option maxRecDepth 100000 in
theorem okc_64_6 : (tb_64_6.all (fun x => okE mq_64 x.1 x.2)) = true := by decide +kernel
theorem okt_64 : okT mq_64 tb_64 = true := by
  show (List.all [(14, tb_64_0), (28, tb_64_1), (40, tb_64_2), (56, tb_64_3), (70, tb_64_4), (84, tb_64_5), (97, tb_64_6)] _) = true
  simp only [List.all_cons, List.all_nil, Bool.and_true, Bool.and_eq_true]
  exact ⟨okc_64_0, okc_64_1, okc_64_2, okc_64_3, okc_64_4, okc_64_5, okc_64_6⟩
theorem okm_64 : okM 64 = true := by decide +kernel
def mq_65 : Mi := (yX1_leastWith, cX1_leastWith, 5, (some .int), [4058, 1003, 4056, 4057])
set_option maxRecDepth 100000 in
theorem okc_65_0 : (tb_65_0.all (fun x => okE mq_65 x.1 x.2)) = true := by decide +kernel
set_option maxRecDepth 100000 in
theorem okc_65_1 : (tb_65_1.all (fun x => okE mq_65 x.1 x.2)) = true := by decide +kernel
set_option maxRecDepth 100000 in
theorem okc_65_2 : (tb_65_2.all (fun x => okE mq_65 x.1 x.2)) = true := by decide +kernel
theorem okt_65 : okT mq_65 tb_65 = true := by
  show (List.all [(14, tb_65_0), (27, tb_65_1), (39, tb_65_2)] _) = true
  simp only [List.all_cons, List.all_nil, Bool.and_true, Bool.and_eq_true]
  exact ⟨okc_65_0, okc_65_1, okc_65_2⟩
theorem okm_65 : okM 65 = true := by decide +kernel
def mq_66 : Mi := (yX2_init, cX2_init, 1, none, [1123, 1004, 1122, 0])
set_option maxRecDepth 100000 in
theorem okc_66_0 : (tb_66_0.all (fun x => okE mq_66 x.1 x.2)) = true := by decide +kernel
set_option maxRecDepth 100000 in
theorem okc_66_1 : (tb_66_1.all (fun x => okE mq_66 x.1 x.2)) = true := by decide +kernel
set_option maxRecDepth 100000 in
theorem okc_66_2 : (tb_66_2.all (fun x => okE mq_66 x.1 x.2)) = true := by decide +kernel
theorem okt_66 : okT mq_66 tb_66 = true := by
  show (List.all [(15, tb_66_0), (32, tb_66_1), (36, tb_66_2)] _) = true
  simp only [List.all_cons, List.all_nil, Bool.and_true, Bool.and_eq_true]
  exact ⟨okc_66_0, okc_66_1, okc_66_2⟩
theorem okm_66 : okM 66 = true := by decide +kernel
def mq_67 : Mi := (yX2_forget, cX2_forget, 1, none, [2061, 1004, 2059, 2060])
set_option maxRecDepth 100000 in
theorem okc_67_0 : (tb_67_0.all (fun x => okE mq_67 x.1 x.2)) = true := by decide +kernel
theorem okt_67 : okT mq_67 tb_67 = true := by
  show (List.all [(6, tb_67_0)] _) = true
  simp only [List.all_cons, List.all_nil, Bool.and_true, Bool.and_eq_true]
  exact okc_67_0
theorem okm_67 : okM 67 = true := by decide +kernel
def mq_68 : Mi := (yX2_mark, cX2_mark, 4, none, [4077, 1004, 4076, 9023])
set_option maxRecDepth 100000 in
theorem okc_68_0 : (tb_68_0.all (fun x => okE mq_68 x.1 x.2)) = true := by decide +kernel
set_option maxRecDepth 100000 in
theorem okc_68_1 : (tb_68_1.all (fun x => okE mq_68 x.1 x.2)) = true := by decide +kernel
set_option maxRecDepth 100000 in
theorem okc_68_2 : (tb_68_2.all (fun x => okE mq_68 x.1 x.2)) = true := by decide +kernel
theorem okt_68 : okT mq_68 tb_68 = true := by
  show (List.all [(13, tb_68_0), (22, tb_68_1), (25, tb_68_2)] _) = true
  simp only [List.all_cons, List.all_nil, Bool.and_true, Bool.and_eq_true]
  exact ⟨okc_68_0, okc_68_1, okc_68_2⟩
theorem okm_68 : okM 68 = true := by decide +kernel
def mq_69 : Mi := (yX2_find, cX2_find, 8, none, [4069, 1004, 4067, 4068])
set_option maxRecDepth 100000 in
theorem okc_69_0 : (tb_69_0.all (fun x => okE mq_69 x.1 x.2)) = true := by decide +kernel
set_option maxRecDepth 100000 in
theorem okc_69_1 : (tb_69_1.all (fun x => okE mq_69 x.1 x.2)) = true := by decide +kernel
set_option maxRecDepth 100000 in
theorem okc_69_2 : (tb_69_2.all (fun x => okE mq_69 x.1 x.2)) = true := by decide +kernel
set_option maxRecDepth 100000 in
theorem okc_69_3 : (tb_69_3.all (fun x => okE mq_69 x.1 x.2)) = true := by decide +kernel
set_option maxRecDepth 100000 in
theorem okc_69_4 : (tb_69_4.all (fun x => okE mq_69 x.1 x.2)) = true := by decide +kernel
set_option maxRecDepth 100000 in
theorem okc_69_5 : (tb_69_5.all (fun x => okE mq_69 x.1 x.2)) = true := by decide +kernel
set_option maxRecDepth 100000 in
theorem okc_69_6 : (tb_69_6.all (fun x => okE mq_69 x.1 x.2)) = true := by decide +kernel
set_option maxRecDepth 100000 in
theorem okc_69_7 : (tb_69_7.all (fun x => okE mq_69 x.1 x.2)) = true := by decide +kernel
theorem okt_69 : okT mq_69 tb_69 = true := by
  show (List.all [(14, tb_69_0), (30, tb_69_1), (43, tb_69_2), (57, tb_69_3), (71, tb_69_4), (88, tb_69_5), (103, tb_69_6), (112, tb_69_7)] _) = true
  simp only [List.all_cons, List.all_nil, Bool.and_true, Bool.and_eq_true]
  exact ⟨okc_69_0, okc_69_1, okc_69_2, okc_69_3, okc_69_4, okc_69_5, okc_69_6, okc_69_7⟩
theorem okm_69 : okM 69 = true := by decide +kernel
def mq_70 : Mi := (yX2_gather, cX2_gather, 6, none, [4085, 1004, 4084, 9024])
set_option maxRecDepth 100000 in
theorem okc_70_0 : (tb_70_0.all (fun x => okE mq_70 x.1 x.2)) = true := by decide +kernel
set_option maxRecDepth 100000 in
theorem okc_70_1 : (tb_70_1.all (fun x => okE mq_70 x.1 x.2)) = true := by decide +kernel
set_option maxRecDepth 100000 in
theorem okc_70_2 : (tb_70_2.all (fun x => okE mq_70 x.1 x.2)) = true := by decide +kernel
set_option maxRecDepth 100000 in
theorem okc_70_3 : (tb_70_3.all (fun x => okE mq_70 x.1 x.2)) = true := by decide +kernel
set_option maxRecDepth 100000 in
theorem okc_70_4 : (tb_70_4.all (fun x => okE mq_70 x.1 x.2)) = true := by decide +kernel
set_option maxRecDepth 100000 in
theorem okc_70_5 : (tb_70_5.all (fun x => okE mq_70 x.1 x.2)) = true := by decide +kernel
set_option maxRecDepth 100000 in
theorem okc_70_6 : (tb_70_6.all (fun x => okE mq_70 x.1 x.2)) = true := by decide +kernel
set_option maxRecDepth 100000 in
theorem okc_70_7 : (tb_70_7.all (fun x => okE mq_70 x.1 x.2)) = true := by decide +kernel
theorem okt_70 : okT mq_70 tb_70 = true := by
  show (List.all [(12, tb_70_0), (23, tb_70_1), (38, tb_70_2), (50, tb_70_3), (64, tb_70_4), (77, tb_70_5), (91, tb_70_6), (95, tb_70_7)] _) = true
  simp only [List.all_cons, List.all_nil, Bool.and_true, Bool.and_eq_true]
  exact ⟨okc_70_0, okc_70_1, okc_70_2, okc_70_3, okc_70_4, okc_70_5, okc_70_6, okc_70_7⟩
theorem okm_70 : okM 70 = true := by decide +kernel
def mq_71 : Mi := (yX3_init, cX3_init, 1, none, [2194, 1014, 2193, 0])
set_option maxRecDepth 100000 in
theorem okc_71_0 : (tb_71_0.all (fun x => okE mq_71 x.1 x.2)) = true := by decide +kernel
set_option maxRecDepth 100000 in
theorem okc_71_1 : (tb_71_1.all (fun x => okE mq_71 x.1 x.2)) = true := by decide +kernel
theorem okt_71 : okT mq_71 tb_71 = true := by
  show (List.all [(15, tb_71_0), (24, tb_71_1)] _) = true
  simp only [List.all_cons, List.all_nil, Bool.and_true, Bool.and_eq_true]
  exact ⟨okc_71_0, okc_71_1⟩
theorem okm_71 : okM 71 = true := by decide +kernel
def mq_72 : Mi := (yX3_add, cX3_add, 2, none, [3183, 1014, 3181, 3182])
set_option maxRecDepth 100000 in
theorem okc_72_0 : (tb_72_0.all (fun x => okE mq_72 x.1 x.2)) = true := by decide +kernel
set_option maxRecDepth 100000 in
theorem okc_72_1 : (tb_72_1.all (fun x => okE mq_72 x.1 x.2)) = true := by decide +kernel
theorem okt_72 : okT mq_72 tb_72 = true := by
  show (List.all [(15, tb_72_0), (27, tb_72_1)] _) = true
  simp only [List.all_cons, List.all_nil, Bool.and_true, Bool.and_eq_true]
  exact ⟨okc_72_0, okc_72_1⟩
theorem okm_72 : okM 72 = true := by decide +kernel
def mq_73 : Mi := (yX3_ruleFor, cX3_ruleFor, 6, (some (.object "BelfryHouse$Rule")), [3232, 1014, 3230, 3231])
set_option maxRecDepth 100000 in
theorem okc_73_0 : (tb_73_0.all (fun x => okE mq_73 x.1 x.2)) = true := by decide +kernel
set_option maxRecDepth 100000 in
theorem okc_73_1 : (tb_73_1.all (fun x => okE mq_73 x.1 x.2)) = true := by decide +kernel
set_option maxRecDepth 100000 in
theorem okc_73_2 : (tb_73_2.all (fun x => okE mq_73 x.1 x.2)) = true := by decide +kernel
set_option maxRecDepth 100000 in
theorem okc_73_3 : (tb_73_3.all (fun x => okE mq_73 x.1 x.2)) = true := by decide +kernel
theorem okt_73 : okT mq_73 tb_73 = true := by
  show (List.all [(16, tb_73_0), (30, tb_73_1), (45, tb_73_2), (46, tb_73_3)] _) = true
  simp only [List.all_cons, List.all_nil, Bool.and_true, Bool.and_eq_true]
  exact ⟨okc_73_0, okc_73_1, okc_73_2, okc_73_3⟩
theorem okm_73 : okM 73 = true := by decide +kernel
def mq_74 : Mi := (yX4_init, cX4_init, 4, none, [2188, 1013, 2187, 0])
set_option maxRecDepth 100000 in
theorem okc_74_0 : (tb_74_0.all (fun x => okE mq_74 x.1 x.2)) = true := by decide +kernel
set_option maxRecDepth 100000 in
theorem okc_74_1 : (tb_74_1.all (fun x => okE mq_74 x.1 x.2)) = true := by decide +kernel
set_option maxRecDepth 100000 in
theorem okc_74_2 : (tb_74_2.all (fun x => okE mq_74 x.1 x.2)) = true := by decide +kernel
set_option maxRecDepth 100000 in
theorem okc_74_3 : (tb_74_3.all (fun x => okE mq_74 x.1 x.2)) = true := by decide +kernel
theorem okt_74 : okT mq_74 tb_74 = true := by
  show (List.all [(16, tb_74_0), (30, tb_74_1), (42, tb_74_2), (51, tb_74_3)] _) = true
  simp only [List.all_cons, List.all_nil, Bool.and_true, Bool.and_eq_true]
  exact ⟨okc_74_0, okc_74_1, okc_74_2, okc_74_3⟩
theorem okm_74 : okM 74 = true := by decide +kernel
