/-! the words of the methods, chunk by chunk -/
def mq_228 : Mi := (yX12_blow, cX12_blow, 3, (some .int), [7131, 1012, 7129, 7130])
set_option maxRecDepth 100000 in
theorem okc_228_0 : (tb_228_0.all (fun x => okE mq_228 x.1 x.2)) = true := by decide +kernel
set_option maxRecDepth 100000 in
theorem okc_228_1 : (tb_228_1.all (fun x => okE mq_228 x.1 x.2)) = true := by decide +kernel
set_option maxRecDepth 100000 in
theorem okc_228_2 : (tb_228_2.all (fun x => okE mq_228 x.1 x.2)) = true := by decide +kernel
set_option maxRecDepth 100000 in
theorem okc_228_3 : (tb_228_3.all (fun x => okE mq_228 x.1 x.2)) = true := by decide +kernel
theorem okt_228 : okT mq_228 tb_228 = true := by
  show (List.all [(16, tb_228_0), (32, tb_228_1), (43, tb_228_2), (50, tb_228_3)] _) = true
  simp only [List.all_cons, List.all_nil, Bool.and_true, Bool.and_eq_true]
  exact ⟨okc_228_0, okc_228_1, okc_228_2, okc_228_3⟩
theorem okm_228 : okM 228 = true := by decide +kernel
def mq_229 : Mi := (yX12_ringing, cX12_ringing, 2, (some .int), [7135, 1012, 7133, 7134])
set_option maxRecDepth 100000 in
theorem okc_229_0 : (tb_229_0.all (fun x => okE mq_229 x.1 x.2)) = true := by decide +kernel
set_option maxRecDepth 100000 in
theorem okc_229_1 : (tb_229_1.all (fun x => okE mq_229 x.1 x.2)) = true := by decide +kernel
set_option maxRecDepth 100000 in
theorem okc_229_2 : (tb_229_2.all (fun x => okE mq_229 x.1 x.2)) = true := by decide +kernel
set_option maxRecDepth 100000 in
theorem okc_229_3 : (tb_229_3.all (fun x => okE mq_229 x.1 x.2)) = true := by decide +kernel
theorem okt_229 : okT mq_229 tb_229 = true := by
  show (List.all [(16, tb_229_0), (32, tb_229_1), (48, tb_229_2), (49, tb_229_3)] _) = true
  simp only [List.all_cons, List.all_nil, Bool.and_true, Bool.and_eq_true]
  exact ⟨okc_229_0, okc_229_1, okc_229_2, okc_229_3⟩
theorem okm_229 : okM 229 = true := by decide +kernel
def mq_230 : Mi := (yX12_slips, cX12_slips, 2, (some .int), [7139, 1012, 7137, 7138])
set_option maxRecDepth 100000 in
theorem okc_230_0 : (tb_230_0.all (fun x => okE mq_230 x.1 x.2)) = true := by decide +kernel
set_option maxRecDepth 100000 in
theorem okc_230_1 : (tb_230_1.all (fun x => okE mq_230 x.1 x.2)) = true := by decide +kernel
theorem okt_230 : okT mq_230 tb_230 = true := by
  show (List.all [(14, tb_230_0), (24, tb_230_1)] _) = true
  simp only [List.all_cons, List.all_nil, Bool.and_true, Bool.and_eq_true]
  exact ⟨okc_230_0, okc_230_1⟩
theorem okm_230 : okM 230 = true := by decide +kernel
def mq_231 : Mi := (yX12_note, cX12_note, 4, (some .int), [7143, 1012, 7141, 7142])
set_option maxRecDepth 100000 in
theorem okc_231_0 : (tb_231_0.all (fun x => okE mq_231 x.1 x.2)) = true := by decide +kernel
set_option maxRecDepth 100000 in
theorem okc_231_1 : (tb_231_1.all (fun x => okE mq_231 x.1 x.2)) = true := by decide +kernel
set_option maxRecDepth 100000 in
theorem okc_231_2 : (tb_231_2.all (fun x => okE mq_231 x.1 x.2)) = true := by decide +kernel
set_option maxRecDepth 100000 in
theorem okc_231_3 : (tb_231_3.all (fun x => okE mq_231 x.1 x.2)) = true := by decide +kernel
set_option maxRecDepth 100000 in
theorem okc_231_4 : (tb_231_4.all (fun x => okE mq_231 x.1 x.2)) = true := by decide +kernel
theorem okt_231 : okT mq_231 tb_231 = true := by
  show (List.all [(14, tb_231_0), (29, tb_231_1), (43, tb_231_2), (57, tb_231_3), (68, tb_231_4)] _) = true
  simp only [List.all_cons, List.all_nil, Bool.and_true, Bool.and_eq_true]
  exact ⟨okc_231_0, okc_231_1, okc_231_2, okc_231_3, okc_231_4⟩
theorem okm_231 : okM 231 = true := by decide +kernel
def mq_232 : Mi := (yX12_wipe, cX12_wipe, 2, (some .int), [7159, 1012, 7157, 7158])
set_option maxRecDepth 100000 in
theorem okc_232_0 : (tb_232_0.all (fun x => okE mq_232 x.1 x.2)) = true := by decide +kernel
theorem okt_232 : okT mq_232 tb_232 = true := by
  show (List.all [(12, tb_232_0)] _) = true
  simp only [List.all_cons, List.all_nil, Bool.and_true, Bool.and_eq_true]
  exact okc_232_0
theorem okm_232 : okM 232 = true := by decide +kernel
def mq_233 : Mi := (yX12_listen, cX12_listen, 5, (some .int), [7163, 1012, 7161, 7162])
set_option maxRecDepth 100000 in
theorem okc_233_0 : (tb_233_0.all (fun x => okE mq_233 x.1 x.2)) = true := by decide +kernel
set_option maxRecDepth 100000 in
theorem okc_233_1 : (tb_233_1.all (fun x => okE mq_233 x.1 x.2)) = true := by decide +kernel
set_option maxRecDepth 100000 in
theorem okc_233_2 : (tb_233_2.all (fun x => okE mq_233 x.1 x.2)) = true := by decide +kernel
set_option maxRecDepth 100000 in
theorem okc_233_3 : (tb_233_3.all (fun x => okE mq_233 x.1 x.2)) = true := by decide +kernel
set_option maxRecDepth 100000 in
theorem okc_233_4 : (tb_233_4.all (fun x => okE mq_233 x.1 x.2)) = true := by decide +kernel
set_option maxRecDepth 100000 in
theorem okc_233_5 : (tb_233_5.all (fun x => okE mq_233 x.1 x.2)) = true := by decide +kernel
set_option maxRecDepth 100000 in
theorem okc_233_6 : (tb_233_6.all (fun x => okE mq_233 x.1 x.2)) = true := by decide +kernel
set_option maxRecDepth 100000 in
theorem okc_233_7 : (tb_233_7.all (fun x => okE mq_233 x.1 x.2)) = true := by decide +kernel
set_option maxRecDepth 100000 in
theorem okc_233_8 : (tb_233_8.all (fun x => okE mq_233 x.1 x.2)) = true := by decide +kernel
set_option maxRecDepth 100000 in
theorem okc_233_9 : (tb_233_9.all (fun x => okE mq_233 x.1 x.2)) = true := by decide +kernel
set_option maxRecDepth 100000 in
theorem okc_233_10 : (tb_233_10.all (fun x => okE mq_233 x.1 x.2)) = true := by decide +kernel
theorem okt_233 : okT mq_233 tb_233 = true := by
  show (List.all [(15, tb_233_0), (33, tb_233_1), (56, tb_233_2), (76, tb_233_3), (95, tb_233_4), (114, tb_233_5), (132, tb_233_6), (154, tb_233_7), (171, tb_233_8), (194, tb_233_9), (196, tb_233_10)] _) = true
  simp only [List.all_cons, List.all_nil, Bool.and_true, Bool.and_eq_true]
  exact ⟨okc_233_0, okc_233_1, okc_233_2, okc_233_3, okc_233_4, okc_233_5, okc_233_6, okc_233_7, okc_233_8, okc_233_9, okc_233_10⟩
theorem okm_233 : okM 233 = true := by decide +kernel
def mq_234 : Mi := (yX12_sort, cX12_sort, 3, none, [7172, 1012, 7171, 9069])
set_option maxRecDepth 100000 in
theorem okc_234_0 : (tb_234_0.all (fun x => okE mq_234 x.1 x.2)) = true := by decide +kernel
set_option maxRecDepth 100000 in
theorem okc_234_1 : (tb_234_1.all (fun x => okE mq_234 x.1 x.2)) = true := by decide +kernel
set_option maxRecDepth 100000 in
theorem okc_234_2 : (tb_234_2.all (fun x => okE mq_234 x.1 x.2)) = true := by decide +kernel
set_option maxRecDepth 100000 in
theorem okc_234_3 : (tb_234_3.all (fun x => okE mq_234 x.1 x.2)) = true := by decide +kernel
set_option maxRecDepth 100000 in
theorem okc_234_4 : (tb_234_4.all (fun x => okE mq_234 x.1 x.2)) = true := by decide +kernel
set_option maxRecDepth 100000 in
theorem okc_234_5 : (tb_234_5.all (fun x => okE mq_234 x.1 x.2)) = true := by decide +kernel
set_option maxRecDepth 100000 in
theorem okc_234_6 : (tb_234_6.all (fun x => okE mq_234 x.1 x.2)) = true := by decide +kernel
set_option maxRecDepth 100000 in
theorem okc_234_7 : (tb_234_7.all (fun x => okE mq_234 x.1 x.2)) = true := by decide +kernel
theorem okt_234 : okT mq_234 tb_234 = true := by
  show (List.all [(15, tb_234_0), (28, tb_234_1), (45, tb_234_2), (58, tb_234_3), (73, tb_234_4), (88, tb_234_5), (103, tb_234_6), (107, tb_234_7)] _) = true
  simp only [List.all_cons, List.all_nil, Bool.and_true, Bool.and_eq_true]
  exact ⟨okc_234_0, okc_234_1, okc_234_2, okc_234_3, okc_234_4, okc_234_5, okc_234_6, okc_234_7⟩
theorem okm_234 : okM 234 = true := by decide +kernel
def mq_235 : Mi := (yX12_inOrder, cX12_inOrder, 3, (some .int), [7168, 1012, 7166, 7167])
set_option maxRecDepth 100000 in
theorem okc_235_0 : (tb_235_0.all (fun x => okE mq_235 x.1 x.2)) = true := by decide +kernel
set_option maxRecDepth 100000 in
theorem okc_235_1 : (tb_235_1.all (fun x => okE mq_235 x.1 x.2)) = true := by decide +kernel
set_option maxRecDepth 100000 in
theorem okc_235_2 : (tb_235_2.all (fun x => okE mq_235 x.1 x.2)) = true := by decide +kernel
set_option maxRecDepth 100000 in
theorem okc_235_3 : (tb_235_3.all (fun x => okE mq_235 x.1 x.2)) = true := by decide +kernel
theorem okt_235 : okT mq_235 tb_235 = true := by
  show (List.all [(16, tb_235_0), (28, tb_235_1), (44, tb_235_2), (52, tb_235_3)] _) = true
  simp only [List.all_cons, List.all_nil, Bool.and_true, Bool.and_eq_true]
  exact ⟨okc_235_0, okc_235_1, okc_235_2, okc_235_3⟩
theorem okm_235 : okM 235 = true := by decide +kernel
def mq_236 : Mi := (yX12_heard, cX12_heard, 6, (some .int), [7176, 1012, 7174, 7175])
set_option maxRecDepth 100000 in
theorem okc_236_0 : (tb_236_0.all (fun x => okE mq_236 x.1 x.2)) = true := by decide +kernel
set_option maxRecDepth 100000 in
theorem okc_236_1 : (tb_236_1.all (fun x => okE mq_236 x.1 x.2)) = true := by decide +kernel
set_option maxRecDepth 100000 in
theorem okc_236_2 : (tb_236_2.all (fun x => okE mq_236 x.1 x.2)) = true := by decide +kernel
set_option maxRecDepth 100000 in
theorem okc_236_3 : (tb_236_3.all (fun x => okE mq_236 x.1 x.2)) = true := by decide +kernel
set_option maxRecDepth 100000 in
theorem okc_236_4 : (tb_236_4.all (fun x => okE mq_236 x.1 x.2)) = true := by decide +kernel
set_option maxRecDepth 100000 in
theorem okc_236_5 : (tb_236_5.all (fun x => okE mq_236 x.1 x.2)) = true := by decide +kernel
set_option maxRecDepth 100000 in
theorem okc_236_6 : (tb_236_6.all (fun x => okE mq_236 x.1 x.2)) = true := by decide +kernel
set_option maxRecDepth 100000 in
theorem okc_236_7 : (tb_236_7.all (fun x => okE mq_236 x.1 x.2)) = true := by decide +kernel
theorem okt_236 : okT mq_236 tb_236 = true := by
  show (List.all [(19, tb_236_0), (32, tb_236_1), (45, tb_236_2), (62, tb_236_3), (75, tb_236_4), (87, tb_236_5), (100, tb_236_6), (110, tb_236_7)] _) = true
  simp only [List.all_cons, List.all_nil, Bool.and_true, Bool.and_eq_true]
  exact ⟨okc_236_0, okc_236_1, okc_236_2, okc_236_3, okc_236_4, okc_236_5, okc_236_6, okc_236_7⟩
theorem okm_236 : okM 236 = true := by decide +kernel
def mq_237 : Mi := (yX12_noReal, cX12_noReal, 0, (some .double), [7151, 1012, 7150, 0])
set_option maxRecDepth 100000 in
theorem okc_237_0 : (tb_237_0.all (fun x => okE mq_237 x.1 x.2)) = true := by decide +kernel
theorem okt_237 : okT mq_237 tb_237 = true := by
  show (List.all [(7, tb_237_0)] _) = true
  simp only [List.all_cons, List.all_nil, Bool.and_true, Bool.and_eq_true]
  exact okc_237_0
theorem okm_237 : okM 237 = true := by decide +kernel
def mq_238 : Mi := (yX12_realOfBits, cX12_realOfBits, 2, (some .double), [7146, 1012, 7145, 0])
set_option maxRecDepth 100000 in
theorem okc_238_0 : (tb_238_0.all (fun x => okE mq_238 x.1 x.2)) = true := by decide +kernel
set_option maxRecDepth 100000 in
theorem okc_238_1 : (tb_238_1.all (fun x => okE mq_238 x.1 x.2)) = true := by decide +kernel
theorem okt_238 : okT mq_238 tb_238 = true := by
  show (List.all [(18, tb_238_0), (23, tb_238_1)] _) = true
  simp only [List.all_cons, List.all_nil, Bool.and_true, Bool.and_eq_true]
  exact ⟨okc_238_0, okc_238_1⟩
theorem okm_238 : okM 238 = true := by decide +kernel
def mq_239 : Mi := (yX12_isEndlessReal, cX12_isEndlessReal, 2, (some .boolean), [7190, 1012, 7189, 0])
set_option maxRecDepth 100000 in
theorem okc_239_0 : (tb_239_0.all (fun x => okE mq_239 x.1 x.2)) = true := by decide +kernel
set_option maxRecDepth 100000 in
theorem okc_239_1 : (tb_239_1.all (fun x => okE mq_239 x.1 x.2)) = true := by decide +kernel
theorem okt_239 : okT mq_239 tb_239 = true := by
  show (List.all [(16, tb_239_0), (22, tb_239_1)] _) = true
  simp only [List.all_cons, List.all_nil, Bool.and_true, Bool.and_eq_true]
  exact ⟨okc_239_0, okc_239_1⟩
theorem okm_239 : okM 239 = true := by decide +kernel
def mq_240 : Mi := (yX12_realPlus, cX12_realPlus, 4, (some .double), [7187, 1012, 7186, 0])
set_option maxRecDepth 100000 in
theorem okc_240_0 : (tb_240_0.all (fun x => okE mq_240 x.1 x.2)) = true := by decide +kernel
set_option maxRecDepth 100000 in
theorem okc_240_1 : (tb_240_1.all (fun x => okE mq_240 x.1 x.2)) = true := by decide +kernel
set_option maxRecDepth 100000 in
theorem okc_240_2 : (tb_240_2.all (fun x => okE mq_240 x.1 x.2)) = true := by decide +kernel
theorem okt_240 : okT mq_240 tb_240 = true := by
  show (List.all [(12, tb_240_0), (28, tb_240_1), (42, tb_240_2)] _) = true
  simp only [List.all_cons, List.all_nil, Bool.and_true, Bool.and_eq_true]
  exact ⟨okc_240_0, okc_240_1, okc_240_2⟩
theorem okm_240 : okM 240 = true := by decide +kernel
def mq_241 : Mi := (yX12_realLess, cX12_realLess, 4, (some .double), [7198, 1012, 7197, 0])
set_option maxRecDepth 100000 in
theorem okc_241_0 : (tb_241_0.all (fun x => okE mq_241 x.1 x.2)) = true := by decide +kernel
set_option maxRecDepth 100000 in
theorem okc_241_1 : (tb_241_1.all (fun x => okE mq_241 x.1 x.2)) = true := by decide +kernel
set_option maxRecDepth 100000 in
theorem okc_241_2 : (tb_241_2.all (fun x => okE mq_241 x.1 x.2)) = true := by decide +kernel
theorem okt_241 : okT mq_241 tb_241 = true := by
  show (List.all [(12, tb_241_0), (28, tb_241_1), (42, tb_241_2)] _) = true
  simp only [List.all_cons, List.all_nil, Bool.and_true, Bool.and_eq_true]
  exact ⟨okc_241_0, okc_241_1, okc_241_2⟩
theorem okm_241 : okM 241 = true := by decide +kernel
def mq_242 : Mi := (yX12_realTimes, cX12_realTimes, 4, (some .double), [7195, 1012, 7194, 0])
set_option maxRecDepth 100000 in
theorem okc_242_0 : (tb_242_0.all (fun x => okE mq_242 x.1 x.2)) = true := by decide +kernel
set_option maxRecDepth 100000 in
theorem okc_242_1 : (tb_242_1.all (fun x => okE mq_242 x.1 x.2)) = true := by decide +kernel
set_option maxRecDepth 100000 in
theorem okc_242_2 : (tb_242_2.all (fun x => okE mq_242 x.1 x.2)) = true := by decide +kernel
set_option maxRecDepth 100000 in
theorem okc_242_3 : (tb_242_3.all (fun x => okE mq_242 x.1 x.2)) = true := by decide +kernel
theorem okt_242 : okT mq_242 tb_242 = true := by
  show (List.all [(12, tb_242_0), (26, tb_242_1), (44, tb_242_2), (48, tb_242_3)] _) = true
  simp only [List.all_cons, List.all_nil, Bool.and_true, Bool.and_eq_true]
  exact ⟨okc_242_0, okc_242_1, okc_242_2, okc_242_3⟩
theorem okm_242 : okM 242 = true := by decide +kernel
def mq_243 : Mi := (yX12_realOver, cX12_realOver, 4, (some .double), [7201, 1012, 7200, 0])
set_option maxRecDepth 100000 in
theorem okc_243_0 : (tb_243_0.all (fun x => okE mq_243 x.1 x.2)) = true := by decide +kernel
set_option maxRecDepth 100000 in
theorem okc_243_1 : (tb_243_1.all (fun x => okE mq_243 x.1 x.2)) = true := by decide +kernel
set_option maxRecDepth 100000 in
theorem okc_243_2 : (tb_243_2.all (fun x => okE mq_243 x.1 x.2)) = true := by decide +kernel
set_option maxRecDepth 100000 in
theorem okc_243_3 : (tb_243_3.all (fun x => okE mq_243 x.1 x.2)) = true := by decide +kernel
theorem okt_243 : okT mq_243 tb_243 = true := by
  show (List.all [(12, tb_243_0), (28, tb_243_1), (44, tb_243_2), (48, tb_243_3)] _) = true
  simp only [List.all_cons, List.all_nil, Bool.and_true, Bool.and_eq_true]
  exact ⟨okc_243_0, okc_243_1, okc_243_2, okc_243_3⟩
theorem okm_243 : okM 243 = true := by decide +kernel
def mq_244 : Mi := (yX12_fit, cX12_fit, 11, none, [7184, 1012, 7183, 9070])
set_option maxRecDepth 100000 in
theorem okc_244_0 : (tb_244_0.all (fun x => okE mq_244 x.1 x.2)) = true := by decide +kernel
set_option maxRecDepth 100000 in
theorem okc_244_1 : (tb_244_1.all (fun x => okE mq_244 x.1 x.2)) = true := by decide +kernel
set_option maxRecDepth 100000 in
theorem okc_244_2 : (tb_244_2.all (fun x => okE mq_244 x.1 x.2)) = true := by decide +kernel
set_option maxRecDepth 100000 in
theorem okc_244_3 : (tb_244_3.all (fun x => okE mq_244 x.1 x.2)) = true := by decide +kernel
set_option maxRecDepth 100000 in
theorem okc_244_4 : (tb_244_4.all (fun x => okE mq_244 x.1 x.2)) = true := by decide +kernel
set_option maxRecDepth 100000 in
theorem okc_244_5 : (tb_244_5.all (fun x => okE mq_244 x.1 x.2)) = true := by decide +kernel
set_option maxRecDepth 100000 in
theorem okc_244_6 : (tb_244_6.all (fun x => okE mq_244 x.1 x.2)) = true := by decide +kernel
set_option maxRecDepth 100000 in
theorem okc_244_7 : (tb_244_7.all (fun x => okE mq_244 x.1 x.2)) = true := by decide +kernel
set_option maxRecDepth 100000 in
theorem okc_244_8 : (tb_244_8.all (fun x => okE mq_244 x.1 x.2)) = true := by decide +kernel
theorem okt_244 : okT mq_244 tb_244 = true := by
  show (List.all [(14, tb_244_0), (34, tb_244_1), (50, tb_244_2), (67, tb_244_3), (87, tb_244_4), (101, tb_244_5), (120, tb_244_6), (138, tb_244_7), (155, tb_244_8)] _) = true
  simp only [List.all_cons, List.all_nil, Bool.and_true, Bool.and_eq_true]
  exact ⟨okc_244_0, okc_244_1, okc_244_2, okc_244_3, okc_244_4, okc_244_5, okc_244_6, okc_244_7, okc_244_8⟩
theorem okm_244 : okM 244 = true := by decide +kernel
def mq_245 : Mi := (yX12_error, cX12_error, 2, (some .double), [7205, 1012, 7204, 9071])
set_option maxRecDepth 100000 in
theorem okc_245_0 : (tb_245_0.all (fun x => okE mq_245 x.1 x.2)) = true := by decide +kernel
set_option maxRecDepth 100000 in
theorem okc_245_1 : (tb_245_1.all (fun x => okE mq_245 x.1 x.2)) = true := by decide +kernel
set_option maxRecDepth 100000 in
theorem okc_245_2 : (tb_245_2.all (fun x => okE mq_245 x.1 x.2)) = true := by decide +kernel
theorem okt_245 : okT mq_245 tb_245 = true := by
  show (List.all [(12, tb_245_0), (30, tb_245_1), (31, tb_245_2)] _) = true
  simp only [List.all_cons, List.all_nil, Bool.and_true, Bool.and_eq_true]
  exact ⟨okc_245_0, okc_245_1, okc_245_2⟩
theorem okm_245 : okM 245 = true := by decide +kernel
def mq_246 : Mi := (yX12_root, cX12_root, 15, (some .double), [7208, 1012, 7207, 0])
set_option maxRecDepth 100000 in
theorem okc_246_0 : (tb_246_0.all (fun x => okE mq_246 x.1 x.2)) = true := by decide +kernel
set_option maxRecDepth 100000 in
theorem okc_246_1 : (tb_246_1.all (fun x => okE mq_246 x.1 x.2)) = true := by decide +kernel
set_option maxRecDepth 100000 in
theorem okc_246_2 : (tb_246_2.all (fun x => okE mq_246 x.1 x.2)) = true := by decide +kernel
set_option maxRecDepth 100000 in
theorem okc_246_3 : (tb_246_3.all (fun x => okE mq_246 x.1 x.2)) = true := by decide +kernel
set_option maxRecDepth 100000 in
theorem okc_246_4 : (tb_246_4.all (fun x => okE mq_246 x.1 x.2)) = true := by decide +kernel
set_option maxRecDepth 100000 in
theorem okc_246_5 : (tb_246_5.all (fun x => okE mq_246 x.1 x.2)) = true := by decide +kernel
set_option maxRecDepth 100000 in
theorem okc_246_6 : (tb_246_6.all (fun x => okE mq_246 x.1 x.2)) = true := by decide +kernel
set_option maxRecDepth 100000 in
theorem okc_246_7 : (tb_246_7.all (fun x => okE mq_246 x.1 x.2)) = true := by decide +kernel
set_option maxRecDepth 100000 in
theorem okc_246_8 : (tb_246_8.all (fun x => okE mq_246 x.1 x.2)) = true := by decide +kernel
set_option maxRecDepth 100000 in
theorem okc_246_9 : (tb_246_9.all (fun x => okE mq_246 x.1 x.2)) = true := by decide +kernel
set_option maxRecDepth 100000 in
theorem okc_246_10 : (tb_246_10.all (fun x => okE mq_246 x.1 x.2)) = true := by decide +kernel
theorem okt_246 : okT mq_246 tb_246 = true := by
  show (List.all [(18, tb_246_0), (38, tb_246_1), (59, tb_246_2), (82, tb_246_3), (107, tb_246_4), (125, tb_246_5), (148, tb_246_6), (170, tb_246_7), (190, tb_246_8), (209, tb_246_9), (225, tb_246_10)] _) = true
  simp only [List.all_cons, List.all_nil, Bool.and_true, Bool.and_eq_true]
  exact ⟨okc_246_0, okc_246_1, okc_246_2, okc_246_3, okc_246_4, okc_246_5, okc_246_6, okc_246_7, okc_246_8, okc_246_9, okc_246_10⟩
theorem okm_246 : okM 246 = true := by decide +kernel
def mq_247 : Mi := (yX12_even, cX12_even, 8, (some .double), [7229, 1012, 7228, 0])
set_option maxRecDepth 100000 in
theorem okc_247_0 : (tb_247_0.all (fun x => okE mq_247 x.1 x.2)) = true := by decide +kernel
set_option maxRecDepth 100000 in
theorem okc_247_1 : (tb_247_1.all (fun x => okE mq_247 x.1 x.2)) = true := by decide +kernel
set_option maxRecDepth 100000 in
theorem okc_247_2 : (tb_247_2.all (fun x => okE mq_247 x.1 x.2)) = true := by decide +kernel
set_option maxRecDepth 100000 in
theorem okc_247_3 : (tb_247_3.all (fun x => okE mq_247 x.1 x.2)) = true := by decide +kernel
set_option maxRecDepth 100000 in
theorem okc_247_4 : (tb_247_4.all (fun x => okE mq_247 x.1 x.2)) = true := by decide +kernel
set_option maxRecDepth 100000 in
theorem okc_247_5 : (tb_247_5.all (fun x => okE mq_247 x.1 x.2)) = true := by decide +kernel
set_option maxRecDepth 100000 in
theorem okc_247_6 : (tb_247_6.all (fun x => okE mq_247 x.1 x.2)) = true := by decide +kernel
set_option maxRecDepth 100000 in
theorem okc_247_7 : (tb_247_7.all (fun x => okE mq_247 x.1 x.2)) = true := by decide +kernel
theorem okt_247 : okT mq_247 tb_247 = true := by
  show (List.all [(15, tb_247_0), (30, tb_247_1), (43, tb_247_2), (56, tb_247_3), (76, tb_247_4), (91, tb_247_5), (106, tb_247_6), (110, tb_247_7)] _) = true
  simp only [List.all_cons, List.all_nil, Bool.and_true, Bool.and_eq_true]
  exact ⟨okc_247_0, okc_247_1, okc_247_2, okc_247_3, okc_247_4, okc_247_5, okc_247_6, okc_247_7⟩
theorem okm_247 : okM 247 = true := by decide +kernel
def mq_248 : Mi := (yX12_line, cX12_line, 7, (some .long), [7180, 1012, 7178, 7179])
set_option maxRecDepth 100000 in
theorem okc_248_0 : (tb_248_0.all (fun x => okE mq_248 x.1 x.2)) = true := by decide +kernel
set_option maxRecDepth 100000 in
theorem okc_248_1 : (tb_248_1.all (fun x => okE mq_248 x.1 x.2)) = true := by decide +kernel
set_option maxRecDepth 100000 in
theorem okc_248_2 : (tb_248_2.all (fun x => okE mq_248 x.1 x.2)) = true := by decide +kernel
set_option maxRecDepth 100000 in
theorem okc_248_3 : (tb_248_3.all (fun x => okE mq_248 x.1 x.2)) = true := by decide +kernel
set_option maxRecDepth 100000 in
theorem okc_248_4 : (tb_248_4.all (fun x => okE mq_248 x.1 x.2)) = true := by decide +kernel
set_option maxRecDepth 100000 in
theorem okc_248_5 : (tb_248_5.all (fun x => okE mq_248 x.1 x.2)) = true := by decide +kernel
set_option maxRecDepth 100000 in
theorem okc_248_6 : (tb_248_6.all (fun x => okE mq_248 x.1 x.2)) = true := by decide +kernel
set_option maxRecDepth 100000 in
theorem okc_248_7 : (tb_248_7.all (fun x => okE mq_248 x.1 x.2)) = true := by decide +kernel
set_option maxRecDepth 100000 in
theorem okc_248_8 : (tb_248_8.all (fun x => okE mq_248 x.1 x.2)) = true := by decide +kernel
theorem okt_248 : okT mq_248 tb_248 = true := by
  show (List.all [(16, tb_248_0), (36, tb_248_1), (53, tb_248_2), (74, tb_248_3), (92, tb_248_4), (110, tb_248_5), (130, tb_248_6), (150, tb_248_7), (163, tb_248_8)] _) = true
  simp only [List.all_cons, List.all_nil, Bool.and_true, Bool.and_eq_true]
  exact ⟨okc_248_0, okc_248_1, okc_248_2, okc_248_3, okc_248_4, okc_248_5, okc_248_6, okc_248_7, okc_248_8⟩
theorem okm_248 : okM 248 = true := by decide +kernel
def mq_249 : Mi := (yX12_along, cX12_along, 5, (some .long), [7226, 1012, 7224, 7225])
set_option maxRecDepth 100000 in
theorem okc_249_0 : (tb_249_0.all (fun x => okE mq_249 x.1 x.2)) = true := by decide +kernel
set_option maxRecDepth 100000 in
theorem okc_249_1 : (tb_249_1.all (fun x => okE mq_249 x.1 x.2)) = true := by decide +kernel
set_option maxRecDepth 100000 in
theorem okc_249_2 : (tb_249_2.all (fun x => okE mq_249 x.1 x.2)) = true := by decide +kernel
set_option maxRecDepth 100000 in
theorem okc_249_3 : (tb_249_3.all (fun x => okE mq_249 x.1 x.2)) = true := by decide +kernel
set_option maxRecDepth 100000 in
theorem okc_249_4 : (tb_249_4.all (fun x => okE mq_249 x.1 x.2)) = true := by decide +kernel
set_option maxRecDepth 100000 in
theorem okc_249_5 : (tb_249_5.all (fun x => okE mq_249 x.1 x.2)) = true := by decide +kernel
theorem okt_249 : okT mq_249 tb_249 = true := by
  show (List.all [(16, tb_249_0), (28, tb_249_1), (40, tb_249_2), (54, tb_249_3), (72, tb_249_4), (82, tb_249_5)] _) = true
  simp only [List.all_cons, List.all_nil, Bool.and_true, Bool.and_eq_true]
  exact ⟨okc_249_0, okc_249_1, okc_249_2, okc_249_3, okc_249_4, okc_249_5⟩
theorem okm_249 : okM 249 = true := by decide +kernel
def mq_250 : Mi := (yX12_isBoard, cX12_isBoard, 1, (some .boolean), [8000, 1012, 7239, 0])
set_option maxRecDepth 100000 in
theorem okc_250_0 : (tb_250_0.all (fun x => okE mq_250 x.1 x.2)) = true := by decide +kernel
set_option maxRecDepth 100000 in
theorem okc_250_1 : (tb_250_1.all (fun x => okE mq_250 x.1 x.2)) = true := by decide +kernel
theorem okt_250 : okT mq_250 tb_250 = true := by
  show (List.all [(15, tb_250_0), (16, tb_250_1)] _) = true
  simp only [List.all_cons, List.all_nil, Bool.and_true, Bool.and_eq_true]
  exact ⟨okc_250_0, okc_250_1⟩
theorem okm_250 : okM 250 = true := by decide +kernel
def mq_251 : Mi := (yX12_board, cX12_board, 5, (some .int), [7237, 1012, 7235, 7236])
set_option maxRecDepth 100000 in
theorem okc_251_0 : (tb_251_0.all (fun x => okE mq_251 x.1 x.2)) = true := by decide +kernel
set_option maxRecDepth 100000 in
theorem okc_251_1 : (tb_251_1.all (fun x => okE mq_251 x.1 x.2)) = true := by decide +kernel
set_option maxRecDepth 100000 in
theorem okc_251_2 : (tb_251_2.all (fun x => okE mq_251 x.1 x.2)) = true := by decide +kernel
set_option maxRecDepth 100000 in
theorem okc_251_3 : (tb_251_3.all (fun x => okE mq_251 x.1 x.2)) = true := by decide +kernel
set_option maxRecDepth 100000 in
theorem okc_251_4 : (tb_251_4.all (fun x => okE mq_251 x.1 x.2)) = true := by decide +kernel
set_option maxRecDepth 100000 in
theorem okc_251_5 : (tb_251_5.all (fun x => okE mq_251 x.1 x.2)) = true := by decide +kernel
set_option maxRecDepth 100000 in
theorem okc_251_6 : (tb_251_6.all (fun x => okE mq_251 x.1 x.2)) = true := by decide +kernel
theorem okt_251 : okT mq_251 tb_251 = true := by
  show (List.all [(16, tb_251_0), (30, tb_251_1), (42, tb_251_2), (54, tb_251_3), (66, tb_251_4), (78, tb_251_5), (88, tb_251_6)] _) = true
  simp only [List.all_cons, List.all_nil, Bool.and_true, Bool.and_eq_true]
  exact ⟨okc_251_0, okc_251_1, okc_251_2, okc_251_3, okc_251_4, okc_251_5, okc_251_6⟩
theorem okm_251 : okM 251 = true := by decide +kernel
def mq_252 : Mi := (yX12_clear, cX12_clear, 2, (some .int), [8004, 1012, 8002, 8003])
set_option maxRecDepth 100000 in
theorem okc_252_0 : (tb_252_0.all (fun x => okE mq_252 x.1 x.2)) = true := by decide +kernel
set_option maxRecDepth 100000 in
theorem okc_252_1 : (tb_252_1.all (fun x => okE mq_252 x.1 x.2)) = true := by decide +kernel
theorem okt_252 : okT mq_252 tb_252 = true := by
  show (List.all [(14, tb_252_0), (19, tb_252_1)] _) = true
  simp only [List.all_cons, List.all_nil, Bool.and_true, Bool.and_eq_true]
  exact ⟨okc_252_0, okc_252_1⟩
theorem okm_252 : okM 252 = true := by decide +kernel
def mq_253 : Mi := (yX12_items, cX12_items, 2, (some .int), [8008, 1012, 8006, 8007])
set_option maxRecDepth 100000 in
theorem okc_253_0 : (tb_253_0.all (fun x => okE mq_253 x.1 x.2)) = true := by decide +kernel
set_option maxRecDepth 100000 in
theorem okc_253_1 : (tb_253_1.all (fun x => okE mq_253 x.1 x.2)) = true := by decide +kernel
set_option maxRecDepth 100000 in
theorem okc_253_2 : (tb_253_2.all (fun x => okE mq_253 x.1 x.2)) = true := by decide +kernel
theorem okt_253 : okT mq_253 tb_253 = true := by
  show (List.all [(16, tb_253_0), (32, tb_253_1), (34, tb_253_2)] _) = true
  simp only [List.all_cons, List.all_nil, Bool.and_true, Bool.and_eq_true]
  exact ⟨okc_253_0, okc_253_1, okc_253_2⟩
theorem okm_253 : okM 253 = true := by decide +kernel
def mq_254 : Mi := (yX12_fill, cX12_fill, 8, (some .int), [8012, 1012, 8010, 8011])
set_option maxRecDepth 100000 in
theorem okc_254_0 : (tb_254_0.all (fun x => okE mq_254 x.1 x.2)) = true := by decide +kernel
set_option maxRecDepth 100000 in
theorem okc_254_1 : (tb_254_1.all (fun x => okE mq_254 x.1 x.2)) = true := by decide +kernel
set_option maxRecDepth 100000 in
theorem okc_254_2 : (tb_254_2.all (fun x => okE mq_254 x.1 x.2)) = true := by decide +kernel
set_option maxRecDepth 100000 in
theorem okc_254_3 : (tb_254_3.all (fun x => okE mq_254 x.1 x.2)) = true := by decide +kernel
set_option maxRecDepth 100000 in
theorem okc_254_4 : (tb_254_4.all (fun x => okE mq_254 x.1 x.2)) = true := by decide +kernel
set_option maxRecDepth 100000 in
theorem okc_254_5 : (tb_254_5.all (fun x => okE mq_254 x.1 x.2)) = true := by decide +kernel
set_option maxRecDepth 100000 in
theorem okc_254_6 : (tb_254_6.all (fun x => okE mq_254 x.1 x.2)) = true := by decide +kernel
set_option maxRecDepth 100000 in
theorem okc_254_7 : (tb_254_7.all (fun x => okE mq_254 x.1 x.2)) = true := by decide +kernel
set_option maxRecDepth 100000 in
theorem okc_254_8 : (tb_254_8.all (fun x => okE mq_254 x.1 x.2)) = true := by decide +kernel
set_option maxRecDepth 100000 in
theorem okc_254_9 : (tb_254_9.all (fun x => okE mq_254 x.1 x.2)) = true := by decide +kernel
set_option maxRecDepth 100000 in
theorem okc_254_10 : (tb_254_10.all (fun x => okE mq_254 x.1 x.2)) = true := by decide +kernel
set_option maxRecDepth 100000 in
theorem okc_254_11 : (tb_254_11.all (fun x => okE mq_254 x.1 x.2)) = true := by decide +kernel
theorem okt_254 : okT mq_254 tb_254 = true := by
  show (List.all [(25, tb_254_0), (45, tb_254_1), (65, tb_254_2), (87, tb_254_3), (105, tb_254_4), (125, tb_254_5), (148, tb_254_6), (168, tb_254_7), (189, tb_254_8), (209, tb_254_9), (231, tb_254_10), (245, tb_254_11)] _) = true
  simp only [List.all_cons, List.all_nil, Bool.and_true, Bool.and_eq_true]
  exact ⟨okc_254_0, okc_254_1, okc_254_2, okc_254_3, okc_254_4, okc_254_5, okc_254_6, okc_254_7, okc_254_8, okc_254_9, okc_254_10, okc_254_11⟩
theorem okm_254 : okM 254 = true := by decide +kernel
def mq_255 : Mi := (yX12_copy, cX12_copy, 7, (some .int), [8016, 1012, 8014, 8015])
set_option maxRecDepth 100000 in
theorem okc_255_0 : (tb_255_0.all (fun x => okE mq_255 x.1 x.2)) = true := by decide +kernel
set_option maxRecDepth 100000 in
theorem okc_255_1 : (tb_255_1.all (fun x => okE mq_255 x.1 x.2)) = true := by decide +kernel
set_option maxRecDepth 100000 in
theorem okc_255_2 : (tb_255_2.all (fun x => okE mq_255 x.1 x.2)) = true := by decide +kernel
set_option maxRecDepth 100000 in
theorem okc_255_3 : (tb_255_3.all (fun x => okE mq_255 x.1 x.2)) = true := by decide +kernel
set_option maxRecDepth 100000 in
theorem okc_255_4 : (tb_255_4.all (fun x => okE mq_255 x.1 x.2)) = true := by decide +kernel
set_option maxRecDepth 100000 in
theorem okc_255_5 : (tb_255_5.all (fun x => okE mq_255 x.1 x.2)) = true := by decide +kernel
set_option maxRecDepth 100000 in
theorem okc_255_6 : (tb_255_6.all (fun x => okE mq_255 x.1 x.2)) = true := by decide +kernel
set_option maxRecDepth 100000 in
theorem okc_255_7 : (tb_255_7.all (fun x => okE mq_255 x.1 x.2)) = true := by decide +kernel
set_option maxRecDepth 100000 in
theorem okc_255_8 : (tb_255_8.all (fun x => okE mq_255 x.1 x.2)) = true := by decide +kernel
set_option maxRecDepth 100000 in
theorem okc_255_9 : (tb_255_9.all (fun x => okE mq_255 x.1 x.2)) = true := by decide +kernel
set_option maxRecDepth 100000 in
theorem okc_255_10 : (tb_255_10.all (fun x => okE mq_255 x.1 x.2)) = true := by decide +kernel
set_option maxRecDepth 100000 in
theorem okc_255_11 : (tb_255_11.all (fun x => okE mq_255 x.1 x.2)) = true := by decide +kernel
set_option maxRecDepth 100000 in
theorem okc_255_12 : (tb_255_12.all (fun x => okE mq_255 x.1 x.2)) = true := by decide +kernel
theorem okt_255 : okT mq_255 tb_255 = true := by
  show (List.all [(24, tb_255_0), (47, tb_255_1), (70, tb_255_2), (94, tb_255_3), (116, tb_255_4), (140, tb_255_5), (160, tb_255_6), (181, tb_255_7), (205, tb_255_8), (227, tb_255_9), (248, tb_255_10), (269, tb_255_11), (278, tb_255_12)] _) = true
  simp only [List.all_cons, List.all_nil, Bool.and_true, Bool.and_eq_true]
  exact ⟨okc_255_0, okc_255_1, okc_255_2, okc_255_3, okc_255_4, okc_255_5, okc_255_6, okc_255_7, okc_255_8, okc_255_9, okc_255_10, okc_255_11, okc_255_12⟩
theorem okm_255 : okM 255 = true := by decide +kernel
def mq_256 : Mi := (yX12_item, cX12_item, 6, (some .long), [8020, 1012, 8018, 8019])
set_option maxRecDepth 100000 in
theorem okc_256_0 : (tb_256_0.all (fun x => okE mq_256 x.1 x.2)) = true := by decide +kernel
set_option maxRecDepth 100000 in
theorem okc_256_1 : (tb_256_1.all (fun x => okE mq_256 x.1 x.2)) = true := by decide +kernel
set_option maxRecDepth 100000 in
theorem okc_256_2 : (tb_256_2.all (fun x => okE mq_256 x.1 x.2)) = true := by decide +kernel
set_option maxRecDepth 100000 in
theorem okc_256_3 : (tb_256_3.all (fun x => okE mq_256 x.1 x.2)) = true := by decide +kernel
set_option maxRecDepth 100000 in
theorem okc_256_4 : (tb_256_4.all (fun x => okE mq_256 x.1 x.2)) = true := by decide +kernel
set_option maxRecDepth 100000 in
theorem okc_256_5 : (tb_256_5.all (fun x => okE mq_256 x.1 x.2)) = true := by decide +kernel
set_option maxRecDepth 100000 in
theorem okc_256_6 : (tb_256_6.all (fun x => okE mq_256 x.1 x.2)) = true := by decide +kernel
set_option maxRecDepth 100000 in
theorem okc_256_7 : (tb_256_7.all (fun x => okE mq_256 x.1 x.2)) = true := by decide +kernel
theorem okt_256 : okT mq_256 tb_256 = true := by
  show (List.all [(17, tb_256_0), (33, tb_256_1), (48, tb_256_2), (63, tb_256_3), (80, tb_256_4), (93, tb_256_5), (111, tb_256_6), (114, tb_256_7)] _) = true
  simp only [List.all_cons, List.all_nil, Bool.and_true, Bool.and_eq_true]
  exact ⟨okc_256_0, okc_256_1, okc_256_2, okc_256_3, okc_256_4, okc_256_5, okc_256_6, okc_256_7⟩
theorem okm_256 : okM 256 = true := by decide +kernel
def mq_257 : Mi := (yJ6_bitCount_0f7a4, cJ6_bitCount_0f7a4, 1, (some .int), [2051, 1010, 2050, 0])
set_option maxRecDepth 100000 in
theorem okc_257_0 : (tb_257_0.all (fun x => okE mq_257 x.1 x.2)) = true := by decide +kernel
set_option maxRecDepth 100000 in
theorem okc_257_1 : (tb_257_1.all (fun x => okE mq_257 x.1 x.2)) = true := by decide +kernel
set_option maxRecDepth 100000 in
theorem okc_257_2 : (tb_257_2.all (fun x => okE mq_257 x.1 x.2)) = true := by decide +kernel
set_option maxRecDepth 100000 in
theorem okc_257_3 : (tb_257_3.all (fun x => okE mq_257 x.1 x.2)) = true := by decide +kernel
set_option maxRecDepth 100000 in
theorem okc_257_4 : (tb_257_4.all (fun x => okE mq_257 x.1 x.2)) = true := by decide +kernel
set_option maxRecDepth 100000 in
theorem okc_257_5 : (tb_257_5.all (fun x => okE mq_257 x.1 x.2)) = true := by decide +kernel
theorem okt_257 : okT mq_257 tb_257 = true := by
  show (List.all [(10, tb_257_0), (22, tb_257_1), (32, tb_257_2), (41, tb_257_3), (51, tb_257_4), (53, tb_257_5)] _) = true
  simp only [List.all_cons, List.all_nil, Bool.and_true, Bool.and_eq_true]
  exact ⟨okc_257_0, okc_257_1, okc_257_2, okc_257_3, okc_257_4, okc_257_5⟩
theorem okm_257 : okM 257 = true := by decide +kernel
def mq_258 : Mi := (yJ7_fill_d0a16, cJ7_fill_d0a16, 5, none, [4072, 1011, 4071, 0])
set_option maxRecDepth 100000 in
theorem okc_258_0 : (tb_258_0.all (fun x => okE mq_258 x.1 x.2)) = true := by decide +kernel
set_option maxRecDepth 100000 in
theorem okc_258_1 : (tb_258_1.all (fun x => okE mq_258 x.1 x.2)) = true := by decide +kernel
theorem okt_258 : okT mq_258 tb_258 = true := by
  show (List.all [(12, tb_258_0), (23, tb_258_1)] _) = true
  simp only [List.all_cons, List.all_nil, Bool.and_true, Bool.and_eq_true]
  exact ⟨okc_258_0, okc_258_1⟩
theorem okm_258 : okM 258 = true := by decide +kernel
def mq_259 : Mi := (yJ7_fill_53178, cJ7_fill_53178, 4, none, [2084, 1011, 2083, 0])
set_option maxRecDepth 100000 in
theorem okc_259_0 : (tb_259_0.all (fun x => okE mq_259 x.1 x.2)) = true := by decide +kernel
set_option maxRecDepth 100000 in
theorem okc_259_1 : (tb_259_1.all (fun x => okE mq_259 x.1 x.2)) = true := by decide +kernel
theorem okt_259 : okT mq_259 tb_259 = true := by
  show (List.all [(10, tb_259_0), (21, tb_259_1)] _) = true
  simp only [List.all_cons, List.all_nil, Bool.and_true, Bool.and_eq_true]
  exact ⟨okc_259_0, okc_259_1⟩
theorem okm_259 : okM 259 = true := by decide +kernel
def mq_260 : Mi := (yJ7_fill_031fb, cJ7_fill_031fb, 4, none, [3207, 1011, 3206, 0])
set_option maxRecDepth 100000 in
theorem okc_260_0 : (tb_260_0.all (fun x => okE mq_260 x.1 x.2)) = true := by decide +kernel
set_option maxRecDepth 100000 in
theorem okc_260_1 : (tb_260_1.all (fun x => okE mq_260 x.1 x.2)) = true := by decide +kernel
theorem okt_260 : okT mq_260 tb_260 = true := by
  show (List.all [(10, tb_260_0), (21, tb_260_1)] _) = true
  simp only [List.all_cons, List.all_nil, Bool.and_true, Bool.and_eq_true]
  exact ⟨okc_260_0, okc_260_1⟩
theorem okm_260 : okM 260 = true := by decide +kernel
def mq_261 : Mi := (yJxe99ae_isNaN_b9ae7, cJxe99ae_isNaN_b9ae7, 2, (some .boolean), [7214, 1022, 7213, 0])
set_option maxRecDepth 100000 in
theorem okc_261_0 : (tb_261_0.all (fun x => okE mq_261 x.1 x.2)) = true := by decide +kernel
theorem okt_261 : okT mq_261 tb_261 = true := by
  show (List.all [(12, tb_261_0)] _) = true
  simp only [List.all_cons, List.all_nil, Bool.and_true, Bool.and_eq_true]
  exact okc_261_0
theorem okm_261 : okM 261 = true := by decide +kernel
