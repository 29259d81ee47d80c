/-! the words of the methods, chunk by chunk -/
def mq_197 : Mi := (yX12_method, cX12_method, 1, (some .int), [6185, 1012, 6183, 6184])
set_option maxRecDepth 100000 in
theorem okc_197_0 : (tb_197_0.all (fun x => okE mq_197 x.1 x.2)) = true := by decide +kernel
set_option maxRecDepth 100000 in
theorem okc_197_1 : (tb_197_1.all (fun x => okE mq_197 x.1 x.2)) = true := by decide +kernel
set_option maxRecDepth 100000 in
theorem okc_197_2 : (tb_197_2.all (fun x => okE mq_197 x.1 x.2)) = true := by decide +kernel
set_option maxRecDepth 100000 in
theorem okc_197_3 : (tb_197_3.all (fun x => okE mq_197 x.1 x.2)) = true := by decide +kernel
set_option maxRecDepth 100000 in
theorem okc_197_4 : (tb_197_4.all (fun x => okE mq_197 x.1 x.2)) = true := by decide +kernel
set_option maxRecDepth 100000 in
theorem okc_197_5 : (tb_197_5.all (fun x => okE mq_197 x.1 x.2)) = true := by decide +kernel
set_option maxRecDepth 100000 in
theorem okc_197_6 : (tb_197_6.all (fun x => okE mq_197 x.1 x.2)) = true := by decide +kernel
set_option maxRecDepth 100000 in
theorem okc_197_7 : (tb_197_7.all (fun x => okE mq_197 x.1 x.2)) = true := by decide +kernel
theorem okt_197 : okT mq_197 tb_197 = true := by
  show (List.all [(17, tb_197_0), (33, tb_197_1), (48, tb_197_2), (69, tb_197_3), (87, tb_197_4), (104, tb_197_5), (119, tb_197_6), (122, tb_197_7)] _) = true
  simp only [List.all_cons, List.all_nil, Bool.and_true, Bool.and_eq_true]
  exact ⟨okc_197_0, okc_197_1, okc_197_2, okc_197_3, okc_197_4, okc_197_5, okc_197_6, okc_197_7⟩
theorem okm_197 : okM 197 = true := by decide +kernel
def mq_198 : Mi := (yX12_about, cX12_about, 3, (some .int), [7011, 1012, 7009, 7010])
set_option maxRecDepth 100000 in
theorem okc_198_0 : (tb_198_0.all (fun x => okE mq_198 x.1 x.2)) = true := by decide +kernel
set_option maxRecDepth 100000 in
theorem okc_198_1 : (tb_198_1.all (fun x => okE mq_198 x.1 x.2)) = true := by decide +kernel
set_option maxRecDepth 100000 in
theorem okc_198_2 : (tb_198_2.all (fun x => okE mq_198 x.1 x.2)) = true := by decide +kernel
set_option maxRecDepth 100000 in
theorem okc_198_3 : (tb_198_3.all (fun x => okE mq_198 x.1 x.2)) = true := by decide +kernel
theorem okt_198 : okT mq_198 tb_198 = true := by
  show (List.all [(16, tb_198_0), (28, tb_198_1), (42, tb_198_2), (43, tb_198_3)] _) = true
  simp only [List.all_cons, List.all_nil, Bool.and_true, Bool.and_eq_true]
  exact ⟨okc_198_0, okc_198_1, okc_198_2, okc_198_3⟩
theorem okm_198 : okM 198 = true := by decide +kernel
def mq_199 : Mi := (yX12_swap, cX12_swap, 5, none, [7031, 1012, 7030, 9060])
set_option maxRecDepth 100000 in
theorem okc_199_0 : (tb_199_0.all (fun x => okE mq_199 x.1 x.2)) = true := by decide +kernel
set_option maxRecDepth 100000 in
theorem okc_199_1 : (tb_199_1.all (fun x => okE mq_199 x.1 x.2)) = true := by decide +kernel
theorem okt_199 : okT mq_199 tb_199 = true := by
  show (List.all [(9, tb_199_0), (17, tb_199_1)] _) = true
  simp only [List.all_cons, List.all_nil, Bool.and_true, Bool.and_eq_true]
  exact ⟨okc_199_0, okc_199_1⟩
theorem okm_199 : okM 199 = true := by decide +kernel
def mq_200 : Mi := (yX12_twos, cX12_twos, 6, none, [7027, 1012, 7026, 9059])
set_option maxRecDepth 100000 in
theorem okc_200_0 : (tb_200_0.all (fun x => okE mq_200 x.1 x.2)) = true := by decide +kernel
set_option maxRecDepth 100000 in
theorem okc_200_1 : (tb_200_1.all (fun x => okE mq_200 x.1 x.2)) = true := by decide +kernel
set_option maxRecDepth 100000 in
theorem okc_200_2 : (tb_200_2.all (fun x => okE mq_200 x.1 x.2)) = true := by decide +kernel
set_option maxRecDepth 100000 in
theorem okc_200_3 : (tb_200_3.all (fun x => okE mq_200 x.1 x.2)) = true := by decide +kernel
set_option maxRecDepth 100000 in
theorem okc_200_4 : (tb_200_4.all (fun x => okE mq_200 x.1 x.2)) = true := by decide +kernel
set_option maxRecDepth 100000 in
theorem okc_200_5 : (tb_200_5.all (fun x => okE mq_200 x.1 x.2)) = true := by decide +kernel
theorem okt_200 : okT mq_200 tb_200 = true := by
  show (List.all [(13, tb_200_0), (30, tb_200_1), (44, tb_200_2), (63, tb_200_3), (75, tb_200_4), (79, tb_200_5)] _) = true
  simp only [List.all_cons, List.all_nil, Bool.and_true, Bool.and_eq_true]
  exact ⟨okc_200_0, okc_200_1, okc_200_2, okc_200_3, okc_200_4, okc_200_5⟩
theorem okm_200 : okM 200 = true := by decide +kernel
def mq_201 : Mi := (yX12_jump, cX12_jump, 6, none, [7035, 1012, 7034, 9061])
set_option maxRecDepth 100000 in
theorem okc_201_0 : (tb_201_0.all (fun x => okE mq_201 x.1 x.2)) = true := by decide +kernel
set_option maxRecDepth 100000 in
theorem okc_201_1 : (tb_201_1.all (fun x => okE mq_201 x.1 x.2)) = true := by decide +kernel
set_option maxRecDepth 100000 in
theorem okc_201_2 : (tb_201_2.all (fun x => okE mq_201 x.1 x.2)) = true := by decide +kernel
set_option maxRecDepth 100000 in
theorem okc_201_3 : (tb_201_3.all (fun x => okE mq_201 x.1 x.2)) = true := by decide +kernel
theorem okt_201 : okT mq_201 tb_201 = true := by
  show (List.all [(13, tb_201_0), (27, tb_201_1), (43, tb_201_2), (44, tb_201_3)] _) = true
  simp only [List.all_cons, List.all_nil, Bool.and_true, Bool.and_eq_true]
  exact ⟨okc_201_0, okc_201_1, okc_201_2, okc_201_3⟩
theorem okm_201 : okM 201 = true := by decide +kernel
def mq_202 : Mi := (yX12_does, cX12_does, 7, none, [7023, 1012, 7022, 9058])
set_option maxRecDepth 100000 in
theorem okc_202_0 : (tb_202_0.all (fun x => okE mq_202 x.1 x.2)) = true := by decide +kernel
set_option maxRecDepth 100000 in
theorem okc_202_1 : (tb_202_1.all (fun x => okE mq_202 x.1 x.2)) = true := by decide +kernel
set_option maxRecDepth 100000 in
theorem okc_202_2 : (tb_202_2.all (fun x => okE mq_202 x.1 x.2)) = true := by decide +kernel
set_option maxRecDepth 100000 in
theorem okc_202_3 : (tb_202_3.all (fun x => okE mq_202 x.1 x.2)) = true := by decide +kernel
set_option maxRecDepth 100000 in
theorem okc_202_4 : (tb_202_4.all (fun x => okE mq_202 x.1 x.2)) = true := by decide +kernel
set_option maxRecDepth 100000 in
theorem okc_202_5 : (tb_202_5.all (fun x => okE mq_202 x.1 x.2)) = true := by decide +kernel
set_option maxRecDepth 100000 in
theorem okc_202_6 : (tb_202_6.all (fun x => okE mq_202 x.1 x.2)) = true := by decide +kernel
set_option maxRecDepth 100000 in
theorem okc_202_7 : (tb_202_7.all (fun x => okE mq_202 x.1 x.2)) = true := by decide +kernel
set_option maxRecDepth 100000 in
theorem okc_202_8 : (tb_202_8.all (fun x => okE mq_202 x.1 x.2)) = true := by decide +kernel
set_option maxRecDepth 100000 in
theorem okc_202_9 : (tb_202_9.all (fun x => okE mq_202 x.1 x.2)) = true := by decide +kernel
set_option maxRecDepth 100000 in
theorem okc_202_10 : (tb_202_10.all (fun x => okE mq_202 x.1 x.2)) = true := by decide +kernel
theorem okt_202 : okT mq_202 tb_202 = true := by
  show (List.all [(22, tb_202_0), (44, tb_202_1), (64, tb_202_2), (86, tb_202_3), (108, tb_202_4), (129, tb_202_5), (156, tb_202_6), (174, tb_202_7), (196, tb_202_8), (220, tb_202_9), (227, tb_202_10)] _) = true
  simp only [List.all_cons, List.all_nil, Bool.and_true, Bool.and_eq_true]
  exact ⟨okc_202_0, okc_202_1, okc_202_2, okc_202_3, okc_202_4, okc_202_5, okc_202_6, okc_202_7, okc_202_8, okc_202_9, okc_202_10⟩
theorem okm_202 : okM 202 = true := by decide +kernel
def mq_203 : Mi := (yX12_some, cX12_some, 4, none, [7039, 1012, 7038, 9062])
set_option maxRecDepth 100000 in
theorem okc_203_0 : (tb_203_0.all (fun x => okE mq_203 x.1 x.2)) = true := by decide +kernel
set_option maxRecDepth 100000 in
theorem okc_203_1 : (tb_203_1.all (fun x => okE mq_203 x.1 x.2)) = true := by decide +kernel
set_option maxRecDepth 100000 in
theorem okc_203_2 : (tb_203_2.all (fun x => okE mq_203 x.1 x.2)) = true := by decide +kernel
set_option maxRecDepth 100000 in
theorem okc_203_3 : (tb_203_3.all (fun x => okE mq_203 x.1 x.2)) = true := by decide +kernel
theorem okt_203 : okT mq_203 tb_203 = true := by
  show (List.all [(13, tb_203_0), (25, tb_203_1), (39, tb_203_2), (47, tb_203_3)] _) = true
  simp only [List.all_cons, List.all_nil, Bool.and_true, Bool.and_eq_true]
  exact ⟨okc_203_0, okc_203_1, okc_203_2, okc_203_3⟩
theorem okm_203 : okM 203 = true := by decide +kernel
def mq_204 : Mi := (yX12_changed, cX12_changed, 3, (some .int), [7019, 1012, 7018, 9057])
set_option maxRecDepth 100000 in
theorem okc_204_0 : (tb_204_0.all (fun x => okE mq_204 x.1 x.2)) = true := by decide +kernel
set_option maxRecDepth 100000 in
theorem okc_204_1 : (tb_204_1.all (fun x => okE mq_204 x.1 x.2)) = true := by decide +kernel
set_option maxRecDepth 100000 in
theorem okc_204_2 : (tb_204_2.all (fun x => okE mq_204 x.1 x.2)) = true := by decide +kernel
theorem okt_204 : okT mq_204 tb_204 = true := by
  show (List.all [(12, tb_204_0), (26, tb_204_1), (34, tb_204_2)] _) = true
  simp only [List.all_cons, List.all_nil, Bool.and_true, Bool.and_eq_true]
  exact ⟨okc_204_0, okc_204_1, okc_204_2⟩
theorem okm_204 : okM 204 = true := by decide +kernel
def mq_205 : Mi := (yX12_change, cX12_change, 4, (some .int), [7015, 1012, 7013, 7014])
set_option maxRecDepth 100000 in
theorem okc_205_0 : (tb_205_0.all (fun x => okE mq_205 x.1 x.2)) = true := by decide +kernel
set_option maxRecDepth 100000 in
theorem okc_205_1 : (tb_205_1.all (fun x => okE mq_205 x.1 x.2)) = true := by decide +kernel
set_option maxRecDepth 100000 in
theorem okc_205_2 : (tb_205_2.all (fun x => okE mq_205 x.1 x.2)) = true := by decide +kernel
set_option maxRecDepth 100000 in
theorem okc_205_3 : (tb_205_3.all (fun x => okE mq_205 x.1 x.2)) = true := by decide +kernel
theorem okt_205 : okT mq_205 tb_205 = true := by
  show (List.all [(16, tb_205_0), (28, tb_205_1), (41, tb_205_2), (48, tb_205_3)] _) = true
  simp only [List.all_cons, List.all_nil, Bool.and_true, Bool.and_eq_true]
  exact ⟨okc_205_0, okc_205_1, okc_205_2, okc_205_3⟩
theorem okm_205 : okM 205 = true := by decide +kernel
def mq_206 : Mi := (yX12_anew, cX12_anew, 2, none, [5155, 1012, 5154, 9035])
set_option maxRecDepth 100000 in
theorem okc_206_0 : (tb_206_0.all (fun x => okE mq_206 x.1 x.2)) = true := by decide +kernel
set_option maxRecDepth 100000 in
theorem okc_206_1 : (tb_206_1.all (fun x => okE mq_206 x.1 x.2)) = true := by decide +kernel
set_option maxRecDepth 100000 in
theorem okc_206_2 : (tb_206_2.all (fun x => okE mq_206 x.1 x.2)) = true := by decide +kernel
set_option maxRecDepth 100000 in
theorem okc_206_3 : (tb_206_3.all (fun x => okE mq_206 x.1 x.2)) = true := by decide +kernel
set_option maxRecDepth 100000 in
theorem okc_206_4 : (tb_206_4.all (fun x => okE mq_206 x.1 x.2)) = true := by decide +kernel
set_option maxRecDepth 100000 in
theorem okc_206_5 : (tb_206_5.all (fun x => okE mq_206 x.1 x.2)) = true := by decide +kernel
set_option maxRecDepth 100000 in
theorem okc_206_6 : (tb_206_6.all (fun x => okE mq_206 x.1 x.2)) = true := by decide +kernel
set_option maxRecDepth 100000 in
theorem okc_206_7 : (tb_206_7.all (fun x => okE mq_206 x.1 x.2)) = true := by decide +kernel
theorem okt_206 : okT mq_206 tb_206 = true := by
  show (List.all [(15, tb_206_0), (28, tb_206_1), (44, tb_206_2), (58, tb_206_3), (73, tb_206_4), (89, tb_206_5), (105, tb_206_6), (115, tb_206_7)] _) = true
  simp only [List.all_cons, List.all_nil, Bool.and_true, Bool.and_eq_true]
  exact ⟨okc_206_0, okc_206_1, okc_206_2, okc_206_3, okc_206_4, okc_206_5, okc_206_6, okc_206_7⟩
theorem okm_206 : okM 206 = true := by decide +kernel
def mq_207 : Mi := (yX12_stage, cX12_stage, 3, (some .int), [7043, 1012, 7041, 7042])
set_option maxRecDepth 100000 in
theorem okc_207_0 : (tb_207_0.all (fun x => okE mq_207 x.1 x.2)) = true := by decide +kernel
set_option maxRecDepth 100000 in
theorem okc_207_1 : (tb_207_1.all (fun x => okE mq_207 x.1 x.2)) = true := by decide +kernel
set_option maxRecDepth 100000 in
theorem okc_207_2 : (tb_207_2.all (fun x => okE mq_207 x.1 x.2)) = true := by decide +kernel
theorem okt_207 : okT mq_207 tb_207 = true := by
  show (List.all [(13, tb_207_0), (27, tb_207_1), (29, tb_207_2)] _) = true
  simp only [List.all_cons, List.all_nil, Bool.and_true, Bool.and_eq_true]
  exact ⟨okc_207_0, okc_207_1, okc_207_2⟩
theorem okm_207 : okM 207 = true := by decide +kernel
def mq_208 : Mi := (yX12_ring, cX12_ring, 3, (some .int), [7047, 1012, 7045, 7046])
set_option maxRecDepth 100000 in
theorem okc_208_0 : (tb_208_0.all (fun x => okE mq_208 x.1 x.2)) = true := by decide +kernel
set_option maxRecDepth 100000 in
theorem okc_208_1 : (tb_208_1.all (fun x => okE mq_208 x.1 x.2)) = true := by decide +kernel
set_option maxRecDepth 100000 in
theorem okc_208_2 : (tb_208_2.all (fun x => okE mq_208 x.1 x.2)) = true := by decide +kernel
set_option maxRecDepth 100000 in
theorem okc_208_3 : (tb_208_3.all (fun x => okE mq_208 x.1 x.2)) = true := by decide +kernel
set_option maxRecDepth 100000 in
theorem okc_208_4 : (tb_208_4.all (fun x => okE mq_208 x.1 x.2)) = true := by decide +kernel
set_option maxRecDepth 100000 in
theorem okc_208_5 : (tb_208_5.all (fun x => okE mq_208 x.1 x.2)) = true := by decide +kernel
theorem okt_208 : okT mq_208 tb_208 = true := by
  show (List.all [(14, tb_208_0), (26, tb_208_1), (40, tb_208_2), (52, tb_208_3), (66, tb_208_4), (75, tb_208_5)] _) = true
  simp only [List.all_cons, List.all_nil, Bool.and_true, Bool.and_eq_true]
  exact ⟨okc_208_0, okc_208_1, okc_208_2, okc_208_3, okc_208_4, okc_208_5⟩
theorem okm_208 : okM 208 = true := by decide +kernel
def mq_209 : Mi := (yX12_call, cX12_call, 3, (some .int), [7051, 1012, 7049, 7050])
set_option maxRecDepth 100000 in
theorem okc_209_0 : (tb_209_0.all (fun x => okE mq_209 x.1 x.2)) = true := by decide +kernel
set_option maxRecDepth 100000 in
theorem okc_209_1 : (tb_209_1.all (fun x => okE mq_209 x.1 x.2)) = true := by decide +kernel
set_option maxRecDepth 100000 in
theorem okc_209_2 : (tb_209_2.all (fun x => okE mq_209 x.1 x.2)) = true := by decide +kernel
set_option maxRecDepth 100000 in
theorem okc_209_3 : (tb_209_3.all (fun x => okE mq_209 x.1 x.2)) = true := by decide +kernel
theorem okt_209 : okT mq_209 tb_209 = true := by
  show (List.all [(16, tb_209_0), (31, tb_209_1), (43, tb_209_2), (50, tb_209_3)] _) = true
  simp only [List.all_cons, List.all_nil, Bool.and_true, Bool.and_eq_true]
  exact ⟨okc_209_0, okc_209_1, okc_209_2, okc_209_3⟩
theorem okm_209 : okM 209 = true := by decide +kernel
def mq_210 : Mi := (yX12_placeOf, cX12_placeOf, 4, (some .int), [7067, 1012, 7066, 9065])
set_option maxRecDepth 100000 in
theorem okc_210_0 : (tb_210_0.all (fun x => okE mq_210 x.1 x.2)) = true := by decide +kernel
set_option maxRecDepth 100000 in
theorem okc_210_1 : (tb_210_1.all (fun x => okE mq_210 x.1 x.2)) = true := by decide +kernel
set_option maxRecDepth 100000 in
theorem okc_210_2 : (tb_210_2.all (fun x => okE mq_210 x.1 x.2)) = true := by decide +kernel
theorem okt_210 : okT mq_210 tb_210 = true := by
  show (List.all [(12, tb_210_0), (28, tb_210_1), (30, tb_210_2)] _) = true
  simp only [List.all_cons, List.all_nil, Bool.and_true, Bool.and_eq_true]
  exact ⟨okc_210_0, okc_210_1, okc_210_2⟩
theorem okm_210 : okM 210 = true := by decide +kernel
def mq_211 : Mi := (yX12_holds, cX12_holds, 6, (some .boolean), [7063, 1012, 7062, 9064])
set_option maxRecDepth 100000 in
theorem okc_211_0 : (tb_211_0.all (fun x => okE mq_211 x.1 x.2)) = true := by decide +kernel
set_option maxRecDepth 100000 in
theorem okc_211_1 : (tb_211_1.all (fun x => okE mq_211 x.1 x.2)) = true := by decide +kernel
set_option maxRecDepth 100000 in
theorem okc_211_2 : (tb_211_2.all (fun x => okE mq_211 x.1 x.2)) = true := by decide +kernel
set_option maxRecDepth 100000 in
theorem okc_211_3 : (tb_211_3.all (fun x => okE mq_211 x.1 x.2)) = true := by decide +kernel
set_option maxRecDepth 100000 in
theorem okc_211_4 : (tb_211_4.all (fun x => okE mq_211 x.1 x.2)) = true := by decide +kernel
set_option maxRecDepth 100000 in
theorem okc_211_5 : (tb_211_5.all (fun x => okE mq_211 x.1 x.2)) = true := by decide +kernel
set_option maxRecDepth 100000 in
theorem okc_211_6 : (tb_211_6.all (fun x => okE mq_211 x.1 x.2)) = true := by decide +kernel
set_option maxRecDepth 100000 in
theorem okc_211_7 : (tb_211_7.all (fun x => okE mq_211 x.1 x.2)) = true := by decide +kernel
set_option maxRecDepth 100000 in
theorem okc_211_8 : (tb_211_8.all (fun x => okE mq_211 x.1 x.2)) = true := by decide +kernel
set_option maxRecDepth 100000 in
theorem okc_211_9 : (tb_211_9.all (fun x => okE mq_211 x.1 x.2)) = true := by decide +kernel
theorem okt_211 : okT mq_211 tb_211 = true := by
  show (List.all [(19, tb_211_0), (38, tb_211_1), (58, tb_211_2), (77, tb_211_3), (100, tb_211_4), (122, tb_211_5), (139, tb_211_6), (158, tb_211_7), (177, tb_211_8), (182, tb_211_9)] _) = true
  simp only [List.all_cons, List.all_nil, Bool.and_true, Bool.and_eq_true]
  exact ⟨okc_211_0, okc_211_1, okc_211_2, okc_211_3, okc_211_4, okc_211_5, okc_211_6, okc_211_7, okc_211_8, okc_211_9⟩
theorem okm_211 : okM 211 = true := by decide +kernel
def mq_212 : Mi := (yX12_ruleOf, cX12_ruleOf, 6, (some .int), [7059, 1012, 7058, 9063])
set_option maxRecDepth 100000 in
theorem okc_212_0 : (tb_212_0.all (fun x => okE mq_212 x.1 x.2)) = true := by decide +kernel
set_option maxRecDepth 100000 in
theorem okc_212_1 : (tb_212_1.all (fun x => okE mq_212 x.1 x.2)) = true := by decide +kernel
set_option maxRecDepth 100000 in
theorem okc_212_2 : (tb_212_2.all (fun x => okE mq_212 x.1 x.2)) = true := by decide +kernel
set_option maxRecDepth 100000 in
theorem okc_212_3 : (tb_212_3.all (fun x => okE mq_212 x.1 x.2)) = true := by decide +kernel
set_option maxRecDepth 100000 in
theorem okc_212_4 : (tb_212_4.all (fun x => okE mq_212 x.1 x.2)) = true := by decide +kernel
set_option maxRecDepth 100000 in
theorem okc_212_5 : (tb_212_5.all (fun x => okE mq_212 x.1 x.2)) = true := by decide +kernel
set_option maxRecDepth 100000 in
theorem okc_212_6 : (tb_212_6.all (fun x => okE mq_212 x.1 x.2)) = true := by decide +kernel
theorem okt_212 : okT mq_212 tb_212 = true := by
  show (List.all [(12, tb_212_0), (26, tb_212_1), (41, tb_212_2), (55, tb_212_3), (69, tb_212_4), (87, tb_212_5), (88, tb_212_6)] _) = true
  simp only [List.all_cons, List.all_nil, Bool.and_true, Bool.and_eq_true]
  exact ⟨okc_212_0, okc_212_1, okc_212_2, okc_212_3, okc_212_4, okc_212_5, okc_212_6⟩
theorem okm_212 : okM 212 = true := by decide +kernel
def mq_213 : Mi := (yX12_go, cX12_go, 5, (some .int), [7055, 1012, 7053, 7054])
set_option maxRecDepth 100000 in
theorem okc_213_0 : (tb_213_0.all (fun x => okE mq_213 x.1 x.2)) = true := by decide +kernel
set_option maxRecDepth 100000 in
theorem okc_213_1 : (tb_213_1.all (fun x => okE mq_213 x.1 x.2)) = true := by decide +kernel
set_option maxRecDepth 100000 in
theorem okc_213_2 : (tb_213_2.all (fun x => okE mq_213 x.1 x.2)) = true := by decide +kernel
set_option maxRecDepth 100000 in
theorem okc_213_3 : (tb_213_3.all (fun x => okE mq_213 x.1 x.2)) = true := by decide +kernel
set_option maxRecDepth 100000 in
theorem okc_213_4 : (tb_213_4.all (fun x => okE mq_213 x.1 x.2)) = true := by decide +kernel
set_option maxRecDepth 100000 in
theorem okc_213_5 : (tb_213_5.all (fun x => okE mq_213 x.1 x.2)) = true := by decide +kernel
set_option maxRecDepth 100000 in
theorem okc_213_6 : (tb_213_6.all (fun x => okE mq_213 x.1 x.2)) = true := by decide +kernel
set_option maxRecDepth 100000 in
theorem okc_213_7 : (tb_213_7.all (fun x => okE mq_213 x.1 x.2)) = true := by decide +kernel
set_option maxRecDepth 100000 in
theorem okc_213_8 : (tb_213_8.all (fun x => okE mq_213 x.1 x.2)) = true := by decide +kernel
theorem okt_213 : okT mq_213 tb_213 = true := by
  show (List.all [(18, tb_213_0), (33, tb_213_1), (53, tb_213_2), (74, tb_213_3), (94, tb_213_4), (110, tb_213_5), (129, tb_213_6), (145, tb_213_7), (163, tb_213_8)] _) = true
  simp only [List.all_cons, List.all_nil, Bool.and_true, Bool.and_eq_true]
  exact ⟨okc_213_0, okc_213_1, okc_213_2, okc_213_3, okc_213_4, okc_213_5, okc_213_6, okc_213_7, okc_213_8⟩
theorem okm_213 : okM 213 = true := by decide +kernel
def mq_214 : Mi := (yX12_isAt, cX12_isAt, 2, (some .boolean), [7075, 1012, 7074, 9066])
set_option maxRecDepth 100000 in
theorem okc_214_0 : (tb_214_0.all (fun x => okE mq_214 x.1 x.2)) = true := by decide +kernel
set_option maxRecDepth 100000 in
theorem okc_214_1 : (tb_214_1.all (fun x => okE mq_214 x.1 x.2)) = true := by decide +kernel
theorem okt_214 : okT mq_214 tb_214 = true := by
  show (List.all [(16, tb_214_0), (25, tb_214_1)] _) = true
  simp only [List.all_cons, List.all_nil, Bool.and_true, Bool.and_eq_true]
  exact ⟨okc_214_0, okc_214_1⟩
theorem okm_214 : okM 214 = true := by decide +kernel
def mq_215 : Mi := (yX12_rowAt, cX12_rowAt, 2, (some .int), [7071, 1012, 7069, 7070])
set_option maxRecDepth 100000 in
theorem okc_215_0 : (tb_215_0.all (fun x => okE mq_215 x.1 x.2)) = true := by decide +kernel
set_option maxRecDepth 100000 in
theorem okc_215_1 : (tb_215_1.all (fun x => okE mq_215 x.1 x.2)) = true := by decide +kernel
theorem okt_215 : okT mq_215 tb_215 = true := by
  show (List.all [(14, tb_215_0), (19, tb_215_1)] _) = true
  simp only [List.all_cons, List.all_nil, Bool.and_true, Bool.and_eq_true]
  exact ⟨okc_215_0, okc_215_1⟩
theorem okm_215 : okM 215 = true := by decide +kernel
def mq_216 : Mi := (yX12_run, cX12_run, 6, (some .int), [7079, 1012, 7077, 7078])
set_option maxRecDepth 100000 in
theorem okc_216_0 : (tb_216_0.all (fun x => okE mq_216 x.1 x.2)) = true := by decide +kernel
set_option maxRecDepth 100000 in
theorem okc_216_1 : (tb_216_1.all (fun x => okE mq_216 x.1 x.2)) = true := by decide +kernel
set_option maxRecDepth 100000 in
theorem okc_216_2 : (tb_216_2.all (fun x => okE mq_216 x.1 x.2)) = true := by decide +kernel
set_option maxRecDepth 100000 in
theorem okc_216_3 : (tb_216_3.all (fun x => okE mq_216 x.1 x.2)) = true := by decide +kernel
set_option maxRecDepth 100000 in
theorem okc_216_4 : (tb_216_4.all (fun x => okE mq_216 x.1 x.2)) = true := by decide +kernel
set_option maxRecDepth 100000 in
theorem okc_216_5 : (tb_216_5.all (fun x => okE mq_216 x.1 x.2)) = true := by decide +kernel
set_option maxRecDepth 100000 in
theorem okc_216_6 : (tb_216_6.all (fun x => okE mq_216 x.1 x.2)) = true := by decide +kernel
set_option maxRecDepth 100000 in
theorem okc_216_7 : (tb_216_7.all (fun x => okE mq_216 x.1 x.2)) = true := by decide +kernel
set_option maxRecDepth 100000 in
theorem okc_216_8 : (tb_216_8.all (fun x => okE mq_216 x.1 x.2)) = true := by decide +kernel
set_option maxRecDepth 100000 in
theorem okc_216_9 : (tb_216_9.all (fun x => okE mq_216 x.1 x.2)) = true := by decide +kernel
theorem okt_216 : okT mq_216 tb_216 = true := by
  show (List.all [(18, tb_216_0), (35, tb_216_1), (52, tb_216_2), (70, tb_216_3), (90, tb_216_4), (111, tb_216_5), (129, tb_216_6), (146, tb_216_7), (163, tb_216_8), (172, tb_216_9)] _) = true
  simp only [List.all_cons, List.all_nil, Bool.and_true, Bool.and_eq_true]
  exact ⟨okc_216_0, okc_216_1, okc_216_2, okc_216_3, okc_216_4, okc_216_5, okc_216_6, okc_216_7, okc_216_8, okc_216_9⟩
theorem okm_216 : okM 216 = true := by decide +kernel
def mq_217 : Mi := (yX12_truth, cX12_truth, 5, (some .int), [7083, 1012, 7081, 7082])
set_option maxRecDepth 100000 in
theorem okc_217_0 : (tb_217_0.all (fun x => okE mq_217 x.1 x.2)) = true := by decide +kernel
set_option maxRecDepth 100000 in
theorem okc_217_1 : (tb_217_1.all (fun x => okE mq_217 x.1 x.2)) = true := by decide +kernel
set_option maxRecDepth 100000 in
theorem okc_217_2 : (tb_217_2.all (fun x => okE mq_217 x.1 x.2)) = true := by decide +kernel
set_option maxRecDepth 100000 in
theorem okc_217_3 : (tb_217_3.all (fun x => okE mq_217 x.1 x.2)) = true := by decide +kernel
set_option maxRecDepth 100000 in
theorem okc_217_4 : (tb_217_4.all (fun x => okE mq_217 x.1 x.2)) = true := by decide +kernel
set_option maxRecDepth 100000 in
theorem okc_217_5 : (tb_217_5.all (fun x => okE mq_217 x.1 x.2)) = true := by decide +kernel
set_option maxRecDepth 100000 in
theorem okc_217_6 : (tb_217_6.all (fun x => okE mq_217 x.1 x.2)) = true := by decide +kernel
set_option maxRecDepth 100000 in
theorem okc_217_7 : (tb_217_7.all (fun x => okE mq_217 x.1 x.2)) = true := by decide +kernel
set_option maxRecDepth 100000 in
theorem okc_217_8 : (tb_217_8.all (fun x => okE mq_217 x.1 x.2)) = true := by decide +kernel
theorem okt_217 : okT mq_217 tb_217 = true := by
  show (List.all [(16, tb_217_0), (32, tb_217_1), (46, tb_217_2), (63, tb_217_3), (79, tb_217_4), (95, tb_217_5), (110, tb_217_6), (124, tb_217_7), (130, tb_217_8)] _) = true
  simp only [List.all_cons, List.all_nil, Bool.and_true, Bool.and_eq_true]
  exact ⟨okc_217_0, okc_217_1, okc_217_2, okc_217_3, okc_217_4, okc_217_5, okc_217_6, okc_217_7, okc_217_8⟩
theorem okm_217 : okM 217 = true := by decide +kernel
def mq_218 : Mi := (yX12_generator, cX12_generator, 2, (some .int), [7087, 1012, 7085, 7086])
set_option maxRecDepth 100000 in
theorem okc_218_0 : (tb_218_0.all (fun x => okE mq_218 x.1 x.2)) = true := by decide +kernel
set_option maxRecDepth 100000 in
theorem okc_218_1 : (tb_218_1.all (fun x => okE mq_218 x.1 x.2)) = true := by decide +kernel
set_option maxRecDepth 100000 in
theorem okc_218_2 : (tb_218_2.all (fun x => okE mq_218 x.1 x.2)) = true := by decide +kernel
set_option maxRecDepth 100000 in
theorem okc_218_3 : (tb_218_3.all (fun x => okE mq_218 x.1 x.2)) = true := by decide +kernel
set_option maxRecDepth 100000 in
theorem okc_218_4 : (tb_218_4.all (fun x => okE mq_218 x.1 x.2)) = true := by decide +kernel
theorem okt_218 : okT mq_218 tb_218 = true := by
  show (List.all [(14, tb_218_0), (31, tb_218_1), (44, tb_218_2), (58, tb_218_3), (59, tb_218_4)] _) = true
  simp only [List.all_cons, List.all_nil, Bool.and_true, Bool.and_eq_true]
  exact ⟨okc_218_0, okc_218_1, okc_218_2, okc_218_3, okc_218_4⟩
theorem okm_218 : okM 218 = true := by decide +kernel
def mq_219 : Mi := (yX12_free, cX12_free, 2, (some .int), [7091, 1012, 7089, 7090])
set_option maxRecDepth 100000 in
theorem okc_219_0 : (tb_219_0.all (fun x => okE mq_219 x.1 x.2)) = true := by decide +kernel
theorem okt_219 : okT mq_219 tb_219 = true := by
  show (List.all [(12, tb_219_0)] _) = true
  simp only [List.all_cons, List.all_nil, Bool.and_true, Bool.and_eq_true]
  exact okc_219_0
theorem okm_219 : okM 219 = true := by decide +kernel
def mq_220 : Mi := (yX12_spread, cX12_spread, 5, none, [7099, 1012, 7098, 9067])
set_option maxRecDepth 100000 in
theorem okc_220_0 : (tb_220_0.all (fun x => okE mq_220 x.1 x.2)) = true := by decide +kernel
set_option maxRecDepth 100000 in
theorem okc_220_1 : (tb_220_1.all (fun x => okE mq_220 x.1 x.2)) = true := by decide +kernel
set_option maxRecDepth 100000 in
theorem okc_220_2 : (tb_220_2.all (fun x => okE mq_220 x.1 x.2)) = true := by decide +kernel
set_option maxRecDepth 100000 in
theorem okc_220_3 : (tb_220_3.all (fun x => okE mq_220 x.1 x.2)) = true := by decide +kernel
set_option maxRecDepth 100000 in
theorem okc_220_4 : (tb_220_4.all (fun x => okE mq_220 x.1 x.2)) = true := by decide +kernel
set_option maxRecDepth 100000 in
theorem okc_220_5 : (tb_220_5.all (fun x => okE mq_220 x.1 x.2)) = true := by decide +kernel
set_option maxRecDepth 100000 in
theorem okc_220_6 : (tb_220_6.all (fun x => okE mq_220 x.1 x.2)) = true := by decide +kernel
set_option maxRecDepth 100000 in
theorem okc_220_7 : (tb_220_7.all (fun x => okE mq_220 x.1 x.2)) = true := by decide +kernel
set_option maxRecDepth 100000 in
theorem okc_220_8 : (tb_220_8.all (fun x => okE mq_220 x.1 x.2)) = true := by decide +kernel
theorem okt_220 : okT mq_220 tb_220 = true := by
  show (List.all [(15, tb_220_0), (32, tb_220_1), (45, tb_220_2), (58, tb_220_3), (75, tb_220_4), (89, tb_220_5), (106, tb_220_6), (121, tb_220_7), (139, tb_220_8)] _) = true
  simp only [List.all_cons, List.all_nil, Bool.and_true, Bool.and_eq_true]
  exact ⟨okc_220_0, okc_220_1, okc_220_2, okc_220_3, okc_220_4, okc_220_5, okc_220_6, okc_220_7, okc_220_8⟩
theorem okm_220 : okM 220 = true := by decide +kernel
def mq_221 : Mi := (yX12_group, cX12_group, 1, (some .int), [7095, 1012, 7093, 7094])
set_option maxRecDepth 100000 in
theorem okc_221_0 : (tb_221_0.all (fun x => okE mq_221 x.1 x.2)) = true := by decide +kernel
set_option maxRecDepth 100000 in
theorem okc_221_1 : (tb_221_1.all (fun x => okE mq_221 x.1 x.2)) = true := by decide +kernel
theorem okt_221 : okT mq_221 tb_221 = true := by
  show (List.all [(16, tb_221_0), (21, tb_221_1)] _) = true
  simp only [List.all_cons, List.all_nil, Bool.and_true, Bool.and_eq_true]
  exact ⟨okc_221_0, okc_221_1⟩
theorem okm_221 : okM 221 = true := by decide +kernel
def mq_222 : Mi := (yX12_coset, cX12_coset, 5, (some .int), [7103, 1012, 7101, 7102])
set_option maxRecDepth 100000 in
theorem okc_222_0 : (tb_222_0.all (fun x => okE mq_222 x.1 x.2)) = true := by decide +kernel
set_option maxRecDepth 100000 in
theorem okc_222_1 : (tb_222_1.all (fun x => okE mq_222 x.1 x.2)) = true := by decide +kernel
set_option maxRecDepth 100000 in
theorem okc_222_2 : (tb_222_2.all (fun x => okE mq_222 x.1 x.2)) = true := by decide +kernel
set_option maxRecDepth 100000 in
theorem okc_222_3 : (tb_222_3.all (fun x => okE mq_222 x.1 x.2)) = true := by decide +kernel
set_option maxRecDepth 100000 in
theorem okc_222_4 : (tb_222_4.all (fun x => okE mq_222 x.1 x.2)) = true := by decide +kernel
set_option maxRecDepth 100000 in
theorem okc_222_5 : (tb_222_5.all (fun x => okE mq_222 x.1 x.2)) = true := by decide +kernel
set_option maxRecDepth 100000 in
theorem okc_222_6 : (tb_222_6.all (fun x => okE mq_222 x.1 x.2)) = true := by decide +kernel
theorem okt_222 : okT mq_222 tb_222 = true := by
  show (List.all [(14, tb_222_0), (30, tb_222_1), (45, tb_222_2), (57, tb_222_3), (71, tb_222_4), (86, tb_222_5), (94, tb_222_6)] _) = true
  simp only [List.all_cons, List.all_nil, Bool.and_true, Bool.and_eq_true]
  exact ⟨okc_222_0, okc_222_1, okc_222_2, okc_222_3, okc_222_4, okc_222_5, okc_222_6⟩
theorem okm_222 : okM 222 = true := by decide +kernel
def mq_223 : Mi := (yX12_heads, cX12_heads, 5, (some .int), [7107, 1012, 7105, 7106])
set_option maxRecDepth 100000 in
theorem okc_223_0 : (tb_223_0.all (fun x => okE mq_223 x.1 x.2)) = true := by decide +kernel
set_option maxRecDepth 100000 in
theorem okc_223_1 : (tb_223_1.all (fun x => okE mq_223 x.1 x.2)) = true := by decide +kernel
set_option maxRecDepth 100000 in
theorem okc_223_2 : (tb_223_2.all (fun x => okE mq_223 x.1 x.2)) = true := by decide +kernel
set_option maxRecDepth 100000 in
theorem okc_223_3 : (tb_223_3.all (fun x => okE mq_223 x.1 x.2)) = true := by decide +kernel
set_option maxRecDepth 100000 in
theorem okc_223_4 : (tb_223_4.all (fun x => okE mq_223 x.1 x.2)) = true := by decide +kernel
set_option maxRecDepth 100000 in
theorem okc_223_5 : (tb_223_5.all (fun x => okE mq_223 x.1 x.2)) = true := by decide +kernel
set_option maxRecDepth 100000 in
theorem okc_223_6 : (tb_223_6.all (fun x => okE mq_223 x.1 x.2)) = true := by decide +kernel
set_option maxRecDepth 100000 in
theorem okc_223_7 : (tb_223_7.all (fun x => okE mq_223 x.1 x.2)) = true := by decide +kernel
set_option maxRecDepth 100000 in
theorem okc_223_8 : (tb_223_8.all (fun x => okE mq_223 x.1 x.2)) = true := by decide +kernel
set_option maxRecDepth 100000 in
theorem okc_223_9 : (tb_223_9.all (fun x => okE mq_223 x.1 x.2)) = true := by decide +kernel
set_option maxRecDepth 100000 in
theorem okc_223_10 : (tb_223_10.all (fun x => okE mq_223 x.1 x.2)) = true := by decide +kernel
theorem okt_223 : okT mq_223 tb_223 = true := by
  show (List.all [(21, tb_223_0), (36, tb_223_1), (55, tb_223_2), (72, tb_223_3), (91, tb_223_4), (111, tb_223_5), (128, tb_223_6), (149, tb_223_7), (170, tb_223_8), (189, tb_223_9), (200, tb_223_10)] _) = true
  simp only [List.all_cons, List.all_nil, Bool.and_true, Bool.and_eq_true]
  exact ⟨okc_223_0, okc_223_1, okc_223_2, okc_223_3, okc_223_4, okc_223_5, okc_223_6, okc_223_7, okc_223_8, okc_223_9, okc_223_10⟩
theorem okm_223 : okM 223 = true := by decide +kernel
def mq_224 : Mi := (yX12_head, cX12_head, 2, (some .int), [7111, 1012, 7109, 7110])
set_option maxRecDepth 100000 in
theorem okc_224_0 : (tb_224_0.all (fun x => okE mq_224 x.1 x.2)) = true := by decide +kernel
set_option maxRecDepth 100000 in
theorem okc_224_1 : (tb_224_1.all (fun x => okE mq_224 x.1 x.2)) = true := by decide +kernel
theorem okt_224 : okT mq_224 tb_224 = true := by
  show (List.all [(16, tb_224_0), (23, tb_224_1)] _) = true
  simp only [List.all_cons, List.all_nil, Bool.and_true, Bool.and_eq_true]
  exact ⟨okc_224_0, okc_224_1⟩
theorem okm_224 : okM 224 = true := by decide +kernel
def mq_225 : Mi := (yX12_ringer, cX12_ringer, 4, (some .int), [7115, 1012, 7113, 7114])
set_option maxRecDepth 100000 in
theorem okc_225_0 : (tb_225_0.all (fun x => okE mq_225 x.1 x.2)) = true := by decide +kernel
set_option maxRecDepth 100000 in
theorem okc_225_1 : (tb_225_1.all (fun x => okE mq_225 x.1 x.2)) = true := by decide +kernel
set_option maxRecDepth 100000 in
theorem okc_225_2 : (tb_225_2.all (fun x => okE mq_225 x.1 x.2)) = true := by decide +kernel
set_option maxRecDepth 100000 in
theorem okc_225_3 : (tb_225_3.all (fun x => okE mq_225 x.1 x.2)) = true := by decide +kernel
set_option maxRecDepth 100000 in
theorem okc_225_4 : (tb_225_4.all (fun x => okE mq_225 x.1 x.2)) = true := by decide +kernel
theorem okt_225 : okT mq_225 tb_225 = true := by
  show (List.all [(14, tb_225_0), (29, tb_225_1), (41, tb_225_2), (53, tb_225_3), (57, tb_225_4)] _) = true
  simp only [List.all_cons, List.all_nil, Bool.and_true, Bool.and_eq_true]
  exact ⟨okc_225_0, okc_225_1, okc_225_2, okc_225_3, okc_225_4⟩
theorem okm_225 : okM 225 = true := by decide +kernel
def mq_226 : Mi := (yX12_offset, cX12_offset, 7, (some .int), [7125, 1012, 7124, 9068])
set_option maxRecDepth 100000 in
theorem okc_226_0 : (tb_226_0.all (fun x => okE mq_226 x.1 x.2)) = true := by decide +kernel
set_option maxRecDepth 100000 in
theorem okc_226_1 : (tb_226_1.all (fun x => okE mq_226 x.1 x.2)) = true := by decide +kernel
set_option maxRecDepth 100000 in
theorem okc_226_2 : (tb_226_2.all (fun x => okE mq_226 x.1 x.2)) = true := by decide +kernel
set_option maxRecDepth 100000 in
theorem okc_226_3 : (tb_226_3.all (fun x => okE mq_226 x.1 x.2)) = true := by decide +kernel
set_option maxRecDepth 100000 in
theorem okc_226_4 : (tb_226_4.all (fun x => okE mq_226 x.1 x.2)) = true := by decide +kernel
set_option maxRecDepth 100000 in
theorem okc_226_5 : (tb_226_5.all (fun x => okE mq_226 x.1 x.2)) = true := by decide +kernel
set_option maxRecDepth 100000 in
theorem okc_226_6 : (tb_226_6.all (fun x => okE mq_226 x.1 x.2)) = true := by decide +kernel
set_option maxRecDepth 100000 in
theorem okc_226_7 : (tb_226_7.all (fun x => okE mq_226 x.1 x.2)) = true := by decide +kernel
set_option maxRecDepth 100000 in
theorem okc_226_8 : (tb_226_8.all (fun x => okE mq_226 x.1 x.2)) = true := by decide +kernel
theorem okt_226 : okT mq_226 tb_226 = true := by
  show (List.all [(14, tb_226_0), (32, tb_226_1), (45, tb_226_2), (61, tb_226_3), (79, tb_226_4), (97, tb_226_5), (113, tb_226_6), (127, tb_226_7), (130, tb_226_8)] _) = true
  simp only [List.all_cons, List.all_nil, Bool.and_true, Bool.and_eq_true]
  exact ⟨okc_226_0, okc_226_1, okc_226_2, okc_226_3, okc_226_4, okc_226_5, okc_226_6, okc_226_7, okc_226_8⟩
theorem okm_226 : okM 226 = true := by decide +kernel
def mq_227 : Mi := (yX12_band, cX12_band, 13, (some .int), [7119, 1012, 7117, 7118])
set_option maxRecDepth 100000 in
theorem okc_227_0 : (tb_227_0.all (fun x => okE mq_227 x.1 x.2)) = true := by decide +kernel
set_option maxRecDepth 100000 in
theorem okc_227_1 : (tb_227_1.all (fun x => okE mq_227 x.1 x.2)) = true := by decide +kernel
set_option maxRecDepth 100000 in
theorem okc_227_2 : (tb_227_2.all (fun x => okE mq_227 x.1 x.2)) = true := by decide +kernel
set_option maxRecDepth 100000 in
theorem okc_227_3 : (tb_227_3.all (fun x => okE mq_227 x.1 x.2)) = true := by decide +kernel
set_option maxRecDepth 100000 in
theorem okc_227_4 : (tb_227_4.all (fun x => okE mq_227 x.1 x.2)) = true := by decide +kernel
set_option maxRecDepth 100000 in
theorem okc_227_5 : (tb_227_5.all (fun x => okE mq_227 x.1 x.2)) = true := by decide +kernel
set_option maxRecDepth 100000 in
theorem okc_227_6 : (tb_227_6.all (fun x => okE mq_227 x.1 x.2)) = true := by decide +kernel
set_option maxRecDepth 100000 in
theorem okc_227_7 : (tb_227_7.all (fun x => okE mq_227 x.1 x.2)) = true := by decide +kernel
set_option maxRecDepth 100000 in
theorem okc_227_8 : (tb_227_8.all (fun x => okE mq_227 x.1 x.2)) = true := by decide +kernel
set_option maxRecDepth 100000 in
theorem okc_227_9 : (tb_227_9.all (fun x => okE mq_227 x.1 x.2)) = true := by decide +kernel
set_option maxRecDepth 100000 in
theorem okc_227_10 : (tb_227_10.all (fun x => okE mq_227 x.1 x.2)) = true := by decide +kernel
set_option maxRecDepth 100000 in
theorem okc_227_11 : (tb_227_11.all (fun x => okE mq_227 x.1 x.2)) = true := by decide +kernel
set_option maxRecDepth 100000 in
theorem okc_227_12 : (tb_227_12.all (fun x => okE mq_227 x.1 x.2)) = true := by decide +kernel
set_option maxRecDepth 100000 in
theorem okc_227_13 : (tb_227_13.all (fun x => okE mq_227 x.1 x.2)) = true := by decide +kernel
set_option maxRecDepth 100000 in
theorem okc_227_14 : (tb_227_14.all (fun x => okE mq_227 x.1 x.2)) = true := by decide +kernel
theorem okt_227 : okT mq_227 tb_227 = true := by
  show (List.all [(28, tb_227_0), (58, tb_227_1), (88, tb_227_2), (115, tb_227_3), (145, tb_227_4), (175, tb_227_5), (204, tb_227_6), (235, tb_227_7), (260, tb_227_8), (287, tb_227_9), (313, tb_227_10), (343, tb_227_11), (382, tb_227_12), (411, tb_227_13), (436, tb_227_14)] _) = true
  simp only [List.all_cons, List.all_nil, Bool.and_true, Bool.and_eq_true]
  exact ⟨okc_227_0, okc_227_1, okc_227_2, okc_227_3, okc_227_4, okc_227_5, okc_227_6, okc_227_7, okc_227_8, okc_227_9, okc_227_10, okc_227_11, okc_227_12, okc_227_13, okc_227_14⟩
theorem okm_227 : okM 227 = true := by decide +kernel
