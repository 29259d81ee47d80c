/-! the words of the methods, chunk by chunk -/
def mq_170 : Mi := (yX12_init, cX12_init, 1, none, [5149, 1012, 5148, 0])
set_option maxRecDepth 100000 in
theorem okc_170_0 : (tb_170_0.all (fun x => okE mq_170 x.1 x.2)) = true := by decide +kernel
set_option maxRecDepth 100000 in
theorem okc_170_1 : (tb_170_1.all (fun x => okE mq_170 x.1 x.2)) = true := by decide +kernel
set_option maxRecDepth 100000 in
theorem okc_170_2 : (tb_170_2.all (fun x => okE mq_170 x.1 x.2)) = true := by decide +kernel
set_option maxRecDepth 100000 in
theorem okc_170_3 : (tb_170_3.all (fun x => okE mq_170 x.1 x.2)) = true := by decide +kernel
set_option maxRecDepth 100000 in
theorem okc_170_4 : (tb_170_4.all (fun x => okE mq_170 x.1 x.2)) = true := by decide +kernel
set_option maxRecDepth 100000 in
theorem okc_170_5 : (tb_170_5.all (fun x => okE mq_170 x.1 x.2)) = true := by decide +kernel
set_option maxRecDepth 100000 in
theorem okc_170_6 : (tb_170_6.all (fun x => okE mq_170 x.1 x.2)) = true := by decide +kernel
set_option maxRecDepth 100000 in
theorem okc_170_7 : (tb_170_7.all (fun x => okE mq_170 x.1 x.2)) = true := by decide +kernel
set_option maxRecDepth 100000 in
theorem okc_170_8 : (tb_170_8.all (fun x => okE mq_170 x.1 x.2)) = true := by decide +kernel
set_option maxRecDepth 100000 in
theorem okc_170_9 : (tb_170_9.all (fun x => okE mq_170 x.1 x.2)) = true := by decide +kernel
set_option maxRecDepth 100000 in
theorem okc_170_10 : (tb_170_10.all (fun x => okE mq_170 x.1 x.2)) = true := by decide +kernel
set_option maxRecDepth 100000 in
theorem okc_170_11 : (tb_170_11.all (fun x => okE mq_170 x.1 x.2)) = true := by decide +kernel
set_option maxRecDepth 100000 in
theorem okc_170_12 : (tb_170_12.all (fun x => okE mq_170 x.1 x.2)) = true := by decide +kernel
theorem okt_170 : okT mq_170 tb_170 = true := by
  show (List.all [(27, tb_170_0), (56, tb_170_1), (87, tb_170_2), (119, tb_170_3), (150, tb_170_4), (181, tb_170_5), (210, tb_170_6), (241, tb_170_7), (269, tb_170_8), (300, tb_170_9), (330, tb_170_10), (360, tb_170_11), (376, tb_170_12)] _) = true
  simp only [List.all_cons, List.all_nil, Bool.and_true, Bool.and_eq_true]
  exact ⟨okc_170_0, okc_170_1, okc_170_2, okc_170_3, okc_170_4, okc_170_5, okc_170_6, okc_170_7, okc_170_8, okc_170_9, okc_170_10, okc_170_11, okc_170_12⟩
theorem okm_170 : okM 170 = true := by decide +kernel
def mq_171 : Mi := (yX12_into, cX12_into, 6, (some .boolean), [6133, 1012, 6132, 9037])
set_option maxRecDepth 100000 in
theorem okc_171_0 : (tb_171_0.all (fun x => okE mq_171 x.1 x.2)) = true := by decide +kernel
set_option maxRecDepth 100000 in
theorem okc_171_1 : (tb_171_1.all (fun x => okE mq_171 x.1 x.2)) = true := by decide +kernel
set_option maxRecDepth 100000 in
theorem okc_171_2 : (tb_171_2.all (fun x => okE mq_171 x.1 x.2)) = true := by decide +kernel
set_option maxRecDepth 100000 in
theorem okc_171_3 : (tb_171_3.all (fun x => okE mq_171 x.1 x.2)) = true := by decide +kernel
set_option maxRecDepth 100000 in
theorem okc_171_4 : (tb_171_4.all (fun x => okE mq_171 x.1 x.2)) = true := by decide +kernel
set_option maxRecDepth 100000 in
theorem okc_171_5 : (tb_171_5.all (fun x => okE mq_171 x.1 x.2)) = true := by decide +kernel
set_option maxRecDepth 100000 in
theorem okc_171_6 : (tb_171_6.all (fun x => okE mq_171 x.1 x.2)) = true := by decide +kernel
set_option maxRecDepth 100000 in
theorem okc_171_7 : (tb_171_7.all (fun x => okE mq_171 x.1 x.2)) = true := by decide +kernel
theorem okt_171 : okT mq_171 tb_171 = true := by
  show (List.all [(13, tb_171_0), (25, tb_171_1), (37, tb_171_2), (51, tb_171_3), (62, tb_171_4), (72, tb_171_5), (89, tb_171_6), (94, tb_171_7)] _) = true
  simp only [List.all_cons, List.all_nil, Bool.and_true, Bool.and_eq_true]
  exact ⟨okc_171_0, okc_171_1, okc_171_2, okc_171_3, okc_171_4, okc_171_5, okc_171_6, okc_171_7⟩
theorem okm_171 : okM 171 = true := by decide +kernel
def mq_172 : Mi := (yX12_asRow, cX12_asRow, 4, (some .int), [6141, 1012, 6140, 9039])
set_option maxRecDepth 100000 in
theorem okc_172_0 : (tb_172_0.all (fun x => okE mq_172 x.1 x.2)) = true := by decide +kernel
set_option maxRecDepth 100000 in
theorem okc_172_1 : (tb_172_1.all (fun x => okE mq_172 x.1 x.2)) = true := by decide +kernel
set_option maxRecDepth 100000 in
theorem okc_172_2 : (tb_172_2.all (fun x => okE mq_172 x.1 x.2)) = true := by decide +kernel
theorem okt_172 : okT mq_172 tb_172 = true := by
  show (List.all [(12, tb_172_0), (21, tb_172_1), (29, tb_172_2)] _) = true
  simp only [List.all_cons, List.all_nil, Bool.and_true, Bool.and_eq_true]
  exact ⟨okc_172_0, okc_172_1, okc_172_2⟩
theorem okm_172 : okM 172 = true := by decide +kernel
def mq_173 : Mi := (yX12_rounds, cX12_rounds, 3, (some .int), [6165, 1012, 6164, 9043])
set_option maxRecDepth 100000 in
theorem okc_173_0 : (tb_173_0.all (fun x => okE mq_173 x.1 x.2)) = true := by decide +kernel
set_option maxRecDepth 100000 in
theorem okc_173_1 : (tb_173_1.all (fun x => okE mq_173 x.1 x.2)) = true := by decide +kernel
set_option maxRecDepth 100000 in
theorem okc_173_2 : (tb_173_2.all (fun x => okE mq_173 x.1 x.2)) = true := by decide +kernel
theorem okt_173 : okT mq_173 tb_173 = true := by
  show (List.all [(12, tb_173_0), (25, tb_173_1), (27, tb_173_2)] _) = true
  simp only [List.all_cons, List.all_nil, Bool.and_true, Bool.and_eq_true]
  exact ⟨okc_173_0, okc_173_1, okc_173_2⟩
theorem okm_173 : okM 173 = true := by decide +kernel
def mq_174 : Mi := (yX12_times, cX12_times, 4, (some .int), [6137, 1012, 6136, 9038])
set_option maxRecDepth 100000 in
theorem okc_174_0 : (tb_174_0.all (fun x => okE mq_174 x.1 x.2)) = true := by decide +kernel
set_option maxRecDepth 100000 in
theorem okc_174_1 : (tb_174_1.all (fun x => okE mq_174 x.1 x.2)) = true := by decide +kernel
set_option maxRecDepth 100000 in
theorem okc_174_2 : (tb_174_2.all (fun x => okE mq_174 x.1 x.2)) = true := by decide +kernel
set_option maxRecDepth 100000 in
theorem okc_174_3 : (tb_174_3.all (fun x => okE mq_174 x.1 x.2)) = true := by decide +kernel
set_option maxRecDepth 100000 in
theorem okc_174_4 : (tb_174_4.all (fun x => okE mq_174 x.1 x.2)) = true := by decide +kernel
theorem okt_174 : okT mq_174 tb_174 = true := by
  show (List.all [(12, tb_174_0), (24, tb_174_1), (40, tb_174_2), (54, tb_174_3), (62, tb_174_4)] _) = true
  simp only [List.all_cons, List.all_nil, Bool.and_true, Bool.and_eq_true]
  exact ⟨okc_174_0, okc_174_1, okc_174_2, okc_174_3, okc_174_4⟩
theorem okm_174 : okM 174 = true := by decide +kernel
def mq_175 : Mi := (yX12_back, cX12_back, 3, (some .int), [6149, 1012, 6148, 9040])
set_option maxRecDepth 100000 in
theorem okc_175_0 : (tb_175_0.all (fun x => okE mq_175 x.1 x.2)) = true := by decide +kernel
set_option maxRecDepth 100000 in
theorem okc_175_1 : (tb_175_1.all (fun x => okE mq_175 x.1 x.2)) = true := by decide +kernel
set_option maxRecDepth 100000 in
theorem okc_175_2 : (tb_175_2.all (fun x => okE mq_175 x.1 x.2)) = true := by decide +kernel
set_option maxRecDepth 100000 in
theorem okc_175_3 : (tb_175_3.all (fun x => okE mq_175 x.1 x.2)) = true := by decide +kernel
theorem okt_175 : okT mq_175 tb_175 = true := by
  show (List.all [(12, tb_175_0), (28, tb_175_1), (40, tb_175_2), (47, tb_175_3)] _) = true
  simp only [List.all_cons, List.all_nil, Bool.and_true, Bool.and_eq_true]
  exact ⟨okc_175_0, okc_175_1, okc_175_2, okc_175_3⟩
theorem okm_175 : okM 175 = true := by decide +kernel
def mq_176 : Mi := (yX12_isRow, cX12_isRow, 2, (some .boolean), [6129, 1012, 6128, 9036])
set_option maxRecDepth 100000 in
theorem okc_176_0 : (tb_176_0.all (fun x => okE mq_176 x.1 x.2)) = true := by decide +kernel
theorem okt_176 : okT mq_176 tb_176 = true := by
  show (List.all [(10, tb_176_0)] _) = true
  simp only [List.all_cons, List.all_nil, Bool.and_true, Bool.and_eq_true]
  exact okc_176_0
theorem okm_176 : okM 176 = true := by decide +kernel
def mq_177 : Mi := (yX12_product, cX12_product, 3, (some .int), [6125, 1012, 6123, 6124])
set_option maxRecDepth 100000 in
theorem okc_177_0 : (tb_177_0.all (fun x => okE mq_177 x.1 x.2)) = true := by decide +kernel
set_option maxRecDepth 100000 in
theorem okc_177_1 : (tb_177_1.all (fun x => okE mq_177 x.1 x.2)) = true := by decide +kernel
theorem okt_177 : okT mq_177 tb_177 = true := by
  show (List.all [(16, tb_177_0), (27, tb_177_1)] _) = true
  simp only [List.all_cons, List.all_nil, Bool.and_true, Bool.and_eq_true]
  exact ⟨okc_177_0, okc_177_1⟩
theorem okm_177 : okM 177 = true := by decide +kernel
def mq_178 : Mi := (yX12_inverse, cX12_inverse, 2, (some .int), [6145, 1012, 6143, 6144])
set_option maxRecDepth 100000 in
theorem okc_178_0 : (tb_178_0.all (fun x => okE mq_178 x.1 x.2)) = true := by decide +kernel
set_option maxRecDepth 100000 in
theorem okc_178_1 : (tb_178_1.all (fun x => okE mq_178 x.1 x.2)) = true := by decide +kernel
theorem okt_178 : okT mq_178 tb_178 = true := by
  show (List.all [(16, tb_178_0), (18, tb_178_1)] _) = true
  simp only [List.all_cons, List.all_nil, Bool.and_true, Bool.and_eq_true]
  exact ⟨okc_178_0, okc_178_1⟩
theorem okm_178 : okM 178 = true := by decide +kernel
def mq_179 : Mi := (yX12_rank, cX12_rank, 6, (some .int), [6157, 1012, 6156, 9041])
set_option maxRecDepth 100000 in
theorem okc_179_0 : (tb_179_0.all (fun x => okE mq_179 x.1 x.2)) = true := by decide +kernel
set_option maxRecDepth 100000 in
theorem okc_179_1 : (tb_179_1.all (fun x => okE mq_179 x.1 x.2)) = true := by decide +kernel
set_option maxRecDepth 100000 in
theorem okc_179_2 : (tb_179_2.all (fun x => okE mq_179 x.1 x.2)) = true := by decide +kernel
set_option maxRecDepth 100000 in
theorem okc_179_3 : (tb_179_3.all (fun x => okE mq_179 x.1 x.2)) = true := by decide +kernel
set_option maxRecDepth 100000 in
theorem okc_179_4 : (tb_179_4.all (fun x => okE mq_179 x.1 x.2)) = true := by decide +kernel
set_option maxRecDepth 100000 in
theorem okc_179_5 : (tb_179_5.all (fun x => okE mq_179 x.1 x.2)) = true := by decide +kernel
set_option maxRecDepth 100000 in
theorem okc_179_6 : (tb_179_6.all (fun x => okE mq_179 x.1 x.2)) = true := by decide +kernel
theorem okt_179 : okT mq_179 tb_179 = true := by
  show (List.all [(12, tb_179_0), (25, tb_179_1), (39, tb_179_2), (53, tb_179_3), (68, tb_179_4), (80, tb_179_5), (93, tb_179_6)] _) = true
  simp only [List.all_cons, List.all_nil, Bool.and_true, Bool.and_eq_true]
  exact ⟨okc_179_0, okc_179_1, okc_179_2, okc_179_3, okc_179_4, okc_179_5, okc_179_6⟩
theorem okm_179 : okM 179 = true := by decide +kernel
def mq_180 : Mi := (yX12_isEven, cX12_isEven, 5, (some .boolean), [6161, 1012, 6160, 9042])
set_option maxRecDepth 100000 in
theorem okc_180_0 : (tb_180_0.all (fun x => okE mq_180 x.1 x.2)) = true := by decide +kernel
set_option maxRecDepth 100000 in
theorem okc_180_1 : (tb_180_1.all (fun x => okE mq_180 x.1 x.2)) = true := by decide +kernel
set_option maxRecDepth 100000 in
theorem okc_180_2 : (tb_180_2.all (fun x => okE mq_180 x.1 x.2)) = true := by decide +kernel
set_option maxRecDepth 100000 in
theorem okc_180_3 : (tb_180_3.all (fun x => okE mq_180 x.1 x.2)) = true := by decide +kernel
set_option maxRecDepth 100000 in
theorem okc_180_4 : (tb_180_4.all (fun x => okE mq_180 x.1 x.2)) = true := by decide +kernel
set_option maxRecDepth 100000 in
theorem okc_180_5 : (tb_180_5.all (fun x => okE mq_180 x.1 x.2)) = true := by decide +kernel
set_option maxRecDepth 100000 in
theorem okc_180_6 : (tb_180_6.all (fun x => okE mq_180 x.1 x.2)) = true := by decide +kernel
theorem okt_180 : okT mq_180 tb_180 = true := by
  show (List.all [(12, tb_180_0), (24, tb_180_1), (38, tb_180_2), (53, tb_180_3), (69, tb_180_4), (83, tb_180_5), (84, tb_180_6)] _) = true
  simp only [List.all_cons, List.all_nil, Bool.and_true, Bool.and_eq_true]
  exact ⟨okc_180_0, okc_180_1, okc_180_2, okc_180_3, okc_180_4, okc_180_5, okc_180_6⟩
theorem okm_180 : okM 180 = true := by decide +kernel
def mq_181 : Mi := (yX12_told, cX12_told, 5, (some .int), [6153, 1012, 6151, 6152])
set_option maxRecDepth 100000 in
theorem okc_181_0 : (tb_181_0.all (fun x => okE mq_181 x.1 x.2)) = true := by decide +kernel
set_option maxRecDepth 100000 in
theorem okc_181_1 : (tb_181_1.all (fun x => okE mq_181 x.1 x.2)) = true := by decide +kernel
set_option maxRecDepth 100000 in
theorem okc_181_2 : (tb_181_2.all (fun x => okE mq_181 x.1 x.2)) = true := by decide +kernel
set_option maxRecDepth 100000 in
theorem okc_181_3 : (tb_181_3.all (fun x => okE mq_181 x.1 x.2)) = true := by decide +kernel
set_option maxRecDepth 100000 in
theorem okc_181_4 : (tb_181_4.all (fun x => okE mq_181 x.1 x.2)) = true := by decide +kernel
set_option maxRecDepth 100000 in
theorem okc_181_5 : (tb_181_5.all (fun x => okE mq_181 x.1 x.2)) = true := by decide +kernel
theorem okt_181 : okT mq_181 tb_181 = true := by
  show (List.all [(14, tb_181_0), (26, tb_181_1), (40, tb_181_2), (52, tb_181_3), (67, tb_181_4), (80, tb_181_5)] _) = true
  simp only [List.all_cons, List.all_nil, Bool.and_true, Bool.and_eq_true]
  exact ⟨okc_181_0, okc_181_1, okc_181_2, okc_181_3, okc_181_4, okc_181_5⟩
theorem okm_181 : okM 181 = true := by decide +kernel
def mq_182 : Mi := (yX12_all, cX12_all, 3, (some .int), [6173, 1012, 6172, 9044])
set_option maxRecDepth 100000 in
theorem okc_182_0 : (tb_182_0.all (fun x => okE mq_182 x.1 x.2)) = true := by decide +kernel
set_option maxRecDepth 100000 in
theorem okc_182_1 : (tb_182_1.all (fun x => okE mq_182 x.1 x.2)) = true := by decide +kernel
theorem okt_182 : okT mq_182 tb_182 = true := by
  show (List.all [(12, tb_182_0), (24, tb_182_1)] _) = true
  simp only [List.all_cons, List.all_nil, Bool.and_true, Bool.and_eq_true]
  exact ⟨okc_182_0, okc_182_1⟩
theorem okm_182 : okM 182 = true := by decide +kernel
def mq_183 : Mi := (yX12_ofRank, cX12_ofRank, 9, (some .int), [6177, 1012, 6176, 9045])
set_option maxRecDepth 100000 in
theorem okc_183_0 : (tb_183_0.all (fun x => okE mq_183 x.1 x.2)) = true := by decide +kernel
set_option maxRecDepth 100000 in
theorem okc_183_1 : (tb_183_1.all (fun x => okE mq_183 x.1 x.2)) = true := by decide +kernel
set_option maxRecDepth 100000 in
theorem okc_183_2 : (tb_183_2.all (fun x => okE mq_183 x.1 x.2)) = true := by decide +kernel
set_option maxRecDepth 100000 in
theorem okc_183_3 : (tb_183_3.all (fun x => okE mq_183 x.1 x.2)) = true := by decide +kernel
set_option maxRecDepth 100000 in
theorem okc_183_4 : (tb_183_4.all (fun x => okE mq_183 x.1 x.2)) = true := by decide +kernel
set_option maxRecDepth 100000 in
theorem okc_183_5 : (tb_183_5.all (fun x => okE mq_183 x.1 x.2)) = true := by decide +kernel
set_option maxRecDepth 100000 in
theorem okc_183_6 : (tb_183_6.all (fun x => okE mq_183 x.1 x.2)) = true := by decide +kernel
set_option maxRecDepth 100000 in
theorem okc_183_7 : (tb_183_7.all (fun x => okE mq_183 x.1 x.2)) = true := by decide +kernel
set_option maxRecDepth 100000 in
theorem okc_183_8 : (tb_183_8.all (fun x => okE mq_183 x.1 x.2)) = true := by decide +kernel
theorem okt_183 : okT mq_183 tb_183 = true := by
  show (List.all [(13, tb_183_0), (30, tb_183_1), (40, tb_183_2), (53, tb_183_3), (69, tb_183_4), (83, tb_183_5), (99, tb_183_6), (117, tb_183_7), (120, tb_183_8)] _) = true
  simp only [List.all_cons, List.all_nil, Bool.and_true, Bool.and_eq_true]
  exact ⟨okc_183_0, okc_183_1, okc_183_2, okc_183_3, okc_183_4, okc_183_5, okc_183_6, okc_183_7, okc_183_8⟩
theorem okm_183 : okM 183 = true := by decide +kernel
def mq_184 : Mi := (yX12_ranked, cX12_ranked, 2, (some .int), [6169, 1012, 6167, 6168])
set_option maxRecDepth 100000 in
theorem okc_184_0 : (tb_184_0.all (fun x => okE mq_184 x.1 x.2)) = true := by decide +kernel
set_option maxRecDepth 100000 in
theorem okc_184_1 : (tb_184_1.all (fun x => okE mq_184 x.1 x.2)) = true := by decide +kernel
theorem okt_184 : okT mq_184 tb_184 = true := by
  show (List.all [(16, tb_184_0), (22, tb_184_1)] _) = true
  simp only [List.all_cons, List.all_nil, Bool.and_true, Bool.and_eq_true]
  exact ⟨okc_184_0, okc_184_1⟩
theorem okm_184 : okM 184 = true := by decide +kernel
def mq_185 : Mi := (yX12_feed, cX12_feed, 5, (some .int), [6181, 1012, 6179, 6180])
set_option maxRecDepth 100000 in
theorem okc_185_0 : (tb_185_0.all (fun x => okE mq_185 x.1 x.2)) = true := by decide +kernel
set_option maxRecDepth 100000 in
theorem okc_185_1 : (tb_185_1.all (fun x => okE mq_185 x.1 x.2)) = true := by decide +kernel
set_option maxRecDepth 100000 in
theorem okc_185_2 : (tb_185_2.all (fun x => okE mq_185 x.1 x.2)) = true := by decide +kernel
set_option maxRecDepth 100000 in
theorem okc_185_3 : (tb_185_3.all (fun x => okE mq_185 x.1 x.2)) = true := by decide +kernel
set_option maxRecDepth 100000 in
theorem okc_185_4 : (tb_185_4.all (fun x => okE mq_185 x.1 x.2)) = true := by decide +kernel
set_option maxRecDepth 100000 in
theorem okc_185_5 : (tb_185_5.all (fun x => okE mq_185 x.1 x.2)) = true := by decide +kernel
theorem okt_185 : okT mq_185 tb_185 = true := by
  show (List.all [(13, tb_185_0), (28, tb_185_1), (42, tb_185_2), (54, tb_185_3), (68, tb_185_4), (76, tb_185_5)] _) = true
  simp only [List.all_cons, List.all_nil, Bool.and_true, Bool.and_eq_true]
  exact ⟨okc_185_0, okc_185_1, okc_185_2, okc_185_3, okc_185_4, okc_185_5⟩
theorem okm_185 : okM 185 = true := by decide +kernel
def mq_186 : Mi := (yX12_next, cX12_next, 4, none, [6189, 1012, 6188, 9046])
set_option maxRecDepth 100000 in
theorem okc_186_0 : (tb_186_0.all (fun x => okE mq_186 x.1 x.2)) = true := by decide +kernel
set_option maxRecDepth 100000 in
theorem okc_186_1 : (tb_186_1.all (fun x => okE mq_186 x.1 x.2)) = true := by decide +kernel
set_option maxRecDepth 100000 in
theorem okc_186_2 : (tb_186_2.all (fun x => okE mq_186 x.1 x.2)) = true := by decide +kernel
set_option maxRecDepth 100000 in
theorem okc_186_3 : (tb_186_3.all (fun x => okE mq_186 x.1 x.2)) = true := by decide +kernel
set_option maxRecDepth 100000 in
theorem okc_186_4 : (tb_186_4.all (fun x => okE mq_186 x.1 x.2)) = true := by decide +kernel
set_option maxRecDepth 100000 in
theorem okc_186_5 : (tb_186_5.all (fun x => okE mq_186 x.1 x.2)) = true := by decide +kernel
set_option maxRecDepth 100000 in
theorem okc_186_6 : (tb_186_6.all (fun x => okE mq_186 x.1 x.2)) = true := by decide +kernel
set_option maxRecDepth 100000 in
theorem okc_186_7 : (tb_186_7.all (fun x => okE mq_186 x.1 x.2)) = true := by decide +kernel
set_option maxRecDepth 100000 in
theorem okc_186_8 : (tb_186_8.all (fun x => okE mq_186 x.1 x.2)) = true := by decide +kernel
set_option maxRecDepth 100000 in
theorem okc_186_9 : (tb_186_9.all (fun x => okE mq_186 x.1 x.2)) = true := by decide +kernel
set_option maxRecDepth 100000 in
theorem okc_186_10 : (tb_186_10.all (fun x => okE mq_186 x.1 x.2)) = true := by decide +kernel
set_option maxRecDepth 100000 in
theorem okc_186_11 : (tb_186_11.all (fun x => okE mq_186 x.1 x.2)) = true := by decide +kernel
set_option maxRecDepth 100000 in
theorem okc_186_12 : (tb_186_12.all (fun x => okE mq_186 x.1 x.2)) = true := by decide +kernel
theorem okt_186 : okT mq_186 tb_186 = true := by
  show (List.all [(25, tb_186_0), (52, tb_186_1), (74, tb_186_2), (102, tb_186_3), (130, tb_186_4), (157, tb_186_5), (186, tb_186_6), (212, tb_186_7), (241, tb_186_8), (267, tb_186_9), (291, tb_186_10), (319, tb_186_11), (331, tb_186_12)] _) = true
  simp only [List.all_cons, List.all_nil, Bool.and_true, Bool.and_eq_true]
  exact ⟨okc_186_0, okc_186_1, okc_186_2, okc_186_3, okc_186_4, okc_186_5, okc_186_6, okc_186_7, okc_186_8, okc_186_9, okc_186_10, okc_186_11, okc_186_12⟩
theorem okm_186 : okM 186 = true := by decide +kernel
def mq_187 : Mi := (yX12_good, cX12_good, 1, (some .boolean), [6217, 1012, 6216, 9052])
set_option maxRecDepth 100000 in
theorem okc_187_0 : (tb_187_0.all (fun x => okE mq_187 x.1 x.2)) = true := by decide +kernel
theorem okt_187 : okT mq_187 tb_187 = true := by
  show (List.all [(13, tb_187_0)] _) = true
  simp only [List.all_cons, List.all_nil, Bool.and_true, Bool.and_eq_true]
  exact okc_187_0
theorem okm_187 : okM 187 = true := by decide +kernel
def mq_188 : Mi := (yX12_wrong, cX12_wrong, 1, none, [6197, 1012, 6196, 9048])
set_option maxRecDepth 100000 in
theorem okc_188_0 : (tb_188_0.all (fun x => okE mq_188 x.1 x.2)) = true := by decide +kernel
theorem okt_188 : okT mq_188 tb_188 = true := by
  show (List.all [(16, tb_188_0)] _) = true
  simp only [List.all_cons, List.all_nil, Bool.and_true, Bool.and_eq_true]
  exact okc_188_0
theorem okm_188 : okM 188 = true := by decide +kernel
def mq_189 : Mi := (yX12_isWord, cX12_isWord, 3, (some .boolean), [6202, 1012, 6201, 9049])
set_option maxRecDepth 100000 in
theorem okc_189_0 : (tb_189_0.all (fun x => okE mq_189 x.1 x.2)) = true := by decide +kernel
set_option maxRecDepth 100000 in
theorem okc_189_1 : (tb_189_1.all (fun x => okE mq_189 x.1 x.2)) = true := by decide +kernel
set_option maxRecDepth 100000 in
theorem okc_189_2 : (tb_189_2.all (fun x => okE mq_189 x.1 x.2)) = true := by decide +kernel
set_option maxRecDepth 100000 in
theorem okc_189_3 : (tb_189_3.all (fun x => okE mq_189 x.1 x.2)) = true := by decide +kernel
set_option maxRecDepth 100000 in
theorem okc_189_4 : (tb_189_4.all (fun x => okE mq_189 x.1 x.2)) = true := by decide +kernel
theorem okt_189 : okT mq_189 tb_189 = true := by
  show (List.all [(16, tb_189_0), (28, tb_189_1), (44, tb_189_2), (56, tb_189_3), (65, tb_189_4)] _) = true
  simp only [List.all_cons, List.all_nil, Bool.and_true, Bool.and_eq_true]
  exact ⟨okc_189_0, okc_189_1, okc_189_2, okc_189_3, okc_189_4⟩
theorem okm_189 : okM 189 = true := by decide +kernel
def mq_190 : Mi := (yX12_isSign, cX12_isSign, 2, (some .boolean), [6239, 1012, 6238, 9054])
set_option maxRecDepth 100000 in
theorem okc_190_0 : (tb_190_0.all (fun x => okE mq_190 x.1 x.2)) = true := by decide +kernel
set_option maxRecDepth 100000 in
theorem okc_190_1 : (tb_190_1.all (fun x => okE mq_190 x.1 x.2)) = true := by decide +kernel
theorem okt_190 : okT mq_190 tb_190 = true := by
  show (List.all [(16, tb_190_0), (27, tb_190_1)] _) = true
  simp only [List.all_cons, List.all_nil, Bool.and_true, Bool.and_eq_true]
  exact ⟨okc_190_0, okc_190_1⟩
theorem okm_190 : okM 190 = true := by decide +kernel
def mq_191 : Mi := (yX12_sign, cX12_sign, 2, none, [7007, 1012, 7006, 9056])
set_option maxRecDepth 100000 in
theorem okc_191_0 : (tb_191_0.all (fun x => okE mq_191 x.1 x.2)) = true := by decide +kernel
set_option maxRecDepth 100000 in
theorem okc_191_1 : (tb_191_1.all (fun x => okE mq_191 x.1 x.2)) = true := by decide +kernel
theorem okt_191 : okT mq_191 tb_191 = true := by
  show (List.all [(16, tb_191_0), (27, tb_191_1)] _) = true
  simp only [List.all_cons, List.all_nil, Bool.and_true, Bool.and_eq_true]
  exact ⟨okc_191_0, okc_191_1⟩
theorem okm_191 : okM 191 = true := by decide +kernel
def mq_192 : Mi := (yX12_number, cX12_number, 4, (some .int), [6213, 1012, 6212, 9051])
set_option maxRecDepth 100000 in
theorem okc_192_0 : (tb_192_0.all (fun x => okE mq_192 x.1 x.2)) = true := by decide +kernel
set_option maxRecDepth 100000 in
theorem okc_192_1 : (tb_192_1.all (fun x => okE mq_192 x.1 x.2)) = true := by decide +kernel
set_option maxRecDepth 100000 in
theorem okc_192_2 : (tb_192_2.all (fun x => okE mq_192 x.1 x.2)) = true := by decide +kernel
set_option maxRecDepth 100000 in
theorem okc_192_3 : (tb_192_3.all (fun x => okE mq_192 x.1 x.2)) = true := by decide +kernel
theorem okt_192 : okT mq_192 tb_192 = true := by
  show (List.all [(16, tb_192_0), (32, tb_192_1), (46, tb_192_2), (48, tb_192_3)] _) = true
  simp only [List.all_cons, List.all_nil, Bool.and_true, Bool.and_eq_true]
  exact ⟨okc_192_0, okc_192_1, okc_192_2, okc_192_3⟩
theorem okm_192 : okM 192 = true := by decide +kernel
def mq_193 : Mi := (yX12_cond, cX12_cond, 3, none, [6208, 1012, 6207, 9050])
set_option maxRecDepth 100000 in
theorem okc_193_0 : (tb_193_0.all (fun x => okE mq_193 x.1 x.2)) = true := by decide +kernel
set_option maxRecDepth 100000 in
theorem okc_193_1 : (tb_193_1.all (fun x => okE mq_193 x.1 x.2)) = true := by decide +kernel
set_option maxRecDepth 100000 in
theorem okc_193_2 : (tb_193_2.all (fun x => okE mq_193 x.1 x.2)) = true := by decide +kernel
set_option maxRecDepth 100000 in
theorem okc_193_3 : (tb_193_3.all (fun x => okE mq_193 x.1 x.2)) = true := by decide +kernel
set_option maxRecDepth 100000 in
theorem okc_193_4 : (tb_193_4.all (fun x => okE mq_193 x.1 x.2)) = true := by decide +kernel
set_option maxRecDepth 100000 in
theorem okc_193_5 : (tb_193_5.all (fun x => okE mq_193 x.1 x.2)) = true := by decide +kernel
set_option maxRecDepth 100000 in
theorem okc_193_6 : (tb_193_6.all (fun x => okE mq_193 x.1 x.2)) = true := by decide +kernel
set_option maxRecDepth 100000 in
theorem okc_193_7 : (tb_193_7.all (fun x => okE mq_193 x.1 x.2)) = true := by decide +kernel
set_option maxRecDepth 100000 in
theorem okc_193_8 : (tb_193_8.all (fun x => okE mq_193 x.1 x.2)) = true := by decide +kernel
set_option maxRecDepth 100000 in
theorem okc_193_9 : (tb_193_9.all (fun x => okE mq_193 x.1 x.2)) = true := by decide +kernel
set_option maxRecDepth 100000 in
theorem okc_193_10 : (tb_193_10.all (fun x => okE mq_193 x.1 x.2)) = true := by decide +kernel
set_option maxRecDepth 100000 in
theorem okc_193_11 : (tb_193_11.all (fun x => okE mq_193 x.1 x.2)) = true := by decide +kernel
set_option maxRecDepth 100000 in
theorem okc_193_12 : (tb_193_12.all (fun x => okE mq_193 x.1 x.2)) = true := by decide +kernel
set_option maxRecDepth 100000 in
theorem okc_193_13 : (tb_193_13.all (fun x => okE mq_193 x.1 x.2)) = true := by decide +kernel
theorem okt_193 : okT mq_193 tb_193 = true := by
  show (List.all [(20, tb_193_0), (45, tb_193_1), (68, tb_193_2), (94, tb_193_3), (119, tb_193_4), (148, tb_193_5), (174, tb_193_6), (198, tb_193_7), (225, tb_193_8), (246, tb_193_9), (274, tb_193_10), (302, tb_193_11), (328, tb_193_12), (346, tb_193_13)] _) = true
  simp only [List.all_cons, List.all_nil, Bool.and_true, Bool.and_eq_true]
  exact ⟨okc_193_0, okc_193_1, okc_193_2, okc_193_3, okc_193_4, okc_193_5, okc_193_6, okc_193_7, okc_193_8, okc_193_9, okc_193_10, okc_193_11, okc_193_12, okc_193_13⟩
theorem okm_193 : okM 193 = true := by decide +kernel
def mq_194 : Mi := (yX12_arePlaces, cX12_arePlaces, 5, (some .boolean), [7003, 1012, 7002, 9055])
set_option maxRecDepth 100000 in
theorem okc_194_0 : (tb_194_0.all (fun x => okE mq_194 x.1 x.2)) = true := by decide +kernel
set_option maxRecDepth 100000 in
theorem okc_194_1 : (tb_194_1.all (fun x => okE mq_194 x.1 x.2)) = true := by decide +kernel
set_option maxRecDepth 100000 in
theorem okc_194_2 : (tb_194_2.all (fun x => okE mq_194 x.1 x.2)) = true := by decide +kernel
set_option maxRecDepth 100000 in
theorem okc_194_3 : (tb_194_3.all (fun x => okE mq_194 x.1 x.2)) = true := by decide +kernel
set_option maxRecDepth 100000 in
theorem okc_194_4 : (tb_194_4.all (fun x => okE mq_194 x.1 x.2)) = true := by decide +kernel
set_option maxRecDepth 100000 in
theorem okc_194_5 : (tb_194_5.all (fun x => okE mq_194 x.1 x.2)) = true := by decide +kernel
set_option maxRecDepth 100000 in
theorem okc_194_6 : (tb_194_6.all (fun x => okE mq_194 x.1 x.2)) = true := by decide +kernel
set_option maxRecDepth 100000 in
theorem okc_194_7 : (tb_194_7.all (fun x => okE mq_194 x.1 x.2)) = true := by decide +kernel
theorem okt_194 : okT mq_194 tb_194 = true := by
  show (List.all [(14, tb_194_0), (26, tb_194_1), (41, tb_194_2), (56, tb_194_3), (69, tb_194_4), (84, tb_194_5), (96, tb_194_6), (105, tb_194_7)] _) = true
  simp only [List.all_cons, List.all_nil, Bool.and_true, Bool.and_eq_true]
  exact ⟨okc_194_0, okc_194_1, okc_194_2, okc_194_3, okc_194_4, okc_194_5, okc_194_6, okc_194_7⟩
theorem okm_194 : okM 194 = true := by decide +kernel
def mq_195 : Mi := (yX12_node, cX12_node, 6, (some .int), [6228, 1012, 6227, 9053])
set_option maxRecDepth 100000 in
theorem okc_195_0 : (tb_195_0.all (fun x => okE mq_195 x.1 x.2)) = true := by decide +kernel
set_option maxRecDepth 100000 in
theorem okc_195_1 : (tb_195_1.all (fun x => okE mq_195 x.1 x.2)) = true := by decide +kernel
set_option maxRecDepth 100000 in
theorem okc_195_2 : (tb_195_2.all (fun x => okE mq_195 x.1 x.2)) = true := by decide +kernel
set_option maxRecDepth 100000 in
theorem okc_195_3 : (tb_195_3.all (fun x => okE mq_195 x.1 x.2)) = true := by decide +kernel
set_option maxRecDepth 100000 in
theorem okc_195_4 : (tb_195_4.all (fun x => okE mq_195 x.1 x.2)) = true := by decide +kernel
set_option maxRecDepth 100000 in
theorem okc_195_5 : (tb_195_5.all (fun x => okE mq_195 x.1 x.2)) = true := by decide +kernel
set_option maxRecDepth 100000 in
theorem okc_195_6 : (tb_195_6.all (fun x => okE mq_195 x.1 x.2)) = true := by decide +kernel
set_option maxRecDepth 100000 in
theorem okc_195_7 : (tb_195_7.all (fun x => okE mq_195 x.1 x.2)) = true := by decide +kernel
set_option maxRecDepth 100000 in
theorem okc_195_8 : (tb_195_8.all (fun x => okE mq_195 x.1 x.2)) = true := by decide +kernel
set_option maxRecDepth 100000 in
theorem okc_195_9 : (tb_195_9.all (fun x => okE mq_195 x.1 x.2)) = true := by decide +kernel
set_option maxRecDepth 100000 in
theorem okc_195_10 : (tb_195_10.all (fun x => okE mq_195 x.1 x.2)) = true := by decide +kernel
set_option maxRecDepth 100000 in
theorem okc_195_11 : (tb_195_11.all (fun x => okE mq_195 x.1 x.2)) = true := by decide +kernel
set_option maxRecDepth 100000 in
theorem okc_195_12 : (tb_195_12.all (fun x => okE mq_195 x.1 x.2)) = true := by decide +kernel
set_option maxRecDepth 100000 in
theorem okc_195_13 : (tb_195_13.all (fun x => okE mq_195 x.1 x.2)) = true := by decide +kernel
set_option maxRecDepth 100000 in
theorem okc_195_14 : (tb_195_14.all (fun x => okE mq_195 x.1 x.2)) = true := by decide +kernel
set_option maxRecDepth 100000 in
theorem okc_195_15 : (tb_195_15.all (fun x => okE mq_195 x.1 x.2)) = true := by decide +kernel
set_option maxRecDepth 100000 in
theorem okc_195_16 : (tb_195_16.all (fun x => okE mq_195 x.1 x.2)) = true := by decide +kernel
theorem okt_195 : okT mq_195 tb_195 = true := by
  show (List.all [(37, tb_195_0), (77, tb_195_1), (110, tb_195_2), (138, tb_195_3), (168, tb_195_4), (204, tb_195_5), (243, tb_195_6), (276, tb_195_7), (307, tb_195_8), (338, tb_195_9), (369, tb_195_10), (400, tb_195_11), (428, tb_195_12), (458, tb_195_13), (490, tb_195_14), (521, tb_195_15), (526, tb_195_16)] _) = true
  simp only [List.all_cons, List.all_nil, Bool.and_true, Bool.and_eq_true]
  exact ⟨okc_195_0, okc_195_1, okc_195_2, okc_195_3, okc_195_4, okc_195_5, okc_195_6, okc_195_7, okc_195_8, okc_195_9, okc_195_10, okc_195_11, okc_195_12, okc_195_13, okc_195_14, okc_195_15, okc_195_16⟩
theorem okm_195 : okM 195 = true := by decide +kernel
def mq_196 : Mi := (yX12_rule, cX12_rule, 3, none, [6193, 1012, 6192, 9047])
set_option maxRecDepth 100000 in
theorem okc_196_0 : (tb_196_0.all (fun x => okE mq_196 x.1 x.2)) = true := by decide +kernel
set_option maxRecDepth 100000 in
theorem okc_196_1 : (tb_196_1.all (fun x => okE mq_196 x.1 x.2)) = true := by decide +kernel
set_option maxRecDepth 100000 in
theorem okc_196_2 : (tb_196_2.all (fun x => okE mq_196 x.1 x.2)) = true := by decide +kernel
set_option maxRecDepth 100000 in
theorem okc_196_3 : (tb_196_3.all (fun x => okE mq_196 x.1 x.2)) = true := by decide +kernel
set_option maxRecDepth 100000 in
theorem okc_196_4 : (tb_196_4.all (fun x => okE mq_196 x.1 x.2)) = true := by decide +kernel
set_option maxRecDepth 100000 in
theorem okc_196_5 : (tb_196_5.all (fun x => okE mq_196 x.1 x.2)) = true := by decide +kernel
set_option maxRecDepth 100000 in
theorem okc_196_6 : (tb_196_6.all (fun x => okE mq_196 x.1 x.2)) = true := by decide +kernel
set_option maxRecDepth 100000 in
theorem okc_196_7 : (tb_196_7.all (fun x => okE mq_196 x.1 x.2)) = true := by decide +kernel
theorem okt_196 : okT mq_196 tb_196 = true := by
  show (List.all [(16, tb_196_0), (32, tb_196_1), (47, tb_196_2), (58, tb_196_3), (77, tb_196_4), (98, tb_196_5), (115, tb_196_6), (125, tb_196_7)] _) = true
  simp only [List.all_cons, List.all_nil, Bool.and_true, Bool.and_eq_true]
  exact ⟨okc_196_0, okc_196_1, okc_196_2, okc_196_3, okc_196_4, okc_196_5, okc_196_6, okc_196_7⟩
theorem okm_196 : okM 196 = true := by decide +kernel
