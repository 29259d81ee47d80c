/-! the words of the methods, chunk by chunk -/
def mq_262 : Mi := (yJxe99ae_doubleToLongBits_ccdee, cJxe99ae_doubleToLongBits_ccdee, 2, (some .long), [7211, 1022, 7210, 0])
set_option maxRecDepth 100000 in
theorem okc_262_0 : (tb_262_0.all (fun x => okE mq_262 x.1 x.2)) = true := by decide +kernel
theorem okt_262 : okT mq_262 tb_262 = true := by
  show (List.all [(16, tb_262_0)] _) = true
  simp only [List.all_cons, List.all_nil, Bool.and_true, Bool.and_eq_true]
  exact okc_262_0
theorem okm_262 : okM 262 = true := by decide +kernel
def mq_263 : Mi := (yJ0_length_8abf5, cJ0_length_8abf5, 1, (some .int), [3058, 1016, 3056, 3057])
set_option maxRecDepth 100000 in
theorem okc_263_0 : (tb_263_0.all (fun x => okE mq_263 x.1 x.2)) = true := by decide +kernel
theorem okt_263 : okT mq_263 tb_263 = true := by
  show (List.all [(11, tb_263_0)] _) = true
  simp only [List.all_cons, List.all_nil, Bool.and_true, Bool.and_eq_true]
  exact okc_263_0
theorem okm_263 : okM 263 = true := by decide +kernel
def mq_264 : Mi := (yJ0_charAt_5068e, cJ0_charAt_5068e, 2, (some .char), [3068, 1016, 3066, 3067])
set_option maxRecDepth 100000 in
theorem okc_264_0 : (tb_264_0.all (fun x => okE mq_264 x.1 x.2)) = true := by decide +kernel
set_option maxRecDepth 100000 in
theorem okc_264_1 : (tb_264_1.all (fun x => okE mq_264 x.1 x.2)) = true := by decide +kernel
theorem okt_264 : okT mq_264 tb_264 = true := by
  show (List.all [(16, tb_264_0), (25, tb_264_1)] _) = true
  simp only [List.all_cons, List.all_nil, Bool.and_true, Bool.and_eq_true]
  exact ⟨okc_264_0, okc_264_1⟩
theorem okm_264 : okM 264 = true := by decide +kernel
def mq_265 : Mi := (yJ0_coder_7d493, cJ0_coder_7d493, 1, (some .byte), [3062, 1016, 3060, 3061])
set_option maxRecDepth 100000 in
theorem okc_265_0 : (tb_265_0.all (fun x => okE mq_265 x.1 x.2)) = true := by decide +kernel
theorem okt_265 : okT mq_265 tb_265 = true := by
  show (List.all [(15, tb_265_0)] _) = true
  simp only [List.all_cons, List.all_nil, Bool.and_true, Bool.and_eq_true]
  exact okc_265_0
theorem okm_265 : okM 265 = true := by decide +kernel
def mq_266 : Mi := (yJ0_isLatin1_aae02, cJ0_isLatin1_aae02, 1, (some .boolean), [3072, 1016, 3070, 3071])
set_option maxRecDepth 100000 in
theorem okc_266_0 : (tb_266_0.all (fun x => okE mq_266 x.1 x.2)) = true := by decide +kernel
set_option maxRecDepth 100000 in
theorem okc_266_1 : (tb_266_1.all (fun x => okE mq_266 x.1 x.2)) = true := by decide +kernel
theorem okt_266 : okT mq_266 tb_266 = true := by
  show (List.all [(18, tb_266_0), (19, tb_266_1)] _) = true
  simp only [List.all_cons, List.all_nil, Bool.and_true, Bool.and_eq_true]
  exact ⟨okc_266_0, okc_266_1⟩
theorem okm_266 : okM 266 = true := by decide +kernel
def mq_267 : Mi := (yJ0_checkIndex_df160, cJ0_checkIndex_df160, 2, none, [3078, 1016, 3077, 0])
set_option maxRecDepth 100000 in
theorem okc_267_0 : (tb_267_0.all (fun x => okE mq_267 x.1 x.2)) = true := by decide +kernel
theorem okt_267 : okT mq_267 tb_267 = true := by
  show (List.all [(10, tb_267_0)] _) = true
  simp only [List.all_cons, List.all_nil, Bool.and_true, Bool.and_eq_true]
  exact okc_267_0
theorem okm_267 : okM 267 = true := by decide +kernel
def mq_268 : Mi := (yJ1_charAt_3b067, cJ1_charAt_3b067, 2, (some .char), [3075, 1017, 3074, 0])
set_option maxRecDepth 100000 in
theorem okc_268_0 : (tb_268_0.all (fun x => okE mq_268 x.1 x.2)) = true := by decide +kernel
set_option maxRecDepth 100000 in
theorem okc_268_1 : (tb_268_1.all (fun x => okE mq_268 x.1 x.2)) = true := by decide +kernel
theorem okt_268 : okT mq_268 tb_268 = true := by
  show (List.all [(12, tb_268_0), (15, tb_268_1)] _) = true
  simp only [List.all_cons, List.all_nil, Bool.and_true, Bool.and_eq_true]
  exact ⟨okc_268_0, okc_268_1⟩
theorem okm_268 : okM 268 = true := by decide +kernel
def mq_269 : Mi := (yJ3_checkIndex_8e157, cJ3_checkIndex_8e157, 3, (some .int), [3083, 1018, 3082, 0])
set_option maxRecDepth 100000 in
theorem okc_269_0 : (tb_269_0.all (fun x => okE mq_269 x.1 x.2)) = true := by decide +kernel
set_option maxRecDepth 100000 in
theorem okc_269_1 : (tb_269_1.all (fun x => okE mq_269 x.1 x.2)) = true := by decide +kernel
theorem okt_269 : okT mq_269 tb_269 = true := by
  show (List.all [(16, tb_269_0), (18, tb_269_1)] _) = true
  simp only [List.all_cons, List.all_nil, Bool.and_true, Bool.and_eq_true]
  exact ⟨okc_269_0, okc_269_1⟩
theorem okm_269 : okM 269 = true := by decide +kernel
