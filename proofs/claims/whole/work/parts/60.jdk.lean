/-! methods of the JDK in segments; printed by program (seg.py) -/
/-- java/util/Arrays.fill([JJ)V -/
theorem tr_258 (d : Nat) (w : Wd) (p0 : Nat) (x1 : Int64)    (m_p0 : Nat) (hk_p0 : wK w p0 = (23, m_p0)) : val (258, d, 0, [some (.ref p0), some (.long x1), none, none, none], [], w) = val (258, d, 6, [some (.ref p0), some (.long x1), none, some (.int 0), some (.int (Int32.ofNat m_p0))], [], w) := by
  refine (val_g (c2 := (258, d, 1, [some (.ref p0), some (.long x1), none, none, none], [.int 0], w)) rfl).trans ?_
  refine (val_g (c2 := (258, d, 2, [some (.ref p0), some (.long x1), none, some (.int 0), none], [], w)) rfl).trans ?_
  refine (val_g (c2 := (258, d, 3, [some (.ref p0), some (.long x1), none, some (.int 0), none], [.ref p0], w)) rfl).trans ?_
  refine (val_alen rfl hk_p0 rfl).trans ?_
  show val (258, d, 4, [some (.ref p0), some (.long x1), none, some (.int 0), none], [.int (Int32.ofNat m_p0)], w) = _
  refine (val_g (c2 := (258, d, 6, [some (.ref p0), some (.long x1), none, some (.int 0), some (.int (Int32.ofNat m_p0))], [], w)) rfl).trans ?_
  rfl
theorem tr_258_6 (d : Nat) (w : Wd) (l0 : Nat) (l1 : Int64) (l3 : Int32) (l4 : Int32)    (m_l0 : Nat) (hk_l0 : wK w l0 = (23, m_l0)) (hy3 : (¬ (l4 ≤ l3)) → inB l3 m_l0 = true) : val (258, d, 6, [some (.ref l0), some (.long l1), none, some (.int l3), some (.int l4)], [], w) = (if l4 ≤ l3 then some (none, w) else val (258, d, 6, [some (.ref l0), some (.long l1), none, some (.int (l3 + 1)), some (.int l4)], [], (sL w l0 (l3).toNatClampNeg l1))) := by
  refine (val_g (c2 := (258, d, 7, [some (.ref l0), some (.long l1), none, some (.int l3), some (.int l4)], [.int l3], w)) rfl).trans ?_
  refine (val_g (c2 := (258, d, 9, [some (.ref l0), some (.long l1), none, some (.int l3), some (.int l4)], [.int l4, .int l3], w)) rfl).trans ?_
  by_cases hc34 : l4 ≤ l3
  · refine ((val_ic_ge rfl).trans (if_pos hc34)).trans ?_
    show val (258, d, 22, [some (.ref l0), some (.long l1), none, some (.int l3), some (.int l4)], [], w) = _
    refine Eq.trans ?_ (if_pos hc34).symm
    exact val_r rfl
  · refine ((val_ic_ge rfl).trans (if_neg hc34)).trans ?_
    show val (258, d, 12, [some (.ref l0), some (.long l1), none, some (.int l3), some (.int l4)], [], w) = _
    refine Eq.trans ?_ (if_neg hc34).symm
    refine (val_g (c2 := (258, d, 13, [some (.ref l0), some (.long l1), none, some (.int l3), some (.int l4)], [.ref l0], w)) rfl).trans ?_
    refine (val_g (c2 := (258, d, 14, [some (.ref l0), some (.long l1), none, some (.int l3), some (.int l4)], [.int l3, .ref l0], w)) rfl).trans ?_
    refine (val_g (c2 := (258, d, 15, [some (.ref l0), some (.long l1), none, some (.int l3), some (.int l4)], [.long l1, .int l3, .ref l0], w)) rfl).trans ?_
    refine (val_las rfl hk_l0 (hy3 hc34)).trans ?_
    show val (258, d, 16, [some (.ref l0), some (.long l1), none, some (.int l3), some (.int l4)], [], (sL w l0 (l3).toNatClampNeg l1)) = _
    refine (val_g (c2 := (258, d, 19, [some (.ref l0), some (.long l1), none, some (.int (l3 + 1)), some (.int l4)], [], (sL w l0 (l3).toNatClampNeg l1))) rfl).trans ?_
    refine (val_g (c2 := (258, d, 6, [some (.ref l0), some (.long l1), none, some (.int (l3 + 1)), some (.int l4)], [], (sL w l0 (l3).toNatClampNeg l1))) rfl).trans ?_
    rfl
/-- java/util/Arrays.fill([II)V -/
theorem tr_259 (d : Nat) (w : Wd) (p0 : Nat) (x1 : Int32)    (m_p0 : Nat) (hk_p0 : wK w p0 = (20, m_p0)) : val (259, d, 0, [some (.ref p0), some (.int x1), none, none], [], w) = val (259, d, 5, [some (.ref p0), some (.int x1), some (.int 0), some (.int (Int32.ofNat m_p0))], [], w) := by
  refine (val_g (c2 := (259, d, 1, [some (.ref p0), some (.int x1), none, none], [.int 0], w)) rfl).trans ?_
  refine (val_g (c2 := (259, d, 2, [some (.ref p0), some (.int x1), some (.int 0), none], [], w)) rfl).trans ?_
  refine (val_g (c2 := (259, d, 3, [some (.ref p0), some (.int x1), some (.int 0), none], [.ref p0], w)) rfl).trans ?_
  refine (val_alen rfl hk_p0 rfl).trans ?_
  show val (259, d, 4, [some (.ref p0), some (.int x1), some (.int 0), none], [.int (Int32.ofNat m_p0)], w) = _
  refine (val_g (c2 := (259, d, 5, [some (.ref p0), some (.int x1), some (.int 0), some (.int (Int32.ofNat m_p0))], [], w)) rfl).trans ?_
  rfl
theorem tr_259_5 (d : Nat) (w : Wd) (l0 : Nat) (l1 : Int32) (l2 : Int32) (l3 : Int32)    (m_l0 : Nat) (hk_l0 : wK w l0 = (20, m_l0)) (hy3 : (¬ (l3 ≤ l2)) → inB l2 m_l0 = true) : val (259, d, 5, [some (.ref l0), some (.int l1), some (.int l2), some (.int l3)], [], w) = (if l3 ≤ l2 then some (none, w) else val (259, d, 5, [some (.ref l0), some (.int l1), some (.int (l2 + 1)), some (.int l3)], [], (sI w l0 (l2).toNatClampNeg l1))) := by
  refine (val_g (c2 := (259, d, 6, [some (.ref l0), some (.int l1), some (.int l2), some (.int l3)], [.int l2], w)) rfl).trans ?_
  refine (val_g (c2 := (259, d, 7, [some (.ref l0), some (.int l1), some (.int l2), some (.int l3)], [.int l3, .int l2], w)) rfl).trans ?_
  by_cases hc36 : l3 ≤ l2
  · refine ((val_ic_ge rfl).trans (if_pos hc36)).trans ?_
    show val (259, d, 20, [some (.ref l0), some (.int l1), some (.int l2), some (.int l3)], [], w) = _
    refine Eq.trans ?_ (if_pos hc36).symm
    exact val_r rfl
  · refine ((val_ic_ge rfl).trans (if_neg hc36)).trans ?_
    show val (259, d, 10, [some (.ref l0), some (.int l1), some (.int l2), some (.int l3)], [], w) = _
    refine Eq.trans ?_ (if_neg hc36).symm
    refine (val_g (c2 := (259, d, 11, [some (.ref l0), some (.int l1), some (.int l2), some (.int l3)], [.ref l0], w)) rfl).trans ?_
    refine (val_g (c2 := (259, d, 12, [some (.ref l0), some (.int l1), some (.int l2), some (.int l3)], [.int l2, .ref l0], w)) rfl).trans ?_
    refine (val_g (c2 := (259, d, 13, [some (.ref l0), some (.int l1), some (.int l2), some (.int l3)], [.int l1, .int l2, .ref l0], w)) rfl).trans ?_
    refine (val_ias rfl hk_l0 (hy3 hc36)).trans ?_
    show val (259, d, 14, [some (.ref l0), some (.int l1), some (.int l2), some (.int l3)], [], (sI w l0 (l2).toNatClampNeg l1)) = _
    refine (val_g (c2 := (259, d, 17, [some (.ref l0), some (.int l1), some (.int (l2 + 1)), some (.int l3)], [], (sI w l0 (l2).toNatClampNeg l1))) rfl).trans ?_
    refine (val_g (c2 := (259, d, 5, [some (.ref l0), some (.int l1), some (.int (l2 + 1)), some (.int l3)], [], (sI w l0 (l2).toNatClampNeg l1))) rfl).trans ?_
    rfl
/-- java/util/Arrays.fill([BB)V -/
theorem tr_260 (d : Nat) (w : Wd) (p0 : Nat) (x1 : Int32)    (m_p0 : Nat) (hk_p0 : wK w p0 = (21, m_p0)) : val (260, d, 0, [some (.ref p0), some (.int x1), none, none], [], w) = val (260, d, 5, [some (.ref p0), some (.int x1), some (.int 0), some (.int (Int32.ofNat m_p0))], [], w) := by
  refine (val_g (c2 := (260, d, 1, [some (.ref p0), some (.int x1), none, none], [.int 0], w)) rfl).trans ?_
  refine (val_g (c2 := (260, d, 2, [some (.ref p0), some (.int x1), some (.int 0), none], [], w)) rfl).trans ?_
  refine (val_g (c2 := (260, d, 3, [some (.ref p0), some (.int x1), some (.int 0), none], [.ref p0], w)) rfl).trans ?_
  refine (val_alen rfl hk_p0 rfl).trans ?_
  show val (260, d, 4, [some (.ref p0), some (.int x1), some (.int 0), none], [.int (Int32.ofNat m_p0)], w) = _
  refine (val_g (c2 := (260, d, 5, [some (.ref p0), some (.int x1), some (.int 0), some (.int (Int32.ofNat m_p0))], [], w)) rfl).trans ?_
  rfl
theorem tr_260_5 (d : Nat) (w : Wd) (l0 : Nat) (l1 : Int32) (l2 : Int32) (l3 : Int32)    (m_l0 : Nat) (hk_l0 : wK w l0 = (21, m_l0)) (hy3 : (¬ (l3 ≤ l2)) → inB l2 m_l0 = true) : val (260, d, 5, [some (.ref l0), some (.int l1), some (.int l2), some (.int l3)], [], w) = (if l3 ≤ l2 then some (none, w) else val (260, d, 5, [some (.ref l0), some (.int l1), some (.int (l2 + 1)), some (.int l3)], [], (sI w l0 (l2).toNatClampNeg ((vp_nar .byte l1))))) := by
  refine (val_g (c2 := (260, d, 6, [some (.ref l0), some (.int l1), some (.int l2), some (.int l3)], [.int l2], w)) rfl).trans ?_
  refine (val_g (c2 := (260, d, 7, [some (.ref l0), some (.int l1), some (.int l2), some (.int l3)], [.int l3, .int l2], w)) rfl).trans ?_
  by_cases hc38 : l3 ≤ l2
  · refine ((val_ic_ge rfl).trans (if_pos hc38)).trans ?_
    show val (260, d, 20, [some (.ref l0), some (.int l1), some (.int l2), some (.int l3)], [], w) = _
    refine Eq.trans ?_ (if_pos hc38).symm
    exact val_r rfl
  · refine ((val_ic_ge rfl).trans (if_neg hc38)).trans ?_
    show val (260, d, 10, [some (.ref l0), some (.int l1), some (.int l2), some (.int l3)], [], w) = _
    refine Eq.trans ?_ (if_neg hc38).symm
    refine (val_g (c2 := (260, d, 11, [some (.ref l0), some (.int l1), some (.int l2), some (.int l3)], [.ref l0], w)) rfl).trans ?_
    refine (val_g (c2 := (260, d, 12, [some (.ref l0), some (.int l1), some (.int l2), some (.int l3)], [.int l2, .ref l0], w)) rfl).trans ?_
    refine (val_g (c2 := (260, d, 13, [some (.ref l0), some (.int l1), some (.int l2), some (.int l3)], [.int l1, .int l2, .ref l0], w)) rfl).trans ?_
    refine (val_basB rfl hk_l0 (hy3 hc38)).trans ?_
    show val (260, d, 14, [some (.ref l0), some (.int l1), some (.int l2), some (.int l3)], [], (sI w l0 (l2).toNatClampNeg ((vp_nar .byte l1)))) = _
    refine (val_g (c2 := (260, d, 17, [some (.ref l0), some (.int l1), some (.int (l2 + 1)), some (.int l3)], [], (sI w l0 (l2).toNatClampNeg ((vp_nar .byte l1))))) rfl).trans ?_
    refine (val_g (c2 := (260, d, 5, [some (.ref l0), some (.int l1), some (.int (l2 + 1)), some (.int l3)], [], (sI w l0 (l2).toNatClampNeg ((vp_nar .byte l1))))) rfl).trans ?_
    rfl
/-- java/lang/Double.isNaN(D)Z -/
theorem tr_261 (d : Nat) (w : Wd) (x0 : UInt64)     : val (261, d, 0, [some (.double x0), none], [], w) = (if (Op.cmpValue (FP.dcmp x0 x0) .l) = 0 then some (some (.int 0), w) else some (some (.int 1), w)) := by
  refine (val_g (c2 := (261, d, 1, [some (.double x0), none], [.double x0], w)) rfl).trans ?_
  refine (val_g (c2 := (261, d, 2, [some (.double x0), none], [.double x0, .double x0], w)) rfl).trans ?_
  refine (val_g (c2 := (261, d, 3, [some (.double x0), none], [.int (Op.cmpValue (FP.dcmp x0 x0) .l)], w)) rfl).trans ?_
  by_cases hc40 : (Op.cmpValue (FP.dcmp x0 x0) .l) = 0
  · refine ((val_if_eq rfl).trans (if_pos hc40)).trans ?_
    show val (261, d, 10, [some (.double x0), none], [], w) = _
    refine Eq.trans ?_ (if_pos hc40).symm
    refine (val_g (c2 := (261, d, 11, [some (.double x0), none], [.int 0], w)) rfl).trans ?_
    exact val_r rfl
  · refine ((val_if_eq rfl).trans (if_neg hc40)).trans ?_
    show val (261, d, 6, [some (.double x0), none], [], w) = _
    refine Eq.trans ?_ (if_neg hc40).symm
    refine (val_g (c2 := (261, d, 7, [some (.double x0), none], [.int 1], w)) rfl).trans ?_
    refine (val_g (c2 := (261, d, 11, [some (.double x0), none], [.int 1], w)) rfl).trans ?_
    exact val_r rfl
/-- java/lang/Double.doubleToLongBits(D)J -/
theorem tr_262 (d : Nat) (w : Wd) (x0 : UInt64)     : val (262, d + 1, 0, [some (.double x0), none], [], w) = val (262, d + 1, 1, [some (.double x0), none], [.double x0], w) := by
  refine (val_g (c2 := (262, d + 1, 1, [some (.double x0), none], [.double x0], w)) rfl).trans ?_
  rfl
theorem tr_262_4 (d : Nat) (w : Wd) (l0 : UInt64) (s0 : Int32)     : val (262, d + 1, 4, [some (.double l0), none], [.int s0], w) = (if ¬ s0 = 0 then some (some (.long 9221120237041090560), w) else some (some (.long (UInt64.toInt64 l0)), w)) := by
  by_cases hc42 : ¬ s0 = 0
  · refine ((val_if_ne rfl).trans (if_pos hc42)).trans ?_
    show val (262, d + 1, 12, [some (.double l0), none], [], w) = _
    refine Eq.trans ?_ (if_pos hc42).symm
    refine (val_g (c2 := (262, d + 1, 15, [some (.double l0), none], [.long 9221120237041090560], w)) rfl).trans ?_
    exact val_r rfl
  · refine ((val_if_ne rfl).trans (if_neg hc42)).trans ?_
    show val (262, d + 1, 7, [some (.double l0), none], [], w) = _
    refine Eq.trans ?_ (if_neg hc42).symm
    refine (val_g (c2 := (262, d + 1, 8, [some (.double l0), none], [.double l0], w)) rfl).trans ?_
    refine (val_g (c2 := (262, d + 1, 11, [some (.double l0), none], [.long (UInt64.toInt64 l0)], w)) rfl).trans ?_
    exact val_r rfl
/-- java/lang/String.length()I -/
theorem tr_263 (d : Nat) (w : Wd) (o : Nat)    (m_o : Nat) (hk_o : wK w o = (32, m_o)) (q0_o : Nat) (hr0_o : gR w o 0 = some q0_o) (m_q0_o : Nat) (hk_q0_o : wK w q0_o = (33, m_q0_o)) : val (263, d + 1, 0, [some (.ref o)], [], w) = val (263, d + 1, 6, [some (.ref o)], [.ref o, .int (Int32.ofNat m_q0_o)], w) := by
  refine (val_g (c2 := (263, d + 1, 1, [some (.ref o)], [.ref o], w)) rfl).trans ?_
  refine (val_gf rfl hk_o (fvR hr0_o)).trans ?_
  show val (263, d + 1, 4, [some (.ref o)], [.ref q0_o], w) = _
  refine (val_alen rfl hk_q0_o rfl).trans ?_
  show val (263, d + 1, 5, [some (.ref o)], [.int (Int32.ofNat m_q0_o)], w) = _
  refine (val_g (c2 := (263, d + 1, 6, [some (.ref o)], [.ref o, .int (Int32.ofNat m_q0_o)], w)) rfl).trans ?_
  rfl
theorem tr_263_9 (d : Nat) (w : Wd) (l0 : Nat) (s0 : Int32) (s1 : Int32)     : val (263, d + 1, 9, [some (.ref l0)], [.int s0, .int s1], w) = some (some (.int (s1 >>> (s0 &&& 31))), w) := by
  refine (val_g (c2 := (263, d + 1, 10, [some (.ref l0)], [.int (s1 >>> (s0 &&& 31))], w)) rfl).trans ?_
  exact val_r rfl
/-- java/lang/String.coder()B -/
theorem tr_265 (d : Nat) (w : Wd) (o : Nat)    (m_o : Nat) (hk_o : wK w o = (32, m_o)) (hy3 : narB 2 ((gI w o 1)) = true) : val (265, d, 0, [some (.ref o)], [], w) = some (some (.int (gI w o 1)), w) := by
  refine (val_g (c2 := (265, d, 3, [some (.ref o)], [.int 1], w)) rfl).trans ?_
  refine ((val_if_eq rfl).trans (if_neg (by decide))).trans ?_
  show val (265, d, 6, [some (.ref o)], [], w) = _
  refine (val_g (c2 := (265, d, 7, [some (.ref o)], [.ref o], w)) rfl).trans ?_
  refine (val_gf rfl hk_o rfl).trans ?_
  show val (265, d, 10, [some (.ref o)], [.int (gI w o 1)], w) = _
  refine (val_g (c2 := (265, d, 14, [some (.ref o)], [.int (gI w o 1)], w)) rfl).trans ?_
  exact val_r (if_pos hy3)
/-- java/lang/String.isLatin1()Z -/
theorem tr_266 (d : Nat) (w : Wd) (o : Nat)    (m_o : Nat) (hk_o : wK w o = (32, m_o)) : val (266, d, 0, [some (.ref o)], [], w) = (if ¬ (gI w o 1) = 0 then some (some (.int 0), w) else some (some (.int 1), w)) := by
  refine (val_g (c2 := (266, d, 3, [some (.ref o)], [.int 1], w)) rfl).trans ?_
  refine ((val_if_eq rfl).trans (if_neg (by decide))).trans ?_
  show val (266, d, 6, [some (.ref o)], [], w) = _
  refine (val_g (c2 := (266, d, 7, [some (.ref o)], [.ref o], w)) rfl).trans ?_
  refine (val_gf rfl hk_o rfl).trans ?_
  show val (266, d, 10, [some (.ref o)], [.int (gI w o 1)], w) = _
  by_cases hc45 : ¬ (gI w o 1) = 0
  · refine ((val_if_ne rfl).trans (if_pos hc45)).trans ?_
    show val (266, d, 17, [some (.ref o)], [], w) = _
    refine Eq.trans ?_ (if_pos hc45).symm
    refine (val_g (c2 := (266, d, 18, [some (.ref o)], [.int 0], w)) rfl).trans ?_
    exact val_r rfl
  · refine ((val_if_ne rfl).trans (if_neg hc45)).trans ?_
    show val (266, d, 13, [some (.ref o)], [], w) = _
    refine Eq.trans ?_ (if_neg hc45).symm
    refine (val_g (c2 := (266, d, 14, [some (.ref o)], [.int 1], w)) rfl).trans ?_
    refine (val_g (c2 := (266, d, 18, [some (.ref o)], [.int 1], w)) rfl).trans ?_
    exact val_r rfl
/-- java/lang/String.checkIndex(II)V -/
theorem tr_267 (d : Nat) (w : Wd) (x0 : Int32) (x1 : Int32)     : val (267, d + 1, 0, [some (.int x0), some (.int x1)], [], w) = val (267, d + 1, 5, [some (.int x0), some (.int x1)], [.ref 40, .int x1, .int x0], w) := by
  refine (val_g (c2 := (267, d + 1, 1, [some (.int x0), some (.int x1)], [.int x0], w)) rfl).trans ?_
  refine (val_g (c2 := (267, d + 1, 2, [some (.int x0), some (.int x1)], [.int x1, .int x0], w)) rfl).trans ?_
  refine (val_g (c2 := (267, d + 1, 5, [some (.int x0), some (.int x1)], [.ref 40, .int x1, .int x0], w)) rfl).trans ?_
  rfl
theorem tr_267_8 (d : Nat) (w : Wd) (l0 : Int32) (l1 : Int32) (s0 : Int32)     : val (267, d + 1, 8, [some (.int l0), some (.int l1)], [.int s0], w) = some (none, w) := by
  refine (val_g (c2 := (267, d + 1, 9, [some (.int l0), some (.int l1)], [], w)) rfl).trans ?_
  exact val_r rfl
/-- java/lang/StringLatin1.charAt([BI)C -/
theorem tr_268 (d : Nat) (w : Wd) (p0 : Nat) (x1 : Int32)    (m_p0 : Nat) (hk_p0 : wK w p0 = (33, m_p0)) : val (268, d + 2, 0, [some (.ref p0), some (.int x1)], [], w) = val (268, d + 2, 3, [some (.ref p0), some (.int x1)], [.int (Int32.ofNat m_p0), .int x1], w) := by
  refine (val_g (c2 := (268, d + 2, 1, [some (.ref p0), some (.int x1)], [.int x1], w)) rfl).trans ?_
  refine (val_g (c2 := (268, d + 2, 2, [some (.ref p0), some (.int x1)], [.ref p0, .int x1], w)) rfl).trans ?_
  refine (val_alen rfl hk_p0 rfl).trans ?_
  show val (268, d + 2, 3, [some (.ref p0), some (.int x1)], [.int (Int32.ofNat m_p0), .int x1], w) = _
  rfl
theorem tr_268_6 (d : Nat) (w : Wd) (l0 : Nat) (l1 : Int32)    (m_l0 : Nat) (hk_l0 : wK w l0 = (33, m_l0)) (hy3 : inB l1 m_l0 = true) (hy4 : narB 3 ((UInt32.toInt32 (Int32.toUInt32 (((gI w l0 (l1).toNatClampNeg) &&& 255)) % 65536))) = true) : val (268, d + 2, 6, [some (.ref l0), some (.int l1)], [], w) = some (some (.int (UInt32.toInt32 (Int32.toUInt32 (((gI w l0 (l1).toNatClampNeg) &&& 255)) % 65536))), w) := by
  refine (val_g (c2 := (268, d + 2, 7, [some (.ref l0), some (.int l1)], [.ref l0], w)) rfl).trans ?_
  refine (val_g (c2 := (268, d + 2, 8, [some (.ref l0), some (.int l1)], [.int l1, .ref l0], w)) rfl).trans ?_
  refine (val_bal rfl hk_l0 rfl hy3).trans ?_
  show val (268, d + 2, 9, [some (.ref l0), some (.int l1)], [.int (gI w l0 (l1).toNatClampNeg)], w) = _
  refine (val_g (c2 := (268, d + 2, 12, [some (.ref l0), some (.int l1)], [.int 255, .int (gI w l0 (l1).toNatClampNeg)], w)) rfl).trans ?_
  refine (val_g (c2 := (268, d + 2, 13, [some (.ref l0), some (.int l1)], [.int ((gI w l0 (l1).toNatClampNeg) &&& 255)], w)) rfl).trans ?_
  refine (val_g (c2 := (268, d + 2, 14, [some (.ref l0), some (.int l1)], [.int (UInt32.toInt32 (Int32.toUInt32 (((gI w l0 (l1).toNatClampNeg) &&& 255)) % 65536))], w)) rfl).trans ?_
  exact val_r (if_pos hy4)
theorem inS_self (a k : Nat) : inS [(a, none)] a k = true := by
  show (Nat.beq a a && true || false) = true
  rw [Nat.beq_refl]; rfl
theorem r_fillL (a m : Nat) (hm : m < 2 ^ 31) (x : Int64) (d : Nat) {w : Wd} (hk : wK w a = (23, m)) : ∃ w', val (258, d, 0, [some (.ref a), some (.long x), none, none, none], [], w) = some (none, w') ∧ Fr [(a, none)] w w' ∧ ∀ k, k < m → gL w' a k = x := by
  have h := loopUp (c := fun k v => (258, d, 6, [some (.ref a), some (.long x), none, some (.int (nI k)), some (.int (nI m))], [], v)) (P := fun k v => Fr [(a, none)] w v ∧ ∀ i, i < k → gL v a i = x) (R := fun r => ∃ w', r = some (none, w') ∧ Fr [(a, none)] w w' ∧ ∀ k, k < m → gL w' a k = x) (N := m) ?_ ?_ w ⟨Fr.refl _ _, fun i hi => by omega⟩
  · obtain ⟨w', e, f, g⟩ := h
    exact ⟨w', (tr_258 d w a x m hk).trans e, f, g⟩
  · rintro v ⟨p1, p2⟩
    refine ⟨v, (tr_258_6 d v a x _ _ m ((congrFun p1.k a).trans hk) (fun h => absurd (n_le (Nat.le_refl m) hm) h)).trans ?_, p1, p2⟩
    rw [if_pos (n_le (Nat.le_refl m) hm)]
  · rintro k v hk1 ⟨p1, p2⟩
    refine Or.inr ⟨sL v a k x, (tr_258_6 d v a x _ _ m ((congrFun p1.k a).trans hk) (fun _ => inB_nI hk1 hm)).trans ?_, p1.sL a k _ (inS_self a k), fun i hi => ?_⟩
    · rw [if_neg (n_nle hk1 hm), n_succ, nI_clamp (by omega)]
    · by_cases e : i = k
      · subst e; exact gL_same _ _ _ _
      · exact (gL_nk v a _ e).trans (p2 i (by omega))
theorem r_fillI (a m : Nat) (hm : m < 2 ^ 31) (x : Int32) (d : Nat) {w : Wd} (hk : wK w a = (20, m)) : ∃ w', val (259, d, 0, [some (.ref a), some (.int x), none, none], [], w) = some (none, w') ∧ Fr [(a, none)] w w' ∧ ∀ k, k < m → gI w' a k = x := by
  have h := loopUp (c := fun k v => (259, d, 5, [some (.ref a), some (.int x), some (.int (nI k)), some (.int (nI m))], [], v)) (P := fun k v => Fr [(a, none)] w v ∧ ∀ i, i < k → gI v a i = x) (R := fun r => ∃ w', r = some (none, w') ∧ Fr [(a, none)] w w' ∧ ∀ k, k < m → gI w' a k = x) (N := m) ?_ ?_ w ⟨Fr.refl _ _, fun i hi => by omega⟩
  · obtain ⟨w', e, f, g⟩ := h
    exact ⟨w', (tr_259 d w a x m hk).trans e, f, g⟩
  · rintro v ⟨p1, p2⟩
    refine ⟨v, (tr_259_5 d v a x _ _ m ((congrFun p1.k a).trans hk) (fun h => absurd (n_le (Nat.le_refl m) hm) h)).trans ?_, p1, p2⟩
    rw [if_pos (n_le (Nat.le_refl m) hm)]
  · rintro k v hk1 ⟨p1, p2⟩
    refine Or.inr ⟨sI v a k x, (tr_259_5 d v a x _ _ m ((congrFun p1.k a).trans hk) (fun _ => inB_nI hk1 hm)).trans ?_, p1.sI a k _ (inS_self a k), fun i hi => ?_⟩
    · rw [if_neg (n_nle hk1 hm), n_succ, nI_clamp (by omega)]
    · by_cases e : i = k
      · subst e; exact gI_same _ _ _ _
      · exact (gI_nk v a _ e).trans (p2 i (by omega))
theorem r_fillB (a m : Nat) (hm : m < 2 ^ 31) (x : Int32) (d : Nat) {w : Wd} (hk : wK w a = (21, m)) : ∃ w', val (260, d, 0, [some (.ref a), some (.int x), none, none], [], w) = some (none, w') ∧ Fr [(a, none)] w w' ∧ ∀ k, k < m → gI w' a k = (vp_nar .byte x) := by
  have h := loopUp (c := fun k v => (260, d, 5, [some (.ref a), some (.int x), some (.int (nI k)), some (.int (nI m))], [], v)) (P := fun k v => Fr [(a, none)] w v ∧ ∀ i, i < k → gI v a i = (vp_nar .byte x)) (R := fun r => ∃ w', r = some (none, w') ∧ Fr [(a, none)] w w' ∧ ∀ k, k < m → gI w' a k = (vp_nar .byte x)) (N := m) ?_ ?_ w ⟨Fr.refl _ _, fun i hi => by omega⟩
  · obtain ⟨w', e, f, g⟩ := h
    exact ⟨w', (tr_260 d w a x m hk).trans e, f, g⟩
  · rintro v ⟨p1, p2⟩
    refine ⟨v, (tr_260_5 d v a x _ _ m ((congrFun p1.k a).trans hk) (fun h => absurd (n_le (Nat.le_refl m) hm) h)).trans ?_, p1, p2⟩
    rw [if_pos (n_le (Nat.le_refl m) hm)]
  · rintro k v hk1 ⟨p1, p2⟩
    refine Or.inr ⟨sI v a k (vp_nar .byte x), (tr_260_5 d v a x _ _ m ((congrFun p1.k a).trans hk) (fun _ => inB_nI hk1 hm)).trans ?_, p1.sI a k _ (inS_self a k), fun i hi => ?_⟩
    · rw [if_neg (n_nle hk1 hm), n_succ, nI_clamp (by omega)]
    · by_cases e : i = k
      · subst e; exact gI_same _ _ _ _
      · exact (gI_nk v a _ e).trans (p2 i (by omega))
