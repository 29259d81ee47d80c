/-! RULES: their conditions; three methods anew (an array of booleans), printed by program; conditions as they are read -/
/-- BelfryHouse$Rule.require(ZIII)V -/
theorem tz_148 (d : Nat) (w : Wd) (o : Nat) (x0 : Int32) (x1 : Int32) (x2 : Int32) (x3 : Int32)    (m_o : Nat) (hk_o : wK w o = (6, m_o)) (q1_o : Nat) (hr1_o : gR w o 1 = some q1_o) (m_q1_o : Nat) (hk_q1_o : wK w q1_o = (22, m_q1_o)) (hy7 : ((gI w o 4) < 8) → inB ((gI w o 4)) m_q1_o = true) (q0_o : Nat) (hr0_o : gR w o 0 = some q0_o) (m_q0_o : Nat) (hk_q0_o : wK w q0_o = (20, m_q0_o)) (hy12 : ((gI w o 4) < 8) → inB ((gI ((sI w q1_o ((gI w o 4)).toNatClampNeg ((vp_nar .boolean x0)))) o 4)) m_q0_o = true) (q2_o : Nat) (hr2_o : gR w o 2 = some q2_o) (m_q2_o : Nat) (hk_q2_o : wK w q2_o = (20, m_q2_o)) (hy17 : ((gI w o 4) < 8) → inB ((gI ((sI ((sI w q1_o ((gI w o 4)).toNatClampNeg ((vp_nar .boolean x0)))) q0_o ((gI ((sI w q1_o ((gI w o 4)).toNatClampNeg ((vp_nar .boolean x0)))) o 4)).toNatClampNeg x1)) o 4)) m_q2_o = true) (q3_o : Nat) (hr3_o : gR w o 3 = some q3_o) (m_q3_o : Nat) (hk_q3_o : wK w q3_o = (20, m_q3_o)) (hy22 : ((gI w o 4) < 8) → inB ((gI ((sI ((sI ((sI w q1_o ((gI w o 4)).toNatClampNeg ((vp_nar .boolean x0)))) q0_o ((gI ((sI w q1_o ((gI w o 4)).toNatClampNeg ((vp_nar .boolean x0)))) o 4)).toNatClampNeg x1)) q2_o ((gI ((sI ((sI w q1_o ((gI w o 4)).toNatClampNeg ((vp_nar .boolean x0)))) q0_o ((gI ((sI w q1_o ((gI w o 4)).toNatClampNeg ((vp_nar .boolean x0)))) o 4)).toNatClampNeg x1)) o 4)).toNatClampNeg x2)) o 4)) m_q3_o = true) : val (148, d, 0, [some (.ref o), some (.int x0), some (.int x1), some (.int x2), some (.int x3)], [], w) = (if (gI w o 4) < 8 then some (none, (sI ((sI ((sI ((sI ((sI w q1_o ((gI w o 4)).toNatClampNeg ((vp_nar .boolean x0)))) q0_o ((gI ((sI w q1_o ((gI w o 4)).toNatClampNeg ((vp_nar .boolean x0)))) o 4)).toNatClampNeg x1)) q2_o ((gI ((sI ((sI w q1_o ((gI w o 4)).toNatClampNeg ((vp_nar .boolean x0)))) q0_o ((gI ((sI w q1_o ((gI w o 4)).toNatClampNeg ((vp_nar .boolean x0)))) o 4)).toNatClampNeg x1)) o 4)).toNatClampNeg x2)) q3_o ((gI ((sI ((sI ((sI w q1_o ((gI w o 4)).toNatClampNeg ((vp_nar .boolean x0)))) q0_o ((gI ((sI w q1_o ((gI w o 4)).toNatClampNeg ((vp_nar .boolean x0)))) o 4)).toNatClampNeg x1)) q2_o ((gI ((sI ((sI w q1_o ((gI w o 4)).toNatClampNeg ((vp_nar .boolean x0)))) q0_o ((gI ((sI w q1_o ((gI w o 4)).toNatClampNeg ((vp_nar .boolean x0)))) o 4)).toNatClampNeg x1)) o 4)).toNatClampNeg x2)) o 4)).toNatClampNeg x3)) o 4 (((gI ((sI ((sI ((sI ((sI w q1_o ((gI w o 4)).toNatClampNeg ((vp_nar .boolean x0)))) q0_o ((gI ((sI w q1_o ((gI w o 4)).toNatClampNeg ((vp_nar .boolean x0)))) o 4)).toNatClampNeg x1)) q2_o ((gI ((sI ((sI w q1_o ((gI w o 4)).toNatClampNeg ((vp_nar .boolean x0)))) q0_o ((gI ((sI w q1_o ((gI w o 4)).toNatClampNeg ((vp_nar .boolean x0)))) o 4)).toNatClampNeg x1)) o 4)).toNatClampNeg x2)) q3_o ((gI ((sI ((sI ((sI w q1_o ((gI w o 4)).toNatClampNeg ((vp_nar .boolean x0)))) q0_o ((gI ((sI w q1_o ((gI w o 4)).toNatClampNeg ((vp_nar .boolean x0)))) o 4)).toNatClampNeg x1)) q2_o ((gI ((sI ((sI w q1_o ((gI w o 4)).toNatClampNeg ((vp_nar .boolean x0)))) q0_o ((gI ((sI w q1_o ((gI w o 4)).toNatClampNeg ((vp_nar .boolean x0)))) o 4)).toNatClampNeg x1)) o 4)).toNatClampNeg x2)) o 4)).toNatClampNeg x3)) o 4) + 1)))) else some (none, w)) := by
  refine (val_g (c2 := (148, d, 1, [some (.ref o), some (.int x0), some (.int x1), some (.int x2), some (.int x3)], [.ref o], w)) rfl).trans ?_
  refine (val_gf rfl hk_o rfl).trans ?_
  show val (148, d, 4, [some (.ref o), some (.int x0), some (.int x1), some (.int x2), some (.int x3)], [.int (gI w o 4)], w) = _
  refine (val_g (c2 := (148, d, 6, [some (.ref o), some (.int x0), some (.int x1), some (.int x2), some (.int x3)], [.int 8, .int (gI w o 4)], w)) rfl).trans ?_
  by_cases hc34 : (gI w o 4) < 8
  · refine ((val_ic_lt rfl).trans (if_pos hc34)).trans ?_
    show val (148, d, 10, [some (.ref o), some (.int x0), some (.int x1), some (.int x2), some (.int x3)], [], w) = _
    refine Eq.trans ?_ (if_pos hc34).symm
    refine (val_g (c2 := (148, d, 11, [some (.ref o), some (.int x0), some (.int x1), some (.int x2), some (.int x3)], [.ref o], w)) rfl).trans ?_
    refine (val_gf rfl hk_o (fvR hr1_o)).trans ?_
    show val (148, d, 14, [some (.ref o), some (.int x0), some (.int x1), some (.int x2), some (.int x3)], [.ref q1_o], w) = _
    refine (val_g (c2 := (148, d, 15, [some (.ref o), some (.int x0), some (.int x1), some (.int x2), some (.int x3)], [.ref o, .ref q1_o], w)) rfl).trans ?_
    refine (val_gf rfl hk_o rfl).trans ?_
    show val (148, d, 18, [some (.ref o), some (.int x0), some (.int x1), some (.int x2), some (.int x3)], [.int (gI w o 4), .ref q1_o], w) = _
    refine (val_g (c2 := (148, d, 19, [some (.ref o), some (.int x0), some (.int x1), some (.int x2), some (.int x3)], [.int x0, .int (gI w o 4), .ref q1_o], w)) rfl).trans ?_
    refine (val_basZ rfl hk_q1_o (hy7 hc34)).trans ?_
    show val (148, d, 20, [some (.ref o), some (.int x0), some (.int x1), some (.int x2), some (.int x3)], [], (sI w q1_o ((gI w o 4)).toNatClampNeg ((vp_nar .boolean x0)))) = _
    refine (val_g (c2 := (148, d, 21, [some (.ref o), some (.int x0), some (.int x1), some (.int x2), some (.int x3)], [.ref o], (sI w q1_o ((gI w o 4)).toNatClampNeg ((vp_nar .boolean x0))))) rfl).trans ?_
    refine (val_gf (w := (sI w q1_o ((gI w o 4)).toNatClampNeg ((vp_nar .boolean x0)))) rfl hk_o (fvR hr0_o)).trans ?_
    show val (148, d, 24, [some (.ref o), some (.int x0), some (.int x1), some (.int x2), some (.int x3)], [.ref q0_o], (sI w q1_o ((gI w o 4)).toNatClampNeg ((vp_nar .boolean x0)))) = _
    refine (val_g (c2 := (148, d, 25, [some (.ref o), some (.int x0), some (.int x1), some (.int x2), some (.int x3)], [.ref o, .ref q0_o], (sI w q1_o ((gI w o 4)).toNatClampNeg ((vp_nar .boolean x0))))) rfl).trans ?_
    refine (val_gf (w := (sI w q1_o ((gI w o 4)).toNatClampNeg ((vp_nar .boolean x0)))) rfl hk_o rfl).trans ?_
    show val (148, d, 28, [some (.ref o), some (.int x0), some (.int x1), some (.int x2), some (.int x3)], [.int (gI ((sI w q1_o ((gI w o 4)).toNatClampNeg ((vp_nar .boolean x0)))) o 4), .ref q0_o], (sI w q1_o ((gI w o 4)).toNatClampNeg ((vp_nar .boolean x0)))) = _
    refine (val_g (c2 := (148, d, 29, [some (.ref o), some (.int x0), some (.int x1), some (.int x2), some (.int x3)], [.int x1, .int (gI ((sI w q1_o ((gI w o 4)).toNatClampNeg ((vp_nar .boolean x0)))) o 4), .ref q0_o], (sI w q1_o ((gI w o 4)).toNatClampNeg ((vp_nar .boolean x0))))) rfl).trans ?_
    refine (val_ias (w := (sI w q1_o ((gI w o 4)).toNatClampNeg ((vp_nar .boolean x0)))) rfl hk_q0_o (hy12 hc34)).trans ?_
    show val (148, d, 30, [some (.ref o), some (.int x0), some (.int x1), some (.int x2), some (.int x3)], [], (sI ((sI w q1_o ((gI w o 4)).toNatClampNeg ((vp_nar .boolean x0)))) q0_o ((gI ((sI w q1_o ((gI w o 4)).toNatClampNeg ((vp_nar .boolean x0)))) o 4)).toNatClampNeg x1)) = _
    refine (val_g (c2 := (148, d, 31, [some (.ref o), some (.int x0), some (.int x1), some (.int x2), some (.int x3)], [.ref o], (sI ((sI w q1_o ((gI w o 4)).toNatClampNeg ((vp_nar .boolean x0)))) q0_o ((gI ((sI w q1_o ((gI w o 4)).toNatClampNeg ((vp_nar .boolean x0)))) o 4)).toNatClampNeg x1))) rfl).trans ?_
    refine (val_gf (w := (sI ((sI w q1_o ((gI w o 4)).toNatClampNeg ((vp_nar .boolean x0)))) q0_o ((gI ((sI w q1_o ((gI w o 4)).toNatClampNeg ((vp_nar .boolean x0)))) o 4)).toNatClampNeg x1)) rfl hk_o (fvR hr2_o)).trans ?_
    show val (148, d, 34, [some (.ref o), some (.int x0), some (.int x1), some (.int x2), some (.int x3)], [.ref q2_o], (sI ((sI w q1_o ((gI w o 4)).toNatClampNeg ((vp_nar .boolean x0)))) q0_o ((gI ((sI w q1_o ((gI w o 4)).toNatClampNeg ((vp_nar .boolean x0)))) o 4)).toNatClampNeg x1)) = _
    refine (val_g (c2 := (148, d, 35, [some (.ref o), some (.int x0), some (.int x1), some (.int x2), some (.int x3)], [.ref o, .ref q2_o], (sI ((sI w q1_o ((gI w o 4)).toNatClampNeg ((vp_nar .boolean x0)))) q0_o ((gI ((sI w q1_o ((gI w o 4)).toNatClampNeg ((vp_nar .boolean x0)))) o 4)).toNatClampNeg x1))) rfl).trans ?_
    refine (val_gf (w := (sI ((sI w q1_o ((gI w o 4)).toNatClampNeg ((vp_nar .boolean x0)))) q0_o ((gI ((sI w q1_o ((gI w o 4)).toNatClampNeg ((vp_nar .boolean x0)))) o 4)).toNatClampNeg x1)) rfl hk_o rfl).trans ?_
    show val (148, d, 38, [some (.ref o), some (.int x0), some (.int x1), some (.int x2), some (.int x3)], [.int (gI ((sI ((sI w q1_o ((gI w o 4)).toNatClampNeg ((vp_nar .boolean x0)))) q0_o ((gI ((sI w q1_o ((gI w o 4)).toNatClampNeg ((vp_nar .boolean x0)))) o 4)).toNatClampNeg x1)) o 4), .ref q2_o], (sI ((sI w q1_o ((gI w o 4)).toNatClampNeg ((vp_nar .boolean x0)))) q0_o ((gI ((sI w q1_o ((gI w o 4)).toNatClampNeg ((vp_nar .boolean x0)))) o 4)).toNatClampNeg x1)) = _
    refine (val_g (c2 := (148, d, 39, [some (.ref o), some (.int x0), some (.int x1), some (.int x2), some (.int x3)], [.int x2, .int (gI ((sI ((sI w q1_o ((gI w o 4)).toNatClampNeg ((vp_nar .boolean x0)))) q0_o ((gI ((sI w q1_o ((gI w o 4)).toNatClampNeg ((vp_nar .boolean x0)))) o 4)).toNatClampNeg x1)) o 4), .ref q2_o], (sI ((sI w q1_o ((gI w o 4)).toNatClampNeg ((vp_nar .boolean x0)))) q0_o ((gI ((sI w q1_o ((gI w o 4)).toNatClampNeg ((vp_nar .boolean x0)))) o 4)).toNatClampNeg x1))) rfl).trans ?_
    refine (val_ias (w := (sI ((sI w q1_o ((gI w o 4)).toNatClampNeg ((vp_nar .boolean x0)))) q0_o ((gI ((sI w q1_o ((gI w o 4)).toNatClampNeg ((vp_nar .boolean x0)))) o 4)).toNatClampNeg x1)) rfl hk_q2_o (hy17 hc34)).trans ?_
    show val (148, d, 40, [some (.ref o), some (.int x0), some (.int x1), some (.int x2), some (.int x3)], [], (sI ((sI ((sI w q1_o ((gI w o 4)).toNatClampNeg ((vp_nar .boolean x0)))) q0_o ((gI ((sI w q1_o ((gI w o 4)).toNatClampNeg ((vp_nar .boolean x0)))) o 4)).toNatClampNeg x1)) q2_o ((gI ((sI ((sI w q1_o ((gI w o 4)).toNatClampNeg ((vp_nar .boolean x0)))) q0_o ((gI ((sI w q1_o ((gI w o 4)).toNatClampNeg ((vp_nar .boolean x0)))) o 4)).toNatClampNeg x1)) o 4)).toNatClampNeg x2)) = _
    refine (val_g (c2 := (148, d, 41, [some (.ref o), some (.int x0), some (.int x1), some (.int x2), some (.int x3)], [.ref o], (sI ((sI ((sI w q1_o ((gI w o 4)).toNatClampNeg ((vp_nar .boolean x0)))) q0_o ((gI ((sI w q1_o ((gI w o 4)).toNatClampNeg ((vp_nar .boolean x0)))) o 4)).toNatClampNeg x1)) q2_o ((gI ((sI ((sI w q1_o ((gI w o 4)).toNatClampNeg ((vp_nar .boolean x0)))) q0_o ((gI ((sI w q1_o ((gI w o 4)).toNatClampNeg ((vp_nar .boolean x0)))) o 4)).toNatClampNeg x1)) o 4)).toNatClampNeg x2))) rfl).trans ?_
    refine (val_gf (w := (sI ((sI ((sI w q1_o ((gI w o 4)).toNatClampNeg ((vp_nar .boolean x0)))) q0_o ((gI ((sI w q1_o ((gI w o 4)).toNatClampNeg ((vp_nar .boolean x0)))) o 4)).toNatClampNeg x1)) q2_o ((gI ((sI ((sI w q1_o ((gI w o 4)).toNatClampNeg ((vp_nar .boolean x0)))) q0_o ((gI ((sI w q1_o ((gI w o 4)).toNatClampNeg ((vp_nar .boolean x0)))) o 4)).toNatClampNeg x1)) o 4)).toNatClampNeg x2)) rfl hk_o (fvR hr3_o)).trans ?_
    show val (148, d, 44, [some (.ref o), some (.int x0), some (.int x1), some (.int x2), some (.int x3)], [.ref q3_o], (sI ((sI ((sI w q1_o ((gI w o 4)).toNatClampNeg ((vp_nar .boolean x0)))) q0_o ((gI ((sI w q1_o ((gI w o 4)).toNatClampNeg ((vp_nar .boolean x0)))) o 4)).toNatClampNeg x1)) q2_o ((gI ((sI ((sI w q1_o ((gI w o 4)).toNatClampNeg ((vp_nar .boolean x0)))) q0_o ((gI ((sI w q1_o ((gI w o 4)).toNatClampNeg ((vp_nar .boolean x0)))) o 4)).toNatClampNeg x1)) o 4)).toNatClampNeg x2)) = _
    refine (val_g (c2 := (148, d, 45, [some (.ref o), some (.int x0), some (.int x1), some (.int x2), some (.int x3)], [.ref o, .ref q3_o], (sI ((sI ((sI w q1_o ((gI w o 4)).toNatClampNeg ((vp_nar .boolean x0)))) q0_o ((gI ((sI w q1_o ((gI w o 4)).toNatClampNeg ((vp_nar .boolean x0)))) o 4)).toNatClampNeg x1)) q2_o ((gI ((sI ((sI w q1_o ((gI w o 4)).toNatClampNeg ((vp_nar .boolean x0)))) q0_o ((gI ((sI w q1_o ((gI w o 4)).toNatClampNeg ((vp_nar .boolean x0)))) o 4)).toNatClampNeg x1)) o 4)).toNatClampNeg x2))) rfl).trans ?_
    refine (val_gf (w := (sI ((sI ((sI w q1_o ((gI w o 4)).toNatClampNeg ((vp_nar .boolean x0)))) q0_o ((gI ((sI w q1_o ((gI w o 4)).toNatClampNeg ((vp_nar .boolean x0)))) o 4)).toNatClampNeg x1)) q2_o ((gI ((sI ((sI w q1_o ((gI w o 4)).toNatClampNeg ((vp_nar .boolean x0)))) q0_o ((gI ((sI w q1_o ((gI w o 4)).toNatClampNeg ((vp_nar .boolean x0)))) o 4)).toNatClampNeg x1)) o 4)).toNatClampNeg x2)) rfl hk_o rfl).trans ?_
    show val (148, d, 48, [some (.ref o), some (.int x0), some (.int x1), some (.int x2), some (.int x3)], [.int (gI ((sI ((sI ((sI w q1_o ((gI w o 4)).toNatClampNeg ((vp_nar .boolean x0)))) q0_o ((gI ((sI w q1_o ((gI w o 4)).toNatClampNeg ((vp_nar .boolean x0)))) o 4)).toNatClampNeg x1)) q2_o ((gI ((sI ((sI w q1_o ((gI w o 4)).toNatClampNeg ((vp_nar .boolean x0)))) q0_o ((gI ((sI w q1_o ((gI w o 4)).toNatClampNeg ((vp_nar .boolean x0)))) o 4)).toNatClampNeg x1)) o 4)).toNatClampNeg x2)) o 4), .ref q3_o], (sI ((sI ((sI w q1_o ((gI w o 4)).toNatClampNeg ((vp_nar .boolean x0)))) q0_o ((gI ((sI w q1_o ((gI w o 4)).toNatClampNeg ((vp_nar .boolean x0)))) o 4)).toNatClampNeg x1)) q2_o ((gI ((sI ((sI w q1_o ((gI w o 4)).toNatClampNeg ((vp_nar .boolean x0)))) q0_o ((gI ((sI w q1_o ((gI w o 4)).toNatClampNeg ((vp_nar .boolean x0)))) o 4)).toNatClampNeg x1)) o 4)).toNatClampNeg x2)) = _
    refine (val_g (c2 := (148, d, 50, [some (.ref o), some (.int x0), some (.int x1), some (.int x2), some (.int x3)], [.int x3, .int (gI ((sI ((sI ((sI w q1_o ((gI w o 4)).toNatClampNeg ((vp_nar .boolean x0)))) q0_o ((gI ((sI w q1_o ((gI w o 4)).toNatClampNeg ((vp_nar .boolean x0)))) o 4)).toNatClampNeg x1)) q2_o ((gI ((sI ((sI w q1_o ((gI w o 4)).toNatClampNeg ((vp_nar .boolean x0)))) q0_o ((gI ((sI w q1_o ((gI w o 4)).toNatClampNeg ((vp_nar .boolean x0)))) o 4)).toNatClampNeg x1)) o 4)).toNatClampNeg x2)) o 4), .ref q3_o], (sI ((sI ((sI w q1_o ((gI w o 4)).toNatClampNeg ((vp_nar .boolean x0)))) q0_o ((gI ((sI w q1_o ((gI w o 4)).toNatClampNeg ((vp_nar .boolean x0)))) o 4)).toNatClampNeg x1)) q2_o ((gI ((sI ((sI w q1_o ((gI w o 4)).toNatClampNeg ((vp_nar .boolean x0)))) q0_o ((gI ((sI w q1_o ((gI w o 4)).toNatClampNeg ((vp_nar .boolean x0)))) o 4)).toNatClampNeg x1)) o 4)).toNatClampNeg x2))) rfl).trans ?_
    refine (val_ias (w := (sI ((sI ((sI w q1_o ((gI w o 4)).toNatClampNeg ((vp_nar .boolean x0)))) q0_o ((gI ((sI w q1_o ((gI w o 4)).toNatClampNeg ((vp_nar .boolean x0)))) o 4)).toNatClampNeg x1)) q2_o ((gI ((sI ((sI w q1_o ((gI w o 4)).toNatClampNeg ((vp_nar .boolean x0)))) q0_o ((gI ((sI w q1_o ((gI w o 4)).toNatClampNeg ((vp_nar .boolean x0)))) o 4)).toNatClampNeg x1)) o 4)).toNatClampNeg x2)) rfl hk_q3_o (hy22 hc34)).trans ?_
    show val (148, d, 51, [some (.ref o), some (.int x0), some (.int x1), some (.int x2), some (.int x3)], [], (sI ((sI ((sI ((sI w q1_o ((gI w o 4)).toNatClampNeg ((vp_nar .boolean x0)))) q0_o ((gI ((sI w q1_o ((gI w o 4)).toNatClampNeg ((vp_nar .boolean x0)))) o 4)).toNatClampNeg x1)) q2_o ((gI ((sI ((sI w q1_o ((gI w o 4)).toNatClampNeg ((vp_nar .boolean x0)))) q0_o ((gI ((sI w q1_o ((gI w o 4)).toNatClampNeg ((vp_nar .boolean x0)))) o 4)).toNatClampNeg x1)) o 4)).toNatClampNeg x2)) q3_o ((gI ((sI ((sI ((sI w q1_o ((gI w o 4)).toNatClampNeg ((vp_nar .boolean x0)))) q0_o ((gI ((sI w q1_o ((gI w o 4)).toNatClampNeg ((vp_nar .boolean x0)))) o 4)).toNatClampNeg x1)) q2_o ((gI ((sI ((sI w q1_o ((gI w o 4)).toNatClampNeg ((vp_nar .boolean x0)))) q0_o ((gI ((sI w q1_o ((gI w o 4)).toNatClampNeg ((vp_nar .boolean x0)))) o 4)).toNatClampNeg x1)) o 4)).toNatClampNeg x2)) o 4)).toNatClampNeg x3)) = _
    refine (val_g (c2 := (148, d, 52, [some (.ref o), some (.int x0), some (.int x1), some (.int x2), some (.int x3)], [.ref o], (sI ((sI ((sI ((sI w q1_o ((gI w o 4)).toNatClampNeg ((vp_nar .boolean x0)))) q0_o ((gI ((sI w q1_o ((gI w o 4)).toNatClampNeg ((vp_nar .boolean x0)))) o 4)).toNatClampNeg x1)) q2_o ((gI ((sI ((sI w q1_o ((gI w o 4)).toNatClampNeg ((vp_nar .boolean x0)))) q0_o ((gI ((sI w q1_o ((gI w o 4)).toNatClampNeg ((vp_nar .boolean x0)))) o 4)).toNatClampNeg x1)) o 4)).toNatClampNeg x2)) q3_o ((gI ((sI ((sI ((sI w q1_o ((gI w o 4)).toNatClampNeg ((vp_nar .boolean x0)))) q0_o ((gI ((sI w q1_o ((gI w o 4)).toNatClampNeg ((vp_nar .boolean x0)))) o 4)).toNatClampNeg x1)) q2_o ((gI ((sI ((sI w q1_o ((gI w o 4)).toNatClampNeg ((vp_nar .boolean x0)))) q0_o ((gI ((sI w q1_o ((gI w o 4)).toNatClampNeg ((vp_nar .boolean x0)))) o 4)).toNatClampNeg x1)) o 4)).toNatClampNeg x2)) o 4)).toNatClampNeg x3))) rfl).trans ?_
    refine (val_g (c2 := (148, d, 53, [some (.ref o), some (.int x0), some (.int x1), some (.int x2), some (.int x3)], [.ref o, .ref o], (sI ((sI ((sI ((sI w q1_o ((gI w o 4)).toNatClampNeg ((vp_nar .boolean x0)))) q0_o ((gI ((sI w q1_o ((gI w o 4)).toNatClampNeg ((vp_nar .boolean x0)))) o 4)).toNatClampNeg x1)) q2_o ((gI ((sI ((sI w q1_o ((gI w o 4)).toNatClampNeg ((vp_nar .boolean x0)))) q0_o ((gI ((sI w q1_o ((gI w o 4)).toNatClampNeg ((vp_nar .boolean x0)))) o 4)).toNatClampNeg x1)) o 4)).toNatClampNeg x2)) q3_o ((gI ((sI ((sI ((sI w q1_o ((gI w o 4)).toNatClampNeg ((vp_nar .boolean x0)))) q0_o ((gI ((sI w q1_o ((gI w o 4)).toNatClampNeg ((vp_nar .boolean x0)))) o 4)).toNatClampNeg x1)) q2_o ((gI ((sI ((sI w q1_o ((gI w o 4)).toNatClampNeg ((vp_nar .boolean x0)))) q0_o ((gI ((sI w q1_o ((gI w o 4)).toNatClampNeg ((vp_nar .boolean x0)))) o 4)).toNatClampNeg x1)) o 4)).toNatClampNeg x2)) o 4)).toNatClampNeg x3))) rfl).trans ?_
    refine (val_gf (w := (sI ((sI ((sI ((sI w q1_o ((gI w o 4)).toNatClampNeg ((vp_nar .boolean x0)))) q0_o ((gI ((sI w q1_o ((gI w o 4)).toNatClampNeg ((vp_nar .boolean x0)))) o 4)).toNatClampNeg x1)) q2_o ((gI ((sI ((sI w q1_o ((gI w o 4)).toNatClampNeg ((vp_nar .boolean x0)))) q0_o ((gI ((sI w q1_o ((gI w o 4)).toNatClampNeg ((vp_nar .boolean x0)))) o 4)).toNatClampNeg x1)) o 4)).toNatClampNeg x2)) q3_o ((gI ((sI ((sI ((sI w q1_o ((gI w o 4)).toNatClampNeg ((vp_nar .boolean x0)))) q0_o ((gI ((sI w q1_o ((gI w o 4)).toNatClampNeg ((vp_nar .boolean x0)))) o 4)).toNatClampNeg x1)) q2_o ((gI ((sI ((sI w q1_o ((gI w o 4)).toNatClampNeg ((vp_nar .boolean x0)))) q0_o ((gI ((sI w q1_o ((gI w o 4)).toNatClampNeg ((vp_nar .boolean x0)))) o 4)).toNatClampNeg x1)) o 4)).toNatClampNeg x2)) o 4)).toNatClampNeg x3)) rfl hk_o rfl).trans ?_
    show val (148, d, 56, [some (.ref o), some (.int x0), some (.int x1), some (.int x2), some (.int x3)], [.int (gI ((sI ((sI ((sI ((sI w q1_o ((gI w o 4)).toNatClampNeg ((vp_nar .boolean x0)))) q0_o ((gI ((sI w q1_o ((gI w o 4)).toNatClampNeg ((vp_nar .boolean x0)))) o 4)).toNatClampNeg x1)) q2_o ((gI ((sI ((sI w q1_o ((gI w o 4)).toNatClampNeg ((vp_nar .boolean x0)))) q0_o ((gI ((sI w q1_o ((gI w o 4)).toNatClampNeg ((vp_nar .boolean x0)))) o 4)).toNatClampNeg x1)) o 4)).toNatClampNeg x2)) q3_o ((gI ((sI ((sI ((sI w q1_o ((gI w o 4)).toNatClampNeg ((vp_nar .boolean x0)))) q0_o ((gI ((sI w q1_o ((gI w o 4)).toNatClampNeg ((vp_nar .boolean x0)))) o 4)).toNatClampNeg x1)) q2_o ((gI ((sI ((sI w q1_o ((gI w o 4)).toNatClampNeg ((vp_nar .boolean x0)))) q0_o ((gI ((sI w q1_o ((gI w o 4)).toNatClampNeg ((vp_nar .boolean x0)))) o 4)).toNatClampNeg x1)) o 4)).toNatClampNeg x2)) o 4)).toNatClampNeg x3)) o 4), .ref o], (sI ((sI ((sI ((sI w q1_o ((gI w o 4)).toNatClampNeg ((vp_nar .boolean x0)))) q0_o ((gI ((sI w q1_o ((gI w o 4)).toNatClampNeg ((vp_nar .boolean x0)))) o 4)).toNatClampNeg x1)) q2_o ((gI ((sI ((sI w q1_o ((gI w o 4)).toNatClampNeg ((vp_nar .boolean x0)))) q0_o ((gI ((sI w q1_o ((gI w o 4)).toNatClampNeg ((vp_nar .boolean x0)))) o 4)).toNatClampNeg x1)) o 4)).toNatClampNeg x2)) q3_o ((gI ((sI ((sI ((sI w q1_o ((gI w o 4)).toNatClampNeg ((vp_nar .boolean x0)))) q0_o ((gI ((sI w q1_o ((gI w o 4)).toNatClampNeg ((vp_nar .boolean x0)))) o 4)).toNatClampNeg x1)) q2_o ((gI ((sI ((sI w q1_o ((gI w o 4)).toNatClampNeg ((vp_nar .boolean x0)))) q0_o ((gI ((sI w q1_o ((gI w o 4)).toNatClampNeg ((vp_nar .boolean x0)))) o 4)).toNatClampNeg x1)) o 4)).toNatClampNeg x2)) o 4)).toNatClampNeg x3)) = _
    refine (val_g (c2 := (148, d, 57, [some (.ref o), some (.int x0), some (.int x1), some (.int x2), some (.int x3)], [.int 1, .int (gI ((sI ((sI ((sI ((sI w q1_o ((gI w o 4)).toNatClampNeg ((vp_nar .boolean x0)))) q0_o ((gI ((sI w q1_o ((gI w o 4)).toNatClampNeg ((vp_nar .boolean x0)))) o 4)).toNatClampNeg x1)) q2_o ((gI ((sI ((sI w q1_o ((gI w o 4)).toNatClampNeg ((vp_nar .boolean x0)))) q0_o ((gI ((sI w q1_o ((gI w o 4)).toNatClampNeg ((vp_nar .boolean x0)))) o 4)).toNatClampNeg x1)) o 4)).toNatClampNeg x2)) q3_o ((gI ((sI ((sI ((sI w q1_o ((gI w o 4)).toNatClampNeg ((vp_nar .boolean x0)))) q0_o ((gI ((sI w q1_o ((gI w o 4)).toNatClampNeg ((vp_nar .boolean x0)))) o 4)).toNatClampNeg x1)) q2_o ((gI ((sI ((sI w q1_o ((gI w o 4)).toNatClampNeg ((vp_nar .boolean x0)))) q0_o ((gI ((sI w q1_o ((gI w o 4)).toNatClampNeg ((vp_nar .boolean x0)))) o 4)).toNatClampNeg x1)) o 4)).toNatClampNeg x2)) o 4)).toNatClampNeg x3)) o 4), .ref o], (sI ((sI ((sI ((sI w q1_o ((gI w o 4)).toNatClampNeg ((vp_nar .boolean x0)))) q0_o ((gI ((sI w q1_o ((gI w o 4)).toNatClampNeg ((vp_nar .boolean x0)))) o 4)).toNatClampNeg x1)) q2_o ((gI ((sI ((sI w q1_o ((gI w o 4)).toNatClampNeg ((vp_nar .boolean x0)))) q0_o ((gI ((sI w q1_o ((gI w o 4)).toNatClampNeg ((vp_nar .boolean x0)))) o 4)).toNatClampNeg x1)) o 4)).toNatClampNeg x2)) q3_o ((gI ((sI ((sI ((sI w q1_o ((gI w o 4)).toNatClampNeg ((vp_nar .boolean x0)))) q0_o ((gI ((sI w q1_o ((gI w o 4)).toNatClampNeg ((vp_nar .boolean x0)))) o 4)).toNatClampNeg x1)) q2_o ((gI ((sI ((sI w q1_o ((gI w o 4)).toNatClampNeg ((vp_nar .boolean x0)))) q0_o ((gI ((sI w q1_o ((gI w o 4)).toNatClampNeg ((vp_nar .boolean x0)))) o 4)).toNatClampNeg x1)) o 4)).toNatClampNeg x2)) o 4)).toNatClampNeg x3))) rfl).trans ?_
    refine (val_g (c2 := (148, d, 58, [some (.ref o), some (.int x0), some (.int x1), some (.int x2), some (.int x3)], [.int ((gI ((sI ((sI ((sI ((sI w q1_o ((gI w o 4)).toNatClampNeg ((vp_nar .boolean x0)))) q0_o ((gI ((sI w q1_o ((gI w o 4)).toNatClampNeg ((vp_nar .boolean x0)))) o 4)).toNatClampNeg x1)) q2_o ((gI ((sI ((sI w q1_o ((gI w o 4)).toNatClampNeg ((vp_nar .boolean x0)))) q0_o ((gI ((sI w q1_o ((gI w o 4)).toNatClampNeg ((vp_nar .boolean x0)))) o 4)).toNatClampNeg x1)) o 4)).toNatClampNeg x2)) q3_o ((gI ((sI ((sI ((sI w q1_o ((gI w o 4)).toNatClampNeg ((vp_nar .boolean x0)))) q0_o ((gI ((sI w q1_o ((gI w o 4)).toNatClampNeg ((vp_nar .boolean x0)))) o 4)).toNatClampNeg x1)) q2_o ((gI ((sI ((sI w q1_o ((gI w o 4)).toNatClampNeg ((vp_nar .boolean x0)))) q0_o ((gI ((sI w q1_o ((gI w o 4)).toNatClampNeg ((vp_nar .boolean x0)))) o 4)).toNatClampNeg x1)) o 4)).toNatClampNeg x2)) o 4)).toNatClampNeg x3)) o 4) + 1), .ref o], (sI ((sI ((sI ((sI w q1_o ((gI w o 4)).toNatClampNeg ((vp_nar .boolean x0)))) q0_o ((gI ((sI w q1_o ((gI w o 4)).toNatClampNeg ((vp_nar .boolean x0)))) o 4)).toNatClampNeg x1)) q2_o ((gI ((sI ((sI w q1_o ((gI w o 4)).toNatClampNeg ((vp_nar .boolean x0)))) q0_o ((gI ((sI w q1_o ((gI w o 4)).toNatClampNeg ((vp_nar .boolean x0)))) o 4)).toNatClampNeg x1)) o 4)).toNatClampNeg x2)) q3_o ((gI ((sI ((sI ((sI w q1_o ((gI w o 4)).toNatClampNeg ((vp_nar .boolean x0)))) q0_o ((gI ((sI w q1_o ((gI w o 4)).toNatClampNeg ((vp_nar .boolean x0)))) o 4)).toNatClampNeg x1)) q2_o ((gI ((sI ((sI w q1_o ((gI w o 4)).toNatClampNeg ((vp_nar .boolean x0)))) q0_o ((gI ((sI w q1_o ((gI w o 4)).toNatClampNeg ((vp_nar .boolean x0)))) o 4)).toNatClampNeg x1)) o 4)).toNatClampNeg x2)) o 4)).toNatClampNeg x3))) rfl).trans ?_
    refine (val_pf (w := (sI ((sI ((sI ((sI w q1_o ((gI w o 4)).toNatClampNeg ((vp_nar .boolean x0)))) q0_o ((gI ((sI w q1_o ((gI w o 4)).toNatClampNeg ((vp_nar .boolean x0)))) o 4)).toNatClampNeg x1)) q2_o ((gI ((sI ((sI w q1_o ((gI w o 4)).toNatClampNeg ((vp_nar .boolean x0)))) q0_o ((gI ((sI w q1_o ((gI w o 4)).toNatClampNeg ((vp_nar .boolean x0)))) o 4)).toNatClampNeg x1)) o 4)).toNatClampNeg x2)) q3_o ((gI ((sI ((sI ((sI w q1_o ((gI w o 4)).toNatClampNeg ((vp_nar .boolean x0)))) q0_o ((gI ((sI w q1_o ((gI w o 4)).toNatClampNeg ((vp_nar .boolean x0)))) o 4)).toNatClampNeg x1)) q2_o ((gI ((sI ((sI w q1_o ((gI w o 4)).toNatClampNeg ((vp_nar .boolean x0)))) q0_o ((gI ((sI w q1_o ((gI w o 4)).toNatClampNeg ((vp_nar .boolean x0)))) o 4)).toNatClampNeg x1)) o 4)).toNatClampNeg x2)) o 4)).toNatClampNeg x3)) rfl hk_o rfl).trans ?_
    show val (148, d, 61, [some (.ref o), some (.int x0), some (.int x1), some (.int x2), some (.int x3)], [], (sI ((sI ((sI ((sI ((sI w q1_o ((gI w o 4)).toNatClampNeg ((vp_nar .boolean x0)))) q0_o ((gI ((sI w q1_o ((gI w o 4)).toNatClampNeg ((vp_nar .boolean x0)))) o 4)).toNatClampNeg x1)) q2_o ((gI ((sI ((sI w q1_o ((gI w o 4)).toNatClampNeg ((vp_nar .boolean x0)))) q0_o ((gI ((sI w q1_o ((gI w o 4)).toNatClampNeg ((vp_nar .boolean x0)))) o 4)).toNatClampNeg x1)) o 4)).toNatClampNeg x2)) q3_o ((gI ((sI ((sI ((sI w q1_o ((gI w o 4)).toNatClampNeg ((vp_nar .boolean x0)))) q0_o ((gI ((sI w q1_o ((gI w o 4)).toNatClampNeg ((vp_nar .boolean x0)))) o 4)).toNatClampNeg x1)) q2_o ((gI ((sI ((sI w q1_o ((gI w o 4)).toNatClampNeg ((vp_nar .boolean x0)))) q0_o ((gI ((sI w q1_o ((gI w o 4)).toNatClampNeg ((vp_nar .boolean x0)))) o 4)).toNatClampNeg x1)) o 4)).toNatClampNeg x2)) o 4)).toNatClampNeg x3)) o 4 (((gI ((sI ((sI ((sI ((sI w q1_o ((gI w o 4)).toNatClampNeg ((vp_nar .boolean x0)))) q0_o ((gI ((sI w q1_o ((gI w o 4)).toNatClampNeg ((vp_nar .boolean x0)))) o 4)).toNatClampNeg x1)) q2_o ((gI ((sI ((sI w q1_o ((gI w o 4)).toNatClampNeg ((vp_nar .boolean x0)))) q0_o ((gI ((sI w q1_o ((gI w o 4)).toNatClampNeg ((vp_nar .boolean x0)))) o 4)).toNatClampNeg x1)) o 4)).toNatClampNeg x2)) q3_o ((gI ((sI ((sI ((sI w q1_o ((gI w o 4)).toNatClampNeg ((vp_nar .boolean x0)))) q0_o ((gI ((sI w q1_o ((gI w o 4)).toNatClampNeg ((vp_nar .boolean x0)))) o 4)).toNatClampNeg x1)) q2_o ((gI ((sI ((sI w q1_o ((gI w o 4)).toNatClampNeg ((vp_nar .boolean x0)))) q0_o ((gI ((sI w q1_o ((gI w o 4)).toNatClampNeg ((vp_nar .boolean x0)))) o 4)).toNatClampNeg x1)) o 4)).toNatClampNeg x2)) o 4)).toNatClampNeg x3)) o 4) + 1)))) = _
    exact val_r rfl
  · refine ((val_ic_lt rfl).trans (if_neg hc34)).trans ?_
    show val (148, d, 9, [some (.ref o), some (.int x0), some (.int x1), some (.int x2), some (.int x3)], [], w) = _
    refine Eq.trans ?_ (if_neg hc34).symm
    exact val_r rfl
/-- BelfryHouse$Rule.holds(IIIZ)Z -/
theorem tz_149 (d : Nat) (w : Wd) (o : Nat) (x0 : Int32) (x1 : Int32) (x2 : Int32) (x3 : Int32)     : val (149, d + 3, 0, [some (.ref o), some (.int x0), some (.int x1), some (.int x2), some (.int x3), none], [], w) = val (149, d + 3, 3, [some (.ref o), some (.int x0), some (.int x1), some (.int x2), some (.int x3), some (.int 0)], [], w) := by
  refine (val_g (c2 := (149, d + 3, 1, [some (.ref o), some (.int x0), some (.int x1), some (.int x2), some (.int x3), none], [.int 0], w)) rfl).trans ?_
  refine (val_g (c2 := (149, d + 3, 3, [some (.ref o), some (.int x0), some (.int x1), some (.int x2), some (.int x3), some (.int 0)], [], w)) rfl).trans ?_
  rfl
theorem tz_149_3 (d : Nat) (w : Wd) (l0 : Nat) (l1 : Int32) (l2 : Int32) (l3 : Int32) (l4 : Int32) (l5 : Int32)    (m_l0 : Nat) (hk_l0 : wK w l0 = (6, m_l0)) : val (149, d + 3, 3, [some (.ref l0), some (.int l1), some (.int l2), some (.int l3), some (.int l4), some (.int l5)], [], w) = (if (gI w l0 4) ≤ l5 then some (some (.int 1), w) else val (149, d + 3, 20, [some (.ref l0), some (.int l1), some (.int l2), some (.int l3), some (.int l4), some (.int l5)], [.int l4, .int l3, .int l2, .int l1, .int l5, .ref l0], w)) := by
  refine (val_g (c2 := (149, d + 3, 5, [some (.ref l0), some (.int l1), some (.int l2), some (.int l3), some (.int l4), some (.int l5)], [.int l5], w)) rfl).trans ?_
  refine (val_g (c2 := (149, d + 3, 6, [some (.ref l0), some (.int l1), some (.int l2), some (.int l3), some (.int l4), some (.int l5)], [.ref l0, .int l5], w)) rfl).trans ?_
  refine (val_gf rfl hk_l0 rfl).trans ?_
  show val (149, d + 3, 9, [some (.ref l0), some (.int l1), some (.int l2), some (.int l3), some (.int l4), some (.int l5)], [.int (gI w l0 4), .int l5], w) = _
  by_cases hc37 : (gI w l0 4) ≤ l5
  · refine ((val_ic_ge rfl).trans (if_pos hc37)).trans ?_
    show val (149, d + 3, 41, [some (.ref l0), some (.int l1), some (.int l2), some (.int l3), some (.int l4), some (.int l5)], [], w) = _
    refine Eq.trans ?_ (if_pos hc37).symm
    refine (val_g (c2 := (149, d + 3, 42, [some (.ref l0), some (.int l1), some (.int l2), some (.int l3), some (.int l4), some (.int l5)], [.int 1], w)) rfl).trans ?_
    exact val_r rfl
  · refine ((val_ic_ge rfl).trans (if_neg hc37)).trans ?_
    show val (149, d + 3, 12, [some (.ref l0), some (.int l1), some (.int l2), some (.int l3), some (.int l4), some (.int l5)], [], w) = _
    refine Eq.trans ?_ (if_neg hc37).symm
    refine (val_g (c2 := (149, d + 3, 13, [some (.ref l0), some (.int l1), some (.int l2), some (.int l3), some (.int l4), some (.int l5)], [.ref l0], w)) rfl).trans ?_
    refine (val_g (c2 := (149, d + 3, 15, [some (.ref l0), some (.int l1), some (.int l2), some (.int l3), some (.int l4), some (.int l5)], [.int l5, .ref l0], w)) rfl).trans ?_
    refine (val_g (c2 := (149, d + 3, 16, [some (.ref l0), some (.int l1), some (.int l2), some (.int l3), some (.int l4), some (.int l5)], [.int l1, .int l5, .ref l0], w)) rfl).trans ?_
    refine (val_g (c2 := (149, d + 3, 17, [some (.ref l0), some (.int l1), some (.int l2), some (.int l3), some (.int l4), some (.int l5)], [.int l2, .int l1, .int l5, .ref l0], w)) rfl).trans ?_
    refine (val_g (c2 := (149, d + 3, 18, [some (.ref l0), some (.int l1), some (.int l2), some (.int l3), some (.int l4), some (.int l5)], [.int l3, .int l2, .int l1, .int l5, .ref l0], w)) rfl).trans ?_
    refine (val_g (c2 := (149, d + 3, 20, [some (.ref l0), some (.int l1), some (.int l2), some (.int l3), some (.int l4), some (.int l5)], [.int l4, .int l3, .int l2, .int l1, .int l5, .ref l0], w)) rfl).trans ?_
    rfl
theorem tz_149_23 (d : Nat) (w : Wd) (l0 : Nat) (l1 : Int32) (l2 : Int32) (l3 : Int32) (l4 : Int32) (l5 : Int32) (s0 : Int32)    (m_l0 : Nat) (hk_l0 : wK w l0 = (6, m_l0)) (q1_l0 : Nat) (hr1_l0 : gR w l0 1 = some q1_l0) (m_q1_l0 : Nat) (hk_q1_l0 : wK w q1_l0 = (22, m_q1_l0)) (hy7 : inB l5 m_q1_l0 = true) : val (149, d + 3, 23, [some (.ref l0), some (.int l1), some (.int l2), some (.int l3), some (.int l4), some (.int l5)], [.int s0], w) = (if ¬ s0 = (gI w q1_l0 (l5).toNatClampNeg) then val (149, d + 3, 3, [some (.ref l0), some (.int l1), some (.int l2), some (.int l3), some (.int l4), some (.int (l5 + 1))], [], w) else some (some (.int 0), w)) := by
  refine (val_g (c2 := (149, d + 3, 24, [some (.ref l0), some (.int l1), some (.int l2), some (.int l3), some (.int l4), some (.int l5)], [.ref l0, .int s0], w)) rfl).trans ?_
  refine (val_gf rfl hk_l0 (fvR hr1_l0)).trans ?_
  show val (149, d + 3, 27, [some (.ref l0), some (.int l1), some (.int l2), some (.int l3), some (.int l4), some (.int l5)], [.ref q1_l0, .int s0], w) = _
  refine (val_g (c2 := (149, d + 3, 29, [some (.ref l0), some (.int l1), some (.int l2), some (.int l3), some (.int l4), some (.int l5)], [.int l5, .ref q1_l0, .int s0], w)) rfl).trans ?_
  refine (val_bal rfl hk_q1_l0 rfl hy7).trans ?_
  show val (149, d + 3, 30, [some (.ref l0), some (.int l1), some (.int l2), some (.int l3), some (.int l4), some (.int l5)], [.int (gI w q1_l0 (l5).toNatClampNeg), .int s0], w) = _
  by_cases hc38 : ¬ s0 = (gI w q1_l0 (l5).toNatClampNeg)
  · refine ((val_ic_ne rfl).trans (if_pos hc38)).trans ?_
    show val (149, d + 3, 35, [some (.ref l0), some (.int l1), some (.int l2), some (.int l3), some (.int l4), some (.int l5)], [], w) = _
    refine Eq.trans ?_ (if_pos hc38).symm
    refine (val_g (c2 := (149, d + 3, 38, [some (.ref l0), some (.int l1), some (.int l2), some (.int l3), some (.int l4), some (.int (l5 + 1))], [], w)) rfl).trans ?_
    refine (val_g (c2 := (149, d + 3, 3, [some (.ref l0), some (.int l1), some (.int l2), some (.int l3), some (.int l4), some (.int (l5 + 1))], [], w)) rfl).trans ?_
    rfl
  · refine ((val_ic_ne rfl).trans (if_neg hc38)).trans ?_
    show val (149, d + 3, 33, [some (.ref l0), some (.int l1), some (.int l2), some (.int l3), some (.int l4), some (.int l5)], [], w) = _
    refine Eq.trans ?_ (if_neg hc38).symm
    refine (val_g (c2 := (149, d + 3, 34, [some (.ref l0), some (.int l1), some (.int l2), some (.int l3), some (.int l4), some (.int l5)], [.int 0], w)) rfl).trans ?_
    exact val_r rfl
/-- BelfryHouse$Rule.isSo(IIIIZ)Z -/
theorem tz_150 (d : Nat) (w : Wd) (o : Nat) (x0 : Int32) (x1 : Int32) (x2 : Int32) (x3 : Int32) (x4 : Int32)    (m_o : Nat) (hk_o : wK w o = (6, m_o)) (q2_o : Nat) (hr2_o : gR w o 2 = some q2_o) (m_q2_o : Nat) (hk_q2_o : wK w q2_o = (20, m_q2_o)) (hy7 : inB x0 m_q2_o = true) (q3_o : Nat) (hr3_o : gR w o 3 = some q3_o) (m_q3_o : Nat) (hk_q3_o : wK w q3_o = (20, m_q3_o)) (hy12 : inB x0 m_q3_o = true) (q0_o : Nat) (hr0_o : gR w o 0 = some q0_o) (m_q0_o : Nat) (hk_q0_o : wK w q0_o = (20, m_q0_o)) (hy17 : inB x0 m_q0_o = true) (hy18 : (¬ ((gI w q0_o (x0).toNatClampNeg) = 0)) → (¬ ((gI w q0_o (x0).toNatClampNeg) = 1)) → (¬ ((gI w q0_o (x0).toNatClampNeg) = 2)) → (¬ ((gI w q0_o (x0).toNatClampNeg) = 3)) → ((gI w q0_o (x0).toNatClampNeg) = 4) → narB 1 x4 = true) (hy19 : (¬ ((gI w q0_o (x0).toNatClampNeg) = 0)) → (¬ ((gI w q0_o (x0).toNatClampNeg) = 1)) → (¬ ((gI w q0_o (x0).toNatClampNeg) = 2)) → (¬ ((gI w q0_o (x0).toNatClampNeg) = 3)) → (¬ ((gI w q0_o (x0).toNatClampNeg) = 4)) → (¬ ((gI w q2_o (x0).toNatClampNeg) ≤ 0)) → ¬ (gI w q2_o (x0).toNatClampNeg) = 0) : val (150, d + 2, 0, [some (.ref o), some (.int x0), some (.int x1), some (.int x2), some (.int x3), some (.int x4), none, none], [], w) = (if (gI w q0_o (x0).toNatClampNeg) = 0 then (if ¬ (fn_130 x1 x2 (((gI w q3_o (x0).toNatClampNeg) - 1))) = ((gI w q2_o (x0).toNatClampNeg) - 1) then some (some (.int 0), w) else some (some (.int 1), w)) else (if (gI w q0_o (x0).toNatClampNeg) = 1 then val (150, d + 2, 84, [some (.ref o), some (.int x0), some (.int x1), some (.int x2), some (.int x3), some (.int x4), some (.int (gI w q2_o (x0).toNatClampNeg)), some (.int (gI w q3_o (x0).toNatClampNeg))], [.int ((gI w q2_o (x0).toNatClampNeg) - 1), .int x2, .int x1], w) else (if (gI w q0_o (x0).toNatClampNeg) = 2 then val (150, d + 2, 107, [some (.ref o), some (.int x0), some (.int x1), some (.int x2), some (.int x3), some (.int x4), some (.int (gI w q2_o (x0).toNatClampNeg)), some (.int (gI w q3_o (x0).toNatClampNeg))], [.int x2, .int x1], w) else (if (gI w q0_o (x0).toNatClampNeg) = 3 then val (150, d + 2, 113, [some (.ref o), some (.int x0), some (.int x1), some (.int x2), some (.int x3), some (.int x4), some (.int (gI w q2_o (x0).toNatClampNeg)), some (.int (gI w q3_o (x0).toNatClampNeg))], [.int x1, .int x2], w) else (if (gI w q0_o (x0).toNatClampNeg) = 4 then some (some (.int x4), w) else (if (gI w q2_o (x0).toNatClampNeg) ≤ 0 then some (some (.int 0), w) else (if ¬ ((x3 - (gI w q3_o (x0).toNatClampNeg)) - (x3 - (gI w q3_o (x0).toNatClampNeg)) / (gI w q2_o (x0).toNatClampNeg) * (gI w q2_o (x0).toNatClampNeg)) = 0 then some (some (.int 0), w) else some (some (.int 1), w)))))))) := by
  refine (val_g (c2 := (150, d + 2, 1, [some (.ref o), some (.int x0), some (.int x1), some (.int x2), some (.int x3), some (.int x4), none, none], [.ref o], w)) rfl).trans ?_
  refine (val_gf rfl hk_o (fvR hr2_o)).trans ?_
  show val (150, d + 2, 4, [some (.ref o), some (.int x0), some (.int x1), some (.int x2), some (.int x3), some (.int x4), none, none], [.ref q2_o], w) = _
  refine (val_g (c2 := (150, d + 2, 5, [some (.ref o), some (.int x0), some (.int x1), some (.int x2), some (.int x3), some (.int x4), none, none], [.int x0, .ref q2_o], w)) rfl).trans ?_
  refine (val_ial rfl hk_q2_o rfl hy7).trans ?_
  show val (150, d + 2, 6, [some (.ref o), some (.int x0), some (.int x1), some (.int x2), some (.int x3), some (.int x4), none, none], [.int (gI w q2_o (x0).toNatClampNeg)], w) = _
  refine (val_g (c2 := (150, d + 2, 8, [some (.ref o), some (.int x0), some (.int x1), some (.int x2), some (.int x3), some (.int x4), some (.int (gI w q2_o (x0).toNatClampNeg)), none], [], w)) rfl).trans ?_
  refine (val_g (c2 := (150, d + 2, 9, [some (.ref o), some (.int x0), some (.int x1), some (.int x2), some (.int x3), some (.int x4), some (.int (gI w q2_o (x0).toNatClampNeg)), none], [.ref o], w)) rfl).trans ?_
  refine (val_gf rfl hk_o (fvR hr3_o)).trans ?_
  show val (150, d + 2, 12, [some (.ref o), some (.int x0), some (.int x1), some (.int x2), some (.int x3), some (.int x4), some (.int (gI w q2_o (x0).toNatClampNeg)), none], [.ref q3_o], w) = _
  refine (val_g (c2 := (150, d + 2, 13, [some (.ref o), some (.int x0), some (.int x1), some (.int x2), some (.int x3), some (.int x4), some (.int (gI w q2_o (x0).toNatClampNeg)), none], [.int x0, .ref q3_o], w)) rfl).trans ?_
  refine (val_ial rfl hk_q3_o rfl hy12).trans ?_
  show val (150, d + 2, 14, [some (.ref o), some (.int x0), some (.int x1), some (.int x2), some (.int x3), some (.int x4), some (.int (gI w q2_o (x0).toNatClampNeg)), none], [.int (gI w q3_o (x0).toNatClampNeg)], w) = _
  refine (val_g (c2 := (150, d + 2, 16, [some (.ref o), some (.int x0), some (.int x1), some (.int x2), some (.int x3), some (.int x4), some (.int (gI w q2_o (x0).toNatClampNeg)), some (.int (gI w q3_o (x0).toNatClampNeg))], [], w)) rfl).trans ?_
  refine (val_g (c2 := (150, d + 2, 17, [some (.ref o), some (.int x0), some (.int x1), some (.int x2), some (.int x3), some (.int x4), some (.int (gI w q2_o (x0).toNatClampNeg)), some (.int (gI w q3_o (x0).toNatClampNeg))], [.ref o], w)) rfl).trans ?_
  refine (val_gf rfl hk_o (fvR hr0_o)).trans ?_
  show val (150, d + 2, 20, [some (.ref o), some (.int x0), some (.int x1), some (.int x2), some (.int x3), some (.int x4), some (.int (gI w q2_o (x0).toNatClampNeg)), some (.int (gI w q3_o (x0).toNatClampNeg))], [.ref q0_o], w) = _
  refine (val_g (c2 := (150, d + 2, 21, [some (.ref o), some (.int x0), some (.int x1), some (.int x2), some (.int x3), some (.int x4), some (.int (gI w q2_o (x0).toNatClampNeg)), some (.int (gI w q3_o (x0).toNatClampNeg))], [.int x0, .ref q0_o], w)) rfl).trans ?_
  refine (val_ial rfl hk_q0_o rfl hy17).trans ?_
  show val (150, d + 2, 22, [some (.ref o), some (.int x0), some (.int x1), some (.int x2), some (.int x3), some (.int x4), some (.int (gI w q2_o (x0).toNatClampNeg)), some (.int (gI w q3_o (x0).toNatClampNeg))], [.int (gI w q0_o (x0).toNatClampNeg)], w) = _
  refine (val_tsI rfl).trans ?_
  show (if (gI w q0_o (x0).toNatClampNeg) = 0 then val (150, d + 2, 56, [some (.ref o), some (.int x0), some (.int x1), some (.int x2), some (.int x3), some (.int x4), some (.int (gI w q2_o (x0).toNatClampNeg)), some (.int (gI w q3_o (x0).toNatClampNeg))], [], w) else if (gI w q0_o (x0).toNatClampNeg) = 1 then val (150, d + 2, 78, [some (.ref o), some (.int x0), some (.int x1), some (.int x2), some (.int x3), some (.int x4), some (.int (gI w q2_o (x0).toNatClampNeg)), some (.int (gI w q3_o (x0).toNatClampNeg))], [], w) else if (gI w q0_o (x0).toNatClampNeg) = 2 then val (150, d + 2, 105, [some (.ref o), some (.int x0), some (.int x1), some (.int x2), some (.int x3), some (.int x4), some (.int (gI w q2_o (x0).toNatClampNeg)), some (.int (gI w q3_o (x0).toNatClampNeg))], [], w) else if (gI w q0_o (x0).toNatClampNeg) = 3 then val (150, d + 2, 111, [some (.ref o), some (.int x0), some (.int x1), some (.int x2), some (.int x3), some (.int x4), some (.int (gI w q2_o (x0).toNatClampNeg)), some (.int (gI w q3_o (x0).toNatClampNeg))], [], w) else if (gI w q0_o (x0).toNatClampNeg) = 4 then val (150, d + 2, 125, [some (.ref o), some (.int x0), some (.int x1), some (.int x2), some (.int x3), some (.int x4), some (.int (gI w q2_o (x0).toNatClampNeg)), some (.int (gI w q3_o (x0).toNatClampNeg))], [], w) else val (150, d + 2, 128, [some (.ref o), some (.int x0), some (.int x1), some (.int x2), some (.int x3), some (.int x4), some (.int (gI w q2_o (x0).toNatClampNeg)), some (.int (gI w q3_o (x0).toNatClampNeg))], [], w)) = _
  by_cases hc49 : (gI w q0_o (x0).toNatClampNeg) = 0
  · refine (if_pos hc49).trans (Eq.trans ?_ (if_pos hc49).symm)
    refine (val_g (c2 := (150, d + 2, 57, [some (.ref o), some (.int x0), some (.int x1), some (.int x2), some (.int x3), some (.int x4), some (.int (gI w q2_o (x0).toNatClampNeg)), some (.int (gI w q3_o (x0).toNatClampNeg))], [.int x1], w)) rfl).trans ?_
    refine (val_g (c2 := (150, d + 2, 58, [some (.ref o), some (.int x0), some (.int x1), some (.int x2), some (.int x3), some (.int x4), some (.int (gI w q2_o (x0).toNatClampNeg)), some (.int (gI w q3_o (x0).toNatClampNeg))], [.int x2, .int x1], w)) rfl).trans ?_
    refine (val_g (c2 := (150, d + 2, 60, [some (.ref o), some (.int x0), some (.int x1), some (.int x2), some (.int x3), some (.int x4), some (.int (gI w q2_o (x0).toNatClampNeg)), some (.int (gI w q3_o (x0).toNatClampNeg))], [.int (gI w q3_o (x0).toNatClampNeg), .int x2, .int x1], w)) rfl).trans ?_
    refine (val_g (c2 := (150, d + 2, 61, [some (.ref o), some (.int x0), some (.int x1), some (.int x2), some (.int x3), some (.int x4), some (.int (gI w q2_o (x0).toNatClampNeg)), some (.int (gI w q3_o (x0).toNatClampNeg))], [.int 1, .int (gI w q3_o (x0).toNatClampNeg), .int x2, .int x1], w)) rfl).trans ?_
    refine (val_g (c2 := (150, d + 2, 62, [some (.ref o), some (.int x0), some (.int x1), some (.int x2), some (.int x3), some (.int x4), some (.int (gI w q2_o (x0).toNatClampNeg)), some (.int (gI w q3_o (x0).toNatClampNeg))], [.int ((gI w q3_o (x0).toNatClampNeg) - 1), .int x2, .int x1], w)) rfl).trans ?_
    refine (val_call (w1 := w) (pc2 := 65) rfl rfl rfl rfl rfl (Nat.le_of_ble_eq_true rfl) (Nat.le_of_ble_eq_true rfl) rfl (ev_130 (d + 1) w x1 x2 (((gI w q3_o (x0).toNatClampNeg) - 1))) rfl).trans ?_
    show val (150, d + 2, 65, [some (.ref o), some (.int x0), some (.int x1), some (.int x2), some (.int x3), some (.int x4), some (.int (gI w q2_o (x0).toNatClampNeg)), some (.int (gI w q3_o (x0).toNatClampNeg))], [.int (fn_130 x1 x2 (((gI w q3_o (x0).toNatClampNeg) - 1)))], w) = _
    refine (val_g (c2 := (150, d + 2, 67, [some (.ref o), some (.int x0), some (.int x1), some (.int x2), some (.int x3), some (.int x4), some (.int (gI w q2_o (x0).toNatClampNeg)), some (.int (gI w q3_o (x0).toNatClampNeg))], [.int (gI w q2_o (x0).toNatClampNeg), .int (fn_130 x1 x2 (((gI w q3_o (x0).toNatClampNeg) - 1)))], w)) rfl).trans ?_
    refine (val_g (c2 := (150, d + 2, 68, [some (.ref o), some (.int x0), some (.int x1), some (.int x2), some (.int x3), some (.int x4), some (.int (gI w q2_o (x0).toNatClampNeg)), some (.int (gI w q3_o (x0).toNatClampNeg))], [.int 1, .int (gI w q2_o (x0).toNatClampNeg), .int (fn_130 x1 x2 (((gI w q3_o (x0).toNatClampNeg) - 1)))], w)) rfl).trans ?_
    refine (val_g (c2 := (150, d + 2, 69, [some (.ref o), some (.int x0), some (.int x1), some (.int x2), some (.int x3), some (.int x4), some (.int (gI w q2_o (x0).toNatClampNeg)), some (.int (gI w q3_o (x0).toNatClampNeg))], [.int ((gI w q2_o (x0).toNatClampNeg) - 1), .int (fn_130 x1 x2 (((gI w q3_o (x0).toNatClampNeg) - 1)))], w)) rfl).trans ?_
    by_cases hc50 : ¬ (fn_130 x1 x2 (((gI w q3_o (x0).toNatClampNeg) - 1))) = ((gI w q2_o (x0).toNatClampNeg) - 1)
    · refine ((val_ic_ne rfl).trans (if_pos hc50)).trans ?_
      show val (150, d + 2, 76, [some (.ref o), some (.int x0), some (.int x1), some (.int x2), some (.int x3), some (.int x4), some (.int (gI w q2_o (x0).toNatClampNeg)), some (.int (gI w q3_o (x0).toNatClampNeg))], [], w) = _
      refine Eq.trans ?_ (if_pos hc50).symm
      refine (val_g (c2 := (150, d + 2, 77, [some (.ref o), some (.int x0), some (.int x1), some (.int x2), some (.int x3), some (.int x4), some (.int (gI w q2_o (x0).toNatClampNeg)), some (.int (gI w q3_o (x0).toNatClampNeg))], [.int 0], w)) rfl).trans ?_
      exact val_r rfl
    · refine ((val_ic_ne rfl).trans (if_neg hc50)).trans ?_
      show val (150, d + 2, 72, [some (.ref o), some (.int x0), some (.int x1), some (.int x2), some (.int x3), some (.int x4), some (.int (gI w q2_o (x0).toNatClampNeg)), some (.int (gI w q3_o (x0).toNatClampNeg))], [], w) = _
      refine Eq.trans ?_ (if_neg hc50).symm
      refine (val_g (c2 := (150, d + 2, 73, [some (.ref o), some (.int x0), some (.int x1), some (.int x2), some (.int x3), some (.int x4), some (.int (gI w q2_o (x0).toNatClampNeg)), some (.int (gI w q3_o (x0).toNatClampNeg))], [.int 1], w)) rfl).trans ?_
      refine (val_g (c2 := (150, d + 2, 77, [some (.ref o), some (.int x0), some (.int x1), some (.int x2), some (.int x3), some (.int x4), some (.int (gI w q2_o (x0).toNatClampNeg)), some (.int (gI w q3_o (x0).toNatClampNeg))], [.int 1], w)) rfl).trans ?_
      exact val_r rfl
  · refine (if_neg hc49).trans (Eq.trans ?_ (if_neg hc49).symm)
    by_cases hc51 : (gI w q0_o (x0).toNatClampNeg) = 1
    · refine (if_pos hc51).trans (Eq.trans ?_ (if_pos hc51).symm)
      refine (val_g (c2 := (150, d + 2, 79, [some (.ref o), some (.int x0), some (.int x1), some (.int x2), some (.int x3), some (.int x4), some (.int (gI w q2_o (x0).toNatClampNeg)), some (.int (gI w q3_o (x0).toNatClampNeg))], [.int x1], w)) rfl).trans ?_
      refine (val_g (c2 := (150, d + 2, 80, [some (.ref o), some (.int x0), some (.int x1), some (.int x2), some (.int x3), some (.int x4), some (.int (gI w q2_o (x0).toNatClampNeg)), some (.int (gI w q3_o (x0).toNatClampNeg))], [.int x2, .int x1], w)) rfl).trans ?_
      refine (val_g (c2 := (150, d + 2, 82, [some (.ref o), some (.int x0), some (.int x1), some (.int x2), some (.int x3), some (.int x4), some (.int (gI w q2_o (x0).toNatClampNeg)), some (.int (gI w q3_o (x0).toNatClampNeg))], [.int (gI w q2_o (x0).toNatClampNeg), .int x2, .int x1], w)) rfl).trans ?_
      refine (val_g (c2 := (150, d + 2, 83, [some (.ref o), some (.int x0), some (.int x1), some (.int x2), some (.int x3), some (.int x4), some (.int (gI w q2_o (x0).toNatClampNeg)), some (.int (gI w q3_o (x0).toNatClampNeg))], [.int 1, .int (gI w q2_o (x0).toNatClampNeg), .int x2, .int x1], w)) rfl).trans ?_
      refine (val_g (c2 := (150, d + 2, 84, [some (.ref o), some (.int x0), some (.int x1), some (.int x2), some (.int x3), some (.int x4), some (.int (gI w q2_o (x0).toNatClampNeg)), some (.int (gI w q3_o (x0).toNatClampNeg))], [.int ((gI w q2_o (x0).toNatClampNeg) - 1), .int x2, .int x1], w)) rfl).trans ?_
      rfl
    · refine (if_neg hc51).trans (Eq.trans ?_ (if_neg hc51).symm)
      by_cases hc52 : (gI w q0_o (x0).toNatClampNeg) = 2
      · refine (if_pos hc52).trans (Eq.trans ?_ (if_pos hc52).symm)
        refine (val_g (c2 := (150, d + 2, 106, [some (.ref o), some (.int x0), some (.int x1), some (.int x2), some (.int x3), some (.int x4), some (.int (gI w q2_o (x0).toNatClampNeg)), some (.int (gI w q3_o (x0).toNatClampNeg))], [.int x1], w)) rfl).trans ?_
        refine (val_g (c2 := (150, d + 2, 107, [some (.ref o), some (.int x0), some (.int x1), some (.int x2), some (.int x3), some (.int x4), some (.int (gI w q2_o (x0).toNatClampNeg)), some (.int (gI w q3_o (x0).toNatClampNeg))], [.int x2, .int x1], w)) rfl).trans ?_
        rfl
      · refine (if_neg hc52).trans (Eq.trans ?_ (if_neg hc52).symm)
        by_cases hc53 : (gI w q0_o (x0).toNatClampNeg) = 3
        · refine (if_pos hc53).trans (Eq.trans ?_ (if_pos hc53).symm)
          refine (val_g (c2 := (150, d + 2, 112, [some (.ref o), some (.int x0), some (.int x1), some (.int x2), some (.int x3), some (.int x4), some (.int (gI w q2_o (x0).toNatClampNeg)), some (.int (gI w q3_o (x0).toNatClampNeg))], [.int x2], w)) rfl).trans ?_
          refine (val_g (c2 := (150, d + 2, 113, [some (.ref o), some (.int x0), some (.int x1), some (.int x2), some (.int x3), some (.int x4), some (.int (gI w q2_o (x0).toNatClampNeg)), some (.int (gI w q3_o (x0).toNatClampNeg))], [.int x1, .int x2], w)) rfl).trans ?_
          rfl
        · refine (if_neg hc53).trans (Eq.trans ?_ (if_neg hc53).symm)
          by_cases hc54 : (gI w q0_o (x0).toNatClampNeg) = 4
          · refine (if_pos hc54).trans (Eq.trans ?_ (if_pos hc54).symm)
            refine (val_g (c2 := (150, d + 2, 127, [some (.ref o), some (.int x0), some (.int x1), some (.int x2), some (.int x3), some (.int x4), some (.int (gI w q2_o (x0).toNatClampNeg)), some (.int (gI w q3_o (x0).toNatClampNeg))], [.int x4], w)) rfl).trans ?_
            exact val_r (if_pos (hy18 hc49 hc51 hc52 hc53 hc54))
          · refine (if_neg hc54).trans (Eq.trans ?_ (if_neg hc54).symm)
            refine (val_g (c2 := (150, d + 2, 130, [some (.ref o), some (.int x0), some (.int x1), some (.int x2), some (.int x3), some (.int x4), some (.int (gI w q2_o (x0).toNatClampNeg)), some (.int (gI w q3_o (x0).toNatClampNeg))], [.int (gI w q2_o (x0).toNatClampNeg)], w)) rfl).trans ?_
            by_cases hc55 : (gI w q2_o (x0).toNatClampNeg) ≤ 0
            · refine ((val_if_le rfl).trans (if_pos hc55)).trans ?_
              show val (150, d + 2, 148, [some (.ref o), some (.int x0), some (.int x1), some (.int x2), some (.int x3), some (.int x4), some (.int (gI w q2_o (x0).toNatClampNeg)), some (.int (gI w q3_o (x0).toNatClampNeg))], [], w) = _
              refine Eq.trans ?_ (if_pos hc55).symm
              refine (val_g (c2 := (150, d + 2, 149, [some (.ref o), some (.int x0), some (.int x1), some (.int x2), some (.int x3), some (.int x4), some (.int (gI w q2_o (x0).toNatClampNeg)), some (.int (gI w q3_o (x0).toNatClampNeg))], [.int 0], w)) rfl).trans ?_
              exact val_r rfl
            · refine ((val_if_le rfl).trans (if_neg hc55)).trans ?_
              show val (150, d + 2, 133, [some (.ref o), some (.int x0), some (.int x1), some (.int x2), some (.int x3), some (.int x4), some (.int (gI w q2_o (x0).toNatClampNeg)), some (.int (gI w q3_o (x0).toNatClampNeg))], [], w) = _
              refine Eq.trans ?_ (if_neg hc55).symm
              refine (val_g (c2 := (150, d + 2, 135, [some (.ref o), some (.int x0), some (.int x1), some (.int x2), some (.int x3), some (.int x4), some (.int (gI w q2_o (x0).toNatClampNeg)), some (.int (gI w q3_o (x0).toNatClampNeg))], [.int x3], w)) rfl).trans ?_
              refine (val_g (c2 := (150, d + 2, 137, [some (.ref o), some (.int x0), some (.int x1), some (.int x2), some (.int x3), some (.int x4), some (.int (gI w q2_o (x0).toNatClampNeg)), some (.int (gI w q3_o (x0).toNatClampNeg))], [.int (gI w q3_o (x0).toNatClampNeg), .int x3], w)) rfl).trans ?_
              refine (val_g (c2 := (150, d + 2, 138, [some (.ref o), some (.int x0), some (.int x1), some (.int x2), some (.int x3), some (.int x4), some (.int (gI w q2_o (x0).toNatClampNeg)), some (.int (gI w q3_o (x0).toNatClampNeg))], [.int (x3 - (gI w q3_o (x0).toNatClampNeg))], w)) rfl).trans ?_
              refine (val_g (c2 := (150, d + 2, 140, [some (.ref o), some (.int x0), some (.int x1), some (.int x2), some (.int x3), some (.int x4), some (.int (gI w q2_o (x0).toNatClampNeg)), some (.int (gI w q3_o (x0).toNatClampNeg))], [.int (gI w q2_o (x0).toNatClampNeg), .int (x3 - (gI w q3_o (x0).toNatClampNeg))], w)) rfl).trans ?_
              refine (val_irem rfl (hy19 hc49 hc51 hc52 hc53 hc54 hc55)).trans ?_
              show val (150, d + 2, 141, [some (.ref o), some (.int x0), some (.int x1), some (.int x2), some (.int x3), some (.int x4), some (.int (gI w q2_o (x0).toNatClampNeg)), some (.int (gI w q3_o (x0).toNatClampNeg))], [.int ((x3 - (gI w q3_o (x0).toNatClampNeg)) - (x3 - (gI w q3_o (x0).toNatClampNeg)) / (gI w q2_o (x0).toNatClampNeg) * (gI w q2_o (x0).toNatClampNeg))], w) = _
              by_cases hc56 : ¬ ((x3 - (gI w q3_o (x0).toNatClampNeg)) - (x3 - (gI w q3_o (x0).toNatClampNeg)) / (gI w q2_o (x0).toNatClampNeg) * (gI w q2_o (x0).toNatClampNeg)) = 0
              · refine ((val_if_ne rfl).trans (if_pos hc56)).trans ?_
                show val (150, d + 2, 148, [some (.ref o), some (.int x0), some (.int x1), some (.int x2), some (.int x3), some (.int x4), some (.int (gI w q2_o (x0).toNatClampNeg)), some (.int (gI w q3_o (x0).toNatClampNeg))], [], w) = _
                refine Eq.trans ?_ (if_pos hc56).symm
                refine (val_g (c2 := (150, d + 2, 149, [some (.ref o), some (.int x0), some (.int x1), some (.int x2), some (.int x3), some (.int x4), some (.int (gI w q2_o (x0).toNatClampNeg)), some (.int (gI w q3_o (x0).toNatClampNeg))], [.int 0], w)) rfl).trans ?_
                exact val_r rfl
              · refine ((val_if_ne rfl).trans (if_neg hc56)).trans ?_
                show val (150, d + 2, 144, [some (.ref o), some (.int x0), some (.int x1), some (.int x2), some (.int x3), some (.int x4), some (.int (gI w q2_o (x0).toNatClampNeg)), some (.int (gI w q3_o (x0).toNatClampNeg))], [], w) = _
                refine Eq.trans ?_ (if_neg hc56).symm
                refine (val_g (c2 := (150, d + 2, 145, [some (.ref o), some (.int x0), some (.int x1), some (.int x2), some (.int x3), some (.int x4), some (.int (gI w q2_o (x0).toNatClampNeg)), some (.int (gI w q3_o (x0).toNatClampNeg))], [.int 1], w)) rfl).trans ?_
                refine (val_g (c2 := (150, d + 2, 149, [some (.ref o), some (.int x0), some (.int x1), some (.int x2), some (.int x3), some (.int x4), some (.int (gI w q2_o (x0).toNatClampNeg)), some (.int (gI w q3_o (x0).toNatClampNeg))], [.int 1], w)) rfl).trans ?_
                exact val_r rfl
theorem tz_150_87 (d : Nat) (w : Wd) (l0 : Nat) (l1 : Int32) (l2 : Int32) (l3 : Int32) (l4 : Int32) (l5 : Int32) (l6 : Int32) (l7 : Int32) (s0 : Int32)     : val (150, d + 2, 87, [some (.ref l0), some (.int l1), some (.int l2), some (.int l3), some (.int l4), some (.int l5), some (.int l6), some (.int l7)], [.int s0], w) = val (150, d + 2, 93, [some (.ref l0), some (.int l1), some (.int l2), some (.int l3), some (.int l4), some (.int l5), some (.int l6), some (.int l7)], [.int (l7 - 1), .int l3, .int l2, .int s0], w) := by
  refine (val_g (c2 := (150, d + 2, 88, [some (.ref l0), some (.int l1), some (.int l2), some (.int l3), some (.int l4), some (.int l5), some (.int l6), some (.int l7)], [.int l2, .int s0], w)) rfl).trans ?_
  refine (val_g (c2 := (150, d + 2, 89, [some (.ref l0), some (.int l1), some (.int l2), some (.int l3), some (.int l4), some (.int l5), some (.int l6), some (.int l7)], [.int l3, .int l2, .int s0], w)) rfl).trans ?_
  refine (val_g (c2 := (150, d + 2, 91, [some (.ref l0), some (.int l1), some (.int l2), some (.int l3), some (.int l4), some (.int l5), some (.int l6), some (.int l7)], [.int l7, .int l3, .int l2, .int s0], w)) rfl).trans ?_
  refine (val_g (c2 := (150, d + 2, 92, [some (.ref l0), some (.int l1), some (.int l2), some (.int l3), some (.int l4), some (.int l5), some (.int l6), some (.int l7)], [.int 1, .int l7, .int l3, .int l2, .int s0], w)) rfl).trans ?_
  refine (val_g (c2 := (150, d + 2, 93, [some (.ref l0), some (.int l1), some (.int l2), some (.int l3), some (.int l4), some (.int l5), some (.int l6), some (.int l7)], [.int (l7 - 1), .int l3, .int l2, .int s0], w)) rfl).trans ?_
  rfl
theorem tz_150_96 (d : Nat) (w : Wd) (l0 : Nat) (l1 : Int32) (l2 : Int32) (l3 : Int32) (l4 : Int32) (l5 : Int32) (l6 : Int32) (l7 : Int32) (s0 : Int32) (s1 : Int32)     : val (150, d + 2, 96, [some (.ref l0), some (.int l1), some (.int l2), some (.int l3), some (.int l4), some (.int l5), some (.int l6), some (.int l7)], [.int s0, .int s1], w) = (if s0 ≤ s1 then some (some (.int 0), w) else some (some (.int 1), w)) := by
  by_cases hc57 : s0 ≤ s1
  · refine ((val_ic_ge rfl).trans (if_pos hc57)).trans ?_
    show val (150, d + 2, 103, [some (.ref l0), some (.int l1), some (.int l2), some (.int l3), some (.int l4), some (.int l5), some (.int l6), some (.int l7)], [], w) = _
    refine Eq.trans ?_ (if_pos hc57).symm
    refine (val_g (c2 := (150, d + 2, 104, [some (.ref l0), some (.int l1), some (.int l2), some (.int l3), some (.int l4), some (.int l5), some (.int l6), some (.int l7)], [.int 0], w)) rfl).trans ?_
    exact val_r rfl
  · refine ((val_ic_ge rfl).trans (if_neg hc57)).trans ?_
    show val (150, d + 2, 99, [some (.ref l0), some (.int l1), some (.int l2), some (.int l3), some (.int l4), some (.int l5), some (.int l6), some (.int l7)], [], w) = _
    refine Eq.trans ?_ (if_neg hc57).symm
    refine (val_g (c2 := (150, d + 2, 100, [some (.ref l0), some (.int l1), some (.int l2), some (.int l3), some (.int l4), some (.int l5), some (.int l6), some (.int l7)], [.int 1], w)) rfl).trans ?_
    refine (val_g (c2 := (150, d + 2, 104, [some (.ref l0), some (.int l1), some (.int l2), some (.int l3), some (.int l4), some (.int l5), some (.int l6), some (.int l7)], [.int 1], w)) rfl).trans ?_
    exact val_r rfl
theorem tz_150_110 (d : Nat) (w : Wd) (l0 : Nat) (l1 : Int32) (l2 : Int32) (l3 : Int32) (l4 : Int32) (l5 : Int32) (l6 : Int32) (l7 : Int32) (s0 : Int32)    (hy1 : narB 1 s0 = true) : val (150, d + 2, 110, [some (.ref l0), some (.int l1), some (.int l2), some (.int l3), some (.int l4), some (.int l5), some (.int l6), some (.int l7)], [.int s0], w) = some (some (.int s0), w) := by
  exact val_r (if_pos hy1)
theorem tz_150_116 (d : Nat) (w : Wd) (l0 : Nat) (l1 : Int32) (l2 : Int32) (l3 : Int32) (l4 : Int32) (l5 : Int32) (l6 : Int32) (l7 : Int32) (s0 : Int32) (s1 : Int32)     : val (150, d + 2, 116, [some (.ref l0), some (.int l1), some (.int l2), some (.int l3), some (.int l4), some (.int l5), some (.int l6), some (.int l7)], [.int s0, .int s1], w) = (if ¬ s1 = s0 then some (some (.int 0), w) else some (some (.int 1), w)) := by
  by_cases hc58 : ¬ s1 = s0
  · refine ((val_ic_ne rfl).trans (if_pos hc58)).trans ?_
    show val (150, d + 2, 123, [some (.ref l0), some (.int l1), some (.int l2), some (.int l3), some (.int l4), some (.int l5), some (.int l6), some (.int l7)], [], w) = _
    refine Eq.trans ?_ (if_pos hc58).symm
    refine (val_g (c2 := (150, d + 2, 124, [some (.ref l0), some (.int l1), some (.int l2), some (.int l3), some (.int l4), some (.int l5), some (.int l6), some (.int l7)], [.int 0], w)) rfl).trans ?_
    exact val_r rfl
  · refine ((val_ic_ne rfl).trans (if_neg hc58)).trans ?_
    show val (150, d + 2, 119, [some (.ref l0), some (.int l1), some (.int l2), some (.int l3), some (.int l4), some (.int l5), some (.int l6), some (.int l7)], [], w) = _
    refine Eq.trans ?_ (if_neg hc58).symm
    refine (val_g (c2 := (150, d + 2, 120, [some (.ref l0), some (.int l1), some (.int l2), some (.int l3), some (.int l4), some (.int l5), some (.int l6), some (.int l7)], [.int 1], w)) rfl).trans ?_
    refine (val_g (c2 := (150, d + 2, 124, [some (.ref l0), some (.int l1), some (.int l2), some (.int l3), some (.int l4), some (.int l5), some (.int l6), some (.int l7)], [.int 1], w)) rfl).trans ?_
    exact val_r rfl
/-- kind, whether NOT, two numbers -/
abbrev Cd : Type := Nat × Bool × Nat × Nat
abbrev cd0 : Cd := (0, false, 0, 0)
abbrev FRu (r : Nat) : List (Nat × Option Nat) := [(r, some 4), (r + 1, none), (r + 2, none), (r + 3, none), (r + 4, none)]
/-- the conditions of the rule at r -/
def RuL (w : Wd) (r : Nat) (cs : List Cd) : Prop := wK w r = (6, 6) ∧ (gR w r 0 = some (r + 1) ∧ gR w r 1 = some (r + 2) ∧ gR w r 2 = some (r + 3) ∧ gR w r 3 = some (r + 4)) ∧ (wK w (r + 1) = (20, 8) ∧ wK w (r + 2) = (22, 8) ∧ wK w (r + 3) = (20, 8) ∧ wK w (r + 4) = (20, 8)) ∧ cs.length ≤ 8 ∧ gI w r 4 = nI cs.length ∧ ∀ i, i < cs.length → gI w (r + 1) i = nI (cs.getD i cd0).1 ∧ gI w (r + 2) i = b01 (cs.getD i cd0).2.1 ∧ gI w (r + 3) i = nI (cs.getD i cd0).2.2.1 ∧ gI w (r + 4) i = nI (cs.getD i cd0).2.2.2
theorem fru_off {r a j : Nat} (h : a < r ∨ r + 4 < a ∨ (a = r ∧ j ≠ 4)) : inS (FRu r) a j = false := inS_no (fun s hs e => by
  simp only [List.mem_cons, List.mem_nil_iff, or_false] at hs
  rcases hs with rfl | rfl | rfl | rfl | rfl
  · refine ⟨fun hh => (by cases hh), fun hh => ?_⟩
    have e2 : r = a := e
    cases hh
    omega
  · have e2 : r + 1 = a := e
    omega
  · have e2 : r + 2 = a := e
    omega
  · have e2 : r + 3 = a := e
    omega
  · have e2 : r + 4 = a := e
    omega)
theorem RuL.fr {S : List (Nat × Option Nat)} {w v : Wd} {r : Nat} {cs : List Cd} (h : RuL w r cs) (hf : Fr S w v) (hs : ∀ a j, r ≤ a → a ≤ r + 4 → (a = r → j ≤ 4) → inS S a j = false) : RuL v r cs := by
  obtain ⟨h1, ⟨h2, h3, h4, h5⟩, ⟨h6, h7, h8, h9⟩, h10, h11, h12⟩ := h
  have sr : ∀ j, j ≤ 4 → inS S r j = false := fun j hj => hs r j (Nat.le_refl r) (by omega) (fun _ => hj)
  refine ⟨by rw [hf.k]; exact h1, ⟨(hf.r r 0 (sr 0 (by omega))).trans h2, (hf.r r 1 (sr 1 (by omega))).trans h3, (hf.r r 2 (sr 2 (by omega))).trans h4, (hf.r r 3 (sr 3 (by omega))).trans h5⟩, ⟨by rw [hf.k]; exact h6, by rw [hf.k]; exact h7, by rw [hf.k]; exact h8, by rw [hf.k]; exact h9⟩, h10, (hf.i r 4 (sr 4 (by omega))).trans h11, fun i hi => ?_⟩
  obtain ⟨g1, g2, g3, g4⟩ := h12 i hi
  exact ⟨(hf.i _ _ (hs _ _ (by omega) (by omega) (fun e => by omega))).trans g1, (hf.i _ _ (hs _ _ (by omega) (by omega) (fun e => by omega))).trans g2, (hf.i _ _ (hs _ _ (by omega) (by omega) (fun e => by omega))).trans g3, (hf.i _ _ (hs _ _ (by omega) (by omega) (fun e => by omega))).trans g4⟩
theorem nbo_b01 (b : Bool) : vp_nar .boolean (b01 b) = b01 b := by cases b <;> decide
theorem getD_snoc {cs : List Cd} {c : Cd} {i : Nat} : (cs ++ [c]).getD i cd0 = if i < cs.length then cs.getD i cd0 else if i = cs.length then c else cd0 := by
  by_cases h : i < cs.length
  · rw [if_pos h]
    simp [List.getD, List.getElem?_append_left h]
  · rw [if_neg h]
    by_cases e : i = cs.length
    · subst e
      rw [if_pos rfl]
      simp [List.getD]
    · rw [if_neg e]
      have : (cs ++ [c])[i]? = none := List.getElem?_eq_none (by rw [List.length_append]; show cs.length + 1 ≤ i; omega)
      simp [List.getD, this]
theorem c_require (d : Nat) {w : Wd} {r : Nat} {cs : List Cd} (h : RuL w r cs) (hl : cs.length < 8) (nt : Bool) (K a b : Nat) : ∃ v, val (148, d, 0, [some (.ref r), some (.int (b01 nt)), some (.int (nI K)), some (.int (nI a)), some (.int (nI b))], [], w) = some (none, v) ∧ Fr (FRu r) w v ∧ RuL v r (cs ++ [(K, nt, a, b)]) := by
  obtain ⟨h1, ⟨h2, h3, h4, h5⟩, ⟨h6, h7, h8, h9⟩, h10, h11, h12⟩ := id h
  have ib : inB (nI cs.length) 8 = true := inB_nI hl (by omega)
  have g0 : ∀ (x : Int32), gI (sI w (r + 2) cs.length x) r 4 = nI cs.length := fun x => (gI_ne _ _ _ _ (by omega)).trans h11
  have g1 : ∀ (x y : Int32), gI (sI (sI w (r + 2) cs.length x) (r + 1) cs.length y) r 4 = nI cs.length := fun x y => (gI_ne _ _ _ _ (by omega)).trans (g0 x)
  have g2 : ∀ (x y z : Int32), gI (sI (sI (sI w (r + 2) cs.length x) (r + 1) cs.length y) (r + 3) cs.length z) r 4 = nI cs.length := fun x y z => (gI_ne _ _ _ _ (by omega)).trans (g1 x y)
  have g3 : ∀ (x y z u : Int32), gI (sI (sI (sI (sI w (r + 2) cs.length x) (r + 1) cs.length y) (r + 3) cs.length z) (r + 4) cs.length u) r 4 = nI cs.length := fun x y z u => (gI_ne _ _ _ _ (by omega)).trans (g2 x y z)
  have ec : (nI cs.length).toNatClampNeg = cs.length := nI_clamp (by omega)
  have e0 := tz_148 d w r (b01 nt) (nI K) (nI a) (nI b) 6 h1 (r + 2) h3 8 h7 (fun _ => by rw [h11]; exact ib) (r + 1) h2 8 h6 (fun _ => by rw [h11, ec, g0]; exact ib) (r + 3) h4 8 h8 (fun _ => by rw [h11, ec, g0, ec, g1]; exact ib) (r + 4) h5 8 h9 (fun _ => by rw [h11, ec, g0, ec, g1, ec, g2]; exact ib)
  rw [h11, ec, if_pos (show nI cs.length < 8 from n_lt (b := 8) hl (by omega)), g0, ec, g1, ec, g2, ec, g3, n_succ, nbo_b01] at e0
  have i0 : ∀ s, s ∈ FRu r → inS (FRu r) s.1 cs.length = true ∨ s.2 = some 4 := fun s hs => by
    by_cases e : s.2 = some 4
    · exact Or.inr e
    · left
      refine inS_iff.mpr ⟨s, hs, rfl, ?_⟩
      simp only [List.mem_cons, List.mem_nil_iff, or_false] at hs
      rcases hs with rfl | rfl | rfl | rfl | rfl
      · exact absurd rfl e
      all_goals exact Or.inl rfl
  have f0 : Fr (FRu r) w (sI (sI (sI (sI (sI w (r + 2) cs.length (b01 nt)) (r + 1) cs.length (nI K)) (r + 3) cs.length (nI a)) (r + 4) cs.length (nI b)) r 4 (nI (cs.length + 1))) := by
    refine (((((Fr.refl _ w).sI _ _ _ ?_).sI _ _ _ ?_).sI _ _ _ ?_).sI _ _ _ ?_).sI _ _ _ ?_
    · exact inS_iff.mpr ⟨(r + 2, none), by simp, rfl, Or.inl rfl⟩
    · exact inS_iff.mpr ⟨(r + 1, none), by simp, rfl, Or.inl rfl⟩
    · exact inS_iff.mpr ⟨(r + 3, none), by simp, rfl, Or.inl rfl⟩
    · exact inS_iff.mpr ⟨(r + 4, none), by simp, rfl, Or.inl rfl⟩
    · exact inS_iff.mpr ⟨(r, some 4), by simp, rfl, Or.inr rfl⟩
  refine ⟨_, e0, f0, h1, ⟨h2, h3, h4, h5⟩, ⟨h6, h7, h8, h9⟩, by rw [List.length_append]; show cs.length + 1 ≤ 8; omega, by rw [List.length_append]; exact gI_same _ _ _ _, fun i hi => ?_⟩
  rw [List.length_append] at hi
  have hi' : i < cs.length + 1 := hi
  rw [getD_snoc, gI_ne _ _ _ _ (show r + 1 ≠ r by omega), gI_ne _ _ _ _ (show r + 1 ≠ r + 4 by omega), gI_ne _ _ _ _ (show r + 1 ≠ r + 3 by omega), gI_ne _ _ _ _ (show r + 2 ≠ r by omega), gI_ne _ _ _ _ (show r + 2 ≠ r + 4 by omega), gI_ne _ _ _ _ (show r + 2 ≠ r + 3 by omega), gI_ne _ _ _ _ (show r + 2 ≠ r + 1 by omega), gI_ne _ _ _ _ (show r + 3 ≠ r by omega), gI_ne _ _ _ _ (show r + 3 ≠ r + 4 by omega), gI_ne _ _ _ _ (show r + 4 ≠ r by omega)]
  by_cases e : i < cs.length
  · rw [if_pos e, gI_nk _ _ _ (by omega), gI_nk _ _ _ (by omega), gI_nk _ _ _ (by omega), gI_nk _ _ _ (by omega), gI_ne _ _ _ _ (show r + 1 ≠ r + 2 by omega), gI_ne _ _ _ _ (show r + 3 ≠ r + 1 by omega), gI_ne _ _ _ _ (show r + 3 ≠ r + 2 by omega), gI_ne _ _ _ _ (show r + 4 ≠ r + 3 by omega), gI_ne _ _ _ _ (show r + 4 ≠ r + 1 by omega), gI_ne _ _ _ _ (show r + 4 ≠ r + 2 by omega)]
    exact h12 i e
  · have e2 : i = cs.length := by omega
    rw [if_neg e, if_pos e2, e2, gI_same, gI_same, gI_same, gI_same]
    exact ⟨rfl, rfl, rfl, rfl⟩
section PCD
variable (N : Nat) (t : Nat → Int32) (T : Nat)
def pPla (nt : Bool) (k : Tk) : Except Nat (Cd × Tk) :=
  if InR k 1 N then
    (if isWd t (nxt t T k) 2 = true then (if InR (nxt t T (nxt t T k)) 1 N then .ok ((0, nt, k.2.2.2, (nxt t T (nxt t T k)).2.2.2), nxt t T (nxt t T (nxt t T k))) else .error (nxt t T (nxt t T k)).2.1)
     else if isWd t (nxt t T k) 3 = true then (if InR (nxt t T (nxt t T k)) 1 N ∧ (nxt t T (nxt t T k)).2.2.2 ≠ k.2.2.2 then .ok ((1, nt, k.2.2.2, (nxt t T (nxt t T k)).2.2.2), nxt t T (nxt t T (nxt t T k))) else .error (nxt t T (nxt t T k)).2.1)
     else .error (nxt t T k).2.1)
  else .error k.2.1
def pCd1 (nt : Bool) (k : Tk) : Except Nat (Cd × Tk) :=
  if k.1 = 2 then pPla N t T nt k
  else if isWd t k 4 = true then .ok ((2, nt, 0, 0), nxt t T k)
  else if isWd t k 5 = true then .ok ((3, nt, 0, 0), nxt t T k)
  else if isWd t k 6 = true then .ok ((4, nt, 0, 0), nxt t T k)
  else if isWd t k 7 = true then
    (if InR (nxt t T k) 1 99 then (if InR (nxt t T (nxt t T k)) 0 ((nxt t T k).2.2.2 - 1) then .ok ((5, nt, (nxt t T k).2.2.2, (nxt t T (nxt t T k)).2.2.2), nxt t T (nxt t T (nxt t T k))) else .error (nxt t T (nxt t T k)).2.1)
     else .error (nxt t T k).2.1)
  else .error k.2.1
def pCd (k : Tk) : Except Nat (Cd × Tk) := pCd1 N t T (isWd t k 1) (if isWd t k 1 = true then nxt t T k else k)
end PCD
/-- such conditions -/
def CdOK (N : Nat) (c : Cd) : Prop := c.1 ≤ 5 ∧ (c.1 ≤ 1 → 1 ≤ c.2.2.1 ∧ c.2.2.1 ≤ N ∧ 1 ≤ c.2.2.2 ∧ c.2.2.2 ≤ N) ∧ (c.1 = 5 → 1 ≤ c.2.2.1 ∧ c.2.2.1 ≤ 99 ∧ c.2.2.2 < c.2.2.1)
section CDF
variable {N : Nat} {t : Nat → Int32} {T : Nat}
theorem pPla_ok {nt : Bool} {k : Tk} (hk : TkIn t T k) {r : Cd × Tk} (h : pPla N t T nt k = .ok r) : CdOK N r.1 ∧ TkIn t T r.2 := by
  unfold pPla at h
  split at h
  · rename_i h1
    split at h
    · split at h
      · rename_i h2
        cases h
        exact ⟨⟨by dsimp only; omega, fun _ => ⟨h1.2.1, h1.2.2, h2.2.1, h2.2.2⟩, fun h => (by cases h)⟩, hk.nxt.nxt.nxt⟩
      · cases h
    · split at h
      · split at h
        · rename_i h2
          cases h
          exact ⟨⟨by dsimp only; omega, fun _ => ⟨h1.2.1, h1.2.2, h2.1.2.1, h2.1.2.2⟩, fun h => (by cases h)⟩, hk.nxt.nxt.nxt⟩
        · cases h
      · cases h
  · cases h
theorem pCd_ok {k : Tk} (hk : TkIn t T k) {r : Cd × Tk} (h : pCd N t T k = .ok r) : CdOK N r.1 ∧ TkIn t T r.2 := by
  unfold pCd at h
  have hk1 : TkIn t T (if isWd t k 1 = true then nxt t T k else k) := by
    split
    · exact hk.nxt
    · exact hk
  generalize (if isWd t k 1 = true then nxt t T k else k) = k1 at h hk1
  unfold pCd1 at h
  split at h
  · exact pPla_ok hk1 h
  split at h
  · cases h; exact ⟨⟨by dsimp only; omega, fun h => (by dsimp only at h; omega), fun h => (by cases h)⟩, hk1.nxt⟩
  split at h
  · cases h; exact ⟨⟨by dsimp only; omega, fun h => (by dsimp only at h; omega), fun h => (by cases h)⟩, hk1.nxt⟩
  split at h
  · cases h; exact ⟨⟨by dsimp only; omega, fun h => (by dsimp only at h; omega), fun h => (by cases h)⟩, hk1.nxt⟩
  split at h
  · split at h
    · rename_i h1
      split at h
      · rename_i h2
        cases h
        obtain ⟨g1, g2, g3⟩ := h1
        obtain ⟨i1, i2, i3⟩ := h2
        exact ⟨⟨by dsimp only; omega, fun h => (by dsimp only at h; omega), fun _ => ⟨g2, g3, by dsimp only; omega⟩⟩, hk1.nxt.nxt.nxt⟩
      · cases h
    · cases h
  · cases h
theorem pPla_err {nt : Bool} {k : Tk} (hk : TkIn t T k) {e : Nat} (h : pPla N t T nt k = .error e) : e ≤ T := by
  unfold pPla at h
  split at h
  · split at h
    · split at h
      · cases h
      · cases h; exact hk.nxt.nxt.fr
    · split at h
      · split at h
        · cases h
        · cases h; exact hk.nxt.nxt.fr
      · cases h; exact hk.nxt.fr
  · cases h; exact hk.fr
theorem pCd_err {k : Tk} (hk : TkIn t T k) {e : Nat} (h : pCd N t T k = .error e) : e ≤ T := by
  unfold pCd at h
  have hk1 : TkIn t T (if isWd t k 1 = true then nxt t T k else k) := by
    split
    · exact hk.nxt
    · exact hk
  generalize (if isWd t k 1 = true then nxt t T k else k) = k1 at h hk1
  unfold pCd1 at h
  split at h
  · exact pPla_err hk1 h
  split at h
  · cases h
  split at h
  · cases h
  split at h
  · cases h
  split at h
  · split at h
    · split at h
      · cases h
      · cases h; exact hk1.nxt.nxt.fr
    · cases h; exact hk1.nxt.fr
  · cases h; exact hk1.fr
end CDF
