/-! beginAnew, while the class's cells alone are there; printed by program (wip/gen/p_h3.py) -/
def FixC (w : Wd) : Prop := (∀ a, 1 ≤ a → a < 108 → a < 34 ∨ 64 ≤ a → wK w a = kfx a) ∧ (∀ a k b, a < 108 → rfx a k = some b → gR w a k = some b) ∧ (∀ j, gI w 1 j = facs.getD j 0)
theorem FixC.k {w : Wd} (h : FixC w) (a : Nat) (h1 : 64 ≤ a) (h2 : a < 108) : wK w a = kfx a := h.1 a (by omega) h2 (Or.inr h1)
theorem FixC.r {w : Wd} (h : FixC w) (a k b : Nat) (h1 : rfx a k = some b) (h2 : a < 108 := by decide) : gR w a k = some b := h.2.1 a k b h2 h1
theorem FixC.f {w : Wd} (h : FixC w) : wK w 1 = (31, 9) := h.1 1 (by omega) (by omega) (Or.inl (by omega))
theorem Fr.fixC {S : List (Nat × Option Nat)} {w v : Wd} (h : Fr S w v) (hS : okS S = true) (hW : FixC w) : FixC v := by
  obtain ⟨o1, o2⟩ := okS_off hS
  refine ⟨fun a h1 h2 h3 => ?_, fun a k b ha hr => ?_, fun j => ?_⟩
  · rw [h.k]; exact hW.1 a h1 h2 h3
  · rw [h.r a k (o2 a k b hr)]; exact hW.2.1 a k b ha hr
  · rw [h.i 1 j (o1 j)]; exact hW.2.2 j
theorem FixC.k64 {w : Wd} (h : FixC w) : wK w 64 = (9, 11) := h.k 64 (by omega) (by omega)
theorem FixC.k67 {w : Wd} (h : FixC w) : wK w 67 = (7, 13) := h.k 67 (by omega) (by omega)
theorem FixC.k76 {w : Wd} (h : FixC w) : wK w 76 = (1, 6) := h.k 76 (by omega) (by omega)
theorem FixC.k80 {w : Wd} (h : FixC w) : wK w 80 = (2, 4) := h.k 80 (by omega) (by omega)
theorem FixC.k84 {w : Wd} (h : FixC w) : wK w 84 = (0, 11) := h.k 84 (by omega) (by omega)
theorem FixC.k91 {w : Wd} (h : FixC w) : wK w 91 = (5, 11) := h.k 91 (by omega) (by omega)
theorem FixC.k96 {w : Wd} (h : FixC w) : wK w 96 = (8, 3) := h.k 96 (by omega) (by omega)
theorem FixC.rb {w : Wd} (h : FixC w) (as : List Value) : rcv w 9 (.ref 64 :: as) = true := rcvO h.k64 (by decide)
theorem tq_2 (d : Nat) (w : Wd) (hW : FixC w)      : val (2, d + 5, 0, [some (.ref 64)], [], w) = val (2, d + 5, 9, [some (.ref 64)], [.ref 67], (sI w 64 4 0)) := by
  refine (val_g (c2 := (2, d + 5, 1, [some (.ref 64)], [.ref 64], w)) rfl).trans ?_
  refine (val_g (c2 := (2, d + 5, 2, [some (.ref 64)], [.int 0, .ref 64], w)) rfl).trans ?_
  refine (val_pf rfl (hW.k 64 (Nat.le_of_ble_eq_true rfl) (Nat.le_of_ble_eq_true rfl)) rfl).trans ?_
  show val (2, d + 5, 5, [some (.ref 64)], [], (sI w 64 4 0)) = _
  refine (val_g (c2 := (2, d + 5, 6, [some (.ref 64)], [.ref 64], (sI w 64 4 0))) rfl).trans ?_
  refine (val_gf (w := (sI w 64 4 0)) rfl (hW.k 64 (Nat.le_of_ble_eq_true rfl) (Nat.le_of_ble_eq_true rfl)) (fvR (hW.r 64 5 67 rfl))).trans ?_
  show val (2, d + 5, 9, [some (.ref 64)], [.ref 67], (sI w 64 4 0)) = _
  rfl
theorem tq_2_12 (d : Nat) (w : Wd) (hW : FixC w)      : val (2, d + 5, 12, [some (.ref 64)], [], w) = val (2, d + 5, 20, [some (.ref 64)], [.int (gI w 64 0), .ref 76], w) := by
  refine (val_g (c2 := (2, d + 5, 13, [some (.ref 64)], [.ref 64], w)) rfl).trans ?_
  refine (val_gf rfl (hW.k 64 (Nat.le_of_ble_eq_true rfl) (Nat.le_of_ble_eq_true rfl)) (fvR (hW.r 64 6 76 rfl))).trans ?_
  show val (2, d + 5, 16, [some (.ref 64)], [.ref 76], w) = _
  refine (val_g (c2 := (2, d + 5, 17, [some (.ref 64)], [.ref 64, .ref 76], w)) rfl).trans ?_
  refine (val_gf rfl (hW.k 64 (Nat.le_of_ble_eq_true rfl) (Nat.le_of_ble_eq_true rfl)) rfl).trans ?_
  show val (2, d + 5, 20, [some (.ref 64)], [.int (gI w 64 0), .ref 76], w) = _
  rfl
theorem tq_2_23 (d : Nat) (w : Wd) (hW : FixC w)      : val (2, d + 5, 23, [some (.ref 64)], [], w) = val (2, d + 5, 27, [some (.ref 64)], [.ref 80], w) := by
  refine (val_g (c2 := (2, d + 5, 24, [some (.ref 64)], [.ref 64], w)) rfl).trans ?_
  refine (val_gf rfl (hW.k 64 (Nat.le_of_ble_eq_true rfl) (Nat.le_of_ble_eq_true rfl)) (fvR (hW.r 64 7 80 rfl))).trans ?_
  show val (2, d + 5, 27, [some (.ref 64)], [.ref 80], w) = _
  rfl
theorem tq_2_30 (d : Nat) (w : Wd) (hW : FixC w)      : val (2, d + 5, 30, [some (.ref 64)], [], w) = val (2, d + 5, 34, [some (.ref 64)], [.ref 84], w) := by
  refine (val_g (c2 := (2, d + 5, 31, [some (.ref 64)], [.ref 64], w)) rfl).trans ?_
  refine (val_gf rfl (hW.k 64 (Nat.le_of_ble_eq_true rfl) (Nat.le_of_ble_eq_true rfl)) (fvR (hW.r 64 8 84 rfl))).trans ?_
  show val (2, d + 5, 34, [some (.ref 64)], [.ref 84], w) = _
  rfl
theorem tq_2_37 (d : Nat) (w : Wd) (hW : FixC w)      : val (2, d + 5, 37, [some (.ref 64)], [], w) = val (2, d + 5, 41, [some (.ref 64)], [.ref 91], w) := by
  refine (val_g (c2 := (2, d + 5, 38, [some (.ref 64)], [.ref 64], w)) rfl).trans ?_
  refine (val_gf rfl (hW.k 64 (Nat.le_of_ble_eq_true rfl) (Nat.le_of_ble_eq_true rfl)) (fvR (hW.r 64 9 91 rfl))).trans ?_
  show val (2, d + 5, 41, [some (.ref 64)], [.ref 91], w) = _
  rfl
theorem tq_2_44 (d : Nat) (w : Wd) (hW : FixC w)      : val (2, d + 5, 44, [some (.ref 64)], [], w) = val (2, d + 5, 48, [some (.ref 64)], [.ref 96], w) := by
  refine (val_g (c2 := (2, d + 5, 45, [some (.ref 64)], [.ref 64], w)) rfl).trans ?_
  refine (val_gf rfl (hW.k 64 (Nat.le_of_ble_eq_true rfl) (Nat.le_of_ble_eq_true rfl)) (fvR (hW.r 64 10 96 rfl))).trans ?_
  show val (2, d + 5, 48, [some (.ref 64)], [.ref 96], w) = _
  rfl
theorem tq_50 (d : Nat) (w : Wd) (hW : FixC w) (x0 : Int32) (x1 : Int32) (x2 : Int32)    (hy1 : inB x0 9 = true) : val (50, d, 0, [some (.ref 84), some (.int x0), some (.int x1), some (.int x2)], [], w) = some (none, (sI ((sI ((sI w 85 (x0).toNatClampNeg x1)) 86 (x0).toNatClampNeg x2)) 87 (x0).toNatClampNeg 0)) := by
  refine (val_g (c2 := (50, d, 1, [some (.ref 84), some (.int x0), some (.int x1), some (.int x2)], [.ref 84], w)) rfl).trans ?_
  refine (val_gf rfl (hW.k 84 (Nat.le_of_ble_eq_true rfl) (Nat.le_of_ble_eq_true rfl)) (fvR (hW.r 84 0 85 rfl))).trans ?_
  show val (50, d, 4, [some (.ref 84), some (.int x0), some (.int x1), some (.int x2)], [.ref 85], w) = _
  refine (val_g (c2 := (50, d, 5, [some (.ref 84), some (.int x0), some (.int x1), some (.int x2)], [.int x0, .ref 85], w)) rfl).trans ?_
  refine (val_g (c2 := (50, d, 6, [some (.ref 84), some (.int x0), some (.int x1), some (.int x2)], [.int x1, .int x0, .ref 85], w)) rfl).trans ?_
  refine (val_ias rfl (hW.k 85 (Nat.le_of_ble_eq_true rfl) (Nat.le_of_ble_eq_true rfl)) hy1).trans ?_
  show val (50, d, 7, [some (.ref 84), some (.int x0), some (.int x1), some (.int x2)], [], (sI w 85 (x0).toNatClampNeg x1)) = _
  refine (val_g (c2 := (50, d, 8, [some (.ref 84), some (.int x0), some (.int x1), some (.int x2)], [.ref 84], (sI w 85 (x0).toNatClampNeg x1))) rfl).trans ?_
  refine (val_gf (w := (sI w 85 (x0).toNatClampNeg x1)) rfl (hW.k 84 (Nat.le_of_ble_eq_true rfl) (Nat.le_of_ble_eq_true rfl)) (fvR (hW.r 84 1 86 rfl))).trans ?_
  show val (50, d, 11, [some (.ref 84), some (.int x0), some (.int x1), some (.int x2)], [.ref 86], (sI w 85 (x0).toNatClampNeg x1)) = _
  refine (val_g (c2 := (50, d, 12, [some (.ref 84), some (.int x0), some (.int x1), some (.int x2)], [.int x0, .ref 86], (sI w 85 (x0).toNatClampNeg x1))) rfl).trans ?_
  refine (val_g (c2 := (50, d, 13, [some (.ref 84), some (.int x0), some (.int x1), some (.int x2)], [.int x2, .int x0, .ref 86], (sI w 85 (x0).toNatClampNeg x1))) rfl).trans ?_
  refine (val_ias (w := (sI w 85 (x0).toNatClampNeg x1)) rfl (hW.k 86 (Nat.le_of_ble_eq_true rfl) (Nat.le_of_ble_eq_true rfl)) hy1).trans ?_
  show val (50, d, 14, [some (.ref 84), some (.int x0), some (.int x1), some (.int x2)], [], (sI ((sI w 85 (x0).toNatClampNeg x1)) 86 (x0).toNatClampNeg x2)) = _
  refine (val_g (c2 := (50, d, 15, [some (.ref 84), some (.int x0), some (.int x1), some (.int x2)], [.ref 84], (sI ((sI w 85 (x0).toNatClampNeg x1)) 86 (x0).toNatClampNeg x2))) rfl).trans ?_
  refine (val_gf (w := (sI ((sI w 85 (x0).toNatClampNeg x1)) 86 (x0).toNatClampNeg x2)) rfl (hW.k 84 (Nat.le_of_ble_eq_true rfl) (Nat.le_of_ble_eq_true rfl)) (fvR (hW.r 84 2 87 rfl))).trans ?_
  show val (50, d, 18, [some (.ref 84), some (.int x0), some (.int x1), some (.int x2)], [.ref 87], (sI ((sI w 85 (x0).toNatClampNeg x1)) 86 (x0).toNatClampNeg x2)) = _
  refine (val_g (c2 := (50, d, 19, [some (.ref 84), some (.int x0), some (.int x1), some (.int x2)], [.int x0, .ref 87], (sI ((sI w 85 (x0).toNatClampNeg x1)) 86 (x0).toNatClampNeg x2))) rfl).trans ?_
  refine (val_g (c2 := (50, d, 20, [some (.ref 84), some (.int x0), some (.int x1), some (.int x2)], [.int 0, .int x0, .ref 87], (sI ((sI w 85 (x0).toNatClampNeg x1)) 86 (x0).toNatClampNeg x2))) rfl).trans ?_
  refine (val_ias (w := (sI ((sI w 85 (x0).toNatClampNeg x1)) 86 (x0).toNatClampNeg x2)) rfl (hW.k 87 (Nat.le_of_ble_eq_true rfl) (Nat.le_of_ble_eq_true rfl)) hy1).trans ?_
  show val (50, d, 21, [some (.ref 84), some (.int x0), some (.int x1), some (.int x2)], [], (sI ((sI ((sI w 85 (x0).toNatClampNeg x1)) 86 (x0).toNatClampNeg x2)) 87 (x0).toNatClampNeg 0)) = _
  exact val_r rfl
theorem tq_51 (d : Nat) (w : Wd) (hW : FixC w)      : val (51, d, 0, [some (.ref 84)], [], w) = some (none, (sI ((sI ((sI ((sI ((sI w 84 6 0)) 84 7 0)) 84 8 0)) 84 9 0)) 84 10 ((-9)))) := by
  refine (val_g (c2 := (51, d, 1, [some (.ref 84)], [.ref 84], w)) rfl).trans ?_
  refine (val_g (c2 := (51, d, 2, [some (.ref 84)], [.int 0, .ref 84], w)) rfl).trans ?_
  refine (val_pf rfl (hW.k 84 (Nat.le_of_ble_eq_true rfl) (Nat.le_of_ble_eq_true rfl)) rfl).trans ?_
  show val (51, d, 5, [some (.ref 84)], [], (sI w 84 6 0)) = _
  refine (val_g (c2 := (51, d, 6, [some (.ref 84)], [.ref 84], (sI w 84 6 0))) rfl).trans ?_
  refine (val_g (c2 := (51, d, 7, [some (.ref 84)], [.int 0, .ref 84], (sI w 84 6 0))) rfl).trans ?_
  refine (val_pf (w := (sI w 84 6 0)) rfl (hW.k 84 (Nat.le_of_ble_eq_true rfl) (Nat.le_of_ble_eq_true rfl)) rfl).trans ?_
  show val (51, d, 10, [some (.ref 84)], [], (sI ((sI w 84 6 0)) 84 7 0)) = _
  refine (val_g (c2 := (51, d, 11, [some (.ref 84)], [.ref 84], (sI ((sI w 84 6 0)) 84 7 0))) rfl).trans ?_
  refine (val_g (c2 := (51, d, 12, [some (.ref 84)], [.int 0, .ref 84], (sI ((sI w 84 6 0)) 84 7 0))) rfl).trans ?_
  refine (val_pf (w := (sI ((sI w 84 6 0)) 84 7 0)) rfl (hW.k 84 (Nat.le_of_ble_eq_true rfl) (Nat.le_of_ble_eq_true rfl)) rfl).trans ?_
  show val (51, d, 15, [some (.ref 84)], [], (sI ((sI ((sI w 84 6 0)) 84 7 0)) 84 8 0)) = _
  refine (val_g (c2 := (51, d, 16, [some (.ref 84)], [.ref 84], (sI ((sI ((sI w 84 6 0)) 84 7 0)) 84 8 0))) rfl).trans ?_
  refine (val_g (c2 := (51, d, 17, [some (.ref 84)], [.int 0, .ref 84], (sI ((sI ((sI w 84 6 0)) 84 7 0)) 84 8 0))) rfl).trans ?_
  refine (val_pf (w := (sI ((sI ((sI w 84 6 0)) 84 7 0)) 84 8 0)) rfl (hW.k 84 (Nat.le_of_ble_eq_true rfl) (Nat.le_of_ble_eq_true rfl)) rfl).trans ?_
  show val (51, d, 20, [some (.ref 84)], [], (sI ((sI ((sI ((sI w 84 6 0)) 84 7 0)) 84 8 0)) 84 9 0)) = _
  refine (val_g (c2 := (51, d, 21, [some (.ref 84)], [.ref 84], (sI ((sI ((sI ((sI w 84 6 0)) 84 7 0)) 84 8 0)) 84 9 0))) rfl).trans ?_
  refine (val_g (c2 := (51, d, 23, [some (.ref 84)], [.int (-9), .ref 84], (sI ((sI ((sI ((sI w 84 6 0)) 84 7 0)) 84 8 0)) 84 9 0))) rfl).trans ?_
  refine (val_pf (w := (sI ((sI ((sI ((sI w 84 6 0)) 84 7 0)) 84 8 0)) 84 9 0)) rfl (hW.k 84 (Nat.le_of_ble_eq_true rfl) (Nat.le_of_ble_eq_true rfl)) rfl).trans ?_
  show val (51, d, 26, [some (.ref 84)], [], (sI ((sI ((sI ((sI ((sI w 84 6 0)) 84 7 0)) 84 8 0)) 84 9 0)) 84 10 ((-9)))) = _
  exact val_r rfl
theorem tq_60 (d : Nat) (w : Wd) (hW : FixC w) (x0 : Int32)     : val (60, d + 4, 0, [some (.ref 76), some (.int x0)], [], w) = val (60, d + 4, 12, [some (.ref 76), some (.int x0)], [.int x0, .ref 76], (sI ((sI w 76 5 0)) 76 3 0)) := by
  refine (val_g (c2 := (60, d + 4, 1, [some (.ref 76), some (.int x0)], [.ref 76], w)) rfl).trans ?_
  refine (val_g (c2 := (60, d + 4, 2, [some (.ref 76), some (.int x0)], [.int 0, .ref 76], w)) rfl).trans ?_
  refine (val_pf rfl (hW.k 76 (Nat.le_of_ble_eq_true rfl) (Nat.le_of_ble_eq_true rfl)) rfl).trans ?_
  show val (60, d + 4, 5, [some (.ref 76), some (.int x0)], [], (sI w 76 5 0)) = _
  refine (val_g (c2 := (60, d + 4, 6, [some (.ref 76), some (.int x0)], [.ref 76], (sI w 76 5 0))) rfl).trans ?_
  refine (val_g (c2 := (60, d + 4, 7, [some (.ref 76), some (.int x0)], [.int 0, .ref 76], (sI w 76 5 0))) rfl).trans ?_
  refine (val_pf (w := (sI w 76 5 0)) rfl (hW.k 76 (Nat.le_of_ble_eq_true rfl) (Nat.le_of_ble_eq_true rfl)) rfl).trans ?_
  show val (60, d + 4, 10, [some (.ref 76), some (.int x0)], [], (sI ((sI w 76 5 0)) 76 3 0)) = _
  refine (val_g (c2 := (60, d + 4, 11, [some (.ref 76), some (.int x0)], [.ref 76], (sI ((sI w 76 5 0)) 76 3 0))) rfl).trans ?_
  refine (val_g (c2 := (60, d + 4, 12, [some (.ref 76), some (.int x0)], [.int x0, .ref 76], (sI ((sI w 76 5 0)) 76 3 0))) rfl).trans ?_
  rfl
theorem tq_62_5 (d : Nat) (w : Wd) (hW : FixC w) (l1 : Int32) (l2 : Int32) (s0 : Int32)    (hy1 : (¬ (720 ≤ s0)) → (¬ (720 ≤ (gI w 76 4))) → inB s0 720 = true) (hy2 : (¬ (720 ≤ s0)) → (¬ (720 ≤ (gI w 76 4))) → ((gI w 78 (s0).toNatClampNeg) = 0) → inB s0 720 = true) (hy3 : (¬ (720 ≤ s0)) → (¬ (720 ≤ (gI w 76 4))) → ((gI w 78 (s0).toNatClampNeg) = 0) → inB ((gI ((sI w 78 (s0).toNatClampNeg ((vp_nar .boolean 1)))) 76 4)) 720 = true) : val (62, d + 2, 5, [some (.ref 76), some (.int l1), some (.int l2), none], [.int s0], w) = (if 720 ≤ s0 then some (none, w) else (if 720 ≤ (gI w 76 4) then some (none, w) else (if (gI w 78 (s0).toNatClampNeg) = 0 then some (none, (sI ((sI ((sI w 78 (s0).toNatClampNeg ((vp_nar .boolean 1)))) 76 4 (((gI ((sI w 78 (s0).toNatClampNeg ((vp_nar .boolean 1)))) 76 4) + 1)))) 77 ((gI ((sI w 78 (s0).toNatClampNeg ((vp_nar .boolean 1)))) 76 4)).toNatClampNeg l2)) else some (none, w)))) := by
  refine (val_g (c2 := (62, d + 2, 6, [some (.ref 76), some (.int l1), some (.int l2), some (.int s0)], [], w)) rfl).trans ?_
  refine (val_g (c2 := (62, d + 2, 7, [some (.ref 76), some (.int l1), some (.int l2), some (.int s0)], [.int s0], w)) rfl).trans ?_
  refine (val_g (c2 := (62, d + 2, 10, [some (.ref 76), some (.int l1), some (.int l2), some (.int s0)], [.int 720, .int s0], w)) rfl).trans ?_
  by_cases hc357 : 720 ≤ s0
  · refine ((val_ic_ge rfl).trans (if_pos hc357)).trans ?_
    show val (62, d + 2, 32, [some (.ref 76), some (.int l1), some (.int l2), some (.int s0)], [], w) = _
    refine Eq.trans ?_ (if_pos hc357).symm
    exact val_r rfl
  · refine ((val_ic_ge rfl).trans (if_neg hc357)).trans ?_
    show val (62, d + 2, 13, [some (.ref 76), some (.int l1), some (.int l2), some (.int s0)], [], w) = _
    refine Eq.trans ?_ (if_neg hc357).symm
    refine (val_g (c2 := (62, d + 2, 14, [some (.ref 76), some (.int l1), some (.int l2), some (.int s0)], [.ref 76], w)) rfl).trans ?_
    refine (val_gf rfl (hW.k 76 (Nat.le_of_ble_eq_true rfl) (Nat.le_of_ble_eq_true rfl)) rfl).trans ?_
    show val (62, d + 2, 17, [some (.ref 76), some (.int l1), some (.int l2), some (.int s0)], [.int (gI w 76 4)], w) = _
    refine (val_g (c2 := (62, d + 2, 20, [some (.ref 76), some (.int l1), some (.int l2), some (.int s0)], [.int 720, .int (gI w 76 4)], w)) rfl).trans ?_
    by_cases hc358 : 720 ≤ (gI w 76 4)
    · refine ((val_ic_ge rfl).trans (if_pos hc358)).trans ?_
      show val (62, d + 2, 32, [some (.ref 76), some (.int l1), some (.int l2), some (.int s0)], [], w) = _
      refine Eq.trans ?_ (if_pos hc358).symm
      exact val_r rfl
    · refine ((val_ic_ge rfl).trans (if_neg hc358)).trans ?_
      show val (62, d + 2, 23, [some (.ref 76), some (.int l1), some (.int l2), some (.int s0)], [], w) = _
      refine Eq.trans ?_ (if_neg hc358).symm
      refine (val_g (c2 := (62, d + 2, 24, [some (.ref 76), some (.int l1), some (.int l2), some (.int s0)], [.ref 76], w)) rfl).trans ?_
      refine (val_gf rfl (hW.k 76 (Nat.le_of_ble_eq_true rfl) (Nat.le_of_ble_eq_true rfl)) (fvR (hW.r 76 1 78 rfl))).trans ?_
      show val (62, d + 2, 27, [some (.ref 76), some (.int l1), some (.int l2), some (.int s0)], [.ref 78], w) = _
      refine (val_g (c2 := (62, d + 2, 28, [some (.ref 76), some (.int l1), some (.int l2), some (.int s0)], [.int s0, .ref 78], w)) rfl).trans ?_
      refine (val_bal rfl (hW.k 78 (Nat.le_of_ble_eq_true rfl) (Nat.le_of_ble_eq_true rfl)) rfl (hy1 hc357 hc358)).trans ?_
      show val (62, d + 2, 29, [some (.ref 76), some (.int l1), some (.int l2), some (.int s0)], [.int (gI w 78 (s0).toNatClampNeg)], w) = _
      by_cases hc359 : (gI w 78 (s0).toNatClampNeg) = 0
      · refine ((val_if_eq rfl).trans (if_pos hc359)).trans ?_
        show val (62, d + 2, 33, [some (.ref 76), some (.int l1), some (.int l2), some (.int s0)], [], w) = _
        refine Eq.trans ?_ (if_pos hc359).symm
        refine (val_g (c2 := (62, d + 2, 34, [some (.ref 76), some (.int l1), some (.int l2), some (.int s0)], [.ref 76], w)) rfl).trans ?_
        refine (val_gf rfl (hW.k 76 (Nat.le_of_ble_eq_true rfl) (Nat.le_of_ble_eq_true rfl)) (fvR (hW.r 76 1 78 rfl))).trans ?_
        show val (62, d + 2, 37, [some (.ref 76), some (.int l1), some (.int l2), some (.int s0)], [.ref 78], w) = _
        refine (val_g (c2 := (62, d + 2, 38, [some (.ref 76), some (.int l1), some (.int l2), some (.int s0)], [.int s0, .ref 78], w)) rfl).trans ?_
        refine (val_g (c2 := (62, d + 2, 39, [some (.ref 76), some (.int l1), some (.int l2), some (.int s0)], [.int 1, .int s0, .ref 78], w)) rfl).trans ?_
        refine (val_basZ rfl (hW.k 78 (Nat.le_of_ble_eq_true rfl) (Nat.le_of_ble_eq_true rfl)) (hy2 hc357 hc358 hc359)).trans ?_
        show val (62, d + 2, 40, [some (.ref 76), some (.int l1), some (.int l2), some (.int s0)], [], (sI w 78 (s0).toNatClampNeg ((vp_nar .boolean 1)))) = _
        refine (val_g (c2 := (62, d + 2, 41, [some (.ref 76), some (.int l1), some (.int l2), some (.int s0)], [.ref 76], (sI w 78 (s0).toNatClampNeg ((vp_nar .boolean 1))))) rfl).trans ?_
        refine (val_gf (w := (sI w 78 (s0).toNatClampNeg ((vp_nar .boolean 1)))) rfl (hW.k 76 (Nat.le_of_ble_eq_true rfl) (Nat.le_of_ble_eq_true rfl)) (fvR (hW.r 76 0 77 rfl))).trans ?_
        show val (62, d + 2, 44, [some (.ref 76), some (.int l1), some (.int l2), some (.int s0)], [.ref 77], (sI w 78 (s0).toNatClampNeg ((vp_nar .boolean 1)))) = _
        refine (val_g (c2 := (62, d + 2, 45, [some (.ref 76), some (.int l1), some (.int l2), some (.int s0)], [.ref 76, .ref 77], (sI w 78 (s0).toNatClampNeg ((vp_nar .boolean 1))))) rfl).trans ?_
        refine (val_g (c2 := (62, d + 2, 46, [some (.ref 76), some (.int l1), some (.int l2), some (.int s0)], [.ref 76, .ref 76, .ref 77], (sI w 78 (s0).toNatClampNeg ((vp_nar .boolean 1))))) rfl).trans ?_
        refine (val_gf (w := (sI w 78 (s0).toNatClampNeg ((vp_nar .boolean 1)))) rfl (hW.k 76 (Nat.le_of_ble_eq_true rfl) (Nat.le_of_ble_eq_true rfl)) rfl).trans ?_
        show val (62, d + 2, 49, [some (.ref 76), some (.int l1), some (.int l2), some (.int s0)], [.int (gI ((sI w 78 (s0).toNatClampNeg ((vp_nar .boolean 1)))) 76 4), .ref 76, .ref 77], (sI w 78 (s0).toNatClampNeg ((vp_nar .boolean 1)))) = _
        refine (val_g (c2 := (62, d + 2, 50, [some (.ref 76), some (.int l1), some (.int l2), some (.int s0)], [.int (gI ((sI w 78 (s0).toNatClampNeg ((vp_nar .boolean 1)))) 76 4), .ref 76, .int (gI ((sI w 78 (s0).toNatClampNeg ((vp_nar .boolean 1)))) 76 4), .ref 77], (sI w 78 (s0).toNatClampNeg ((vp_nar .boolean 1))))) rfl).trans ?_
        refine (val_g (c2 := (62, d + 2, 51, [some (.ref 76), some (.int l1), some (.int l2), some (.int s0)], [.int 1, .int (gI ((sI w 78 (s0).toNatClampNeg ((vp_nar .boolean 1)))) 76 4), .ref 76, .int (gI ((sI w 78 (s0).toNatClampNeg ((vp_nar .boolean 1)))) 76 4), .ref 77], (sI w 78 (s0).toNatClampNeg ((vp_nar .boolean 1))))) rfl).trans ?_
        refine (val_g (c2 := (62, d + 2, 52, [some (.ref 76), some (.int l1), some (.int l2), some (.int s0)], [.int ((gI ((sI w 78 (s0).toNatClampNeg ((vp_nar .boolean 1)))) 76 4) + 1), .ref 76, .int (gI ((sI w 78 (s0).toNatClampNeg ((vp_nar .boolean 1)))) 76 4), .ref 77], (sI w 78 (s0).toNatClampNeg ((vp_nar .boolean 1))))) rfl).trans ?_
        refine (val_pf (w := (sI w 78 (s0).toNatClampNeg ((vp_nar .boolean 1)))) rfl (hW.k 76 (Nat.le_of_ble_eq_true rfl) (Nat.le_of_ble_eq_true rfl)) rfl).trans ?_
        show val (62, d + 2, 55, [some (.ref 76), some (.int l1), some (.int l2), some (.int s0)], [.int (gI ((sI w 78 (s0).toNatClampNeg ((vp_nar .boolean 1)))) 76 4), .ref 77], (sI ((sI w 78 (s0).toNatClampNeg ((vp_nar .boolean 1)))) 76 4 (((gI ((sI w 78 (s0).toNatClampNeg ((vp_nar .boolean 1)))) 76 4) + 1)))) = _
        refine (val_g (c2 := (62, d + 2, 56, [some (.ref 76), some (.int l1), some (.int l2), some (.int s0)], [.int l2, .int (gI ((sI w 78 (s0).toNatClampNeg ((vp_nar .boolean 1)))) 76 4), .ref 77], (sI ((sI w 78 (s0).toNatClampNeg ((vp_nar .boolean 1)))) 76 4 (((gI ((sI w 78 (s0).toNatClampNeg ((vp_nar .boolean 1)))) 76 4) + 1))))) rfl).trans ?_
        refine (val_ias (w := (sI ((sI w 78 (s0).toNatClampNeg ((vp_nar .boolean 1)))) 76 4 (((gI ((sI w 78 (s0).toNatClampNeg ((vp_nar .boolean 1)))) 76 4) + 1)))) rfl (hW.k 77 (Nat.le_of_ble_eq_true rfl) (Nat.le_of_ble_eq_true rfl)) (hy3 hc357 hc358 hc359)).trans ?_
        show val (62, d + 2, 57, [some (.ref 76), some (.int l1), some (.int l2), some (.int s0)], [], (sI ((sI ((sI w 78 (s0).toNatClampNeg ((vp_nar .boolean 1)))) 76 4 (((gI ((sI w 78 (s0).toNatClampNeg ((vp_nar .boolean 1)))) 76 4) + 1)))) 77 ((gI ((sI w 78 (s0).toNatClampNeg ((vp_nar .boolean 1)))) 76 4)).toNatClampNeg l2)) = _
        exact val_r rfl
      · refine ((val_if_eq rfl).trans (if_neg hc359)).trans ?_
        show val (62, d + 2, 32, [some (.ref 76), some (.int l1), some (.int l2), some (.int s0)], [], w) = _
        refine Eq.trans ?_ (if_neg hc359).symm
        exact val_r rfl
theorem tq_64_2 (d : Nat) (w : Wd) (hW : FixC w) (l1 : Int32) (l2 : Int32)    (hy1 : (¬ (720 ≤ l2)) → inB l2 720 = true) : val (64, d + 3, 2, [some (.ref 76), some (.int l1), some (.int l2), none], [], w) = (if 720 ≤ l2 then val (64, d + 3, 30, [some (.ref 76), some (.int l1), some (.int l2), none], [.int l1, .int l1, .ref 76], (sI w 76 4 0)) else val (64, d + 3, 2, [some (.ref 76), some (.int l1), some (.int (l2 + 1)), none], [], (sI w 78 (l2).toNatClampNeg ((vp_nar .boolean 0))))) := by
  refine (val_g (c2 := (64, d + 3, 3, [some (.ref 76), some (.int l1), some (.int l2), none], [.int l2], w)) rfl).trans ?_
  refine (val_g (c2 := (64, d + 3, 6, [some (.ref 76), some (.int l1), some (.int l2), none], [.int 720, .int l2], w)) rfl).trans ?_
  by_cases hc370 : 720 ≤ l2
  · refine ((val_ic_ge rfl).trans (if_pos hc370)).trans ?_
    show val (64, d + 3, 22, [some (.ref 76), some (.int l1), some (.int l2), none], [], w) = _
    refine Eq.trans ?_ (if_pos hc370).symm
    refine (val_g (c2 := (64, d + 3, 23, [some (.ref 76), some (.int l1), some (.int l2), none], [.ref 76], w)) rfl).trans ?_
    refine (val_g (c2 := (64, d + 3, 24, [some (.ref 76), some (.int l1), some (.int l2), none], [.int 0, .ref 76], w)) rfl).trans ?_
    refine (val_pf rfl (hW.k 76 (Nat.le_of_ble_eq_true rfl) (Nat.le_of_ble_eq_true rfl)) rfl).trans ?_
    show val (64, d + 3, 27, [some (.ref 76), some (.int l1), some (.int l2), none], [], (sI w 76 4 0)) = _
    refine (val_g (c2 := (64, d + 3, 28, [some (.ref 76), some (.int l1), some (.int l2), none], [.ref 76], (sI w 76 4 0))) rfl).trans ?_
    refine (val_g (c2 := (64, d + 3, 29, [some (.ref 76), some (.int l1), some (.int l2), none], [.int l1, .ref 76], (sI w 76 4 0))) rfl).trans ?_
    refine (val_g (c2 := (64, d + 3, 30, [some (.ref 76), some (.int l1), some (.int l2), none], [.int l1, .int l1, .ref 76], (sI w 76 4 0))) rfl).trans ?_
    rfl
  · refine ((val_ic_ge rfl).trans (if_neg hc370)).trans ?_
    show val (64, d + 3, 9, [some (.ref 76), some (.int l1), some (.int l2), none], [], w) = _
    refine Eq.trans ?_ (if_neg hc370).symm
    refine (val_g (c2 := (64, d + 3, 10, [some (.ref 76), some (.int l1), some (.int l2), none], [.ref 76], w)) rfl).trans ?_
    refine (val_gf rfl (hW.k 76 (Nat.le_of_ble_eq_true rfl) (Nat.le_of_ble_eq_true rfl)) (fvR (hW.r 76 1 78 rfl))).trans ?_
    show val (64, d + 3, 13, [some (.ref 76), some (.int l1), some (.int l2), none], [.ref 78], w) = _
    refine (val_g (c2 := (64, d + 3, 14, [some (.ref 76), some (.int l1), some (.int l2), none], [.int l2, .ref 78], w)) rfl).trans ?_
    refine (val_g (c2 := (64, d + 3, 15, [some (.ref 76), some (.int l1), some (.int l2), none], [.int 0, .int l2, .ref 78], w)) rfl).trans ?_
    refine (val_basZ rfl (hW.k 78 (Nat.le_of_ble_eq_true rfl) (Nat.le_of_ble_eq_true rfl)) (hy1 hc370)).trans ?_
    show val (64, d + 3, 16, [some (.ref 76), some (.int l1), some (.int l2), none], [], (sI w 78 (l2).toNatClampNeg ((vp_nar .boolean 0)))) = _
    refine (val_g (c2 := (64, d + 3, 19, [some (.ref 76), some (.int l1), some (.int (l2 + 1)), none], [], (sI w 78 (l2).toNatClampNeg ((vp_nar .boolean 0))))) rfl).trans ?_
    refine (val_g (c2 := (64, d + 3, 2, [some (.ref 76), some (.int l1), some (.int (l2 + 1)), none], [], (sI w 78 (l2).toNatClampNeg ((vp_nar .boolean 0))))) rfl).trans ?_
    rfl
theorem tq_64_38 (d : Nat) (w : Wd) (hW : FixC w) (l1 : Int32) (l2 : Int32) (l3 : Option Value)    : val (64, d + 3, 38, [some (.ref 76), some (.int l1), some (.int l2), l3], [], w) = (if (gI w 76 4) ≤ l2 then some (none, w) else (if 720 ≤ l2 then some (none, w) else val (64, d + 3, 55, [some (.ref 76), some (.int l1), some (.int l2), some (.int 0)], [], w))) := by
  refine (val_g (c2 := (64, d + 3, 39, [some (.ref 76), some (.int l1), some (.int l2), l3], [.int l2], w)) rfl).trans ?_
  refine (val_g (c2 := (64, d + 3, 40, [some (.ref 76), some (.int l1), some (.int l2), l3], [.ref 76, .int l2], w)) rfl).trans ?_
  refine (val_gf rfl (hW.k 76 (Nat.le_of_ble_eq_true rfl) (Nat.le_of_ble_eq_true rfl)) rfl).trans ?_
  show val (64, d + 3, 43, [some (.ref 76), some (.int l1), some (.int l2), l3], [.int (gI w 76 4), .int l2], w) = _
  by_cases hc371 : (gI w 76 4) ≤ l2
  · refine ((val_ic_ge rfl).trans (if_pos hc371)).trans ?_
    show val (64, d + 3, 96, [some (.ref 76), some (.int l1), some (.int l2), l3], [], w) = _
    refine Eq.trans ?_ (if_pos hc371).symm
    exact val_r rfl
  · refine ((val_ic_ge rfl).trans (if_neg hc371)).trans ?_
    show val (64, d + 3, 46, [some (.ref 76), some (.int l1), some (.int l2), l3], [], w) = _
    refine Eq.trans ?_ (if_neg hc371).symm
    refine (val_g (c2 := (64, d + 3, 47, [some (.ref 76), some (.int l1), some (.int l2), l3], [.int l2], w)) rfl).trans ?_
    refine (val_g (c2 := (64, d + 3, 50, [some (.ref 76), some (.int l1), some (.int l2), l3], [.int 720, .int l2], w)) rfl).trans ?_
    by_cases hc372 : 720 ≤ l2
    · refine ((val_ic_ge rfl).trans (if_pos hc372)).trans ?_
      show val (64, d + 3, 96, [some (.ref 76), some (.int l1), some (.int l2), l3], [], w) = _
      refine Eq.trans ?_ (if_pos hc372).symm
      exact val_r rfl
    · refine ((val_ic_ge rfl).trans (if_neg hc372)).trans ?_
      show val (64, d + 3, 53, [some (.ref 76), some (.int l1), some (.int l2), l3], [], w) = _
      refine Eq.trans ?_ (if_neg hc372).symm
      refine (val_g (c2 := (64, d + 3, 54, [some (.ref 76), some (.int l1), some (.int l2), l3], [.int 0], w)) rfl).trans ?_
      refine (val_g (c2 := (64, d + 3, 55, [some (.ref 76), some (.int l1), some (.int l2), some (.int 0)], [], w)) rfl).trans ?_
      rfl
theorem tq_64_55 (d : Nat) (w : Wd) (hW : FixC w) (l1 : Int32) (l2 : Int32) (l3 : Int32)    (hy1 : (¬ ((gI w 76 3) ≤ l3)) → inB l2 720 = true) (hy2 : (¬ ((gI w 76 3) ≤ l3)) → inB l3 6 = true) : val (64, d + 3, 55, [some (.ref 76), some (.int l1), some (.int l2), some (.int l3)], [], w) = (if (gI w 76 3) ≤ l3 then val (64, d + 3, 38, [some (.ref 76), some (.int l1), some (.int (l2 + 1)), some (.int l3)], [], w) else val (64, d + 3, 78, [some (.ref 76), some (.int l1), some (.int l2), some (.int l3)], [.int (gI w 79 (l3).toNatClampNeg), .int (gI w 77 (l2).toNatClampNeg), .int l1, .int l1, .ref 76], w)) := by
  refine (val_g (c2 := (64, d + 3, 56, [some (.ref 76), some (.int l1), some (.int l2), some (.int l3)], [.int l3], w)) rfl).trans ?_
  refine (val_g (c2 := (64, d + 3, 57, [some (.ref 76), some (.int l1), some (.int l2), some (.int l3)], [.ref 76, .int l3], w)) rfl).trans ?_
  refine (val_gf rfl (hW.k 76 (Nat.le_of_ble_eq_true rfl) (Nat.le_of_ble_eq_true rfl)) rfl).trans ?_
  show val (64, d + 3, 60, [some (.ref 76), some (.int l1), some (.int l2), some (.int l3)], [.int (gI w 76 3), .int l3], w) = _
  by_cases hc373 : (gI w 76 3) ≤ l3
  · refine ((val_ic_ge rfl).trans (if_pos hc373)).trans ?_
    show val (64, d + 3, 90, [some (.ref 76), some (.int l1), some (.int l2), some (.int l3)], [], w) = _
    refine Eq.trans ?_ (if_pos hc373).symm
    refine (val_g (c2 := (64, d + 3, 93, [some (.ref 76), some (.int l1), some (.int (l2 + 1)), some (.int l3)], [], w)) rfl).trans ?_
    refine (val_g (c2 := (64, d + 3, 38, [some (.ref 76), some (.int l1), some (.int (l2 + 1)), some (.int l3)], [], w)) rfl).trans ?_
    rfl
  · refine ((val_ic_ge rfl).trans (if_neg hc373)).trans ?_
    show val (64, d + 3, 63, [some (.ref 76), some (.int l1), some (.int l2), some (.int l3)], [], w) = _
    refine Eq.trans ?_ (if_neg hc373).symm
    refine (val_g (c2 := (64, d + 3, 64, [some (.ref 76), some (.int l1), some (.int l2), some (.int l3)], [.ref 76], w)) rfl).trans ?_
    refine (val_g (c2 := (64, d + 3, 65, [some (.ref 76), some (.int l1), some (.int l2), some (.int l3)], [.int l1, .ref 76], w)) rfl).trans ?_
    refine (val_g (c2 := (64, d + 3, 66, [some (.ref 76), some (.int l1), some (.int l2), some (.int l3)], [.int l1, .int l1, .ref 76], w)) rfl).trans ?_
    refine (val_g (c2 := (64, d + 3, 67, [some (.ref 76), some (.int l1), some (.int l2), some (.int l3)], [.ref 76, .int l1, .int l1, .ref 76], w)) rfl).trans ?_
    refine (val_gf rfl (hW.k 76 (Nat.le_of_ble_eq_true rfl) (Nat.le_of_ble_eq_true rfl)) (fvR (hW.r 76 0 77 rfl))).trans ?_
    show val (64, d + 3, 70, [some (.ref 76), some (.int l1), some (.int l2), some (.int l3)], [.ref 77, .int l1, .int l1, .ref 76], w) = _
    refine (val_g (c2 := (64, d + 3, 71, [some (.ref 76), some (.int l1), some (.int l2), some (.int l3)], [.int l2, .ref 77, .int l1, .int l1, .ref 76], w)) rfl).trans ?_
    refine (val_ial rfl (hW.k 77 (Nat.le_of_ble_eq_true rfl) (Nat.le_of_ble_eq_true rfl)) rfl (hy1 hc373)).trans ?_
    show val (64, d + 3, 72, [some (.ref 76), some (.int l1), some (.int l2), some (.int l3)], [.int (gI w 77 (l2).toNatClampNeg), .int l1, .int l1, .ref 76], w) = _
    refine (val_g (c2 := (64, d + 3, 73, [some (.ref 76), some (.int l1), some (.int l2), some (.int l3)], [.ref 76, .int (gI w 77 (l2).toNatClampNeg), .int l1, .int l1, .ref 76], w)) rfl).trans ?_
    refine (val_gf rfl (hW.k 76 (Nat.le_of_ble_eq_true rfl) (Nat.le_of_ble_eq_true rfl)) (fvR (hW.r 76 2 79 rfl))).trans ?_
    show val (64, d + 3, 76, [some (.ref 76), some (.int l1), some (.int l2), some (.int l3)], [.ref 79, .int (gI w 77 (l2).toNatClampNeg), .int l1, .int l1, .ref 76], w) = _
    refine (val_g (c2 := (64, d + 3, 77, [some (.ref 76), some (.int l1), some (.int l2), some (.int l3)], [.int l3, .ref 79, .int (gI w 77 (l2).toNatClampNeg), .int l1, .int l1, .ref 76], w)) rfl).trans ?_
    refine (val_ial rfl (hW.k 79 (Nat.le_of_ble_eq_true rfl) (Nat.le_of_ble_eq_true rfl)) rfl (hy2 hc373)).trans ?_
    show val (64, d + 3, 78, [some (.ref 76), some (.int l1), some (.int l2), some (.int l3)], [.int (gI w 79 (l3).toNatClampNeg), .int (gI w 77 (l2).toNatClampNeg), .int l1, .int l1, .ref 76], w) = _
    rfl
theorem tq_67 (d : Nat) (w : Wd) (hW : FixC w)      : val (67, d, 0, [some (.ref 80)], [], w) = some (none, (sI w 80 1 0)) := by
  refine (val_g (c2 := (67, d, 1, [some (.ref 80)], [.ref 80], w)) rfl).trans ?_
  refine (val_g (c2 := (67, d, 2, [some (.ref 80)], [.int 0, .ref 80], w)) rfl).trans ?_
  refine (val_pf rfl (hW.k 80 (Nat.le_of_ble_eq_true rfl) (Nat.le_of_ble_eq_true rfl)) rfl).trans ?_
  show val (67, d, 5, [some (.ref 80)], [], (sI w 80 1 0)) = _
  exact val_r rfl
theorem tq_121 (d : Nat) (w : Wd) (hW : FixC w)      : val (121, d, 0, [some (.ref 91)], [], w) = some (none, (sI ((sI ((sI w 91 4 0)) 91 5 0)) 91 6 0)) := by
  refine (val_g (c2 := (121, d, 1, [some (.ref 91)], [.ref 91], w)) rfl).trans ?_
  refine (val_g (c2 := (121, d, 2, [some (.ref 91)], [.int 0, .ref 91], w)) rfl).trans ?_
  refine (val_pf rfl (hW.k 91 (Nat.le_of_ble_eq_true rfl) (Nat.le_of_ble_eq_true rfl)) rfl).trans ?_
  show val (121, d, 5, [some (.ref 91)], [], (sI w 91 4 0)) = _
  refine (val_g (c2 := (121, d, 6, [some (.ref 91)], [.ref 91], (sI w 91 4 0))) rfl).trans ?_
  refine (val_g (c2 := (121, d, 7, [some (.ref 91)], [.int 0, .ref 91], (sI w 91 4 0))) rfl).trans ?_
  refine (val_pf (w := (sI w 91 4 0)) rfl (hW.k 91 (Nat.le_of_ble_eq_true rfl) (Nat.le_of_ble_eq_true rfl)) rfl).trans ?_
  show val (121, d, 10, [some (.ref 91)], [], (sI ((sI w 91 4 0)) 91 5 0)) = _
  refine (val_g (c2 := (121, d, 11, [some (.ref 91)], [.ref 91], (sI ((sI w 91 4 0)) 91 5 0))) rfl).trans ?_
  refine (val_g (c2 := (121, d, 12, [some (.ref 91)], [.int 0, .ref 91], (sI ((sI w 91 4 0)) 91 5 0))) rfl).trans ?_
  refine (val_pf (w := (sI ((sI w 91 4 0)) 91 5 0)) rfl (hW.k 91 (Nat.le_of_ble_eq_true rfl) (Nat.le_of_ble_eq_true rfl)) rfl).trans ?_
  show val (121, d, 15, [some (.ref 91)], [], (sI ((sI ((sI w 91 4 0)) 91 5 0)) 91 6 0)) = _
  exact val_r rfl
theorem tq_160 (d : Nat) (w : Wd) (hW : FixC w)      : val (160, d + 1, 0, [some (.ref 96)], [], w) = val (160, d + 1, 5, [some (.ref 96)], [.int (-1), .ref 97], w) := by
  refine (val_g (c2 := (160, d + 1, 1, [some (.ref 96)], [.ref 96], w)) rfl).trans ?_
  refine (val_gf rfl (hW.k 96 (Nat.le_of_ble_eq_true rfl) (Nat.le_of_ble_eq_true rfl)) (fvR (hW.r 96 0 97 rfl))).trans ?_
  show val (160, d + 1, 4, [some (.ref 96)], [.ref 97], w) = _
  refine (val_g (c2 := (160, d + 1, 5, [some (.ref 96)], [.int (-1), .ref 97], w)) rfl).trans ?_
  rfl
section GRPQ
variable {N K : Nat} {ns : Nat → Nat → Nat}
theorem c_includeQ (h3 : 3 ≤ N) (hN : N ≤ 8) (d : Nat) {w : Wd} (hW : FixC w) {s : GS} (hs : CG w N s) {x : Nat → Nat} (hx : IsRow N x) (hr : rkN N x < 720) (hf : 720 ≤ s.1 → hasG N s (rkN N x) = true) (h31 : s.1 < 2 ^ 30) : ∃ w', val (62, d + 2, 0, [some (.ref 76), some (.int (nI N)), some (.int (nI (pkN N x))), none], [], w) = some (none, w') ∧ Fr FGr w w' ∧ CG w' N (icl N s x) := by
  obtain ⟨c1, c2, c3⟩ := id hs
  have hO := okn h3 hN
  obtain ⟨q, hq⟩ : ∃ q, q = rkN N x := ⟨_, rfl⟩
  rw [← hq] at hr hf
  have iq : (nI q).toNatClampNeg = q := nI_clamp (by omega)
  have hqb : inB (nI q) 720 = true := inB_nI hr (by omega)
  have e0 : val (62, d + 2, 0, [some (.ref 76), some (.int (nI N)), some (.int (nI (pkN N x))), none], [], w) = val (62, d + 2, 5, [some (.ref 76), some (.int (nI N)), some (.int (nI (pkN N x))), none], [.int (nI q)], w) := by
    refine (tr_62 d w _ _).trans ?_
    refine (val_call (pc2 := 5) rfl rfl rfl rfl rfl (Nat.le_of_ble_eq_true rfl) (Nat.le_of_ble_eq_true rfl) rfl (ev_139 d w (nI N) (nI (pkN N x)) hO) rfl).trans ?_
    rw [r_139 hN hx, ← hq]
    rfl
  have g76 : gI (sI w 78 q (vp_nar .boolean 1)) 76 4 = nI s.1 := by rw [gI_ne _ _ _ _ (by decide)]; exact c1
  have e1 := tq_62_5 d w hW (nI N) (nI (pkN N x)) (nI q) (fun _ _ => hqb) (fun _ _ _ => hqb) (fun _ h _ => by
    rw [iq, g76]
    rw [c1] at h
    exact inB_nI (by
      by_cases c : s.1 < 720
      · exact c
      · exact absurd (n_le (a := 720) (show 720 ≤ s.1 by omega) (by omega)) h) (by omega))
  rw [if_neg (show ¬ (720 : Int32) ≤ nI q from n_nle (a := 720) hr (by omega)), c1, iq, g76, c3 q hr, nI_clamp (show s.1 < 2 ^ 31 by omega), n_succ] at e1
  by_cases hm : hasG N s q = true
  · have hi : icl N s x = s := if_pos (by rw [← hq]; exact hm)
    rw [hi]
    refine ⟨w, e0.trans (e1.trans ?_), Fr.refl _ _, hs⟩
    rw [hm]
    split
    · rfl
    · exact if_neg (by decide)
  · have hs720 : s.1 < 720 := by
      by_cases c : s.1 < 720
      · exact c
      · exact absurd (hf (by omega)) hm
    have hm2 : hasG N s q = false := by simpa using hm
    rw [if_neg (show ¬ (720 : Int32) ≤ nI s.1 from n_nle (a := 720) hs720 (by omega)), hm2, if_pos (show b01 false = 0 from rfl)] at e1
    have hmx : ¬ hasG N s (rkN N x) = true := by rw [← hq]; exact hm
    have hi : icl N s x = (s.1 + 1, upF s.2 s.1 x) := if_neg hmx
    refine ⟨_, e0.trans e1, (((Fr.refl _ w).sI 78 _ _ rfl).sI 76 4 _ rfl).sI 77 _ _ rfl, ?_, fun i h => ?_, fun r hr2 => ?_⟩
    · rw [hi, gI_ne _ _ _ _ (by decide), gI_same]
    · rw [hi] at h ⊢
      have h' : i < s.1 + 1 := h
      show _ = nI (pkN N (upF s.2 s.1 x i))
      by_cases c : i = s.1
      · rw [c, gI_same, upF_eq]
      · rw [gI_nk _ _ _ c, gI_ne _ _ _ _ (by decide), gI_ne _ _ _ _ (by decide), upF_ne _ _ c]; exact c2 i (by omega)
    · rw [hasG_icl hmx, ← hq, gI_ne _ _ _ _ (by decide), gI_ne _ _ _ _ (by decide)]
      by_cases c : r = q
      · rw [c, gI_same, decide_eq_true rfl, Bool.or_true]; rfl
      · rw [gI_nk _ _ _ c, decide_eq_false c, Bool.or_false]; exact c3 r hr2
theorem c_closeIQ (h3 : 3 ≤ N) (hN : N ≤ 6) (d : Nat) {i : Nat} (hi : i < 720) : ∀ n g s (w : Wd), FixC w → CN w N K ns → CG w N s → BI N ns K s → i < s.1 → g + n = K → ∃ w' l3, val (64, d + 3, 55, [some (.ref 76), some (.int (nI N)), some (.int (nI i)), some (.int (nI g))], [], w) = val (64, d + 3, 38, [some (.ref 76), some (.int (nI N)), some (.int (nI (i + 1))), l3], [], w') ∧ Fr FGr w w' ∧ CG w' N (inn N opR ns i n g s) ∧ BI N ns K (inn N opR ns i n g s) := by
  intro n
  induction n with
  | zero =>
    intro g s w hW hC hs hb his hg
    have h6 := hC.1
    refine ⟨w, some (.int (nI g)), (tq_64_55 d w hW _ _ _ (fun _ => inB_nI hi (by omega)) (fun h => absurd (by rw [hC.2.1]; exact n_le (by omega) (by omega)) h)).trans ?_, Fr.refl _ _, hs, hb⟩
    rw [hC.2.1, if_pos (n_le (by omega) (by omega)), n_succ]
  | succ n ih =>
    intro g s w hW hC hs hb his hg
    have h6 := hC.1
    have hg6 : g < K := by omega
    have hgr := (hC.2.2 g hg6).1
    have hir := (hb.2.2.1 i his).1
    have e0 := tq_64_55 d w hW (nI N) (nI i) (nI g) (fun _ => inB_nI hi (by omega)) (fun _ => inB_nI (by omega) (by omega))
    rw [hC.2.1, if_neg (n_nle hg6 (by omega)), nI_clamp (show g < 2 ^ 31 by omega), nI_clamp (show i < 2 ^ 31 by omega), (hC.2.2 g hg6).2, hs.2.1 i his] at e0
    have hx : IsRow N (opR (s.2 i) (ns g)) := hir.comp hgr
    have hle := hb.le
    have h720 := fc6 hN
    obtain ⟨w1, e1, f1, c1⟩ := c_includeQ h3 (by omega) d hW hs hx (by have := rkN_fc hx; omega) (fun h => hb.full hN h hx) (by omega)
    have hW1 := f1.fixC rfl hW
    have hb1 := icl_BI hb hx (opR_ok (fun i hi => (hC.2.2 i hi).1) _ hir (hb.2.2.1 i his).2 g hg6).2
    obtain ⟨w2, l3, e2, f2, c2, b2⟩ := ih (g + 1) (icl N s (opR (s.2 i) (ns g))) w1 hW1 (hC.fa f1.a rfl) c1 hb1 (Nat.lt_of_lt_of_le his (icl_ext _).1) (by omega)
    refine ⟨w2, l3, e0.trans ?_, f1.trans f2, c2, b2⟩
    refine (val_call (pc2 := 81) rfl rfl rfl rfl rfl (Nat.le_of_ble_eq_true rfl) (Nat.le_of_ble_eq_true rfl) rfl (ev_136 (d + 1) w (nI N) (nI (pkN N (s.2 i))) (nI (pkN N (ns g))) (okn h3 (by omega))) rfl).trans ?_
    rw [r_136 (by omega) hir.1 hgr.1]
    refine (val_call (pc2 := 84) rfl rfl rfl rfl (rcvO hW.k76 (by decide)) (Nat.le_of_ble_eq_true rfl) (Nat.le_of_ble_eq_true rfl) rfl e1 rfl).trans ?_
    refine (tr_64_84 d w1 _ _ _).trans ?_
    rw [n_succ]
    exact e2
theorem c_closeLQ (h3 : 3 ≤ N) (hN : N ≤ 8) (hKN : K = 0 ∨ N ≤ 6) (d : Nat) : ∀ n i s (w : Wd) (l3 : Option Value), FixC w → CN w N K ns → CG w N s → BI N ns K s → s.1 ≤ 720 → i + n = 720 → ∃ w', val (64, d + 3, 38, [some (.ref 76), some (.int (nI N)), some (.int (nI i)), l3], [], w) = some (none, w') ∧ Fr FGr w w' ∧ CG w' N (outG N opR ns K n i s) := by
  intro n
  induction n with
  | zero =>
    intro i s w l3 hW hC hs hb hz hi
    refine ⟨w, (tq_64_38 d w hW _ _ l3).trans ?_, Fr.refl _ _, hs⟩
    rw [hs.1, if_pos (n_le (by omega) (by omega))]
  | succ n ih =>
    intro i s w l3 hW hC hs hb hz hi
    unfold outG
    by_cases c : i < s.1
    · rw [if_pos c]
      have e0 := tq_64_38 d w hW (nI N) (nI i) l3
      rw [hs.1, if_neg (n_nle c (by omega)), if_neg (show ¬ (720 : Int32) ≤ nI i from n_nle (a := 720) (by omega) (by omega))] at e0
      rcases hKN with hK | h6
      · subst hK
        have e1 := tq_64_55 d w hW (nI N) (nI i) 0 (fun h => absurd (by rw [hC.2.1]; exact Int32.le_refl _) h) (fun h => absurd (by rw [hC.2.1]; exact Int32.le_refl _) h)
        rw [hC.2.1, if_pos (show nI 0 ≤ 0 from Int32.le_refl _), n_succ] at e1
        obtain ⟨w2, e2, f2, c2⟩ := ih (i + 1) s w (some (.int 0)) hW hC hs hb hz (by omega)
        exact ⟨w2, e0.trans (e1.trans e2), f2, c2⟩
      · obtain ⟨w1, x3, e1, f1, c1, b1⟩ := c_closeIQ h3 h6 d (by omega) K 0 s w hW hC hs hb c (Nat.zero_add K)
        obtain ⟨w2, e2, f2, c2⟩ := ih (i + 1) _ w1 x3 (f1.fixC rfl hW) (hC.fa f1.a rfl) c1 b1 (by have := b1.le; have := fc6 h6; omega) (by omega)
        exact ⟨w2, e0.trans (e1.trans e2), f1.trans f2, c2⟩
    · rw [if_neg c]
      refine ⟨w, (tq_64_38 d w hW _ _ l3).trans ?_, Fr.refl _ _, hs⟩
      rw [hs.1, if_pos (n_le (by omega) (by omega))]
theorem c_closeQ (h3 : 3 ≤ N) (hN : N ≤ 8) (hKN : K = 0 ∨ N ≤ 6) (d : Nat) {w : Wd} (hW : FixC w) (hC : CN w N K ns) : ∃ w', val (64, d + 3, 0, [some (.ref 76), some (.int (nI N)), none, none], [], w) = some (none, w') ∧ Fr FGr w w' ∧ CG w' N (outG N opR ns K 720 0 gs0) := by
  have hL := loopUp (c := fun k v => (64, d + 3, 2, [some (.ref 76), some (.int (nI N)), some (.int (nI k)), none], [], v)) (P := fun k v => Fr [(78, none)] w v ∧ ∀ i, i < k → gI v 78 i = 0) (R := fun r => ∃ w' l2, r = val (64, d + 3, 30, [some (.ref 76), some (.int (nI N)), some (.int l2), none], [.int (nI N), .int (nI N), .ref 76], sI w' 76 4 0) ∧ Fr [(78, none)] w w' ∧ ∀ k, k < 720 → gI w' 78 k = 0) (N := 720) (fun v hv => ⟨v, nI 720, (tq_64_2 d v (hv.1.fixC rfl hW) _ _ (fun h => absurd (Int32.le_refl _) h)).trans (if_pos (Int32.le_refl _)), hv.1, hv.2⟩) (fun k v hk hv => Or.inr ⟨sI v 78 k 0, (tq_64_2 d v (hv.1.fixC rfl hW) _ _ (fun _ => inB_nI hk (by decide))).trans (by
      rw [if_neg (show ¬ (720 : Int32) ≤ nI k from n_nle (a := 720) hk (by decide)), n_succ, nI_clamp (by omega), show vp_nar .boolean 0 = 0 from rfl]), hv.1.sI 78 _ _ rfl, fun i hi => by
        by_cases e : i = k
        · rw [e, gI_same]
        · rw [gI_nk _ _ _ e]; exact hv.2 i (by omega)⟩) w ⟨Fr.refl _ _, fun i hi => absurd hi (Nat.not_lt_zero i)⟩
  obtain ⟨wa, l2, e1, fa, ga⟩ := hL
  obtain ⟨wb, hwb⟩ : ∃ z, z = sI wa 76 4 0 := ⟨_, rfl⟩
  rw [← hwb] at e1
  have fb : Fr FGr w wb := by rw [hwb]; exact (fa.mono rfl).sI 76 4 _ rfl
  have hWb := fb.fixC rfl hW
  have hsb : CG wb N (0, fun _ p => p) := ⟨by rw [hwb, gI_same]; rfl, fun i hi => absurd hi (Nat.not_lt_zero i), fun r hr => by rw [hwb, gI_ne _ _ _ _ (by decide), ga r hr]; rfl⟩
  obtain ⟨wc, e2, fc', cc⟩ := c_includeQ h3 hN d hWb hsb (IsRow.id N) (by rw [rkN_id]; decide) (fun h => absurd h (by decide)) (by decide)
  have hic : icl N (0, fun _ p => p) (fun p => p) = gs0 := by
    have : icl N (0, fun _ p => p) (fun p => p) = (1, upF (fun _ p => p) 0 (fun p => p)) := if_neg (fun h => by cases h)
    rw [this]
    refine Prod.ext rfl (funext fun i => ?_)
    show upF (fun _ p => p) 0 (fun p => p) i = fun p => p
    by_cases c : i = 0
    · rw [c, upF_eq]
    · rw [upF_ne _ _ c]
  rw [hic] at cc
  have fbc := fb.trans fc'
  obtain ⟨wd, e3, fd, cd⟩ := c_closeLQ h3 hN hKN d 720 0 gs0 wc none (fc'.fixC rfl hWb) ((hC.fa fb.a rfl).fa fc'.a rfl) cc gs0_BI (by decide) rfl
  refine ⟨wd, (tr_64 d w (nI N)).trans (e1.trans ?_), fbc.trans fd, cd⟩
  refine (val_call (pc2 := 33) rfl rfl rfl rfl rfl (Nat.le_of_ble_eq_true rfl) (Nat.le_of_ble_eq_true rfl) rfl (ev_133 (d + 2) wb (nI N) (okn h3 hN)) rfl).trans ?_
  rw [r_133 hN]
  refine (val_call (pc2 := 36) rfl rfl rfl rfl (rcvO hWb.k76 (by decide)) (Nat.le_of_ble_eq_true rfl) (Nat.le_of_ble_eq_true rfl) rfl e2 rfl).trans ?_
  refine (tr_64_36 d wc _ _).trans ?_
  exact e3
end GRPQ
section DISQ
variable {N : Nat} {w : Wd}
theorem c_dissolveQ (h3 : 3 ≤ N) (hN : N ≤ 8) (d : Nat) (hW : FixC w) : ∃ w', val (60, d + 4, 0, [some (.ref 76), some (.int (nI N))], [], w) = some (none, w') ∧ Fr [(76, some 3), (76, some 4), (76, some 5), (77, none), (78, none)] w w' ∧ gI w' 76 5 = 0 ∧ gI w' 76 3 = 0 ∧ CG w' N gs0 := by
  obtain ⟨wa, hwa⟩ : ∃ z, z = sI (sI w 76 5 0) 76 3 0 := ⟨_, rfl⟩
  have fa : Fr [(76, some 3), (76, some 5)] w wa := by rw [hwa]; exact ((Fr.refl _ w).sI 76 5 _ rfl).sI 76 3 _ rfl
  have hWa := fa.fixC rfl hW
  obtain ⟨w', e1, f1, c1⟩ := c_closeQ (K := 0) (ns := fun _ p => p) h3 hN (Or.inl rfl) d hWa ⟨by omega, by rw [hwa, gI_same]; rfl, fun g hg => absurd hg (Nat.not_lt_zero g)⟩
  rw [outG_0] at c1
  refine ⟨w', (tq_60 d w hW _).trans ?_, (fa.mono rfl).trans (f1.mono rfl), ?_, ?_, c1⟩
  · rw [← hwa]
    refine (val_call (pc2 := 15) rfl rfl rfl rfl (rcvO hWa.k76 (by decide)) (Nat.le_of_ble_eq_true rfl) (Nat.le_of_ble_eq_true rfl) rfl e1 rfl).trans ?_
    exact tr_60_15 d w' _
  · rw [f1.i 76 5 rfl, hwa, gI_nk _ _ _ (by decide), gI_same]
  · rw [f1.i 76 3 rfl, hwa, gI_same]
theorem c_assembleLQ (d : Nat) : ∀ n k (w : Wd), k + n = 9 → 1 ≤ k → FixC w → (∀ b, 1 ≤ b → b < k → gI w 85 b = 0 ∧ gI w 86 b = 10 ∧ gI w 87 b = 0) → ∃ w', val (49, d + 1, 2, [some (.ref 84), some (.int (nI k))], [], w) = some (none, w') ∧ Fr FAs w w' ∧ (∀ b, 1 ≤ b → b ≤ 8 → gI w' 85 b = 0 ∧ gI w' 86 b = 10 ∧ gI w' 87 b = 0) ∧ gI w' 84 6 = 0 ∧ gI w' 84 7 = 0 ∧ gI w' 84 8 = 0 ∧ gI w' 84 9 = 0 ∧ gI w' 84 10 = -9 := by
  intro n
  induction n with
  | zero =>
    intro k w hk h1 hW h
    have e := tr_49_2 d w (nI k)
    rw [if_pos (show (8 : Int32) < nI k from n_lt (a := 8) (by omega) (by omega))] at e
    have e2 := tq_51 d w hW
    obtain ⟨w', hw'⟩ : ∃ z, z = sI (sI (sI (sI (sI w 84 6 0) 84 7 0) 84 8 0) 84 9 0) 84 10 (-9) := ⟨_, rfl⟩
    rw [← hw'] at e2
    have f : Fr [(84, some 6), (84, some 7), (84, some 8), (84, some 9), (84, some 10)] w w' := by rw [hw']; exact (((((Fr.refl _ w).sI 84 6 _ rfl).sI 84 7 _ rfl).sI 84 8 _ rfl).sI 84 9 _ rfl).sI 84 10 _ rfl
    refine ⟨w', e.trans ?_, f.mono rfl, fun b b1 b8 => ?_, ?_, ?_, ?_, ?_, ?_⟩
    · refine (val_call (pc2 := 26) rfl rfl rfl rfl (rcvO hW.k84 (by decide)) (Nat.le_of_ble_eq_true rfl) (Nat.le_of_ble_eq_true rfl) rfl e2 rfl).trans ?_
      exact tr_49_26 d w' _
    · rw [f.i 85 b rfl, f.i 86 b rfl, f.i 87 b rfl]
      exact h b b1 (by omega)
    · rw [hw', gI_nk _ _ _ (by decide), gI_nk _ _ _ (by decide), gI_nk _ _ _ (by decide), gI_nk _ _ _ (by decide), gI_same]
    · rw [hw', gI_nk _ _ _ (by decide), gI_nk _ _ _ (by decide), gI_nk _ _ _ (by decide), gI_same]
    · rw [hw', gI_nk _ _ _ (by decide), gI_nk _ _ _ (by decide), gI_same]
    · rw [hw', gI_nk _ _ _ (by decide), gI_same]
    · rw [hw', gI_same]
  | succ n ih =>
    intro k w hk h1 hW h
    have e := tr_49_2 d w (nI k)
    rw [if_neg (show ¬ (8 : Int32) < nI k from n_nlt (a := 8) (show k ≤ 8 by omega) (by decide))] at e
    have e2 := tq_50 d w hW (nI k) 0 10 (inB_nI (by omega) (by omega))
    rw [nI_clamp (show k < 2 ^ 31 by omega)] at e2
    obtain ⟨w1, hw1⟩ : ∃ z, z = sI (sI (sI w 85 k 0) 86 k 10) 87 k 0 := ⟨_, rfl⟩
    rw [← hw1] at e2
    have f1 : Fr FAs w w1 := by rw [hw1]; exact (((Fr.refl _ w).sI 85 _ _ rfl).sI 86 _ _ rfl).sI 87 _ _ rfl
    obtain ⟨w2, e3, f2, g⟩ := ih (k + 1) w1 (by omega) (by omega) (f1.fixC rfl hW) (fun b b1 b2 => by
      rw [hw1]
      by_cases c : b = k
      · rw [c, gI_ne _ _ _ _ (by decide), gI_ne _ _ _ _ (by decide), gI_same, gI_ne _ _ _ _ (by decide), gI_same, gI_same]
        exact ⟨rfl, rfl, rfl⟩
      · rw [gI_ne _ _ _ _ (by decide), gI_ne _ _ _ _ (by decide), gI_nk _ _ _ c, gI_ne _ _ _ _ (by decide), gI_nk _ _ _ c, gI_ne _ _ _ _ (by decide), gI_nk _ _ _ c, gI_ne _ _ _ _ (by decide), gI_ne _ _ _ _ (by decide)]
        exact h b b1 (by omega))
    refine ⟨w2, e.trans ?_, f1.trans f2, g⟩
    refine (val_call (pc2 := 16) rfl rfl rfl rfl (rcvO hW.k84 (by decide)) (Nat.le_of_ble_eq_true rfl) (Nat.le_of_ble_eq_true rfl) rfl e2 rfl).trans ?_
    refine (tr_49_16 d w1 _).trans ?_
    rw [n_succ]
    exact e3
theorem c_anewQ {N : Nat} (h3 : 3 ≤ N) (hN : N ≤ 8) (hW : FixC w) (hn : gI w 64 0 = nI N) (d : Nat) : ∃ w', val (2, d + 5, 0, [some (.ref 64)], [], w) = some (none, w') ∧ Fr FAc w w' ∧ CA w' N := by
  obtain ⟨wa, hwa⟩ : ∃ z, z = sI w 64 4 0 := ⟨_, rfl⟩
  have fa : Fr [(64, some 4)] w wa := by rw [hwa]; exact (Fr.refl _ w).sI 64 4 _ rfl
  have hWa := fa.fixC rfl hW
  obtain ⟨wb, hwb⟩ : ∃ z, z = sR wa 67 0 none := ⟨_, rfl⟩
  have fb : Fr [(67, some 0)] wa wb := by rw [hwb]; exact (Fr.refl _ wa).sR 67 0 _ rfl
  have hWb := fb.fixC rfl hWa
  have eb : val (153, d + 4, 0, [some (.ref 67)], [], wa) = some (none, wb) := by
    refine (tr_153 (d + 4) wa).trans ((val_pf (w2 := wb) rfl hWa.k67 (by rw [hwb]; exact svN)).trans ?_)
    exact tr_153_5 (d + 4) wb
  obtain ⟨wc, ec, fc', c1, c2, c3⟩ := c_dissolveQ h3 hN d hWb
  have hWc := fc'.fixC rfl hWb
  obtain ⟨wd, hwd⟩ : ∃ z, z = sI wc 80 1 0 := ⟨_, rfl⟩
  have ed : val (67, d + 4, 0, [some (.ref 80)], [], wc) = some (none, wd) := by rw [hwd]; exact tq_67 (d + 4) wc hWc
  have fd : Fr [(80, some 1)] wc wd := by rw [hwd]; exact (Fr.refl _ wc).sI 80 1 _ rfl
  have hWd := fd.fixC rfl hWc
  obtain ⟨we, ee, fe, e1, e2, e3, e4, e5, e6⟩ := c_assembleLQ (d + 3) 8 1 wd rfl (Nat.le_refl 1) hWd (fun b b1 b2 => by omega)
  have hWe := fe.fixC rfl hWd
  obtain ⟨wf, hwf⟩ : ∃ z, z = sI (sI (sI we 91 4 0) 91 5 0) 91 6 0 := ⟨_, rfl⟩
  have ef : val (121, d + 4, 0, [some (.ref 91)], [], we) = some (none, wf) := by rw [hwf]; exact tq_121 (d + 4) we hWe
  have ff : Fr [(91, some 4), (91, some 5), (91, some 6)] we wf := by rw [hwf]; exact (((Fr.refl _ we).sI 91 4 _ rfl).sI 91 5 _ rfl).sI 91 6 _ rfl
  have hWf := ff.fixC rfl hWe
  obtain ⟨wg, eg, fg, gg⟩ := r_fillI 97 8 (by decide) (-1) (d + 3) (hWf.k 97 (by decide) (by decide))
  have eg' : val (160, d + 4, 0, [some (.ref 96)], [], wf) = some (none, wg) := by
    refine (tq_160 (d + 3) wf hWf).trans ?_
    refine (val_call (pc2 := 8) rfl rfl rfl rfl rfl (Nat.le_of_ble_eq_true rfl) (Nat.le_of_ble_eq_true rfl) rfl eg rfl).trans ?_
    exact tr_160_8 (d + 3) wg
  have fbg : Fr [(67, some 0), (76, some 3), (76, some 4), (76, some 5), (77, none), (78, none), (80, some 1), (84, some 6), (84, some 7), (84, some 8), (84, some 9), (84, some 10), (85, none), (86, none), (87, none), (91, some 4), (91, some 5), (91, some 6), (97, none)] wa wg := (((((fb.mono rfl).trans (fc'.mono rfl)).trans (fd.mono rfl)).trans (fe.mono rfl)).trans (ff.mono rfl)).trans (fg.mono rfl)
  have fcg : Fr [(76, some 3), (76, some 4), (76, some 5), (77, none), (78, none), (80, some 1), (84, some 6), (84, some 7), (84, some 8), (84, some 9), (84, some 10), (85, none), (86, none), (87, none), (91, some 4), (91, some 5), (91, some 6), (97, none)] wb wg := ((((fc'.mono rfl).trans (fd.mono rfl)).trans (fe.mono rfl)).trans (ff.mono rfl)).trans (fg.mono rfl)
  have fdg : Fr [(80, some 1), (84, some 6), (84, some 7), (84, some 8), (84, some 9), (84, some 10), (85, none), (86, none), (87, none), (91, some 4), (91, some 5), (91, some 6), (97, none)] wc wg := (((fd.mono rfl).trans (fe.mono rfl)).trans (ff.mono rfl)).trans (fg.mono rfl)
  have feg : Fr [(84, some 6), (84, some 7), (84, some 8), (84, some 9), (84, some 10), (85, none), (86, none), (87, none), (91, some 4), (91, some 5), (91, some 6), (97, none)] wd wg := ((fe.mono rfl).trans (ff.mono rfl)).trans (fg.mono rfl)
  have ffg : Fr [(91, some 4), (91, some 5), (91, some 6), (97, none)] we wg := (ff.mono rfl).trans (fg.mono rfl)
  refine ⟨wg, (tq_2 d w hW).trans ?_, (fa.mono rfl).trans (fbg.mono rfl), ?_, ?_, ⟨?_, ?_, c3.fa fdg.a rfl⟩, ?_, ⟨fun b b1 b8 => ?_, ?_, ?_, ?_, ?_, ?_⟩, ⟨?_, ?_, ?_⟩, fun B hB => gg B hB⟩
  · rw [← hwa]
    refine (val_call (pc2 := 12) rfl rfl rfl rfl (rcvO hWa.k67 (by decide)) (Nat.le_of_ble_eq_true rfl) (Nat.le_of_ble_eq_true rfl) rfl eb rfl).trans ?_
    refine (tq_2_12 d wb hWb).trans ?_
    rw [fb.i 64 0 rfl, fa.i 64 0 rfl, hn]
    refine (val_call (pc2 := 23) rfl rfl rfl rfl (rcvO hWb.k76 (by decide)) (Nat.le_of_ble_eq_true rfl) (Nat.le_of_ble_eq_true rfl) rfl ec rfl).trans ?_
    refine (tq_2_23 d wc hWc).trans ?_
    refine (val_call (pc2 := 30) rfl rfl rfl rfl (rcvO hWc.k80 (by decide)) (Nat.le_of_ble_eq_true rfl) (Nat.le_of_ble_eq_true rfl) rfl ed rfl).trans ?_
    refine (tq_2_30 d wd hWd).trans ?_
    have ee' := (tr_49 (d + 3) wd).trans ee
    refine (val_call (pc2 := 37) rfl rfl rfl rfl (rcvO hWd.k84 (by decide)) (Nat.le_of_ble_eq_true rfl) (Nat.le_of_ble_eq_true rfl) rfl ee' rfl).trans ?_
    refine (tq_2_37 d we hWe).trans ?_
    refine (val_call (pc2 := 44) rfl rfl rfl rfl (rcvO hWe.k91 (by decide)) (Nat.le_of_ble_eq_true rfl) (Nat.le_of_ble_eq_true rfl) rfl ef rfl).trans ?_
    refine (tq_2_44 d wf hWf).trans ?_
    refine (val_call (pc2 := 51) rfl rfl rfl rfl (rcvO hWf.k96 (by decide)) (Nat.le_of_ble_eq_true rfl) (Nat.le_of_ble_eq_true rfl) rfl eg' rfl).trans ?_
    exact tr_2_51 d wg
  · rw [fbg.i 64 4 rfl, hwa, gI_same]
  · rw [fcg.r 67 0 rfl, hwb]; exact gR_same _ _ _ _
  · rw [fdg.i 76 5 rfl, c1]
  · rw [fdg.i 76 3 rfl, c2]
  · rw [feg.i 80 1 rfl, hwd, gI_same]
  · rw [ffg.i 85 b rfl, ffg.i 86 b rfl, ffg.i 87 b rfl]; exact e1 b b1 b8
  · rw [ffg.i 84 6 rfl, e2]
  · rw [ffg.i 84 7 rfl, e3]
  · rw [ffg.i 84 8 rfl, e4]
  · rw [ffg.i 84 9 rfl, e5]
  · rw [ffg.i 84 10 rfl, e6]
  · rw [fg.i 91 4 rfl, hwf, gI_nk _ _ _ (by decide), gI_nk _ _ _ (by decide), gI_same]
  · rw [fg.i 91 5 rfl, hwf, gI_nk _ _ _ (by decide), gI_same]
  · rw [fg.i 91 6 rfl, hwf, gI_same]
end DISQ
