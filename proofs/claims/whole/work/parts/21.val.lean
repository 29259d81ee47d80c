/-! EQUATIONS of val, an instruction each -/
section VAL
variable {y d pc : Nat} {ls : List (Option Value)} {r : List Value} {w : Wd} {av : Value} {sw : List (Int32 × Nat)}
theorem val_if_eq {x : Int32} {t : Nat} {o : Int} (h : mtab y pc = some (.ifCond .eq o, 3, [t], av, sw)) : val (y, d, pc, ls, .int x :: r, w) = if x = 0 then val (y, d, t, ls, r, w) else val (y, d, pc + 3, ls, r, w) := by
  by_cases hc : x = 0
  · rw [if_pos hc]
    exact val_g (by unfold plan; simp only [h, pst, pln, pbr]; rw [if_pos hc]; rfl)
  · rw [if_neg hc]
    exact val_g (by unfold plan; simp only [h, pst, pln, pbr]; rw [if_neg hc]; rfl)
theorem val_if_ne {x : Int32} {t : Nat} {o : Int} (h : mtab y pc = some (.ifCond .ne o, 3, [t], av, sw)) : val (y, d, pc, ls, .int x :: r, w) = if ¬ x = 0 then val (y, d, t, ls, r, w) else val (y, d, pc + 3, ls, r, w) := by
  by_cases hc : ¬ x = 0
  · rw [if_pos hc]
    exact val_g (by unfold plan; simp only [h, pst, pln, pbr]; rw [if_pos hc]; rfl)
  · rw [if_neg hc]
    exact val_g (by unfold plan; simp only [h, pst, pln, pbr]; rw [if_neg hc]; rfl)
theorem val_if_lt {x : Int32} {t : Nat} {o : Int} (h : mtab y pc = some (.ifCond .lt o, 3, [t], av, sw)) : val (y, d, pc, ls, .int x :: r, w) = if x < 0 then val (y, d, t, ls, r, w) else val (y, d, pc + 3, ls, r, w) := by
  by_cases hc : x < 0
  · rw [if_pos hc]
    exact val_g (by unfold plan; simp only [h, pst, pln, pbr]; rw [if_pos hc]; rfl)
  · rw [if_neg hc]
    exact val_g (by unfold plan; simp only [h, pst, pln, pbr]; rw [if_neg hc]; rfl)
theorem val_if_ge {x : Int32} {t : Nat} {o : Int} (h : mtab y pc = some (.ifCond .ge o, 3, [t], av, sw)) : val (y, d, pc, ls, .int x :: r, w) = if 0 ≤ x then val (y, d, t, ls, r, w) else val (y, d, pc + 3, ls, r, w) := by
  by_cases hc : 0 ≤ x
  · rw [if_pos hc]
    exact val_g (by unfold plan; simp only [h, pst, pln, pbr]; rw [if_pos hc]; rfl)
  · rw [if_neg hc]
    exact val_g (by unfold plan; simp only [h, pst, pln, pbr]; rw [if_neg hc]; rfl)
theorem val_if_gt {x : Int32} {t : Nat} {o : Int} (h : mtab y pc = some (.ifCond .gt o, 3, [t], av, sw)) : val (y, d, pc, ls, .int x :: r, w) = if 0 < x then val (y, d, t, ls, r, w) else val (y, d, pc + 3, ls, r, w) := by
  by_cases hc : 0 < x
  · rw [if_pos hc]
    exact val_g (by unfold plan; simp only [h, pst, pln, pbr]; rw [if_pos hc]; rfl)
  · rw [if_neg hc]
    exact val_g (by unfold plan; simp only [h, pst, pln, pbr]; rw [if_neg hc]; rfl)
theorem val_if_le {x : Int32} {t : Nat} {o : Int} (h : mtab y pc = some (.ifCond .le o, 3, [t], av, sw)) : val (y, d, pc, ls, .int x :: r, w) = if x ≤ 0 then val (y, d, t, ls, r, w) else val (y, d, pc + 3, ls, r, w) := by
  by_cases hc : x ≤ 0
  · rw [if_pos hc]
    exact val_g (by unfold plan; simp only [h, pst, pln, pbr]; rw [if_pos hc]; rfl)
  · rw [if_neg hc]
    exact val_g (by unfold plan; simp only [h, pst, pln, pbr]; rw [if_neg hc]; rfl)
theorem val_ic_eq {x b : Int32} {t : Nat} {o : Int} (h : mtab y pc = some (.if_icmp .eq o, 3, [t], av, sw)) : val (y, d, pc, ls, .int b :: .int x :: r, w) = if x = b then val (y, d, t, ls, r, w) else val (y, d, pc + 3, ls, r, w) := by
  by_cases hc : x = b
  · rw [if_pos hc]
    exact val_g (by unfold plan; simp only [h, pst, pln, pbr]; rw [if_pos hc]; rfl)
  · rw [if_neg hc]
    exact val_g (by unfold plan; simp only [h, pst, pln, pbr]; rw [if_neg hc]; rfl)
theorem val_ic_ne {x b : Int32} {t : Nat} {o : Int} (h : mtab y pc = some (.if_icmp .ne o, 3, [t], av, sw)) : val (y, d, pc, ls, .int b :: .int x :: r, w) = if ¬ x = b then val (y, d, t, ls, r, w) else val (y, d, pc + 3, ls, r, w) := by
  by_cases hc : ¬ x = b
  · rw [if_pos hc]
    exact val_g (by unfold plan; simp only [h, pst, pln, pbr]; rw [if_pos hc]; rfl)
  · rw [if_neg hc]
    exact val_g (by unfold plan; simp only [h, pst, pln, pbr]; rw [if_neg hc]; rfl)
theorem val_ic_lt {x b : Int32} {t : Nat} {o : Int} (h : mtab y pc = some (.if_icmp .lt o, 3, [t], av, sw)) : val (y, d, pc, ls, .int b :: .int x :: r, w) = if x < b then val (y, d, t, ls, r, w) else val (y, d, pc + 3, ls, r, w) := by
  by_cases hc : x < b
  · rw [if_pos hc]
    exact val_g (by unfold plan; simp only [h, pst, pln, pbr]; rw [if_pos hc]; rfl)
  · rw [if_neg hc]
    exact val_g (by unfold plan; simp only [h, pst, pln, pbr]; rw [if_neg hc]; rfl)
theorem val_ic_ge {x b : Int32} {t : Nat} {o : Int} (h : mtab y pc = some (.if_icmp .ge o, 3, [t], av, sw)) : val (y, d, pc, ls, .int b :: .int x :: r, w) = if b ≤ x then val (y, d, t, ls, r, w) else val (y, d, pc + 3, ls, r, w) := by
  by_cases hc : b ≤ x
  · rw [if_pos hc]
    exact val_g (by unfold plan; simp only [h, pst, pln, pbr]; rw [if_pos hc]; rfl)
  · rw [if_neg hc]
    exact val_g (by unfold plan; simp only [h, pst, pln, pbr]; rw [if_neg hc]; rfl)
theorem val_ic_gt {x b : Int32} {t : Nat} {o : Int} (h : mtab y pc = some (.if_icmp .gt o, 3, [t], av, sw)) : val (y, d, pc, ls, .int b :: .int x :: r, w) = if b < x then val (y, d, t, ls, r, w) else val (y, d, pc + 3, ls, r, w) := by
  by_cases hc : b < x
  · rw [if_pos hc]
    exact val_g (by unfold plan; simp only [h, pst, pln, pbr]; rw [if_pos hc]; rfl)
  · rw [if_neg hc]
    exact val_g (by unfold plan; simp only [h, pst, pln, pbr]; rw [if_neg hc]; rfl)
theorem val_ic_le {x b : Int32} {t : Nat} {o : Int} (h : mtab y pc = some (.if_icmp .le o, 3, [t], av, sw)) : val (y, d, pc, ls, .int b :: .int x :: r, w) = if x ≤ b then val (y, d, t, ls, r, w) else val (y, d, pc + 3, ls, r, w) := by
  by_cases hc : x ≤ b
  · rw [if_pos hc]
    exact val_g (by unfold plan; simp only [h, pst, pln, pbr]; rw [if_pos hc]; rfl)
  · rw [if_neg hc]
    exact val_g (by unfold plan; simp only [h, pst, pln, pbr]; rw [if_neg hc]; rfl)
/-- a field is read -/
theorem val_gf {a ci k kd i : Nat} {v : Value} (h : mtab y pc = some (.getfield i, 3, [ci, k, kd], av, sw)) {n : Nat} (hK : wK w a = (ci, n)) (hv : fval w a k kd = v) : val (y, d, pc, ls, .ref a :: r, w) = val (y, d, pc + 3, ls, v :: r, w) := by
  rw [val_eq]; unfold stp plan; simp only [h, pst, pln, hK, if_pos, hv]; rfl
theorem fvR {a k b : Nat} (h : gR w a k = some b) : fval w a k 3 = .ref b := by
  show va_rf (gR w a k) = _
  rw [h]; rfl
/-- a field is written -/
theorem val_pf {a ci k kd i : Nat} {v : Value} {w2 : Wd} (h : mtab y pc = some (.putfield i, 3, [ci, k, kd], av, sw)) {n : Nat} (hK : wK w a = (ci, n)) (hv : sval w a k kd v = some w2) : val (y, d, pc, ls, v :: .ref a :: r, w) = val (y, d, pc + 3, ls, r, w2) := by
  rw [val_eq]; unfold stp plan; simp only [h, pst, pln, hK, if_pos, hv]; rfl
theorem val_ial {a t n : Nat} {j : Int32} (h : mtab y pc = some (.iaload, 1, [], av, sw)) (hK : wK w a = (t, n)) (ht : isIA t = true) (hj : inB j n = true) : val (y, d, pc, ls, .int j :: .ref a :: r, w) = val (y, d, pc + 1, ls, .int (gI w a j.toNatClampNeg) :: r, w) := by
  rw [val_eq]; unfold stp plan; simp only [h, pst, pln, hK, ht, hj, if_pos]; rfl
theorem val_bal {a t n : Nat} {j : Int32} (h : mtab y pc = some (.baload, 1, [], av, sw)) (hK : wK w a = (t, n)) (ht : isBA t = true) (hj : inB j n = true) : val (y, d, pc, ls, .int j :: .ref a :: r, w) = val (y, d, pc + 1, ls, .int (gI w a j.toNatClampNeg) :: r, w) := by
  rw [val_eq]; unfold stp plan; simp only [h, pst, pln, hK, ht, hj, if_pos]; rfl
theorem val_lal {a n : Nat} {j : Int32} (h : mtab y pc = some (.laload, 1, [], av, sw)) (hK : wK w a = (23, n)) (hj : inB j n = true) : val (y, d, pc, ls, .int j :: .ref a :: r, w) = val (y, d, pc + 1, ls, .long (gL w a j.toNatClampNeg) :: r, w) := by
  rw [val_eq]; unfold stp plan; simp only [h, pst, pln, hK, hj, if_pos]; rfl
theorem val_dal {a n : Nat} {j : Int32} (h : mtab y pc = some (.daload, 1, [], av, sw)) (hK : wK w a = (24, n)) (hj : inB j n = true) : val (y, d, pc, ls, .int j :: .ref a :: r, w) = val (y, d, pc + 1, ls, .double (gD w a j.toNatClampNeg) :: r, w) := by
  rw [val_eq]; unfold stp plan; simp only [h, pst, pln, hK, hj, if_pos]; rfl
theorem val_aal {a t n b : Nat} {j : Int32} (h : mtab y pc = some (.aaload, 1, [], av, sw)) (hK : wK w a = (t, n)) (ht : isRA t = true) (hj : inB j n = true) (hb : gR w a j.toNatClampNeg = some b) : val (y, d, pc, ls, .int j :: .ref a :: r, w) = val (y, d, pc + 1, ls, .ref b :: r, w) := by
  rw [val_eq]; unfold stp plan; simp only [h, pst, pln, hK, ht, hj, if_pos, hb]; rfl
theorem val_ias {a n : Nat} {j x : Int32} (h : mtab y pc = some (.iastore, 1, [], av, sw)) (hK : wK w a = (20, n)) (hj : inB j n = true) : val (y, d, pc, ls, .int x :: .int j :: .ref a :: r, w) = val (y, d, pc + 1, ls, r, sI w a j.toNatClampNeg x) := by
  rw [val_eq]; unfold stp plan; simp only [h, pst, pln, hK, hj, if_pos]; rfl
theorem val_basB {a n : Nat} {j x : Int32} (h : mtab y pc = some (.bastore, 1, [], av, sw)) (hK : wK w a = (21, n)) (hj : inB j n = true) : val (y, d, pc, ls, .int x :: .int j :: .ref a :: r, w) = val (y, d, pc + 1, ls, r, sI w a j.toNatClampNeg (vp_nar .byte x)) := by
  rw [val_eq]; unfold stp plan; simp only [h, pst, pln, hK, hj, if_pos]; rfl
theorem val_basZ {a n : Nat} {j x : Int32} (h : mtab y pc = some (.bastore, 1, [], av, sw)) (hK : wK w a = (22, n)) (hj : inB j n = true) : val (y, d, pc, ls, .int x :: .int j :: .ref a :: r, w) = val (y, d, pc + 1, ls, r, sI w a j.toNatClampNeg (vp_nar .boolean x)) := by
  rw [val_eq]; unfold stp plan; simp only [h, pst, pln, hK, hj, if_pos, if_neg, show ¬ (22 : Nat) = 21 by decide, if_false]; rfl
theorem val_las {a n : Nat} {j : Int32} {x : Int64} (h : mtab y pc = some (.lastore, 1, [], av, sw)) (hK : wK w a = (23, n)) (hj : inB j n = true) : val (y, d, pc, ls, .long x :: .int j :: .ref a :: r, w) = val (y, d, pc + 1, ls, r, sL w a j.toNatClampNeg x) := by
  rw [val_eq]; unfold stp plan; simp only [h, pst, pln, hK, hj, if_pos]; rfl
theorem val_das {a n : Nat} {j : Int32} {x : UInt64} (h : mtab y pc = some (.dastore, 1, [], av, sw)) (hK : wK w a = (24, n)) (hj : inB j n = true) : val (y, d, pc, ls, .double x :: .int j :: .ref a :: r, w) = val (y, d, pc + 1, ls, r, sD w a j.toNatClampNeg x) := by
  rw [val_eq]; unfold stp plan; simp only [h, pst, pln, hK, hj, if_pos]; rfl
theorem val_alen {a t n : Nat} (h : mtab y pc = some (.arraylength, 1, [], av, sw)) (hK : wK w a = (t, n)) (ht : isAr t = true) : val (y, d, pc, ls, .ref a :: r, w) = val (y, d, pc + 1, ls, .int (Int32.ofNat n) :: r, w) := by
  rw [val_eq]; unfold stp plan; simp only [h, pst, pln, hK, ht, if_pos]; rfl
theorem val_idiv {x b : Int32} (h : mtab y pc = some (.idiv, 1, [], av, sw)) (hb : ¬ b = 0) : val (y, d, pc, ls, .int b :: .int x :: r, w) = val (y, d, pc + 1, ls, .int (x / b) :: r, w) := by
  rw [val_eq]; unfold stp plan; simp only [h, pst, hb, if_false]; rfl
theorem val_irem {x b : Int32} (h : mtab y pc = some (.irem, 1, [], av, sw)) (hb : ¬ b = 0) : val (y, d, pc, ls, .int b :: .int x :: r, w) = val (y, d, pc + 1, ls, .int (x - x / b * b) :: r, w) := by
  rw [val_eq]; unfold stp plan; simp only [h, pst, hb, if_false]; rfl
theorem val_ldiv {x b : Int64} (h : mtab y pc = some (.ldiv, 1, [], av, sw)) (hb : ¬ b = 0) : val (y, d, pc, ls, .long b :: .long x :: r, w) = val (y, d, pc + 1, ls, .long (x / b) :: r, w) := by
  rw [val_eq]; unfold stp plan; simp only [h, pst, hb, if_false]; rfl
theorem val_lrem {x b : Int64} (h : mtab y pc = some (.lrem, 1, [], av, sw)) (hb : ¬ b = 0) : val (y, d, pc, ls, .long b :: .long x :: r, w) = val (y, d, pc + 1, ls, .long (x - x / b * b) :: r, w) := by
  rw [val_eq]; unfold stp plan; simp only [h, pst, hb, if_false]; rfl
/-- a call whose answer is known -/
theorem val_call {pc2 : Nat} {i : Instr} {n : Nat} {st : List Value} {knd y2 na ci mx : Nat} {as : List Value} {r1 : Option Value} {w1 : Wd} {ls2 : List (Option Value)} (h : mtab y pc = some (i, n, [knd, y2, na, ci, mx], av, sw)) (hp : pst i av ls st = none) (hl : pln y (d + 1) pc ls st w i n [knd, y2, na, ci, mx] sw = pcall y (d + 1) pc ls st w y2 na ci mx) (hpop : popn na st = some (as, r)) (hrc : rcv w ci as = true) (hm : (lents as).length ≤ mx) (hc : catS r ≤ 8) (hls : lentry mx as = ls2) (hv : val (y2, d, 0, ls2, [], w) = some (r1, w1)) (hpc : pc + 3 = pc2) : val (y, d + 1, pc, ls, st, w) = val (y, d + 1, pc2, ls, r1.toList ++ r, w1) := by
  subst hls; subst hpc
  refine val_c (q := ((y2, d, 0, lentry mx as, [], w), fun v => (y, d + 1, pc + 3, ls, v.1.toList ++ r, v.2))) (v := (r1, w1)) ?_ hv
  unfold plan
  simp only [h, hp, hl]
  unfold pcall
  rw [hpop]
  simp only [hrc, hm, hc, if_pos]
theorem rcvO {a ci n : Nat} {as : List Value} (hK : wK w a = (ci, n)) (h99 : ¬ ci = 99) : rcv w ci (.ref a :: as) = true := by
  unfold rcv
  rw [if_neg h99]
  show ((wK w a).1 == ci) = true
  rw [hK]
  exact beq_self_eq_true _
end VAL
