/-! a switch, and the methods in segments; printed by program (wip/gen/p41.py, seg.py) -/
def swv {α : Type} (x : Int32) (df : α) : List (Int32 × Nat) → (Nat → α) → α
  | [], _ => df
  | q :: r, k => if x = q.1 then k q.2 else swv x df r k
theorem swk_at (x : Int32) (df : Nat) : ∀ (sw : List (Int32 × Nat)), ∃ t, (∀ k : Nat → Pl, swk x df sw k = k t) ∧ (∀ {α : Type} (g : Nat → α), swv x (g df) sw g = g t)
  | [] => ⟨df, fun _ => rfl, fun _ => rfl⟩
  | q :: r => by
    obtain ⟨t, h1, h2⟩ := swk_at x df r
    by_cases hc : x = q.1
    · exact ⟨q.2, fun k => if_pos hc, fun g => if_pos hc⟩
    · exact ⟨t, fun k => (if_neg hc).trans (h1 k), fun g => (if_neg hc).trans (h2 g)⟩
theorem val_tsI {y d pc n df : Nat} {ls : List (Option Value)} {r : List Value} {w : Wd} {av : Value} {sw : List (Int32 × Nat)} {dd lo hi : Int} {offs : Array Int} {x : Int32} (h : mtab y pc = some (.tableswitch dd lo hi offs, n, [df], av, sw)) : val (y, d, pc, ls, .int x :: r, w) = swv x (val (y, d, df, ls, r, w)) sw (fun t => val (y, d, t, ls, r, w)) := by
  obtain ⟨t, h1, h2⟩ := swk_at x df sw
  rw [h2 (fun t => val (y, d, t, ls, r, w))]
  refine val_g ?_
  unfold plan
  simp only [h, pst, pln]
  exact h1 _
theorem val_lsI {y d pc n df : Nat} {ls : List (Option Value)} {r : List Value} {w : Wd} {av : Value} {sw : List (Int32 × Nat)} {dd : Int} {offs : Array (Int × Int)} {x : Int32} (h : mtab y pc = some (.lookupswitch dd offs, n, [df], av, sw)) : val (y, d, pc, ls, .int x :: r, w) = swv x (val (y, d, df, ls, r, w)) sw (fun t => val (y, d, t, ls, r, w)) := by
  obtain ⟨t, h1, h2⟩ := swk_at x df sw
  rw [h2 (fun t => val (y, d, t, ls, r, w))]
  refine val_g ?_
  unfold plan
  simp only [h, pst, pln]
  exact h1 _
theorem val_obj {y d pc a k : Nat} {ls : List (Option Value)} {r : List Value} {w : Wd} {av : Value} {sw : List (Int32 × Nat)} (h : mtab y pc = some (.invokespecial k, 3, [0], av, sw)) (ha : 64 ≤ a) (hr : catS r ≤ 8) : val (y, d + 1, pc, ls, .ref a :: r, w) = val (y, d + 1, pc + 3, ls, r, w) := by
  refine val_g ?_
  unfold plan
  simp only [h, pst, pln, pnat]
  rw [if_pos ha, if_pos hr]
  rfl
theorem val_inR {y d pc a t : Nat} {ls : List (Option Value)} {r : List Value} {w : Wd} {av : Value} {sw : List (Int32 × Nat)} {o : Int} (h : mtab y pc = some (.ifnull o, 3, [t], av, sw)) (ha : 64 ≤ a) : val (y, d, pc, ls, .ref a :: r, w) = val (y, d, pc + 3, ls, r, w) := by
  refine val_g ?_
  unfold plan
  simp only [h, pst, pln]
  rw [if_pos ha]
  rfl
theorem val_nnR {y d pc a t : Nat} {ls : List (Option Value)} {r : List Value} {w : Wd} {av : Value} {sw : List (Int32 × Nat)} {o : Int} (h : mtab y pc = some (.ifnonnull o, 3, [t], av, sw)) (ha : 64 ≤ a) : val (y, d, pc, ls, .ref a :: r, w) = val (y, d, t, ls, r, w) := by
  refine val_g ?_
  unfold plan
  simp only [h, pst, pln]
  rw [if_pos ha]
  rfl
/-- BelfryHouse.beginAnew()V -/
theorem tr_2 (d : Nat) (w : Wd) (hW : Fix w)      : val (2, d + 5, 0, [some (.ref 64)], [], w) = val (2, d + 5, 9, [some (.ref 64)], [.ref 67], (sI w 64 4 0)) := by
  refine (val_g (c2 := (2, d + 5, 1, [some (.ref 64)], [.ref 64], w)) rfl).trans ?_
  refine (val_g (c2 := (2, d + 5, 2, [some (.ref 64)], [.int 0, .ref 64], w)) rfl).trans ?_
  refine (val_pf rfl (hW.k 64 (Nat.le_of_ble_eq_true rfl) (Nat.le_of_ble_eq_true rfl)) rfl).trans ?_
  show val (2, d + 5, 5, [some (.ref 64)], [], (sI w 64 4 0)) = _
  refine (val_g (c2 := (2, d + 5, 6, [some (.ref 64)], [.ref 64], (sI w 64 4 0))) rfl).trans ?_
  refine (val_gf (w := (sI w 64 4 0)) rfl (hW.k 64 (Nat.le_of_ble_eq_true rfl) (Nat.le_of_ble_eq_true rfl)) (fvR (hW.r 64 5 67 rfl))).trans ?_
  show val (2, d + 5, 9, [some (.ref 64)], [.ref 67], (sI w 64 4 0)) = _
  rfl
theorem tr_2_12 (d : Nat) (w : Wd) (hW : Fix w)      : val (2, d + 5, 12, [some (.ref 64)], [], w) = val (2, d + 5, 20, [some (.ref 64)], [.int (gI w 64 0), .ref 76], w) := by
  refine (val_g (c2 := (2, d + 5, 13, [some (.ref 64)], [.ref 64], w)) rfl).trans ?_
  refine (val_gf rfl (hW.k 64 (Nat.le_of_ble_eq_true rfl) (Nat.le_of_ble_eq_true rfl)) (fvR (hW.r 64 6 76 rfl))).trans ?_
  show val (2, d + 5, 16, [some (.ref 64)], [.ref 76], w) = _
  refine (val_g (c2 := (2, d + 5, 17, [some (.ref 64)], [.ref 64, .ref 76], w)) rfl).trans ?_
  refine (val_gf rfl (hW.k 64 (Nat.le_of_ble_eq_true rfl) (Nat.le_of_ble_eq_true rfl)) rfl).trans ?_
  show val (2, d + 5, 20, [some (.ref 64)], [.int (gI w 64 0), .ref 76], w) = _
  rfl
theorem tr_2_23 (d : Nat) (w : Wd) (hW : Fix w)      : val (2, d + 5, 23, [some (.ref 64)], [], w) = val (2, d + 5, 27, [some (.ref 64)], [.ref 80], w) := by
  refine (val_g (c2 := (2, d + 5, 24, [some (.ref 64)], [.ref 64], w)) rfl).trans ?_
  refine (val_gf rfl (hW.k 64 (Nat.le_of_ble_eq_true rfl) (Nat.le_of_ble_eq_true rfl)) (fvR (hW.r 64 7 80 rfl))).trans ?_
  show val (2, d + 5, 27, [some (.ref 64)], [.ref 80], w) = _
  rfl
theorem tr_2_30 (d : Nat) (w : Wd) (hW : Fix w)      : val (2, d + 5, 30, [some (.ref 64)], [], w) = val (2, d + 5, 34, [some (.ref 64)], [.ref 84], w) := by
  refine (val_g (c2 := (2, d + 5, 31, [some (.ref 64)], [.ref 64], w)) rfl).trans ?_
  refine (val_gf rfl (hW.k 64 (Nat.le_of_ble_eq_true rfl) (Nat.le_of_ble_eq_true rfl)) (fvR (hW.r 64 8 84 rfl))).trans ?_
  show val (2, d + 5, 34, [some (.ref 64)], [.ref 84], w) = _
  rfl
theorem tr_2_37 (d : Nat) (w : Wd) (hW : Fix w)      : val (2, d + 5, 37, [some (.ref 64)], [], w) = val (2, d + 5, 41, [some (.ref 64)], [.ref 91], w) := by
  refine (val_g (c2 := (2, d + 5, 38, [some (.ref 64)], [.ref 64], w)) rfl).trans ?_
  refine (val_gf rfl (hW.k 64 (Nat.le_of_ble_eq_true rfl) (Nat.le_of_ble_eq_true rfl)) (fvR (hW.r 64 9 91 rfl))).trans ?_
  show val (2, d + 5, 41, [some (.ref 64)], [.ref 91], w) = _
  rfl
theorem tr_2_44 (d : Nat) (w : Wd) (hW : Fix w)      : val (2, d + 5, 44, [some (.ref 64)], [], w) = val (2, d + 5, 48, [some (.ref 64)], [.ref 96], w) := by
  refine (val_g (c2 := (2, d + 5, 45, [some (.ref 64)], [.ref 64], w)) rfl).trans ?_
  refine (val_gf rfl (hW.k 64 (Nat.le_of_ble_eq_true rfl) (Nat.le_of_ble_eq_true rfl)) (fvR (hW.r 64 10 96 rfl))).trans ?_
  show val (2, d + 5, 48, [some (.ref 64)], [.ref 96], w) = _
  rfl
theorem tr_2_51 (d : Nat) (w : Wd)      : val (2, d + 5, 51, [some (.ref 64)], [], w) = some (none, w) := by
  exact val_r rfl
/-- BelfryHouse.stage(I)I -/
theorem tr_3 (d : Nat) (w : Wd) (hW : Fix w) (x0 : Int32)     : val (3, d + 6, 0, [some (.ref 64), some (.int x0), none], [], w) = (if x0 < 3 then some (some (.int (-1)), w) else (if x0 ≤ 8 then val (3, d + 6, 24, [some (.ref 64), some (.int x0), some (.int (gI w 64 0))], [.ref 64], (sI w 64 0 x0)) else some (some (.int (-1)), w))) := by
  refine (val_g (c2 := (3, d + 6, 1, [some (.ref 64), some (.int x0), none], [.int x0], w)) rfl).trans ?_
  refine (val_g (c2 := (3, d + 6, 2, [some (.ref 64), some (.int x0), none], [.int 3, .int x0], w)) rfl).trans ?_
  by_cases hc35 : x0 < 3
  · refine ((val_ic_lt rfl).trans (if_pos hc35)).trans ?_
    show val (3, d + 6, 11, [some (.ref 64), some (.int x0), none], [], w) = _
    refine Eq.trans ?_ (if_pos hc35).symm
    refine (val_g (c2 := (3, d + 6, 12, [some (.ref 64), some (.int x0), none], [.int (-1)], w)) rfl).trans ?_
    exact val_r rfl
  · refine ((val_ic_lt rfl).trans (if_neg hc35)).trans ?_
    show val (3, d + 6, 5, [some (.ref 64), some (.int x0), none], [], w) = _
    refine Eq.trans ?_ (if_neg hc35).symm
    refine (val_g (c2 := (3, d + 6, 6, [some (.ref 64), some (.int x0), none], [.int x0], w)) rfl).trans ?_
    refine (val_g (c2 := (3, d + 6, 8, [some (.ref 64), some (.int x0), none], [.int 8, .int x0], w)) rfl).trans ?_
    by_cases hc36 : x0 ≤ 8
    · refine ((val_ic_le rfl).trans (if_pos hc36)).trans ?_
      show val (3, d + 6, 13, [some (.ref 64), some (.int x0), none], [], w) = _
      refine Eq.trans ?_ (if_pos hc36).symm
      refine (val_g (c2 := (3, d + 6, 14, [some (.ref 64), some (.int x0), none], [.ref 64], w)) rfl).trans ?_
      refine (val_gf rfl (hW.k 64 (Nat.le_of_ble_eq_true rfl) (Nat.le_of_ble_eq_true rfl)) rfl).trans ?_
      show val (3, d + 6, 17, [some (.ref 64), some (.int x0), none], [.int (gI w 64 0)], w) = _
      refine (val_g (c2 := (3, d + 6, 18, [some (.ref 64), some (.int x0), some (.int (gI w 64 0))], [], w)) rfl).trans ?_
      refine (val_g (c2 := (3, d + 6, 19, [some (.ref 64), some (.int x0), some (.int (gI w 64 0))], [.ref 64], w)) rfl).trans ?_
      refine (val_g (c2 := (3, d + 6, 20, [some (.ref 64), some (.int x0), some (.int (gI w 64 0))], [.int x0, .ref 64], w)) rfl).trans ?_
      refine (val_pf rfl (hW.k 64 (Nat.le_of_ble_eq_true rfl) (Nat.le_of_ble_eq_true rfl)) rfl).trans ?_
      show val (3, d + 6, 23, [some (.ref 64), some (.int x0), some (.int (gI w 64 0))], [], (sI w 64 0 x0)) = _
      refine (val_g (c2 := (3, d + 6, 24, [some (.ref 64), some (.int x0), some (.int (gI w 64 0))], [.ref 64], (sI w 64 0 x0))) rfl).trans ?_
      rfl
    · refine ((val_ic_le rfl).trans (if_neg hc36)).trans ?_
      show val (3, d + 6, 11, [some (.ref 64), some (.int x0), none], [], w) = _
      refine Eq.trans ?_ (if_neg hc36).symm
      refine (val_g (c2 := (3, d + 6, 12, [some (.ref 64), some (.int x0), none], [.int (-1)], w)) rfl).trans ?_
      exact val_r rfl
theorem tr_3_27 (d : Nat) (w : Wd) (l1 : Int32) (l2 : Int32)     : val (3, d + 6, 27, [some (.ref 64), some (.int l1), some (.int l2)], [], w) = some (some (.int l2), w) := by
  refine (val_g (c2 := (3, d + 6, 28, [some (.ref 64), some (.int l1), some (.int l2)], [.int l2], w)) rfl).trans ?_
  exact val_r rfl
/-- BelfryHouse.isBell(I)Z -/
theorem tr_4 (d : Nat) (w : Wd) (hW : Fix w) (x0 : Int32)     : val (4, d, 0, [some (.ref 64), some (.int x0)], [], w) = (if x0 < 1 then some (some (.int 0), w) else (if (gI w 64 0) < x0 then some (some (.int 0), w) else some (some (.int 1), w))) := by
  refine (val_g (c2 := (4, d, 1, [some (.ref 64), some (.int x0)], [.int x0], w)) rfl).trans ?_
  refine (val_g (c2 := (4, d, 2, [some (.ref 64), some (.int x0)], [.int 1, .int x0], w)) rfl).trans ?_
  by_cases hc39 : x0 < 1
  · refine ((val_ic_lt rfl).trans (if_pos hc39)).trans ?_
    show val (4, d, 17, [some (.ref 64), some (.int x0)], [], w) = _
    refine Eq.trans ?_ (if_pos hc39).symm
    refine (val_g (c2 := (4, d, 18, [some (.ref 64), some (.int x0)], [.int 0], w)) rfl).trans ?_
    exact val_r rfl
  · refine ((val_ic_lt rfl).trans (if_neg hc39)).trans ?_
    show val (4, d, 5, [some (.ref 64), some (.int x0)], [], w) = _
    refine Eq.trans ?_ (if_neg hc39).symm
    refine (val_g (c2 := (4, d, 6, [some (.ref 64), some (.int x0)], [.int x0], w)) rfl).trans ?_
    refine (val_g (c2 := (4, d, 7, [some (.ref 64), some (.int x0)], [.ref 64, .int x0], w)) rfl).trans ?_
    refine (val_gf rfl (hW.k 64 (Nat.le_of_ble_eq_true rfl) (Nat.le_of_ble_eq_true rfl)) rfl).trans ?_
    show val (4, d, 10, [some (.ref 64), some (.int x0)], [.int (gI w 64 0), .int x0], w) = _
    by_cases hc40 : (gI w 64 0) < x0
    · refine ((val_ic_gt rfl).trans (if_pos hc40)).trans ?_
      show val (4, d, 17, [some (.ref 64), some (.int x0)], [], w) = _
      refine Eq.trans ?_ (if_pos hc40).symm
      refine (val_g (c2 := (4, d, 18, [some (.ref 64), some (.int x0)], [.int 0], w)) rfl).trans ?_
      exact val_r rfl
    · refine ((val_ic_gt rfl).trans (if_neg hc40)).trans ?_
      show val (4, d, 13, [some (.ref 64), some (.int x0)], [], w) = _
      refine Eq.trans ?_ (if_neg hc40).symm
      refine (val_g (c2 := (4, d, 14, [some (.ref 64), some (.int x0)], [.int 1], w)) rfl).trans ?_
      refine (val_g (c2 := (4, d, 18, [some (.ref 64), some (.int x0)], [.int 1], w)) rfl).trans ?_
      exact val_r rfl
/-- BelfryHouse.numberOf(I)I -/
theorem tr_5 (d : Nat) (w : Wd) (hW : Fix w) (x0 : Int32)     : val (5, d + 2, 0, [some (.ref 64), some (.int x0)], [], w) = val (5, d + 2, 5, [some (.ref 64), some (.int x0)], [.int x0, .int (gI w 64 0)], w) := by
  refine (val_g (c2 := (5, d + 2, 1, [some (.ref 64), some (.int x0)], [.ref 64], w)) rfl).trans ?_
  refine (val_gf rfl (hW.k 64 (Nat.le_of_ble_eq_true rfl) (Nat.le_of_ble_eq_true rfl)) rfl).trans ?_
  show val (5, d + 2, 4, [some (.ref 64), some (.int x0)], [.int (gI w 64 0)], w) = _
  refine (val_g (c2 := (5, d + 2, 5, [some (.ref 64), some (.int x0)], [.int x0, .int (gI w 64 0)], w)) rfl).trans ?_
  rfl
theorem tr_5_8 (d : Nat) (w : Wd) (l1 : Int32) (s0 : Int32)     : val (5, d + 2, 8, [some (.ref 64), some (.int l1)], [.int s0], w) = some (some (.int s0), w) := by
  exact val_r rfl
/-- BelfryHouse.product(II)I -/
theorem tr_6 (d : Nat) (w : Wd) (hW : Fix w) (x0 : Int32) (x1 : Int32)     : val (6, d + 3, 0, [some (.ref 64), some (.int x0), some (.int x1), none, none], [], w) = val (6, d + 3, 5, [some (.ref 64), some (.int x0), some (.int x1), none, none], [.int x0, .int (gI w 64 0)], w) := by
  refine (val_g (c2 := (6, d + 3, 1, [some (.ref 64), some (.int x0), some (.int x1), none, none], [.ref 64], w)) rfl).trans ?_
  refine (val_gf rfl (hW.k 64 (Nat.le_of_ble_eq_true rfl) (Nat.le_of_ble_eq_true rfl)) rfl).trans ?_
  show val (6, d + 3, 4, [some (.ref 64), some (.int x0), some (.int x1), none, none], [.int (gI w 64 0)], w) = _
  refine (val_g (c2 := (6, d + 3, 5, [some (.ref 64), some (.int x0), some (.int x1), none, none], [.int x0, .int (gI w 64 0)], w)) rfl).trans ?_
  rfl
theorem tr_6_8 (d : Nat) (w : Wd) (hW : Fix w) (l1 : Int32) (l2 : Int32) (s0 : Int32)     : val (6, d + 3, 8, [some (.ref 64), some (.int l1), some (.int l2), none, none], [.int s0], w) = val (6, d + 3, 14, [some (.ref 64), some (.int l1), some (.int l2), some (.int s0), none], [.int l2, .int (gI w 64 0)], w) := by
  refine (val_g (c2 := (6, d + 3, 9, [some (.ref 64), some (.int l1), some (.int l2), some (.int s0), none], [], w)) rfl).trans ?_
  refine (val_g (c2 := (6, d + 3, 10, [some (.ref 64), some (.int l1), some (.int l2), some (.int s0), none], [.ref 64], w)) rfl).trans ?_
  refine (val_gf rfl (hW.k 64 (Nat.le_of_ble_eq_true rfl) (Nat.le_of_ble_eq_true rfl)) rfl).trans ?_
  show val (6, d + 3, 13, [some (.ref 64), some (.int l1), some (.int l2), some (.int s0), none], [.int (gI w 64 0)], w) = _
  refine (val_g (c2 := (6, d + 3, 14, [some (.ref 64), some (.int l1), some (.int l2), some (.int s0), none], [.int l2, .int (gI w 64 0)], w)) rfl).trans ?_
  rfl
theorem tr_6_17 (d : Nat) (w : Wd) (hW : Fix w) (l1 : Int32) (l2 : Int32) (l3 : Int32) (s0 : Int32)     : val (6, d + 3, 17, [some (.ref 64), some (.int l1), some (.int l2), some (.int l3), none], [.int s0], w) = (if l3 = (-1) then some (some (.int (-1)), w) else (if ¬ s0 = (-1) then val (6, d + 3, 40, [some (.ref 64), some (.int l1), some (.int l2), some (.int l3), some (.int s0)], [.int s0, .int l3, .int (gI w 64 0), .ref 64], w) else some (some (.int (-1)), w))) := by
  refine (val_g (c2 := (6, d + 3, 19, [some (.ref 64), some (.int l1), some (.int l2), some (.int l3), some (.int s0)], [], w)) rfl).trans ?_
  refine (val_g (c2 := (6, d + 3, 20, [some (.ref 64), some (.int l1), some (.int l2), some (.int l3), some (.int s0)], [.int l3], w)) rfl).trans ?_
  refine (val_g (c2 := (6, d + 3, 21, [some (.ref 64), some (.int l1), some (.int l2), some (.int l3), some (.int s0)], [.int (-1), .int l3], w)) rfl).trans ?_
  by_cases hc43 : l3 = (-1)
  · refine ((val_ic_eq rfl).trans (if_pos hc43)).trans ?_
    show val (6, d + 3, 30, [some (.ref 64), some (.int l1), some (.int l2), some (.int l3), some (.int s0)], [], w) = _
    refine Eq.trans ?_ (if_pos hc43).symm
    refine (val_g (c2 := (6, d + 3, 31, [some (.ref 64), some (.int l1), some (.int l2), some (.int l3), some (.int s0)], [.int (-1)], w)) rfl).trans ?_
    exact val_r rfl
  · refine ((val_ic_eq rfl).trans (if_neg hc43)).trans ?_
    show val (6, d + 3, 24, [some (.ref 64), some (.int l1), some (.int l2), some (.int l3), some (.int s0)], [], w) = _
    refine Eq.trans ?_ (if_neg hc43).symm
    refine (val_g (c2 := (6, d + 3, 26, [some (.ref 64), some (.int l1), some (.int l2), some (.int l3), some (.int s0)], [.int s0], w)) rfl).trans ?_
    refine (val_g (c2 := (6, d + 3, 27, [some (.ref 64), some (.int l1), some (.int l2), some (.int l3), some (.int s0)], [.int (-1), .int s0], w)) rfl).trans ?_
    by_cases hc44 : ¬ s0 = (-1)
    · refine ((val_ic_ne rfl).trans (if_pos hc44)).trans ?_
      show val (6, d + 3, 32, [some (.ref 64), some (.int l1), some (.int l2), some (.int l3), some (.int s0)], [], w) = _
      refine Eq.trans ?_ (if_pos hc44).symm
      refine (val_g (c2 := (6, d + 3, 33, [some (.ref 64), some (.int l1), some (.int l2), some (.int l3), some (.int s0)], [.ref 64], w)) rfl).trans ?_
      refine (val_g (c2 := (6, d + 3, 34, [some (.ref 64), some (.int l1), some (.int l2), some (.int l3), some (.int s0)], [.ref 64, .ref 64], w)) rfl).trans ?_
      refine (val_gf rfl (hW.k 64 (Nat.le_of_ble_eq_true rfl) (Nat.le_of_ble_eq_true rfl)) rfl).trans ?_
      show val (6, d + 3, 37, [some (.ref 64), some (.int l1), some (.int l2), some (.int l3), some (.int s0)], [.int (gI w 64 0), .ref 64], w) = _
      refine (val_g (c2 := (6, d + 3, 38, [some (.ref 64), some (.int l1), some (.int l2), some (.int l3), some (.int s0)], [.int l3, .int (gI w 64 0), .ref 64], w)) rfl).trans ?_
      refine (val_g (c2 := (6, d + 3, 40, [some (.ref 64), some (.int l1), some (.int l2), some (.int l3), some (.int s0)], [.int s0, .int l3, .int (gI w 64 0), .ref 64], w)) rfl).trans ?_
      rfl
    · refine ((val_ic_ne rfl).trans (if_neg hc44)).trans ?_
      show val (6, d + 3, 30, [some (.ref 64), some (.int l1), some (.int l2), some (.int l3), some (.int s0)], [], w) = _
      refine Eq.trans ?_ (if_neg hc44).symm
      refine (val_g (c2 := (6, d + 3, 31, [some (.ref 64), some (.int l1), some (.int l2), some (.int l3), some (.int s0)], [.int (-1)], w)) rfl).trans ?_
      exact val_r rfl
theorem tr_6_46 (d : Nat) (w : Wd) (l1 : Int32) (l2 : Int32) (l3 : Int32) (l4 : Int32) (s0 : Int32)     : val (6, d + 3, 46, [some (.ref 64), some (.int l1), some (.int l2), some (.int l3), some (.int l4)], [.int s0], w) = some (some (.int s0), w) := by
  exact val_r rfl
/-- BelfryHouse.inverse(I)I -/
theorem tr_7 (d : Nat) (w : Wd) (hW : Fix w) (x0 : Int32)     : val (7, d + 3, 0, [some (.ref 64), some (.int x0), none], [], w) = val (7, d + 3, 5, [some (.ref 64), some (.int x0), none], [.int x0, .int (gI w 64 0)], w) := by
  refine (val_g (c2 := (7, d + 3, 1, [some (.ref 64), some (.int x0), none], [.ref 64], w)) rfl).trans ?_
  refine (val_gf rfl (hW.k 64 (Nat.le_of_ble_eq_true rfl) (Nat.le_of_ble_eq_true rfl)) rfl).trans ?_
  show val (7, d + 3, 4, [some (.ref 64), some (.int x0), none], [.int (gI w 64 0)], w) = _
  refine (val_g (c2 := (7, d + 3, 5, [some (.ref 64), some (.int x0), none], [.int x0, .int (gI w 64 0)], w)) rfl).trans ?_
  rfl
theorem tr_7_8 (d : Nat) (w : Wd) (hW : Fix w) (l1 : Int32) (s0 : Int32)     : val (7, d + 3, 8, [some (.ref 64), some (.int l1), none], [.int s0], w) = (if ¬ s0 = (-1) then val (7, d + 3, 24, [some (.ref 64), some (.int l1), some (.int s0)], [.int s0, .int (gI w 64 0), .ref 64], w) else val (7, d + 3, 30, [some (.ref 64), some (.int l1), some (.int s0)], [.int (-1)], w)) := by
  refine (val_g (c2 := (7, d + 3, 9, [some (.ref 64), some (.int l1), some (.int s0)], [], w)) rfl).trans ?_
  refine (val_g (c2 := (7, d + 3, 10, [some (.ref 64), some (.int l1), some (.int s0)], [.int s0], w)) rfl).trans ?_
  refine (val_g (c2 := (7, d + 3, 11, [some (.ref 64), some (.int l1), some (.int s0)], [.int (-1), .int s0], w)) rfl).trans ?_
  by_cases hc46 : ¬ s0 = (-1)
  · refine ((val_ic_ne rfl).trans (if_pos hc46)).trans ?_
    show val (7, d + 3, 18, [some (.ref 64), some (.int l1), some (.int s0)], [], w) = _
    refine Eq.trans ?_ (if_pos hc46).symm
    refine (val_g (c2 := (7, d + 3, 19, [some (.ref 64), some (.int l1), some (.int s0)], [.ref 64], w)) rfl).trans ?_
    refine (val_g (c2 := (7, d + 3, 20, [some (.ref 64), some (.int l1), some (.int s0)], [.ref 64, .ref 64], w)) rfl).trans ?_
    refine (val_gf rfl (hW.k 64 (Nat.le_of_ble_eq_true rfl) (Nat.le_of_ble_eq_true rfl)) rfl).trans ?_
    show val (7, d + 3, 23, [some (.ref 64), some (.int l1), some (.int s0)], [.int (gI w 64 0), .ref 64], w) = _
    refine (val_g (c2 := (7, d + 3, 24, [some (.ref 64), some (.int l1), some (.int s0)], [.int s0, .int (gI w 64 0), .ref 64], w)) rfl).trans ?_
    rfl
  · refine ((val_ic_ne rfl).trans (if_neg hc46)).trans ?_
    show val (7, d + 3, 14, [some (.ref 64), some (.int l1), some (.int s0)], [], w) = _
    refine Eq.trans ?_ (if_neg hc46).symm
    refine (val_g (c2 := (7, d + 3, 15, [some (.ref 64), some (.int l1), some (.int s0)], [.int (-1)], w)) rfl).trans ?_
    refine (val_g (c2 := (7, d + 3, 30, [some (.ref 64), some (.int l1), some (.int s0)], [.int (-1)], w)) rfl).trans ?_
    rfl
theorem tr_7_30 (d : Nat) (w : Wd) (l1 : Int32) (l2 : Int32) (s0 : Int32)     : val (7, d + 3, 30, [some (.ref 64), some (.int l1), some (.int l2)], [.int s0], w) = some (some (.int s0), w) := by
  exact val_r rfl
/-- BelfryHouse.told(II)I -/
theorem tr_8 (d : Nat) (w : Wd) (hW : Fix w) (x0 : Int32) (x1 : Int32)     : val (8, d + 3, 0, [some (.ref 64), some (.int x0), some (.int x1), none], [], w) = val (8, d + 3, 5, [some (.ref 64), some (.int x0), some (.int x1), none], [.int x0, .int (gI w 64 0)], w) := by
  refine (val_g (c2 := (8, d + 3, 1, [some (.ref 64), some (.int x0), some (.int x1), none], [.ref 64], w)) rfl).trans ?_
  refine (val_gf rfl (hW.k 64 (Nat.le_of_ble_eq_true rfl) (Nat.le_of_ble_eq_true rfl)) rfl).trans ?_
  show val (8, d + 3, 4, [some (.ref 64), some (.int x0), some (.int x1), none], [.int (gI w 64 0)], w) = _
  refine (val_g (c2 := (8, d + 3, 5, [some (.ref 64), some (.int x0), some (.int x1), none], [.int x0, .int (gI w 64 0)], w)) rfl).trans ?_
  rfl
theorem tr_8_8 (d : Nat) (w : Wd) (hW : Fix w) (l1 : Int32) (l2 : Int32) (s0 : Int32)     : val (8, d + 3, 8, [some (.ref 64), some (.int l1), some (.int l2), none], [.int s0], w) = (if ¬ s0 = (-1) then (if l2 = 0 then val (8, d + 3, 49, [some (.ref 64), some (.int l1), some (.int l2), some (.int s0)], [.int s0, .int (gI w 64 0)], w) else (if l2 = 1 then val (8, d + 3, 58, [some (.ref 64), some (.int l1), some (.int l2), some (.int s0)], [.int s0, .int (gI w 64 0)], w) else (if l2 = 2 then val (8, d + 3, 67, [some (.ref 64), some (.int l1), some (.int l2), some (.int s0)], [.int s0, .int (gI w 64 0)], w) else some (some (.int (-1)), w)))) else some (some (.int (-1)), w)) := by
  refine (val_g (c2 := (8, d + 3, 9, [some (.ref 64), some (.int l1), some (.int l2), some (.int s0)], [], w)) rfl).trans ?_
  refine (val_g (c2 := (8, d + 3, 10, [some (.ref 64), some (.int l1), some (.int l2), some (.int s0)], [.int s0], w)) rfl).trans ?_
  refine (val_g (c2 := (8, d + 3, 11, [some (.ref 64), some (.int l1), some (.int l2), some (.int s0)], [.int (-1), .int s0], w)) rfl).trans ?_
  by_cases hc52 : ¬ s0 = (-1)
  · refine ((val_ic_ne rfl).trans (if_pos hc52)).trans ?_
    show val (8, d + 3, 16, [some (.ref 64), some (.int l1), some (.int l2), some (.int s0)], [], w) = _
    refine Eq.trans ?_ (if_pos hc52).symm
    refine (val_g (c2 := (8, d + 3, 17, [some (.ref 64), some (.int l1), some (.int l2), some (.int s0)], [.int l2], w)) rfl).trans ?_
    refine (val_tsI rfl).trans ?_
    show (if l2 = 0 then val (8, d + 3, 44, [some (.ref 64), some (.int l1), some (.int l2), some (.int s0)], [], w) else if l2 = 1 then val (8, d + 3, 53, [some (.ref 64), some (.int l1), some (.int l2), some (.int s0)], [], w) else if l2 = 2 then val (8, d + 3, 62, [some (.ref 64), some (.int l1), some (.int l2), some (.int s0)], [], w) else val (8, d + 3, 79, [some (.ref 64), some (.int l1), some (.int l2), some (.int s0)], [], w)) = _
    by_cases hc53 : l2 = 0
    · refine (if_pos hc53).trans (Eq.trans ?_ (if_pos hc53).symm)
      refine (val_g (c2 := (8, d + 3, 45, [some (.ref 64), some (.int l1), some (.int l2), some (.int s0)], [.ref 64], w)) rfl).trans ?_
      refine (val_gf rfl (hW.k 64 (Nat.le_of_ble_eq_true rfl) (Nat.le_of_ble_eq_true rfl)) rfl).trans ?_
      show val (8, d + 3, 48, [some (.ref 64), some (.int l1), some (.int l2), some (.int s0)], [.int (gI w 64 0)], w) = _
      refine (val_g (c2 := (8, d + 3, 49, [some (.ref 64), some (.int l1), some (.int l2), some (.int s0)], [.int s0, .int (gI w 64 0)], w)) rfl).trans ?_
      rfl
    · refine (if_neg hc53).trans (Eq.trans ?_ (if_neg hc53).symm)
      by_cases hc54 : l2 = 1
      · refine (if_pos hc54).trans (Eq.trans ?_ (if_pos hc54).symm)
        refine (val_g (c2 := (8, d + 3, 54, [some (.ref 64), some (.int l1), some (.int l2), some (.int s0)], [.ref 64], w)) rfl).trans ?_
        refine (val_gf rfl (hW.k 64 (Nat.le_of_ble_eq_true rfl) (Nat.le_of_ble_eq_true rfl)) rfl).trans ?_
        show val (8, d + 3, 57, [some (.ref 64), some (.int l1), some (.int l2), some (.int s0)], [.int (gI w 64 0)], w) = _
        refine (val_g (c2 := (8, d + 3, 58, [some (.ref 64), some (.int l1), some (.int l2), some (.int s0)], [.int s0, .int (gI w 64 0)], w)) rfl).trans ?_
        rfl
      · refine (if_neg hc54).trans (Eq.trans ?_ (if_neg hc54).symm)
        by_cases hc55 : l2 = 2
        · refine (if_pos hc55).trans (Eq.trans ?_ (if_pos hc55).symm)
          refine (val_g (c2 := (8, d + 3, 63, [some (.ref 64), some (.int l1), some (.int l2), some (.int s0)], [.ref 64], w)) rfl).trans ?_
          refine (val_gf rfl (hW.k 64 (Nat.le_of_ble_eq_true rfl) (Nat.le_of_ble_eq_true rfl)) rfl).trans ?_
          show val (8, d + 3, 66, [some (.ref 64), some (.int l1), some (.int l2), some (.int s0)], [.int (gI w 64 0)], w) = _
          refine (val_g (c2 := (8, d + 3, 67, [some (.ref 64), some (.int l1), some (.int l2), some (.int s0)], [.int s0, .int (gI w 64 0)], w)) rfl).trans ?_
          rfl
        · refine (if_neg hc55).trans (Eq.trans ?_ (if_neg hc55).symm)
          refine (val_g (c2 := (8, d + 3, 80, [some (.ref 64), some (.int l1), some (.int l2), some (.int s0)], [.int (-1)], w)) rfl).trans ?_
          exact val_r rfl
  · refine ((val_ic_ne rfl).trans (if_neg hc52)).trans ?_
    show val (8, d + 3, 14, [some (.ref 64), some (.int l1), some (.int l2), some (.int s0)], [], w) = _
    refine Eq.trans ?_ (if_neg hc52).symm
    refine (val_g (c2 := (8, d + 3, 15, [some (.ref 64), some (.int l1), some (.int l2), some (.int s0)], [.int (-1)], w)) rfl).trans ?_
    exact val_r rfl
theorem tr_8_52 (d : Nat) (w : Wd) (l1 : Int32) (l2 : Int32) (l3 : Int32) (s0 : Int32)     : val (8, d + 3, 52, [some (.ref 64), some (.int l1), some (.int l2), some (.int l3)], [.int s0], w) = some (some (.int s0), w) := by
  exact val_r rfl
theorem tr_8_61 (d : Nat) (w : Wd) (l1 : Int32) (l2 : Int32) (l3 : Int32) (s0 : Int32)     : val (8, d + 3, 61, [some (.ref 64), some (.int l1), some (.int l2), some (.int l3)], [.int s0], w) = some (some (.int s0), w) := by
  exact val_r rfl
theorem tr_8_70 (d : Nat) (w : Wd) (l1 : Int32) (l2 : Int32) (l3 : Int32) (s0 : Int32)     : val (8, d + 3, 70, [some (.ref 64), some (.int l1), some (.int l2), some (.int l3)], [.int s0], w) = (if s0 = 0 then some (some (.int 0), w) else some (some (.int 1), w)) := by
  by_cases hc56 : s0 = 0
  · refine ((val_if_eq rfl).trans (if_pos hc56)).trans ?_
    show val (8, d + 3, 77, [some (.ref 64), some (.int l1), some (.int l2), some (.int l3)], [], w) = _
    refine Eq.trans ?_ (if_pos hc56).symm
    refine (val_g (c2 := (8, d + 3, 78, [some (.ref 64), some (.int l1), some (.int l2), some (.int l3)], [.int 0], w)) rfl).trans ?_
    exact val_r rfl
  · refine ((val_if_eq rfl).trans (if_neg hc56)).trans ?_
    show val (8, d + 3, 73, [some (.ref 64), some (.int l1), some (.int l2), some (.int l3)], [], w) = _
    refine Eq.trans ?_ (if_neg hc56).symm
    refine (val_g (c2 := (8, d + 3, 74, [some (.ref 64), some (.int l1), some (.int l2), some (.int l3)], [.int 1], w)) rfl).trans ?_
    refine (val_g (c2 := (8, d + 3, 78, [some (.ref 64), some (.int l1), some (.int l2), some (.int l3)], [.int 1], w)) rfl).trans ?_
    exact val_r rfl
/-- BelfryHouse.ranked(I)I -/
theorem tr_9 (d : Nat) (w : Wd) (hW : Fix w) (x0 : Int32)     : val (9, d + 3, 0, [some (.ref 64), some (.int x0)], [], w) = (if x0 < 0 then some (some (.int (-1)), w) else val (9, d + 3, 9, [some (.ref 64), some (.int x0)], [.int (gI w 64 0), .int x0], w)) := by
  refine (val_g (c2 := (9, d + 3, 1, [some (.ref 64), some (.int x0)], [.int x0], w)) rfl).trans ?_
  by_cases hc59 : x0 < 0
  · refine ((val_if_lt rfl).trans (if_pos hc59)).trans ?_
    show val (9, d + 3, 15, [some (.ref 64), some (.int x0)], [], w) = _
    refine Eq.trans ?_ (if_pos hc59).symm
    refine (val_g (c2 := (9, d + 3, 16, [some (.ref 64), some (.int x0)], [.int (-1)], w)) rfl).trans ?_
    exact val_r rfl
  · refine ((val_if_lt rfl).trans (if_neg hc59)).trans ?_
    show val (9, d + 3, 4, [some (.ref 64), some (.int x0)], [], w) = _
    refine Eq.trans ?_ (if_neg hc59).symm
    refine (val_g (c2 := (9, d + 3, 5, [some (.ref 64), some (.int x0)], [.int x0], w)) rfl).trans ?_
    refine (val_g (c2 := (9, d + 3, 6, [some (.ref 64), some (.int x0)], [.ref 64, .int x0], w)) rfl).trans ?_
    refine (val_gf rfl (hW.k 64 (Nat.le_of_ble_eq_true rfl) (Nat.le_of_ble_eq_true rfl)) rfl).trans ?_
    show val (9, d + 3, 9, [some (.ref 64), some (.int x0)], [.int (gI w 64 0), .int x0], w) = _
    rfl
theorem tr_9_12 (d : Nat) (w : Wd) (hW : Fix w) (l1 : Int32) (s0 : Int32) (s1 : Int32)     : val (9, d + 3, 12, [some (.ref 64), some (.int l1)], [.int s0, .int s1], w) = (if s1 < s0 then val (9, d + 3, 23, [some (.ref 64), some (.int l1)], [.int l1, .int (gI w 64 0), .ref 64], w) else some (some (.int (-1)), w)) := by
  by_cases hc60 : s1 < s0
  · refine ((val_ic_lt rfl).trans (if_pos hc60)).trans ?_
    show val (9, d + 3, 17, [some (.ref 64), some (.int l1)], [], w) = _
    refine Eq.trans ?_ (if_pos hc60).symm
    refine (val_g (c2 := (9, d + 3, 18, [some (.ref 64), some (.int l1)], [.ref 64], w)) rfl).trans ?_
    refine (val_g (c2 := (9, d + 3, 19, [some (.ref 64), some (.int l1)], [.ref 64, .ref 64], w)) rfl).trans ?_
    refine (val_gf rfl (hW.k 64 (Nat.le_of_ble_eq_true rfl) (Nat.le_of_ble_eq_true rfl)) rfl).trans ?_
    show val (9, d + 3, 22, [some (.ref 64), some (.int l1)], [.int (gI w 64 0), .ref 64], w) = _
    refine (val_g (c2 := (9, d + 3, 23, [some (.ref 64), some (.int l1)], [.int l1, .int (gI w 64 0), .ref 64], w)) rfl).trans ?_
    rfl
  · refine ((val_ic_lt rfl).trans (if_neg hc60)).trans ?_
    show val (9, d + 3, 15, [some (.ref 64), some (.int l1)], [], w) = _
    refine Eq.trans ?_ (if_neg hc60).symm
    refine (val_g (c2 := (9, d + 3, 16, [some (.ref 64), some (.int l1)], [.int (-1)], w)) rfl).trans ?_
    exact val_r rfl
theorem tr_9_29 (d : Nat) (w : Wd) (l1 : Int32) (s0 : Int32)     : val (9, d + 3, 29, [some (.ref 64), some (.int l1)], [.int s0], w) = some (some (.int s0), w) := by
  exact val_r rfl
/-- BelfryHouse.feed(IJ)I -/
theorem tr_10 (d : Nat) (w : Wd) (hW : Fix w) (x0 : Int32) (x1 : Int64)     : val (10, d, 0, [some (.ref 64), some (.int x0), some (.long x1), none, none], [], w) = (if x0 < 1 then some (some (.int (-1)), w) else (if x0 ≤ 8 then (if x0 ≤ (600 - (gI w 64 2)) then val (10, d, 31, [some (.ref 64), some (.int x0), some (.long x1), none, some (.int 0)], [], w) else some (some (.int (-3)), w)) else some (some (.int (-1)), w))) := by
  refine (val_g (c2 := (10, d, 1, [some (.ref 64), some (.int x0), some (.long x1), none, none], [.int x0], w)) rfl).trans ?_
  refine (val_g (c2 := (10, d, 2, [some (.ref 64), some (.int x0), some (.long x1), none, none], [.int 1, .int x0], w)) rfl).trans ?_
  by_cases hc65 : x0 < 1
  · refine ((val_ic_lt rfl).trans (if_pos hc65)).trans ?_
    show val (10, d, 11, [some (.ref 64), some (.int x0), some (.long x1), none, none], [], w) = _
    refine Eq.trans ?_ (if_pos hc65).symm
    refine (val_g (c2 := (10, d, 12, [some (.ref 64), some (.int x0), some (.long x1), none, none], [.int (-1)], w)) rfl).trans ?_
    exact val_r rfl
  · refine ((val_ic_lt rfl).trans (if_neg hc65)).trans ?_
    show val (10, d, 5, [some (.ref 64), some (.int x0), some (.long x1), none, none], [], w) = _
    refine Eq.trans ?_ (if_neg hc65).symm
    refine (val_g (c2 := (10, d, 6, [some (.ref 64), some (.int x0), some (.long x1), none, none], [.int x0], w)) rfl).trans ?_
    refine (val_g (c2 := (10, d, 8, [some (.ref 64), some (.int x0), some (.long x1), none, none], [.int 8, .int x0], w)) rfl).trans ?_
    by_cases hc66 : x0 ≤ 8
    · refine ((val_ic_le rfl).trans (if_pos hc66)).trans ?_
      show val (10, d, 13, [some (.ref 64), some (.int x0), some (.long x1), none, none], [], w) = _
      refine Eq.trans ?_ (if_pos hc66).symm
      refine (val_g (c2 := (10, d, 14, [some (.ref 64), some (.int x0), some (.long x1), none, none], [.int x0], w)) rfl).trans ?_
      refine (val_g (c2 := (10, d, 17, [some (.ref 64), some (.int x0), some (.long x1), none, none], [.int 600, .int x0], w)) rfl).trans ?_
      refine (val_g (c2 := (10, d, 18, [some (.ref 64), some (.int x0), some (.long x1), none, none], [.ref 64, .int 600, .int x0], w)) rfl).trans ?_
      refine (val_gf rfl (hW.k 64 (Nat.le_of_ble_eq_true rfl) (Nat.le_of_ble_eq_true rfl)) rfl).trans ?_
      show val (10, d, 21, [some (.ref 64), some (.int x0), some (.long x1), none, none], [.int (gI w 64 2), .int 600, .int x0], w) = _
      refine (val_g (c2 := (10, d, 22, [some (.ref 64), some (.int x0), some (.long x1), none, none], [.int (600 - (gI w 64 2)), .int x0], w)) rfl).trans ?_
      by_cases hc67 : x0 ≤ (600 - (gI w 64 2))
      · refine ((val_ic_le rfl).trans (if_pos hc67)).trans ?_
        show val (10, d, 28, [some (.ref 64), some (.int x0), some (.long x1), none, none], [], w) = _
        refine Eq.trans ?_ (if_pos hc67).symm
        refine (val_g (c2 := (10, d, 29, [some (.ref 64), some (.int x0), some (.long x1), none, none], [.int 0], w)) rfl).trans ?_
        refine (val_g (c2 := (10, d, 31, [some (.ref 64), some (.int x0), some (.long x1), none, some (.int 0)], [], w)) rfl).trans ?_
        rfl
      · refine ((val_ic_le rfl).trans (if_neg hc67)).trans ?_
        show val (10, d, 25, [some (.ref 64), some (.int x0), some (.long x1), none, none], [], w) = _
        refine Eq.trans ?_ (if_neg hc67).symm
        refine (val_g (c2 := (10, d, 27, [some (.ref 64), some (.int x0), some (.long x1), none, none], [.int (-3)], w)) rfl).trans ?_
        exact val_r rfl
    · refine ((val_ic_le rfl).trans (if_neg hc66)).trans ?_
      show val (10, d, 11, [some (.ref 64), some (.int x0), some (.long x1), none, none], [], w) = _
      refine Eq.trans ?_ (if_neg hc66).symm
      refine (val_g (c2 := (10, d, 12, [some (.ref 64), some (.int x0), some (.long x1), none, none], [.int (-1)], w)) rfl).trans ?_
      exact val_r rfl
theorem tr_10_31 (d : Nat) (w : Wd) (hW : Fix w) (l1 : Int32) (l2 : Int64) (l4 : Int32)    (hy1 : (¬ (l1 ≤ l4)) → inB ((gI w 64 2)) 600 = true) : val (10, d, 31, [some (.ref 64), some (.int l1), some (.long l2), none, some (.int l4)], [], w) = (if l1 ≤ l4 then some (some (.int (gI w 64 2)), w) else val (10, d, 31, [some (.ref 64), some (.int l1), some (.long l2), none, some (.int (l4 + 1))], [], (sI ((sI w 64 2 (((gI w 64 2) + 1)))) 65 ((gI w 64 2)).toNatClampNeg ((vp_nar .byte ((Int8.toInt32 (Int32.toInt8 ((Int64.toInt32 ((ushL l2 ((8 * l4)))))))))))))) := by
  refine (val_g (c2 := (10, d, 33, [some (.ref 64), some (.int l1), some (.long l2), none, some (.int l4)], [.int l4], w)) rfl).trans ?_
  refine (val_g (c2 := (10, d, 34, [some (.ref 64), some (.int l1), some (.long l2), none, some (.int l4)], [.int l1, .int l4], w)) rfl).trans ?_
  by_cases hc68 : l1 ≤ l4
  · refine ((val_ic_ge rfl).trans (if_pos hc68)).trans ?_
    show val (10, d, 68, [some (.ref 64), some (.int l1), some (.long l2), none, some (.int l4)], [], w) = _
    refine Eq.trans ?_ (if_pos hc68).symm
    refine (val_g (c2 := (10, d, 69, [some (.ref 64), some (.int l1), some (.long l2), none, some (.int l4)], [.ref 64], w)) rfl).trans ?_
    refine (val_gf rfl (hW.k 64 (Nat.le_of_ble_eq_true rfl) (Nat.le_of_ble_eq_true rfl)) rfl).trans ?_
    show val (10, d, 72, [some (.ref 64), some (.int l1), some (.long l2), none, some (.int l4)], [.int (gI w 64 2)], w) = _
    exact val_r rfl
  · refine ((val_ic_ge rfl).trans (if_neg hc68)).trans ?_
    show val (10, d, 37, [some (.ref 64), some (.int l1), some (.long l2), none, some (.int l4)], [], w) = _
    refine Eq.trans ?_ (if_neg hc68).symm
    refine (val_g (c2 := (10, d, 38, [some (.ref 64), some (.int l1), some (.long l2), none, some (.int l4)], [.ref 64], w)) rfl).trans ?_
    refine (val_gf rfl (hW.k 64 (Nat.le_of_ble_eq_true rfl) (Nat.le_of_ble_eq_true rfl)) (fvR (hW.r 64 1 65 rfl))).trans ?_
    show val (10, d, 41, [some (.ref 64), some (.int l1), some (.long l2), none, some (.int l4)], [.ref 65], w) = _
    refine (val_g (c2 := (10, d, 42, [some (.ref 64), some (.int l1), some (.long l2), none, some (.int l4)], [.ref 64, .ref 65], w)) rfl).trans ?_
    refine (val_g (c2 := (10, d, 43, [some (.ref 64), some (.int l1), some (.long l2), none, some (.int l4)], [.ref 64, .ref 64, .ref 65], w)) rfl).trans ?_
    refine (val_gf rfl (hW.k 64 (Nat.le_of_ble_eq_true rfl) (Nat.le_of_ble_eq_true rfl)) rfl).trans ?_
    show val (10, d, 46, [some (.ref 64), some (.int l1), some (.long l2), none, some (.int l4)], [.int (gI w 64 2), .ref 64, .ref 65], w) = _
    refine (val_g (c2 := (10, d, 47, [some (.ref 64), some (.int l1), some (.long l2), none, some (.int l4)], [.int (gI w 64 2), .ref 64, .int (gI w 64 2), .ref 65], w)) rfl).trans ?_
    refine (val_g (c2 := (10, d, 48, [some (.ref 64), some (.int l1), some (.long l2), none, some (.int l4)], [.int 1, .int (gI w 64 2), .ref 64, .int (gI w 64 2), .ref 65], w)) rfl).trans ?_
    refine (val_g (c2 := (10, d, 49, [some (.ref 64), some (.int l1), some (.long l2), none, some (.int l4)], [.int ((gI w 64 2) + 1), .ref 64, .int (gI w 64 2), .ref 65], w)) rfl).trans ?_
    refine (val_pf rfl (hW.k 64 (Nat.le_of_ble_eq_true rfl) (Nat.le_of_ble_eq_true rfl)) rfl).trans ?_
    show val (10, d, 52, [some (.ref 64), some (.int l1), some (.long l2), none, some (.int l4)], [.int (gI w 64 2), .ref 65], (sI w 64 2 (((gI w 64 2) + 1)))) = _
    refine (val_g (c2 := (10, d, 53, [some (.ref 64), some (.int l1), some (.long l2), none, some (.int l4)], [.long l2, .int (gI w 64 2), .ref 65], (sI w 64 2 (((gI w 64 2) + 1))))) rfl).trans ?_
    refine (val_g (c2 := (10, d, 55, [some (.ref 64), some (.int l1), some (.long l2), none, some (.int l4)], [.int 8, .long l2, .int (gI w 64 2), .ref 65], (sI w 64 2 (((gI w 64 2) + 1))))) rfl).trans ?_
    refine (val_g (c2 := (10, d, 57, [some (.ref 64), some (.int l1), some (.long l2), none, some (.int l4)], [.int l4, .int 8, .long l2, .int (gI w 64 2), .ref 65], (sI w 64 2 (((gI w 64 2) + 1))))) rfl).trans ?_
    refine (val_g (c2 := (10, d, 58, [some (.ref 64), some (.int l1), some (.long l2), none, some (.int l4)], [.int (8 * l4), .long l2, .int (gI w 64 2), .ref 65], (sI w 64 2 (((gI w 64 2) + 1))))) rfl).trans ?_
    refine (val_g (c2 := (10, d, 59, [some (.ref 64), some (.int l1), some (.long l2), none, some (.int l4)], [.long (ushL l2 ((8 * l4))), .int (gI w 64 2), .ref 65], (sI w 64 2 (((gI w 64 2) + 1))))) rfl).trans ?_
    refine (val_g (c2 := (10, d, 60, [some (.ref 64), some (.int l1), some (.long l2), none, some (.int l4)], [.int (Int64.toInt32 ((ushL l2 ((8 * l4))))), .int (gI w 64 2), .ref 65], (sI w 64 2 (((gI w 64 2) + 1))))) rfl).trans ?_
    refine (val_g (c2 := (10, d, 61, [some (.ref 64), some (.int l1), some (.long l2), none, some (.int l4)], [.int (Int8.toInt32 (Int32.toInt8 ((Int64.toInt32 ((ushL l2 ((8 * l4)))))))), .int (gI w 64 2), .ref 65], (sI w 64 2 (((gI w 64 2) + 1))))) rfl).trans ?_
    refine (val_basB (w := (sI w 64 2 (((gI w 64 2) + 1)))) rfl (hW.k 65 (Nat.le_of_ble_eq_true rfl) (Nat.le_of_ble_eq_true rfl)) (hy1 hc68)).trans ?_
    show val (10, d, 62, [some (.ref 64), some (.int l1), some (.long l2), none, some (.int l4)], [], (sI ((sI w 64 2 (((gI w 64 2) + 1)))) 65 ((gI w 64 2)).toNatClampNeg ((vp_nar .byte ((Int8.toInt32 (Int32.toInt8 ((Int64.toInt32 ((ushL l2 ((8 * l4))))))))))))) = _
    refine (val_g (c2 := (10, d, 65, [some (.ref 64), some (.int l1), some (.long l2), none, some (.int (l4 + 1))], [], (sI ((sI w 64 2 (((gI w 64 2) + 1)))) 65 ((gI w 64 2)).toNatClampNeg ((vp_nar .byte ((Int8.toInt32 (Int32.toInt8 ((Int64.toInt32 ((ushL l2 ((8 * l4)))))))))))))) rfl).trans ?_
    refine (val_g (c2 := (10, d, 31, [some (.ref 64), some (.int l1), some (.long l2), none, some (.int (l4 + 1))], [], (sI ((sI w 64 2 (((gI w 64 2) + 1)))) 65 ((gI w 64 2)).toNatClampNeg ((vp_nar .byte ((Int8.toInt32 (Int32.toInt8 ((Int64.toInt32 ((ushL l2 ((8 * l4)))))))))))))) rfl).trans ?_
    rfl
/-- BelfryHouse.method()I -/
theorem tr_11 (d : Nat) (w : Wd) (hW : Fix w)      : val (11, d + 10, 0, [some (.ref 64), none, none], [], w) = (if (gI ((sI w 64 2 0)) 64 4) < 8 then val (11, d + 10, 22, [some (.ref 64), some (.int (gI w 64 2)), none], [], (sI w 64 2 0)) else some (some (.int (-3)), (sI w 64 2 0))) := by
  refine (val_g (c2 := (11, d + 10, 1, [some (.ref 64), none, none], [.ref 64], w)) rfl).trans ?_
  refine (val_gf rfl (hW.k 64 (Nat.le_of_ble_eq_true rfl) (Nat.le_of_ble_eq_true rfl)) rfl).trans ?_
  show val (11, d + 10, 4, [some (.ref 64), none, none], [.int (gI w 64 2)], w) = _
  refine (val_g (c2 := (11, d + 10, 5, [some (.ref 64), some (.int (gI w 64 2)), none], [], w)) rfl).trans ?_
  refine (val_g (c2 := (11, d + 10, 6, [some (.ref 64), some (.int (gI w 64 2)), none], [.ref 64], w)) rfl).trans ?_
  refine (val_g (c2 := (11, d + 10, 7, [some (.ref 64), some (.int (gI w 64 2)), none], [.int 0, .ref 64], w)) rfl).trans ?_
  refine (val_pf rfl (hW.k 64 (Nat.le_of_ble_eq_true rfl) (Nat.le_of_ble_eq_true rfl)) rfl).trans ?_
  show val (11, d + 10, 10, [some (.ref 64), some (.int (gI w 64 2)), none], [], (sI w 64 2 0)) = _
  refine (val_g (c2 := (11, d + 10, 11, [some (.ref 64), some (.int (gI w 64 2)), none], [.ref 64], (sI w 64 2 0))) rfl).trans ?_
  refine (val_gf (w := (sI w 64 2 0)) rfl (hW.k 64 (Nat.le_of_ble_eq_true rfl) (Nat.le_of_ble_eq_true rfl)) rfl).trans ?_
  show val (11, d + 10, 14, [some (.ref 64), some (.int (gI w 64 2)), none], [.int (gI ((sI w 64 2 0)) 64 4)], (sI w 64 2 0)) = _
  refine (val_g (c2 := (11, d + 10, 16, [some (.ref 64), some (.int (gI w 64 2)), none], [.int 8, .int (gI ((sI w 64 2 0)) 64 4)], (sI w 64 2 0))) rfl).trans ?_
  by_cases hc71 : (gI ((sI w 64 2 0)) 64 4) < 8
  · refine ((val_ic_lt rfl).trans (if_pos hc71)).trans ?_
    show val (11, d + 10, 22, [some (.ref 64), some (.int (gI w 64 2)), none], [], (sI w 64 2 0)) = _
    refine Eq.trans ?_ (if_pos hc71).symm
    rfl
  · refine ((val_ic_lt rfl).trans (if_neg hc71)).trans ?_
    show val (11, d + 10, 19, [some (.ref 64), some (.int (gI w 64 2)), none], [], (sI w 64 2 0)) = _
    refine Eq.trans ?_ (if_neg hc71).symm
    refine (val_g (c2 := (11, d + 10, 21, [some (.ref 64), some (.int (gI w 64 2)), none], [.int (-3)], (sI w 64 2 0))) rfl).trans ?_
    exact val_r rfl
theorem tr_11_25 (d : Nat) (w : Wd) (hW : Fix w) (l1 : Int32) (s0 : Nat)     : val (11, d + 10, 25, [some (.ref 64), some (.int l1), none], [.ref s0], w) = val (11, d + 10, 35, [some (.ref 64), some (.int l1), none], [.int (gI w 64 0), .int l1, .ref 65, .ref s0, .ref s0], w) := by
  refine (val_g (c2 := (11, d + 10, 26, [some (.ref 64), some (.int l1), none], [.ref s0, .ref s0], w)) rfl).trans ?_
  refine (val_g (c2 := (11, d + 10, 27, [some (.ref 64), some (.int l1), none], [.ref 64, .ref s0, .ref s0], w)) rfl).trans ?_
  refine (val_gf rfl (hW.k 64 (Nat.le_of_ble_eq_true rfl) (Nat.le_of_ble_eq_true rfl)) (fvR (hW.r 64 1 65 rfl))).trans ?_
  show val (11, d + 10, 30, [some (.ref 64), some (.int l1), none], [.ref 65, .ref s0, .ref s0], w) = _
  refine (val_g (c2 := (11, d + 10, 31, [some (.ref 64), some (.int l1), none], [.int l1, .ref 65, .ref s0, .ref s0], w)) rfl).trans ?_
  refine (val_g (c2 := (11, d + 10, 32, [some (.ref 64), some (.int l1), none], [.ref 64, .int l1, .ref 65, .ref s0, .ref s0], w)) rfl).trans ?_
  refine (val_gf rfl (hW.k 64 (Nat.le_of_ble_eq_true rfl) (Nat.le_of_ble_eq_true rfl)) rfl).trans ?_
  show val (11, d + 10, 35, [some (.ref 64), some (.int l1), none], [.int (gI w 64 0), .int l1, .ref 65, .ref s0, .ref s0], w) = _
  rfl
theorem tr_11_38 (d : Nat) (w : Wd) (l1 : Int32) (s0 : Nat)     : val (11, d + 10, 38, [some (.ref 64), some (.int l1), none], [.ref s0], w) = val (11, d + 10, 40, [some (.ref 64), some (.int l1), some (.ref s0)], [.ref s0], w) := by
  refine (val_g (c2 := (11, d + 10, 39, [some (.ref 64), some (.int l1), some (.ref s0)], [], w)) rfl).trans ?_
  refine (val_g (c2 := (11, d + 10, 40, [some (.ref 64), some (.int l1), some (.ref s0)], [.ref s0], w)) rfl).trans ?_
  rfl
theorem tr_11_43 (d : Nat) (w : Wd) (hW : Fix w) (l1 : Int32) (l2 : Nat)    (m_l2 : Nat) (hk_l2 : wK w l2 = (4, m_l2)) (q0_l2 : Nat) (hr0_l2 : gR w l2 0 = some q0_l2) : val (11, d + 10, 43, [some (.ref 64), some (.int l1), some (.ref l2)], [], w) = (if (gI w l2 1) < 0 then val (11, d + 10, 70, [some (.ref 64), some (.int l1), some (.ref l2)], [.ref q0_l2, .int (gI w 64 4), .ref 66], w) else some (some (.int ((-10) - (gI w l2 1))), w)) := by
  refine (val_g (c2 := (11, d + 10, 44, [some (.ref 64), some (.int l1), some (.ref l2)], [.ref l2], w)) rfl).trans ?_
  refine (val_gf rfl hk_l2 rfl).trans ?_
  show val (11, d + 10, 47, [some (.ref 64), some (.int l1), some (.ref l2)], [.int (gI w l2 1)], w) = _
  by_cases hc72 : (gI w l2 1) < 0
  · refine ((val_if_lt rfl).trans (if_pos hc72)).trans ?_
    show val (11, d + 10, 58, [some (.ref 64), some (.int l1), some (.ref l2)], [], w) = _
    refine Eq.trans ?_ (if_pos hc72).symm
    refine (val_g (c2 := (11, d + 10, 59, [some (.ref 64), some (.int l1), some (.ref l2)], [.ref 64], w)) rfl).trans ?_
    refine (val_gf rfl (hW.k 64 (Nat.le_of_ble_eq_true rfl) (Nat.le_of_ble_eq_true rfl)) (fvR (hW.r 64 3 66 rfl))).trans ?_
    show val (11, d + 10, 62, [some (.ref 64), some (.int l1), some (.ref l2)], [.ref 66], w) = _
    refine (val_g (c2 := (11, d + 10, 63, [some (.ref 64), some (.int l1), some (.ref l2)], [.ref 64, .ref 66], w)) rfl).trans ?_
    refine (val_gf rfl (hW.k 64 (Nat.le_of_ble_eq_true rfl) (Nat.le_of_ble_eq_true rfl)) rfl).trans ?_
    show val (11, d + 10, 66, [some (.ref 64), some (.int l1), some (.ref l2)], [.int (gI w 64 4), .ref 66], w) = _
    refine (val_g (c2 := (11, d + 10, 67, [some (.ref 64), some (.int l1), some (.ref l2)], [.ref l2, .int (gI w 64 4), .ref 66], w)) rfl).trans ?_
    refine (val_gf rfl hk_l2 (fvR hr0_l2)).trans ?_
    show val (11, d + 10, 70, [some (.ref 64), some (.int l1), some (.ref l2)], [.ref q0_l2, .int (gI w 64 4), .ref 66], w) = _
    rfl
  · refine ((val_if_lt rfl).trans (if_neg hc72)).trans ?_
    show val (11, d + 10, 50, [some (.ref 64), some (.int l1), some (.ref l2)], [], w) = _
    refine Eq.trans ?_ (if_neg hc72).symm
    refine (val_g (c2 := (11, d + 10, 52, [some (.ref 64), some (.int l1), some (.ref l2)], [.int (-10)], w)) rfl).trans ?_
    refine (val_g (c2 := (11, d + 10, 53, [some (.ref 64), some (.int l1), some (.ref l2)], [.ref l2, .int (-10)], w)) rfl).trans ?_
    refine (val_gf rfl hk_l2 rfl).trans ?_
    show val (11, d + 10, 56, [some (.ref 64), some (.int l1), some (.ref l2)], [.int (gI w l2 1), .int (-10)], w) = _
    refine (val_g (c2 := (11, d + 10, 57, [some (.ref 64), some (.int l1), some (.ref l2)], [.int ((-10) - (gI w l2 1))], w)) rfl).trans ?_
    exact val_r rfl
theorem tr_11_71 (d : Nat) (w : Wd) (hW : Fix w) (l1 : Int32) (l2 : Nat)     : val (11, d + 10, 71, [some (.ref 64), some (.int l1), some (.ref l2)], [], w) = some (some (.int (gI w 64 4)), (sI w 64 4 (((gI w 64 4) + 1)))) := by
  refine (val_g (c2 := (11, d + 10, 72, [some (.ref 64), some (.int l1), some (.ref l2)], [.ref 64], w)) rfl).trans ?_
  refine (val_g (c2 := (11, d + 10, 73, [some (.ref 64), some (.int l1), some (.ref l2)], [.ref 64, .ref 64], w)) rfl).trans ?_
  refine (val_gf rfl (hW.k 64 (Nat.le_of_ble_eq_true rfl) (Nat.le_of_ble_eq_true rfl)) rfl).trans ?_
  show val (11, d + 10, 76, [some (.ref 64), some (.int l1), some (.ref l2)], [.int (gI w 64 4), .ref 64], w) = _
  refine (val_g (c2 := (11, d + 10, 77, [some (.ref 64), some (.int l1), some (.ref l2)], [.int (gI w 64 4), .ref 64, .int (gI w 64 4)], w)) rfl).trans ?_
  refine (val_g (c2 := (11, d + 10, 78, [some (.ref 64), some (.int l1), some (.ref l2)], [.int 1, .int (gI w 64 4), .ref 64, .int (gI w 64 4)], w)) rfl).trans ?_
  refine (val_g (c2 := (11, d + 10, 79, [some (.ref 64), some (.int l1), some (.ref l2)], [.int ((gI w 64 4) + 1), .ref 64, .int (gI w 64 4)], w)) rfl).trans ?_
  refine (val_pf rfl (hW.k 64 (Nat.le_of_ble_eq_true rfl) (Nat.le_of_ble_eq_true rfl)) rfl).trans ?_
  show val (11, d + 10, 82, [some (.ref 64), some (.int l1), some (.ref l2)], [.int (gI w 64 4)], (sI w 64 4 (((gI w 64 4) + 1)))) = _
  exact val_r rfl
/-- BelfryHouse.isMethod(I)Z -/
theorem tr_12 (d : Nat) (w : Wd) (hW : Fix w) (x0 : Int32)     : val (12, d, 0, [some (.ref 64), some (.int x0)], [], w) = (if x0 < 0 then some (some (.int 0), w) else (if (gI w 64 4) ≤ x0 then some (some (.int 0), w) else some (some (.int 1), w))) := by
  refine (val_g (c2 := (12, d, 1, [some (.ref 64), some (.int x0)], [.int x0], w)) rfl).trans ?_
  by_cases hc75 : x0 < 0
  · refine ((val_if_lt rfl).trans (if_pos hc75)).trans ?_
    show val (12, d, 16, [some (.ref 64), some (.int x0)], [], w) = _
    refine Eq.trans ?_ (if_pos hc75).symm
    refine (val_g (c2 := (12, d, 17, [some (.ref 64), some (.int x0)], [.int 0], w)) rfl).trans ?_
    exact val_r rfl
  · refine ((val_if_lt rfl).trans (if_neg hc75)).trans ?_
    show val (12, d, 4, [some (.ref 64), some (.int x0)], [], w) = _
    refine Eq.trans ?_ (if_neg hc75).symm
    refine (val_g (c2 := (12, d, 5, [some (.ref 64), some (.int x0)], [.int x0], w)) rfl).trans ?_
    refine (val_g (c2 := (12, d, 6, [some (.ref 64), some (.int x0)], [.ref 64, .int x0], w)) rfl).trans ?_
    refine (val_gf rfl (hW.k 64 (Nat.le_of_ble_eq_true rfl) (Nat.le_of_ble_eq_true rfl)) rfl).trans ?_
    show val (12, d, 9, [some (.ref 64), some (.int x0)], [.int (gI w 64 4), .int x0], w) = _
    by_cases hc76 : (gI w 64 4) ≤ x0
    · refine ((val_ic_ge rfl).trans (if_pos hc76)).trans ?_
      show val (12, d, 16, [some (.ref 64), some (.int x0)], [], w) = _
      refine Eq.trans ?_ (if_pos hc76).symm
      refine (val_g (c2 := (12, d, 17, [some (.ref 64), some (.int x0)], [.int 0], w)) rfl).trans ?_
      exact val_r rfl
    · refine ((val_ic_ge rfl).trans (if_neg hc76)).trans ?_
      show val (12, d, 12, [some (.ref 64), some (.int x0)], [], w) = _
      refine Eq.trans ?_ (if_neg hc76).symm
      refine (val_g (c2 := (12, d, 13, [some (.ref 64), some (.int x0)], [.int 1], w)) rfl).trans ?_
      refine (val_g (c2 := (12, d, 17, [some (.ref 64), some (.int x0)], [.int 1], w)) rfl).trans ?_
      exact val_r rfl
/-- BelfryHouse.about(II)I -/
theorem tr_13 (d : Nat) (w : Wd) (x0 : Int32) (x1 : Int32)     : val (13, d + 1, 0, [some (.ref 64), some (.int x0), some (.int x1)], [], w) = val (13, d + 1, 2, [some (.ref 64), some (.int x0), some (.int x1)], [.int x0, .ref 64], w) := by
  refine (val_g (c2 := (13, d + 1, 1, [some (.ref 64), some (.int x0), some (.int x1)], [.ref 64], w)) rfl).trans ?_
  refine (val_g (c2 := (13, d + 1, 2, [some (.ref 64), some (.int x0), some (.int x1)], [.int x0, .ref 64], w)) rfl).trans ?_
  rfl
theorem tr_13_5 (d : Nat) (w : Wd) (hW : Fix w) (l1 : Int32) (l2 : Int32) (s0 : Int32)     : val (13, d + 1, 5, [some (.ref 64), some (.int l1), some (.int l2)], [.int s0], w) = (if ¬ s0 = 0 then (if l2 = 0 then val (13, d + 1, 41, [some (.ref 64), some (.int l1), some (.int l2)], [.int l1, .ref 66], w) else (if l2 = 1 then val (13, d + 1, 51, [some (.ref 64), some (.int l1), some (.int l2)], [.int l1, .ref 66], w) else some (some (.int (-1)), w))) else some (some (.int (-1)), w)) := by
  by_cases hc80 : ¬ s0 = 0
  · refine ((val_if_ne rfl).trans (if_pos hc80)).trans ?_
    show val (13, d + 1, 10, [some (.ref 64), some (.int l1), some (.int l2)], [], w) = _
    refine Eq.trans ?_ (if_pos hc80).symm
    refine (val_g (c2 := (13, d + 1, 11, [some (.ref 64), some (.int l1), some (.int l2)], [.int l2], w)) rfl).trans ?_
    refine (val_lsI rfl).trans ?_
    show (if l2 = 0 then val (13, d + 1, 36, [some (.ref 64), some (.int l1), some (.int l2)], [], w) else if l2 = 1 then val (13, d + 1, 46, [some (.ref 64), some (.int l1), some (.int l2)], [], w) else val (13, d + 1, 56, [some (.ref 64), some (.int l1), some (.int l2)], [], w)) = _
    by_cases hc81 : l2 = 0
    · refine (if_pos hc81).trans (Eq.trans ?_ (if_pos hc81).symm)
      refine (val_g (c2 := (13, d + 1, 37, [some (.ref 64), some (.int l1), some (.int l2)], [.ref 64], w)) rfl).trans ?_
      refine (val_gf rfl (hW.k 64 (Nat.le_of_ble_eq_true rfl) (Nat.le_of_ble_eq_true rfl)) (fvR (hW.r 64 3 66 rfl))).trans ?_
      show val (13, d + 1, 40, [some (.ref 64), some (.int l1), some (.int l2)], [.ref 66], w) = _
      refine (val_g (c2 := (13, d + 1, 41, [some (.ref 64), some (.int l1), some (.int l2)], [.int l1, .ref 66], w)) rfl).trans ?_
      rfl
    · refine (if_neg hc81).trans (Eq.trans ?_ (if_neg hc81).symm)
      by_cases hc82 : l2 = 1
      · refine (if_pos hc82).trans (Eq.trans ?_ (if_pos hc82).symm)
        refine (val_g (c2 := (13, d + 1, 47, [some (.ref 64), some (.int l1), some (.int l2)], [.ref 64], w)) rfl).trans ?_
        refine (val_gf rfl (hW.k 64 (Nat.le_of_ble_eq_true rfl) (Nat.le_of_ble_eq_true rfl)) (fvR (hW.r 64 3 66 rfl))).trans ?_
        show val (13, d + 1, 50, [some (.ref 64), some (.int l1), some (.int l2)], [.ref 66], w) = _
        refine (val_g (c2 := (13, d + 1, 51, [some (.ref 64), some (.int l1), some (.int l2)], [.int l1, .ref 66], w)) rfl).trans ?_
        rfl
      · refine (if_neg hc82).trans (Eq.trans ?_ (if_neg hc82).symm)
        refine (val_g (c2 := (13, d + 1, 57, [some (.ref 64), some (.int l1), some (.int l2)], [.int (-1)], w)) rfl).trans ?_
        exact val_r rfl
  · refine ((val_if_ne rfl).trans (if_neg hc80)).trans ?_
    show val (13, d + 1, 8, [some (.ref 64), some (.int l1), some (.int l2)], [], w) = _
    refine Eq.trans ?_ (if_neg hc80).symm
    refine (val_g (c2 := (13, d + 1, 9, [some (.ref 64), some (.int l1), some (.int l2)], [.int (-1)], w)) rfl).trans ?_
    exact val_r rfl
theorem tr_13_42 (d : Nat) (w : Wd) (l1 : Int32) (l2 : Int32) (s0 : Nat)    (m_s0 : Nat) (hk_s0 : wK w s0 = (3, m_s0)) : val (13, d + 1, 42, [some (.ref 64), some (.int l1), some (.int l2)], [.ref s0], w) = some (some (.int (gI w s0 1)), w) := by
  refine (val_gf rfl hk_s0 rfl).trans ?_
  show val (13, d + 1, 45, [some (.ref 64), some (.int l1), some (.int l2)], [.int (gI w s0 1)], w) = _
  exact val_r rfl
theorem tr_13_52 (d : Nat) (w : Wd) (l1 : Int32) (l2 : Int32) (s0 : Nat)    (m_s0 : Nat) (hk_s0 : wK w s0 = (3, m_s0)) : val (13, d + 1, 52, [some (.ref 64), some (.int l1), some (.int l2)], [.ref s0], w) = some (some (.int (gI w s0 2)), w) := by
  refine (val_gf rfl hk_s0 rfl).trans ?_
  show val (13, d + 1, 55, [some (.ref 64), some (.int l1), some (.int l2)], [.int (gI w s0 2)], w) = _
  exact val_r rfl
/-- BelfryHouse.change(III)I -/
theorem tr_14 (d : Nat) (w : Wd) (hW : Fix w) (x0 : Int32) (x1 : Int32) (x2 : Int32)     : val (14, d + 3, 0, [some (.ref 64), some (.int x0), some (.int x1), some (.int x2), none], [], w) = val (14, d + 3, 5, [some (.ref 64), some (.int x0), some (.int x1), some (.int x2), none], [.int x2, .int (gI w 64 0)], w) := by
  refine (val_g (c2 := (14, d + 3, 1, [some (.ref 64), some (.int x0), some (.int x1), some (.int x2), none], [.ref 64], w)) rfl).trans ?_
  refine (val_gf rfl (hW.k 64 (Nat.le_of_ble_eq_true rfl) (Nat.le_of_ble_eq_true rfl)) rfl).trans ?_
  show val (14, d + 3, 4, [some (.ref 64), some (.int x0), some (.int x1), some (.int x2), none], [.int (gI w 64 0)], w) = _
  refine (val_g (c2 := (14, d + 3, 5, [some (.ref 64), some (.int x0), some (.int x1), some (.int x2), none], [.int x2, .int (gI w 64 0)], w)) rfl).trans ?_
  rfl
theorem tr_14_8 (d : Nat) (w : Wd) (l1 : Int32) (l2 : Int32) (l3 : Int32) (s0 : Int32)     : val (14, d + 3, 8, [some (.ref 64), some (.int l1), some (.int l2), some (.int l3), none], [.int s0], w) = val (14, d + 3, 12, [some (.ref 64), some (.int l1), some (.int l2), some (.int l3), some (.int s0)], [.int l1, .ref 64], w) := by
  refine (val_g (c2 := (14, d + 3, 10, [some (.ref 64), some (.int l1), some (.int l2), some (.int l3), some (.int s0)], [], w)) rfl).trans ?_
  refine (val_g (c2 := (14, d + 3, 11, [some (.ref 64), some (.int l1), some (.int l2), some (.int l3), some (.int s0)], [.ref 64], w)) rfl).trans ?_
  refine (val_g (c2 := (14, d + 3, 12, [some (.ref 64), some (.int l1), some (.int l2), some (.int l3), some (.int s0)], [.int l1, .ref 64], w)) rfl).trans ?_
  rfl
theorem tr_14_15 (d : Nat) (w : Wd) (hW : Fix w) (l1 : Int32) (l2 : Int32) (l3 : Int32) (l4 : Int32) (s0 : Int32)     : val (14, d + 3, 15, [some (.ref 64), some (.int l1), some (.int l2), some (.int l3), some (.int l4)], [.int s0], w) = (if s0 = 0 then some (some (.int (-1)), w) else (if ¬ l4 = (-1) then (if l2 < 0 then some (some (.int (-1)), w) else val (14, d + 3, 36, [some (.ref 64), some (.int l1), some (.int l2), some (.int l3), some (.int l4)], [.int l1, .ref 66, .int l2], w)) else some (some (.int (-1)), w))) := by
  by_cases hc87 : s0 = 0
  · refine ((val_if_eq rfl).trans (if_pos hc87)).trans ?_
    show val (14, d + 3, 24, [some (.ref 64), some (.int l1), some (.int l2), some (.int l3), some (.int l4)], [], w) = _
    refine Eq.trans ?_ (if_pos hc87).symm
    refine (val_g (c2 := (14, d + 3, 25, [some (.ref 64), some (.int l1), some (.int l2), some (.int l3), some (.int l4)], [.int (-1)], w)) rfl).trans ?_
    exact val_r rfl
  · refine ((val_if_eq rfl).trans (if_neg hc87)).trans ?_
    show val (14, d + 3, 18, [some (.ref 64), some (.int l1), some (.int l2), some (.int l3), some (.int l4)], [], w) = _
    refine Eq.trans ?_ (if_neg hc87).symm
    refine (val_g (c2 := (14, d + 3, 20, [some (.ref 64), some (.int l1), some (.int l2), some (.int l3), some (.int l4)], [.int l4], w)) rfl).trans ?_
    refine (val_g (c2 := (14, d + 3, 21, [some (.ref 64), some (.int l1), some (.int l2), some (.int l3), some (.int l4)], [.int (-1), .int l4], w)) rfl).trans ?_
    by_cases hc88 : ¬ l4 = (-1)
    · refine ((val_ic_ne rfl).trans (if_pos hc88)).trans ?_
      show val (14, d + 3, 26, [some (.ref 64), some (.int l1), some (.int l2), some (.int l3), some (.int l4)], [], w) = _
      refine Eq.trans ?_ (if_pos hc88).symm
      refine (val_g (c2 := (14, d + 3, 27, [some (.ref 64), some (.int l1), some (.int l2), some (.int l3), some (.int l4)], [.int l2], w)) rfl).trans ?_
      by_cases hc89 : l2 < 0
      · refine ((val_if_lt rfl).trans (if_pos hc89)).trans ?_
        show val (14, d + 3, 43, [some (.ref 64), some (.int l1), some (.int l2), some (.int l3), some (.int l4)], [], w) = _
        refine Eq.trans ?_ (if_pos hc89).symm
        refine (val_g (c2 := (14, d + 3, 44, [some (.ref 64), some (.int l1), some (.int l2), some (.int l3), some (.int l4)], [.int (-1)], w)) rfl).trans ?_
        exact val_r rfl
      · refine ((val_if_lt rfl).trans (if_neg hc89)).trans ?_
        show val (14, d + 3, 30, [some (.ref 64), some (.int l1), some (.int l2), some (.int l3), some (.int l4)], [], w) = _
        refine Eq.trans ?_ (if_neg hc89).symm
        refine (val_g (c2 := (14, d + 3, 31, [some (.ref 64), some (.int l1), some (.int l2), some (.int l3), some (.int l4)], [.int l2], w)) rfl).trans ?_
        refine (val_g (c2 := (14, d + 3, 32, [some (.ref 64), some (.int l1), some (.int l2), some (.int l3), some (.int l4)], [.ref 64, .int l2], w)) rfl).trans ?_
        refine (val_gf rfl (hW.k 64 (Nat.le_of_ble_eq_true rfl) (Nat.le_of_ble_eq_true rfl)) (fvR (hW.r 64 3 66 rfl))).trans ?_
        show val (14, d + 3, 35, [some (.ref 64), some (.int l1), some (.int l2), some (.int l3), some (.int l4)], [.ref 66, .int l2], w) = _
        refine (val_g (c2 := (14, d + 3, 36, [some (.ref 64), some (.int l1), some (.int l2), some (.int l3), some (.int l4)], [.int l1, .ref 66, .int l2], w)) rfl).trans ?_
        rfl
    · refine ((val_ic_ne rfl).trans (if_neg hc88)).trans ?_
      show val (14, d + 3, 24, [some (.ref 64), some (.int l1), some (.int l2), some (.int l3), some (.int l4)], [], w) = _
      refine Eq.trans ?_ (if_neg hc88).symm
      refine (val_g (c2 := (14, d + 3, 25, [some (.ref 64), some (.int l1), some (.int l2), some (.int l3), some (.int l4)], [.int (-1)], w)) rfl).trans ?_
      exact val_r rfl
theorem tr_14_37 (d : Nat) (w : Wd) (hW : Fix w) (l1 : Int32) (l2 : Int32) (l3 : Int32) (l4 : Int32) (s0 : Nat) (s1 : Int32)    (m_s0 : Nat) (hk_s0 : wK w s0 = (3, m_s0)) : val (14, d + 3, 37, [some (.ref 64), some (.int l1), some (.int l2), some (.int l3), some (.int l4)], [.ref s0, .int s1], w) = (if s1 < (gI w s0 1) then val (14, d + 3, 57, [some (.ref 64), some (.int l1), some (.int l2), some (.int l3), some (.int l4)], [.int l1, .ref 66, .int l4, .int (gI w 64 0), .ref 64], w) else some (some (.int (-1)), w)) := by
  refine (val_gf rfl hk_s0 rfl).trans ?_
  show val (14, d + 3, 40, [some (.ref 64), some (.int l1), some (.int l2), some (.int l3), some (.int l4)], [.int (gI w s0 1), .int s1], w) = _
  by_cases hc90 : s1 < (gI w s0 1)
  · refine ((val_ic_lt rfl).trans (if_pos hc90)).trans ?_
    show val (14, d + 3, 45, [some (.ref 64), some (.int l1), some (.int l2), some (.int l3), some (.int l4)], [], w) = _
    refine Eq.trans ?_ (if_pos hc90).symm
    refine (val_g (c2 := (14, d + 3, 46, [some (.ref 64), some (.int l1), some (.int l2), some (.int l3), some (.int l4)], [.ref 64], w)) rfl).trans ?_
    refine (val_g (c2 := (14, d + 3, 47, [some (.ref 64), some (.int l1), some (.int l2), some (.int l3), some (.int l4)], [.ref 64, .ref 64], w)) rfl).trans ?_
    refine (val_gf rfl (hW.k 64 (Nat.le_of_ble_eq_true rfl) (Nat.le_of_ble_eq_true rfl)) rfl).trans ?_
    show val (14, d + 3, 50, [some (.ref 64), some (.int l1), some (.int l2), some (.int l3), some (.int l4)], [.int (gI w 64 0), .ref 64], w) = _
    refine (val_g (c2 := (14, d + 3, 52, [some (.ref 64), some (.int l1), some (.int l2), some (.int l3), some (.int l4)], [.int l4, .int (gI w 64 0), .ref 64], w)) rfl).trans ?_
    refine (val_g (c2 := (14, d + 3, 53, [some (.ref 64), some (.int l1), some (.int l2), some (.int l3), some (.int l4)], [.ref 64, .int l4, .int (gI w 64 0), .ref 64], w)) rfl).trans ?_
    refine (val_gf rfl (hW.k 64 (Nat.le_of_ble_eq_true rfl) (Nat.le_of_ble_eq_true rfl)) (fvR (hW.r 64 3 66 rfl))).trans ?_
    show val (14, d + 3, 56, [some (.ref 64), some (.int l1), some (.int l2), some (.int l3), some (.int l4)], [.ref 66, .int l4, .int (gI w 64 0), .ref 64], w) = _
    refine (val_g (c2 := (14, d + 3, 57, [some (.ref 64), some (.int l1), some (.int l2), some (.int l3), some (.int l4)], [.int l1, .ref 66, .int l4, .int (gI w 64 0), .ref 64], w)) rfl).trans ?_
    rfl
  · refine ((val_ic_lt rfl).trans (if_neg hc90)).trans ?_
    show val (14, d + 3, 43, [some (.ref 64), some (.int l1), some (.int l2), some (.int l3), some (.int l4)], [], w) = _
    refine Eq.trans ?_ (if_neg hc90).symm
    refine (val_g (c2 := (14, d + 3, 44, [some (.ref 64), some (.int l1), some (.int l2), some (.int l3), some (.int l4)], [.int (-1)], w)) rfl).trans ?_
    exact val_r rfl
theorem tr_14_58 (d : Nat) (w : Wd) (l1 : Int32) (l2 : Int32) (l3 : Int32) (l4 : Int32) (s0 : Nat) (s1 : Int32) (s2 : Int32)    (m_s0 : Nat) (hk_s0 : wK w s0 = (3, m_s0)) (q0_s0 : Nat) (hr0_s0 : gR w s0 0 = some q0_s0) : val (14, d + 3, 58, [some (.ref 64), some (.int l1), some (.int l2), some (.int l3), some (.int l4)], [.ref s0, .int s1, .int s2, .ref 64], w) = val (14, d + 3, 62, [some (.ref 64), some (.int l1), some (.int l2), some (.int l3), some (.int l4)], [.int l2, .ref q0_s0, .int s1, .int s2, .ref 64], w) := by
  refine (val_gf rfl hk_s0 (fvR hr0_s0)).trans ?_
  show val (14, d + 3, 61, [some (.ref 64), some (.int l1), some (.int l2), some (.int l3), some (.int l4)], [.ref q0_s0, .int s1, .int s2, .ref 64], w) = _
  refine (val_g (c2 := (14, d + 3, 62, [some (.ref 64), some (.int l1), some (.int l2), some (.int l3), some (.int l4)], [.int l2, .ref q0_s0, .int s1, .int s2, .ref 64], w)) rfl).trans ?_
  rfl
theorem tr_14_63 (d : Nat) (w : Wd) (l1 : Int32) (l2 : Int32) (l3 : Int32) (l4 : Int32) (s0 : Nat) (s1 : Int32) (s2 : Int32)    (m_s0 : Nat) (hk_s0 : wK w s0 = (6, m_s0)) : val (14, d + 3, 63, [some (.ref 64), some (.int l1), some (.int l2), some (.int l3), some (.int l4)], [.ref s0, .int s1, .int s2, .ref 64], w) = val (14, d + 3, 66, [some (.ref 64), some (.int l1), some (.int l2), some (.int l3), some (.int l4)], [.int (gI w s0 5), .int s1, .int s2, .ref 64], w) := by
  refine (val_gf rfl hk_s0 rfl).trans ?_
  show val (14, d + 3, 66, [some (.ref 64), some (.int l1), some (.int l2), some (.int l3), some (.int l4)], [.int (gI w s0 5), .int s1, .int s2, .ref 64], w) = _
  rfl
theorem tr_14_72 (d : Nat) (w : Wd) (l1 : Int32) (l2 : Int32) (l3 : Int32) (l4 : Int32) (s0 : Int32)     : val (14, d + 3, 72, [some (.ref 64), some (.int l1), some (.int l2), some (.int l3), some (.int l4)], [.int s0], w) = some (some (.int s0), w) := by
  exact val_r rfl
/-- BelfryHouse.ring(I)I -/
theorem tr_15 (d : Nat) (w : Wd) (x0 : Int32)     : val (15, d + 2, 0, [some (.ref 64), some (.int x0)], [], w) = val (15, d + 2, 2, [some (.ref 64), some (.int x0)], [.int x0, .ref 64], w) := by
  refine (val_g (c2 := (15, d + 2, 1, [some (.ref 64), some (.int x0)], [.ref 64], w)) rfl).trans ?_
  refine (val_g (c2 := (15, d + 2, 2, [some (.ref 64), some (.int x0)], [.int x0, .ref 64], w)) rfl).trans ?_
  rfl
theorem tr_15_5 (d : Nat) (w : Wd) (hW : Fix w) (l1 : Int32) (s0 : Int32)     : val (15, d + 2, 5, [some (.ref 64), some (.int l1)], [.int s0], w) = (if ¬ s0 = 0 then val (15, d + 2, 19, [some (.ref 64), some (.int l1)], [.int l1, .ref 66, .ref 67], w) else some (some (.int (-1)), w)) := by
  by_cases hc92 : ¬ s0 = 0
  · refine ((val_if_ne rfl).trans (if_pos hc92)).trans ?_
    show val (15, d + 2, 10, [some (.ref 64), some (.int l1)], [], w) = _
    refine Eq.trans ?_ (if_pos hc92).symm
    refine (val_g (c2 := (15, d + 2, 11, [some (.ref 64), some (.int l1)], [.ref 64], w)) rfl).trans ?_
    refine (val_gf rfl (hW.k 64 (Nat.le_of_ble_eq_true rfl) (Nat.le_of_ble_eq_true rfl)) (fvR (hW.r 64 5 67 rfl))).trans ?_
    show val (15, d + 2, 14, [some (.ref 64), some (.int l1)], [.ref 67], w) = _
    refine (val_g (c2 := (15, d + 2, 15, [some (.ref 64), some (.int l1)], [.ref 64, .ref 67], w)) rfl).trans ?_
    refine (val_gf rfl (hW.k 64 (Nat.le_of_ble_eq_true rfl) (Nat.le_of_ble_eq_true rfl)) (fvR (hW.r 64 3 66 rfl))).trans ?_
    show val (15, d + 2, 18, [some (.ref 64), some (.int l1)], [.ref 66, .ref 67], w) = _
    refine (val_g (c2 := (15, d + 2, 19, [some (.ref 64), some (.int l1)], [.int l1, .ref 66, .ref 67], w)) rfl).trans ?_
    rfl
  · refine ((val_if_ne rfl).trans (if_neg hc92)).trans ?_
    show val (15, d + 2, 8, [some (.ref 64), some (.int l1)], [], w) = _
    refine Eq.trans ?_ (if_neg hc92).symm
    refine (val_g (c2 := (15, d + 2, 9, [some (.ref 64), some (.int l1)], [.int (-1)], w)) rfl).trans ?_
    exact val_r rfl
theorem tr_15_20 (d : Nat) (w : Wd) (hW : Fix w) (l1 : Int32) (s0 : Nat)     : val (15, d + 2, 20, [some (.ref 64), some (.int l1)], [.ref s0, .ref 67], w) = val (15, d + 2, 24, [some (.ref 64), some (.int l1)], [.int (gI w 64 0), .ref s0, .ref 67], w) := by
  refine (val_g (c2 := (15, d + 2, 21, [some (.ref 64), some (.int l1)], [.ref 64, .ref s0, .ref 67], w)) rfl).trans ?_
  refine (val_gf rfl (hW.k 64 (Nat.le_of_ble_eq_true rfl) (Nat.le_of_ble_eq_true rfl)) rfl).trans ?_
  show val (15, d + 2, 24, [some (.ref 64), some (.int l1)], [.int (gI w 64 0), .ref s0, .ref 67], w) = _
  rfl
theorem tr_15_27 (d : Nat) (w : Wd) (l1 : Int32)     : val (15, d + 2, 27, [some (.ref 64), some (.int l1)], [], w) = some (some (.int 0), w) := by
  refine (val_g (c2 := (15, d + 2, 28, [some (.ref 64), some (.int l1)], [.int 0], w)) rfl).trans ?_
  exact val_r rfl
/-- BelfryHouse.call(II)I -/
theorem tr_16 (d : Nat) (w : Wd) (hW : Fix w) (x0 : Int32) (x1 : Int32)     : val (16, d + 1, 0, [some (.ref 64), some (.int x0), some (.int x1)], [], w) = (if x0 < 0 then some (some (.int (-1)), w) else (if 2000 ≤ x0 then some (some (.int (-1)), w) else (if x1 < 0 then some (some (.int (-1)), w) else (if x1 ≤ 1 then val (16, d + 1, 26, [some (.ref 64), some (.int x0), some (.int x1)], [.ref 67], w) else some (some (.int (-1)), w))))) := by
  refine (val_g (c2 := (16, d + 1, 1, [some (.ref 64), some (.int x0), some (.int x1)], [.int x0], w)) rfl).trans ?_
  by_cases hc98 : x0 < 0
  · refine ((val_if_lt rfl).trans (if_pos hc98)).trans ?_
    show val (16, d + 1, 20, [some (.ref 64), some (.int x0), some (.int x1)], [], w) = _
    refine Eq.trans ?_ (if_pos hc98).symm
    refine (val_g (c2 := (16, d + 1, 21, [some (.ref 64), some (.int x0), some (.int x1)], [.int (-1)], w)) rfl).trans ?_
    exact val_r rfl
  · refine ((val_if_lt rfl).trans (if_neg hc98)).trans ?_
    show val (16, d + 1, 4, [some (.ref 64), some (.int x0), some (.int x1)], [], w) = _
    refine Eq.trans ?_ (if_neg hc98).symm
    refine (val_g (c2 := (16, d + 1, 5, [some (.ref 64), some (.int x0), some (.int x1)], [.int x0], w)) rfl).trans ?_
    refine (val_g (c2 := (16, d + 1, 8, [some (.ref 64), some (.int x0), some (.int x1)], [.int 2000, .int x0], w)) rfl).trans ?_
    by_cases hc99 : 2000 ≤ x0
    · refine ((val_ic_ge rfl).trans (if_pos hc99)).trans ?_
      show val (16, d + 1, 20, [some (.ref 64), some (.int x0), some (.int x1)], [], w) = _
      refine Eq.trans ?_ (if_pos hc99).symm
      refine (val_g (c2 := (16, d + 1, 21, [some (.ref 64), some (.int x0), some (.int x1)], [.int (-1)], w)) rfl).trans ?_
      exact val_r rfl
    · refine ((val_ic_ge rfl).trans (if_neg hc99)).trans ?_
      show val (16, d + 1, 11, [some (.ref 64), some (.int x0), some (.int x1)], [], w) = _
      refine Eq.trans ?_ (if_neg hc99).symm
      refine (val_g (c2 := (16, d + 1, 12, [some (.ref 64), some (.int x0), some (.int x1)], [.int x1], w)) rfl).trans ?_
      by_cases hc100 : x1 < 0
      · refine ((val_if_lt rfl).trans (if_pos hc100)).trans ?_
        show val (16, d + 1, 20, [some (.ref 64), some (.int x0), some (.int x1)], [], w) = _
        refine Eq.trans ?_ (if_pos hc100).symm
        refine (val_g (c2 := (16, d + 1, 21, [some (.ref 64), some (.int x0), some (.int x1)], [.int (-1)], w)) rfl).trans ?_
        exact val_r rfl
      · refine ((val_if_lt rfl).trans (if_neg hc100)).trans ?_
        show val (16, d + 1, 15, [some (.ref 64), some (.int x0), some (.int x1)], [], w) = _
        refine Eq.trans ?_ (if_neg hc100).symm
        refine (val_g (c2 := (16, d + 1, 16, [some (.ref 64), some (.int x0), some (.int x1)], [.int x1], w)) rfl).trans ?_
        refine (val_g (c2 := (16, d + 1, 17, [some (.ref 64), some (.int x0), some (.int x1)], [.int 1, .int x1], w)) rfl).trans ?_
        by_cases hc101 : x1 ≤ 1
        · refine ((val_ic_le rfl).trans (if_pos hc101)).trans ?_
          show val (16, d + 1, 22, [some (.ref 64), some (.int x0), some (.int x1)], [], w) = _
          refine Eq.trans ?_ (if_pos hc101).symm
          refine (val_g (c2 := (16, d + 1, 23, [some (.ref 64), some (.int x0), some (.int x1)], [.ref 64], w)) rfl).trans ?_
          refine (val_gf rfl (hW.k 64 (Nat.le_of_ble_eq_true rfl) (Nat.le_of_ble_eq_true rfl)) (fvR (hW.r 64 5 67 rfl))).trans ?_
          show val (16, d + 1, 26, [some (.ref 64), some (.int x0), some (.int x1)], [.ref 67], w) = _
          rfl
        · refine ((val_ic_le rfl).trans (if_neg hc101)).trans ?_
          show val (16, d + 1, 20, [some (.ref 64), some (.int x0), some (.int x1)], [], w) = _
          refine Eq.trans ?_ (if_neg hc101).symm
          refine (val_g (c2 := (16, d + 1, 21, [some (.ref 64), some (.int x0), some (.int x1)], [.int (-1)], w)) rfl).trans ?_
          exact val_r rfl
theorem tr_16_29 (d : Nat) (w : Wd) (hW : Fix w) (l1 : Int32) (l2 : Int32) (s0 : Int32)    (hy1 : (¬ s0 = 0) → inB l1 2000 = true) : val (16, d + 1, 29, [some (.ref 64), some (.int l1), some (.int l2)], [.int s0], w) = (if ¬ s0 = 0 then some (some (.int 0), (sI w 69 (l1).toNatClampNeg ((vp_nar .byte ((Int8.toInt32 (Int32.toInt8 l2))))))) else some (some (.int (-2)), w)) := by
  by_cases hc102 : ¬ s0 = 0
  · refine ((val_if_ne rfl).trans (if_pos hc102)).trans ?_
    show val (16, d + 1, 35, [some (.ref 64), some (.int l1), some (.int l2)], [], w) = _
    refine Eq.trans ?_ (if_pos hc102).symm
    refine (val_g (c2 := (16, d + 1, 36, [some (.ref 64), some (.int l1), some (.int l2)], [.ref 64], w)) rfl).trans ?_
    refine (val_gf rfl (hW.k 64 (Nat.le_of_ble_eq_true rfl) (Nat.le_of_ble_eq_true rfl)) (fvR (hW.r 64 5 67 rfl))).trans ?_
    show val (16, d + 1, 39, [some (.ref 64), some (.int l1), some (.int l2)], [.ref 67], w) = _
    refine (val_gf rfl (hW.k 67 (Nat.le_of_ble_eq_true rfl) (Nat.le_of_ble_eq_true rfl)) (fvR (hW.r 67 2 69 rfl))).trans ?_
    show val (16, d + 1, 42, [some (.ref 64), some (.int l1), some (.int l2)], [.ref 69], w) = _
    refine (val_g (c2 := (16, d + 1, 43, [some (.ref 64), some (.int l1), some (.int l2)], [.int l1, .ref 69], w)) rfl).trans ?_
    refine (val_g (c2 := (16, d + 1, 44, [some (.ref 64), some (.int l1), some (.int l2)], [.int l2, .int l1, .ref 69], w)) rfl).trans ?_
    refine (val_g (c2 := (16, d + 1, 45, [some (.ref 64), some (.int l1), some (.int l2)], [.int (Int8.toInt32 (Int32.toInt8 l2)), .int l1, .ref 69], w)) rfl).trans ?_
    refine (val_basB rfl (hW.k 69 (Nat.le_of_ble_eq_true rfl) (Nat.le_of_ble_eq_true rfl)) (hy1 hc102)).trans ?_
    show val (16, d + 1, 46, [some (.ref 64), some (.int l1), some (.int l2)], [], (sI w 69 (l1).toNatClampNeg ((vp_nar .byte ((Int8.toInt32 (Int32.toInt8 l2))))))) = _
    refine (val_g (c2 := (16, d + 1, 47, [some (.ref 64), some (.int l1), some (.int l2)], [.int 0], (sI w 69 (l1).toNatClampNeg ((vp_nar .byte ((Int8.toInt32 (Int32.toInt8 l2)))))))) rfl).trans ?_
    exact val_r rfl
  · refine ((val_if_ne rfl).trans (if_neg hc102)).trans ?_
    show val (16, d + 1, 32, [some (.ref 64), some (.int l1), some (.int l2)], [], w) = _
    refine Eq.trans ?_ (if_neg hc102).symm
    refine (val_g (c2 := (16, d + 1, 34, [some (.ref 64), some (.int l1), some (.int l2)], [.int (-2)], w)) rfl).trans ?_
    exact val_r rfl
/-- BelfryHouse.go(I)I -/
theorem tr_17 (d : Nat) (w : Wd) (hW : Fix w) (x0 : Int32)     : val (17, d + 7, 0, [some (.ref 64), some (.int x0)], [], w) = (if x0 < 1 then some (some (.int (-1)), w) else (if x0 ≤ 500 then val (17, d + 7, 18, [some (.ref 64), some (.int x0)], [.ref 67], w) else some (some (.int (-1)), w))) := by
  refine (val_g (c2 := (17, d + 7, 1, [some (.ref 64), some (.int x0)], [.int x0], w)) rfl).trans ?_
  refine (val_g (c2 := (17, d + 7, 2, [some (.ref 64), some (.int x0)], [.int 1, .int x0], w)) rfl).trans ?_
  by_cases hc106 : x0 < 1
  · refine ((val_ic_lt rfl).trans (if_pos hc106)).trans ?_
    show val (17, d + 7, 12, [some (.ref 64), some (.int x0)], [], w) = _
    refine Eq.trans ?_ (if_pos hc106).symm
    refine (val_g (c2 := (17, d + 7, 13, [some (.ref 64), some (.int x0)], [.int (-1)], w)) rfl).trans ?_
    exact val_r rfl
  · refine ((val_ic_lt rfl).trans (if_neg hc106)).trans ?_
    show val (17, d + 7, 5, [some (.ref 64), some (.int x0)], [], w) = _
    refine Eq.trans ?_ (if_neg hc106).symm
    refine (val_g (c2 := (17, d + 7, 6, [some (.ref 64), some (.int x0)], [.int x0], w)) rfl).trans ?_
    refine (val_g (c2 := (17, d + 7, 9, [some (.ref 64), some (.int x0)], [.int 500, .int x0], w)) rfl).trans ?_
    by_cases hc107 : x0 ≤ 500
    · refine ((val_ic_le rfl).trans (if_pos hc107)).trans ?_
      show val (17, d + 7, 14, [some (.ref 64), some (.int x0)], [], w) = _
      refine Eq.trans ?_ (if_pos hc107).symm
      refine (val_g (c2 := (17, d + 7, 15, [some (.ref 64), some (.int x0)], [.ref 64], w)) rfl).trans ?_
      refine (val_gf rfl (hW.k 64 (Nat.le_of_ble_eq_true rfl) (Nat.le_of_ble_eq_true rfl)) (fvR (hW.r 64 5 67 rfl))).trans ?_
      show val (17, d + 7, 18, [some (.ref 64), some (.int x0)], [.ref 67], w) = _
      rfl
    · refine ((val_ic_le rfl).trans (if_neg hc107)).trans ?_
      show val (17, d + 7, 12, [some (.ref 64), some (.int x0)], [], w) = _
      refine Eq.trans ?_ (if_neg hc107).symm
      refine (val_g (c2 := (17, d + 7, 13, [some (.ref 64), some (.int x0)], [.int (-1)], w)) rfl).trans ?_
      exact val_r rfl
theorem tr_17_21 (d : Nat) (w : Wd) (hW : Fix w) (l1 : Int32) (s0 : Int32)     : val (17, d + 7, 21, [some (.ref 64), some (.int l1)], [.int s0], w) = (if ¬ s0 = 0 then val (17, d + 7, 36, [some (.ref 64), some (.int l1)], [.int (gI w 64 0), .int l1, .ref 67], w) else some (some (.int (-2)), w)) := by
  by_cases hc108 : ¬ s0 = 0
  · refine ((val_if_ne rfl).trans (if_pos hc108)).trans ?_
    show val (17, d + 7, 27, [some (.ref 64), some (.int l1)], [], w) = _
    refine Eq.trans ?_ (if_pos hc108).symm
    refine (val_g (c2 := (17, d + 7, 28, [some (.ref 64), some (.int l1)], [.ref 64], w)) rfl).trans ?_
    refine (val_gf rfl (hW.k 64 (Nat.le_of_ble_eq_true rfl) (Nat.le_of_ble_eq_true rfl)) (fvR (hW.r 64 5 67 rfl))).trans ?_
    show val (17, d + 7, 31, [some (.ref 64), some (.int l1)], [.ref 67], w) = _
    refine (val_g (c2 := (17, d + 7, 32, [some (.ref 64), some (.int l1)], [.int l1, .ref 67], w)) rfl).trans ?_
    refine (val_g (c2 := (17, d + 7, 33, [some (.ref 64), some (.int l1)], [.ref 64, .int l1, .ref 67], w)) rfl).trans ?_
    refine (val_gf rfl (hW.k 64 (Nat.le_of_ble_eq_true rfl) (Nat.le_of_ble_eq_true rfl)) rfl).trans ?_
    show val (17, d + 7, 36, [some (.ref 64), some (.int l1)], [.int (gI w 64 0), .int l1, .ref 67], w) = _
    rfl
  · refine ((val_if_ne rfl).trans (if_neg hc108)).trans ?_
    show val (17, d + 7, 24, [some (.ref 64), some (.int l1)], [], w) = _
    refine Eq.trans ?_ (if_neg hc108).symm
    refine (val_g (c2 := (17, d + 7, 26, [some (.ref 64), some (.int l1)], [.int (-2)], w)) rfl).trans ?_
    exact val_r rfl
theorem tr_17_39 (d : Nat) (w : Wd) (l1 : Int32) (s0 : Int32)     : val (17, d + 7, 39, [some (.ref 64), some (.int l1)], [.int s0], w) = some (some (.int s0), w) := by
  exact val_r rfl
/-- BelfryHouse.rowAt(I)I -/
theorem tr_18 (d : Nat) (w : Wd) (hW : Fix w) (x0 : Int32)     : val (18, d + 3, 0, [some (.ref 64), some (.int x0)], [], w) = val (18, d + 3, 6, [some (.ref 64), some (.int x0)], [.int 1, .int x0, .ref 67], w) := by
  refine (val_g (c2 := (18, d + 3, 1, [some (.ref 64), some (.int x0)], [.ref 64], w)) rfl).trans ?_
  refine (val_gf rfl (hW.k 64 (Nat.le_of_ble_eq_true rfl) (Nat.le_of_ble_eq_true rfl)) (fvR (hW.r 64 5 67 rfl))).trans ?_
  show val (18, d + 3, 4, [some (.ref 64), some (.int x0)], [.ref 67], w) = _
  refine (val_g (c2 := (18, d + 3, 5, [some (.ref 64), some (.int x0)], [.int x0, .ref 67], w)) rfl).trans ?_
  refine (val_g (c2 := (18, d + 3, 6, [some (.ref 64), some (.int x0)], [.int 1, .int x0, .ref 67], w)) rfl).trans ?_
  rfl
theorem tr_18_9 (d : Nat) (w : Wd) (hW : Fix w) (l1 : Int32) (s0 : Int32)    (hy1 : (¬ (s0 = 0)) → inB l1 2001 = true) : val (18, d + 3, 9, [some (.ref 64), some (.int l1)], [.int s0], w) = (if s0 = 0 then some (some (.int (-1)), w) else val (18, d + 3, 22, [some (.ref 64), some (.int l1)], [.int (gI w 68 (l1).toNatClampNeg), .ref 64], w)) := by
  by_cases hc110 : s0 = 0
  · refine ((val_if_eq rfl).trans (if_pos hc110)).trans ?_
    show val (18, d + 3, 28, [some (.ref 64), some (.int l1)], [], w) = _
    refine Eq.trans ?_ (if_pos hc110).symm
    refine (val_g (c2 := (18, d + 3, 29, [some (.ref 64), some (.int l1)], [.int (-1)], w)) rfl).trans ?_
    exact val_r rfl
  · refine ((val_if_eq rfl).trans (if_neg hc110)).trans ?_
    show val (18, d + 3, 12, [some (.ref 64), some (.int l1)], [], w) = _
    refine Eq.trans ?_ (if_neg hc110).symm
    refine (val_g (c2 := (18, d + 3, 13, [some (.ref 64), some (.int l1)], [.ref 64], w)) rfl).trans ?_
    refine (val_g (c2 := (18, d + 3, 14, [some (.ref 64), some (.int l1)], [.ref 64, .ref 64], w)) rfl).trans ?_
    refine (val_gf rfl (hW.k 64 (Nat.le_of_ble_eq_true rfl) (Nat.le_of_ble_eq_true rfl)) (fvR (hW.r 64 5 67 rfl))).trans ?_
    show val (18, d + 3, 17, [some (.ref 64), some (.int l1)], [.ref 67, .ref 64], w) = _
    refine (val_gf rfl (hW.k 67 (Nat.le_of_ble_eq_true rfl) (Nat.le_of_ble_eq_true rfl)) (fvR (hW.r 67 1 68 rfl))).trans ?_
    show val (18, d + 3, 20, [some (.ref 64), some (.int l1)], [.ref 68, .ref 64], w) = _
    refine (val_g (c2 := (18, d + 3, 21, [some (.ref 64), some (.int l1)], [.int l1, .ref 68, .ref 64], w)) rfl).trans ?_
    refine (val_ial rfl (hW.k 68 (Nat.le_of_ble_eq_true rfl) (Nat.le_of_ble_eq_true rfl)) rfl (hy1 hc110)).trans ?_
    show val (18, d + 3, 22, [some (.ref 64), some (.int l1)], [.int (gI w 68 (l1).toNatClampNeg), .ref 64], w) = _
    rfl
theorem tr_18_25 (d : Nat) (w : Wd) (l1 : Int32) (s0 : Int32)     : val (18, d + 3, 25, [some (.ref 64), some (.int l1)], [.int s0], w) = some (some (.int s0), w) := by
  refine (val_g (c2 := (18, d + 3, 29, [some (.ref 64), some (.int l1)], [.int s0], w)) rfl).trans ?_
  exact val_r rfl
/-- BelfryHouse.run(I)I -/
theorem tr_19 (d : Nat) (w : Wd) (hW : Fix w) (x0 : Int32)     : val (19, d + 1, 0, [some (.ref 64), some (.int x0)], [], w) = (if x0 < 0 then some (some (.int (-1)), w) else (if x0 ≤ 3 then val (19, d + 1, 15, [some (.ref 64), some (.int x0)], [.ref 67], w) else some (some (.int (-1)), w))) := by
  refine (val_g (c2 := (19, d + 1, 1, [some (.ref 64), some (.int x0)], [.int x0], w)) rfl).trans ?_
  by_cases hc118 : x0 < 0
  · refine ((val_if_lt rfl).trans (if_pos hc118)).trans ?_
    show val (19, d + 1, 9, [some (.ref 64), some (.int x0)], [], w) = _
    refine Eq.trans ?_ (if_pos hc118).symm
    refine (val_g (c2 := (19, d + 1, 10, [some (.ref 64), some (.int x0)], [.int (-1)], w)) rfl).trans ?_
    exact val_r rfl
  · refine ((val_if_lt rfl).trans (if_neg hc118)).trans ?_
    show val (19, d + 1, 4, [some (.ref 64), some (.int x0)], [], w) = _
    refine Eq.trans ?_ (if_neg hc118).symm
    refine (val_g (c2 := (19, d + 1, 5, [some (.ref 64), some (.int x0)], [.int x0], w)) rfl).trans ?_
    refine (val_g (c2 := (19, d + 1, 6, [some (.ref 64), some (.int x0)], [.int 3, .int x0], w)) rfl).trans ?_
    by_cases hc119 : x0 ≤ 3
    · refine ((val_ic_le rfl).trans (if_pos hc119)).trans ?_
      show val (19, d + 1, 11, [some (.ref 64), some (.int x0)], [], w) = _
      refine Eq.trans ?_ (if_pos hc119).symm
      refine (val_g (c2 := (19, d + 1, 12, [some (.ref 64), some (.int x0)], [.ref 64], w)) rfl).trans ?_
      refine (val_gf rfl (hW.k 64 (Nat.le_of_ble_eq_true rfl) (Nat.le_of_ble_eq_true rfl)) (fvR (hW.r 64 5 67 rfl))).trans ?_
      show val (19, d + 1, 15, [some (.ref 64), some (.int x0)], [.ref 67], w) = _
      rfl
    · refine ((val_ic_le rfl).trans (if_neg hc119)).trans ?_
      show val (19, d + 1, 9, [some (.ref 64), some (.int x0)], [], w) = _
      refine Eq.trans ?_ (if_neg hc119).symm
      refine (val_g (c2 := (19, d + 1, 10, [some (.ref 64), some (.int x0)], [.int (-1)], w)) rfl).trans ?_
      exact val_r rfl
theorem tr_19_18 (d : Nat) (w : Wd) (hW : Fix w) (l1 : Int32) (s0 : Int32)     : val (19, d + 1, 18, [some (.ref 64), some (.int l1)], [.int s0], w) = (if ¬ s0 = 0 then (if l1 = 0 then some (some (.int (gI w 67 9)), w) else (if l1 = 1 then (if (gI w 67 10) = 0 then some (some (.int 0), w) else some (some (.int 1), w)) else (if l1 = 2 then some (some (.int (gI w 67 11)), w) else some (some (.int (gI w 67 12)), w)))) else some (some (.int (-2)), w)) := by
  by_cases hc120 : ¬ s0 = 0
  · refine ((val_if_ne rfl).trans (if_pos hc120)).trans ?_
    show val (19, d + 1, 24, [some (.ref 64), some (.int l1)], [], w) = _
    refine Eq.trans ?_ (if_pos hc120).symm
    refine (val_g (c2 := (19, d + 1, 25, [some (.ref 64), some (.int l1)], [.int l1], w)) rfl).trans ?_
    refine (val_tsI rfl).trans ?_
    show (if l1 = 0 then val (19, d + 1, 52, [some (.ref 64), some (.int l1)], [], w) else if l1 = 1 then val (19, d + 1, 60, [some (.ref 64), some (.int l1)], [], w) else if l1 = 2 then val (19, d + 1, 76, [some (.ref 64), some (.int l1)], [], w) else val (19, d + 1, 84, [some (.ref 64), some (.int l1)], [], w)) = _
    by_cases hc121 : l1 = 0
    · refine (if_pos hc121).trans (Eq.trans ?_ (if_pos hc121).symm)
      refine (val_g (c2 := (19, d + 1, 53, [some (.ref 64), some (.int l1)], [.ref 64], w)) rfl).trans ?_
      refine (val_gf rfl (hW.k 64 (Nat.le_of_ble_eq_true rfl) (Nat.le_of_ble_eq_true rfl)) (fvR (hW.r 64 5 67 rfl))).trans ?_
      show val (19, d + 1, 56, [some (.ref 64), some (.int l1)], [.ref 67], w) = _
      refine (val_gf rfl (hW.k 67 (Nat.le_of_ble_eq_true rfl) (Nat.le_of_ble_eq_true rfl)) rfl).trans ?_
      show val (19, d + 1, 59, [some (.ref 64), some (.int l1)], [.int (gI w 67 9)], w) = _
      exact val_r rfl
    · refine (if_neg hc121).trans (Eq.trans ?_ (if_neg hc121).symm)
      by_cases hc122 : l1 = 1
      · refine (if_pos hc122).trans (Eq.trans ?_ (if_pos hc122).symm)
        refine (val_g (c2 := (19, d + 1, 61, [some (.ref 64), some (.int l1)], [.ref 64], w)) rfl).trans ?_
        refine (val_gf rfl (hW.k 64 (Nat.le_of_ble_eq_true rfl) (Nat.le_of_ble_eq_true rfl)) (fvR (hW.r 64 5 67 rfl))).trans ?_
        show val (19, d + 1, 64, [some (.ref 64), some (.int l1)], [.ref 67], w) = _
        refine (val_gf rfl (hW.k 67 (Nat.le_of_ble_eq_true rfl) (Nat.le_of_ble_eq_true rfl)) rfl).trans ?_
        show val (19, d + 1, 67, [some (.ref 64), some (.int l1)], [.int (gI w 67 10)], w) = _
        by_cases hc123 : (gI w 67 10) = 0
        · refine ((val_if_eq rfl).trans (if_pos hc123)).trans ?_
          show val (19, d + 1, 74, [some (.ref 64), some (.int l1)], [], w) = _
          refine Eq.trans ?_ (if_pos hc123).symm
          refine (val_g (c2 := (19, d + 1, 75, [some (.ref 64), some (.int l1)], [.int 0], w)) rfl).trans ?_
          exact val_r rfl
        · refine ((val_if_eq rfl).trans (if_neg hc123)).trans ?_
          show val (19, d + 1, 70, [some (.ref 64), some (.int l1)], [], w) = _
          refine Eq.trans ?_ (if_neg hc123).symm
          refine (val_g (c2 := (19, d + 1, 71, [some (.ref 64), some (.int l1)], [.int 1], w)) rfl).trans ?_
          refine (val_g (c2 := (19, d + 1, 75, [some (.ref 64), some (.int l1)], [.int 1], w)) rfl).trans ?_
          exact val_r rfl
      · refine (if_neg hc122).trans (Eq.trans ?_ (if_neg hc122).symm)
        by_cases hc124 : l1 = 2
        · refine (if_pos hc124).trans (Eq.trans ?_ (if_pos hc124).symm)
          refine (val_g (c2 := (19, d + 1, 77, [some (.ref 64), some (.int l1)], [.ref 64], w)) rfl).trans ?_
          refine (val_gf rfl (hW.k 64 (Nat.le_of_ble_eq_true rfl) (Nat.le_of_ble_eq_true rfl)) (fvR (hW.r 64 5 67 rfl))).trans ?_
          show val (19, d + 1, 80, [some (.ref 64), some (.int l1)], [.ref 67], w) = _
          refine (val_gf rfl (hW.k 67 (Nat.le_of_ble_eq_true rfl) (Nat.le_of_ble_eq_true rfl)) rfl).trans ?_
          show val (19, d + 1, 83, [some (.ref 64), some (.int l1)], [.int (gI w 67 11)], w) = _
          exact val_r rfl
        · refine (if_neg hc124).trans (Eq.trans ?_ (if_neg hc124).symm)
          refine (val_g (c2 := (19, d + 1, 85, [some (.ref 64), some (.int l1)], [.ref 64], w)) rfl).trans ?_
          refine (val_gf rfl (hW.k 64 (Nat.le_of_ble_eq_true rfl) (Nat.le_of_ble_eq_true rfl)) (fvR (hW.r 64 5 67 rfl))).trans ?_
          show val (19, d + 1, 88, [some (.ref 64), some (.int l1)], [.ref 67], w) = _
          refine (val_gf rfl (hW.k 67 (Nat.le_of_ble_eq_true rfl) (Nat.le_of_ble_eq_true rfl)) rfl).trans ?_
          show val (19, d + 1, 91, [some (.ref 64), some (.int l1)], [.int (gI w 67 12)], w) = _
          exact val_r rfl
  · refine ((val_if_ne rfl).trans (if_neg hc120)).trans ?_
    show val (19, d + 1, 21, [some (.ref 64), some (.int l1)], [], w) = _
    refine Eq.trans ?_ (if_neg hc120).symm
    refine (val_g (c2 := (19, d + 1, 23, [some (.ref 64), some (.int l1)], [.int (-2)], w)) rfl).trans ?_
    exact val_r rfl
/-- BelfryHouse.truth(II)I -/
theorem tr_20 (d : Nat) (w : Wd) (hW : Fix w) (x0 : Int32) (x1 : Int32)     : val (20, d + 1, 0, [some (.ref 64), some (.int x0), some (.int x1), none], [], w) = (if x0 < 1 then some (some (.int (-1)), w) else (if 9 < x0 then some (some (.int (-1)), w) else (if x1 < 0 then some (some (.int (-1)), w) else (if x1 ≤ 1 then val (20, d + 1, 26, [some (.ref 64), some (.int x0), some (.int x1), none], [.ref 67], w) else some (some (.int (-1)), w))))) := by
  refine (val_g (c2 := (20, d + 1, 1, [some (.ref 64), some (.int x0), some (.int x1), none], [.int x0], w)) rfl).trans ?_
  refine (val_g (c2 := (20, d + 1, 2, [some (.ref 64), some (.int x0), some (.int x1), none], [.int 1, .int x0], w)) rfl).trans ?_
  by_cases hc132 : x0 < 1
  · refine ((val_ic_lt rfl).trans (if_pos hc132)).trans ?_
    show val (20, d + 1, 20, [some (.ref 64), some (.int x0), some (.int x1), none], [], w) = _
    refine Eq.trans ?_ (if_pos hc132).symm
    refine (val_g (c2 := (20, d + 1, 21, [some (.ref 64), some (.int x0), some (.int x1), none], [.int (-1)], w)) rfl).trans ?_
    exact val_r rfl
  · refine ((val_ic_lt rfl).trans (if_neg hc132)).trans ?_
    show val (20, d + 1, 5, [some (.ref 64), some (.int x0), some (.int x1), none], [], w) = _
    refine Eq.trans ?_ (if_neg hc132).symm
    refine (val_g (c2 := (20, d + 1, 6, [some (.ref 64), some (.int x0), some (.int x1), none], [.int x0], w)) rfl).trans ?_
    refine (val_g (c2 := (20, d + 1, 8, [some (.ref 64), some (.int x0), some (.int x1), none], [.int 9, .int x0], w)) rfl).trans ?_
    by_cases hc133 : 9 < x0
    · refine ((val_ic_gt rfl).trans (if_pos hc133)).trans ?_
      show val (20, d + 1, 20, [some (.ref 64), some (.int x0), some (.int x1), none], [], w) = _
      refine Eq.trans ?_ (if_pos hc133).symm
      refine (val_g (c2 := (20, d + 1, 21, [some (.ref 64), some (.int x0), some (.int x1), none], [.int (-1)], w)) rfl).trans ?_
      exact val_r rfl
    · refine ((val_ic_gt rfl).trans (if_neg hc133)).trans ?_
      show val (20, d + 1, 11, [some (.ref 64), some (.int x0), some (.int x1), none], [], w) = _
      refine Eq.trans ?_ (if_neg hc133).symm
      refine (val_g (c2 := (20, d + 1, 12, [some (.ref 64), some (.int x0), some (.int x1), none], [.int x1], w)) rfl).trans ?_
      by_cases hc134 : x1 < 0
      · refine ((val_if_lt rfl).trans (if_pos hc134)).trans ?_
        show val (20, d + 1, 20, [some (.ref 64), some (.int x0), some (.int x1), none], [], w) = _
        refine Eq.trans ?_ (if_pos hc134).symm
        refine (val_g (c2 := (20, d + 1, 21, [some (.ref 64), some (.int x0), some (.int x1), none], [.int (-1)], w)) rfl).trans ?_
        exact val_r rfl
      · refine ((val_if_lt rfl).trans (if_neg hc134)).trans ?_
        show val (20, d + 1, 15, [some (.ref 64), some (.int x0), some (.int x1), none], [], w) = _
        refine Eq.trans ?_ (if_neg hc134).symm
        refine (val_g (c2 := (20, d + 1, 16, [some (.ref 64), some (.int x0), some (.int x1), none], [.int x1], w)) rfl).trans ?_
        refine (val_g (c2 := (20, d + 1, 17, [some (.ref 64), some (.int x0), some (.int x1), none], [.int 1, .int x1], w)) rfl).trans ?_
        by_cases hc135 : x1 ≤ 1
        · refine ((val_ic_le rfl).trans (if_pos hc135)).trans ?_
          show val (20, d + 1, 22, [some (.ref 64), some (.int x0), some (.int x1), none], [], w) = _
          refine Eq.trans ?_ (if_pos hc135).symm
          refine (val_g (c2 := (20, d + 1, 23, [some (.ref 64), some (.int x0), some (.int x1), none], [.ref 64], w)) rfl).trans ?_
          refine (val_gf rfl (hW.k 64 (Nat.le_of_ble_eq_true rfl) (Nat.le_of_ble_eq_true rfl)) (fvR (hW.r 64 5 67 rfl))).trans ?_
          show val (20, d + 1, 26, [some (.ref 64), some (.int x0), some (.int x1), none], [.ref 67], w) = _
          rfl
        · refine ((val_ic_le rfl).trans (if_neg hc135)).trans ?_
          show val (20, d + 1, 20, [some (.ref 64), some (.int x0), some (.int x1), none], [], w) = _
          refine Eq.trans ?_ (if_neg hc135).symm
          refine (val_g (c2 := (20, d + 1, 21, [some (.ref 64), some (.int x0), some (.int x1), none], [.int (-1)], w)) rfl).trans ?_
          exact val_r rfl
theorem tr_20_29 (d : Nat) (w : Wd) (hW : Fix w) (l1 : Int32) (l2 : Int32) (s0 : Int32)    (hy1 : (¬ s0 = 0) → inB l1 10 = true) (hy2 : (¬ s0 = 0) → (¬ ((gI w 73 (l1).toNatClampNeg) = (-9))) → (¬ l2 = 0) → inB ((gI w 73 (l1).toNatClampNeg)) 2001 = true) : val (20, d + 1, 29, [some (.ref 64), some (.int l1), some (.int l2), none], [.int s0], w) = (if ¬ s0 = 0 then (if (gI w 73 (l1).toNatClampNeg) = (-9) then some (some (.int (gI w 73 (l1).toNatClampNeg)), w) else (if ¬ l2 = 0 then some (some (.int (gI w 71 ((gI w 73 (l1).toNatClampNeg)).toNatClampNeg)), w) else some (some (.int (gI w 73 (l1).toNatClampNeg)), w))) else some (some (.int (-2)), w)) := by
  by_cases hc136 : ¬ s0 = 0
  · refine ((val_if_ne rfl).trans (if_pos hc136)).trans ?_
    show val (20, d + 1, 35, [some (.ref 64), some (.int l1), some (.int l2), none], [], w) = _
    refine Eq.trans ?_ (if_pos hc136).symm
    refine (val_g (c2 := (20, d + 1, 36, [some (.ref 64), some (.int l1), some (.int l2), none], [.ref 64], w)) rfl).trans ?_
    refine (val_gf rfl (hW.k 64 (Nat.le_of_ble_eq_true rfl) (Nat.le_of_ble_eq_true rfl)) (fvR (hW.r 64 5 67 rfl))).trans ?_
    show val (20, d + 1, 39, [some (.ref 64), some (.int l1), some (.int l2), none], [.ref 67], w) = _
    refine (val_gf rfl (hW.k 67 (Nat.le_of_ble_eq_true rfl) (Nat.le_of_ble_eq_true rfl)) (fvR (hW.r 67 6 73 rfl))).trans ?_
    show val (20, d + 1, 42, [some (.ref 64), some (.int l1), some (.int l2), none], [.ref 73], w) = _
    refine (val_g (c2 := (20, d + 1, 43, [some (.ref 64), some (.int l1), some (.int l2), none], [.int l1, .ref 73], w)) rfl).trans ?_
    refine (val_ial rfl (hW.k 73 (Nat.le_of_ble_eq_true rfl) (Nat.le_of_ble_eq_true rfl)) rfl (hy1 hc136)).trans ?_
    show val (20, d + 1, 44, [some (.ref 64), some (.int l1), some (.int l2), none], [.int (gI w 73 (l1).toNatClampNeg)], w) = _
    refine (val_g (c2 := (20, d + 1, 45, [some (.ref 64), some (.int l1), some (.int l2), some (.int (gI w 73 (l1).toNatClampNeg))], [], w)) rfl).trans ?_
    refine (val_g (c2 := (20, d + 1, 46, [some (.ref 64), some (.int l1), some (.int l2), some (.int (gI w 73 (l1).toNatClampNeg))], [.int (gI w 73 (l1).toNatClampNeg)], w)) rfl).trans ?_
    refine (val_g (c2 := (20, d + 1, 48, [some (.ref 64), some (.int l1), some (.int l2), some (.int (gI w 73 (l1).toNatClampNeg))], [.int (-9), .int (gI w 73 (l1).toNatClampNeg)], w)) rfl).trans ?_
    by_cases hc137 : (gI w 73 (l1).toNatClampNeg) = (-9)
    · refine ((val_ic_eq rfl).trans (if_pos hc137)).trans ?_
      show val (20, d + 1, 55, [some (.ref 64), some (.int l1), some (.int l2), some (.int (gI w 73 (l1).toNatClampNeg))], [], w) = _
      refine Eq.trans ?_ (if_pos hc137).symm
      refine (val_g (c2 := (20, d + 1, 56, [some (.ref 64), some (.int l1), some (.int l2), some (.int (gI w 73 (l1).toNatClampNeg))], [.int (gI w 73 (l1).toNatClampNeg)], w)) rfl).trans ?_
      refine (val_g (c2 := (20, d + 1, 68, [some (.ref 64), some (.int l1), some (.int l2), some (.int (gI w 73 (l1).toNatClampNeg))], [.int (gI w 73 (l1).toNatClampNeg)], w)) rfl).trans ?_
      exact val_r rfl
    · refine ((val_ic_eq rfl).trans (if_neg hc137)).trans ?_
      show val (20, d + 1, 51, [some (.ref 64), some (.int l1), some (.int l2), some (.int (gI w 73 (l1).toNatClampNeg))], [], w) = _
      refine Eq.trans ?_ (if_neg hc137).symm
      refine (val_g (c2 := (20, d + 1, 52, [some (.ref 64), some (.int l1), some (.int l2), some (.int (gI w 73 (l1).toNatClampNeg))], [.int l2], w)) rfl).trans ?_
      by_cases hc138 : ¬ l2 = 0
      · refine ((val_if_ne rfl).trans (if_pos hc138)).trans ?_
        show val (20, d + 1, 59, [some (.ref 64), some (.int l1), some (.int l2), some (.int (gI w 73 (l1).toNatClampNeg))], [], w) = _
        refine Eq.trans ?_ (if_pos hc138).symm
        refine (val_g (c2 := (20, d + 1, 60, [some (.ref 64), some (.int l1), some (.int l2), some (.int (gI w 73 (l1).toNatClampNeg))], [.ref 64], w)) rfl).trans ?_
        refine (val_gf rfl (hW.k 64 (Nat.le_of_ble_eq_true rfl) (Nat.le_of_ble_eq_true rfl)) (fvR (hW.r 64 5 67 rfl))).trans ?_
        show val (20, d + 1, 63, [some (.ref 64), some (.int l1), some (.int l2), some (.int (gI w 73 (l1).toNatClampNeg))], [.ref 67], w) = _
        refine (val_gf rfl (hW.k 67 (Nat.le_of_ble_eq_true rfl) (Nat.le_of_ble_eq_true rfl)) (fvR (hW.r 67 4 71 rfl))).trans ?_
        show val (20, d + 1, 66, [some (.ref 64), some (.int l1), some (.int l2), some (.int (gI w 73 (l1).toNatClampNeg))], [.ref 71], w) = _
        refine (val_g (c2 := (20, d + 1, 67, [some (.ref 64), some (.int l1), some (.int l2), some (.int (gI w 73 (l1).toNatClampNeg))], [.int (gI w 73 (l1).toNatClampNeg), .ref 71], w)) rfl).trans ?_
        refine (val_ial rfl (hW.k 71 (Nat.le_of_ble_eq_true rfl) (Nat.le_of_ble_eq_true rfl)) rfl (hy2 hc136 hc137 hc138)).trans ?_
        show val (20, d + 1, 68, [some (.ref 64), some (.int l1), some (.int l2), some (.int (gI w 73 (l1).toNatClampNeg))], [.int (gI w 71 ((gI w 73 (l1).toNatClampNeg)).toNatClampNeg)], w) = _
        exact val_r rfl
      · refine ((val_if_ne rfl).trans (if_neg hc138)).trans ?_
        show val (20, d + 1, 55, [some (.ref 64), some (.int l1), some (.int l2), some (.int (gI w 73 (l1).toNatClampNeg))], [], w) = _
        refine Eq.trans ?_ (if_neg hc138).symm
        refine (val_g (c2 := (20, d + 1, 56, [some (.ref 64), some (.int l1), some (.int l2), some (.int (gI w 73 (l1).toNatClampNeg))], [.int (gI w 73 (l1).toNatClampNeg)], w)) rfl).trans ?_
        refine (val_g (c2 := (20, d + 1, 68, [some (.ref 64), some (.int l1), some (.int l2), some (.int (gI w 73 (l1).toNatClampNeg))], [.int (gI w 73 (l1).toNatClampNeg)], w)) rfl).trans ?_
        exact val_r rfl
  · refine ((val_if_ne rfl).trans (if_neg hc136)).trans ?_
    show val (20, d + 1, 32, [some (.ref 64), some (.int l1), some (.int l2), none], [], w) = _
    refine Eq.trans ?_ (if_neg hc136).symm
    refine (val_g (c2 := (20, d + 1, 34, [some (.ref 64), some (.int l1), some (.int l2), none], [.int (-2)], w)) rfl).trans ?_
    exact val_r rfl
/-- BelfryHouse.generator(I)I -/
theorem tr_21 (d : Nat) (w : Wd) (hW : Fix w) (x0 : Int32)     : val (21, d + 5, 0, [some (.ref 64), some (.int x0), none], [], w) = val (21, d + 5, 5, [some (.ref 64), some (.int x0), none], [.int x0, .int (gI w 64 0)], w) := by
  refine (val_g (c2 := (21, d + 5, 1, [some (.ref 64), some (.int x0), none], [.ref 64], w)) rfl).trans ?_
  refine (val_gf rfl (hW.k 64 (Nat.le_of_ble_eq_true rfl) (Nat.le_of_ble_eq_true rfl)) rfl).trans ?_
  show val (21, d + 5, 4, [some (.ref 64), some (.int x0), none], [.int (gI w 64 0)], w) = _
  refine (val_g (c2 := (21, d + 5, 5, [some (.ref 64), some (.int x0), none], [.int x0, .int (gI w 64 0)], w)) rfl).trans ?_
  rfl
theorem tr_21_8 (d : Nat) (w : Wd) (hW : Fix w) (l1 : Int32) (s0 : Int32)     : val (21, d + 5, 8, [some (.ref 64), some (.int l1), none], [.int s0], w) = (if ¬ s0 = (-1) then (if (gI w 64 0) ≤ 6 then (if (gI w 76 5) < 6 then val (21, d + 5, 52, [some (.ref 64), some (.int l1), some (.int s0)], [.int s0, .int (gI w 64 0), .ref 76], w) else some (some (.int (-3)), w)) else some (some (.int (-2)), w)) else some (some (.int (-1)), w)) := by
  refine (val_g (c2 := (21, d + 5, 9, [some (.ref 64), some (.int l1), some (.int s0)], [], w)) rfl).trans ?_
  refine (val_g (c2 := (21, d + 5, 10, [some (.ref 64), some (.int l1), some (.int s0)], [.int s0], w)) rfl).trans ?_
  refine (val_g (c2 := (21, d + 5, 11, [some (.ref 64), some (.int l1), some (.int s0)], [.int (-1), .int s0], w)) rfl).trans ?_
  by_cases hc142 : ¬ s0 = (-1)
  · refine ((val_ic_ne rfl).trans (if_pos hc142)).trans ?_
    show val (21, d + 5, 16, [some (.ref 64), some (.int l1), some (.int s0)], [], w) = _
    refine Eq.trans ?_ (if_pos hc142).symm
    refine (val_g (c2 := (21, d + 5, 17, [some (.ref 64), some (.int l1), some (.int s0)], [.ref 64], w)) rfl).trans ?_
    refine (val_gf rfl (hW.k 64 (Nat.le_of_ble_eq_true rfl) (Nat.le_of_ble_eq_true rfl)) rfl).trans ?_
    show val (21, d + 5, 20, [some (.ref 64), some (.int l1), some (.int s0)], [.int (gI w 64 0)], w) = _
    refine (val_g (c2 := (21, d + 5, 22, [some (.ref 64), some (.int l1), some (.int s0)], [.int 6, .int (gI w 64 0)], w)) rfl).trans ?_
    by_cases hc143 : (gI w 64 0) ≤ 6
    · refine ((val_ic_le rfl).trans (if_pos hc143)).trans ?_
      show val (21, d + 5, 28, [some (.ref 64), some (.int l1), some (.int s0)], [], w) = _
      refine Eq.trans ?_ (if_pos hc143).symm
      refine (val_g (c2 := (21, d + 5, 29, [some (.ref 64), some (.int l1), some (.int s0)], [.ref 64], w)) rfl).trans ?_
      refine (val_gf rfl (hW.k 64 (Nat.le_of_ble_eq_true rfl) (Nat.le_of_ble_eq_true rfl)) (fvR (hW.r 64 6 76 rfl))).trans ?_
      show val (21, d + 5, 32, [some (.ref 64), some (.int l1), some (.int s0)], [.ref 76], w) = _
      refine (val_gf rfl (hW.k 76 (Nat.le_of_ble_eq_true rfl) (Nat.le_of_ble_eq_true rfl)) rfl).trans ?_
      show val (21, d + 5, 35, [some (.ref 64), some (.int l1), some (.int s0)], [.int (gI w 76 5)], w) = _
      refine (val_g (c2 := (21, d + 5, 37, [some (.ref 64), some (.int l1), some (.int s0)], [.int 6, .int (gI w 76 5)], w)) rfl).trans ?_
      by_cases hc144 : (gI w 76 5) < 6
      · refine ((val_ic_lt rfl).trans (if_pos hc144)).trans ?_
        show val (21, d + 5, 43, [some (.ref 64), some (.int l1), some (.int s0)], [], w) = _
        refine Eq.trans ?_ (if_pos hc144).symm
        refine (val_g (c2 := (21, d + 5, 44, [some (.ref 64), some (.int l1), some (.int s0)], [.ref 64], w)) rfl).trans ?_
        refine (val_gf rfl (hW.k 64 (Nat.le_of_ble_eq_true rfl) (Nat.le_of_ble_eq_true rfl)) (fvR (hW.r 64 6 76 rfl))).trans ?_
        show val (21, d + 5, 47, [some (.ref 64), some (.int l1), some (.int s0)], [.ref 76], w) = _
        refine (val_g (c2 := (21, d + 5, 48, [some (.ref 64), some (.int l1), some (.int s0)], [.ref 64, .ref 76], w)) rfl).trans ?_
        refine (val_gf rfl (hW.k 64 (Nat.le_of_ble_eq_true rfl) (Nat.le_of_ble_eq_true rfl)) rfl).trans ?_
        show val (21, d + 5, 51, [some (.ref 64), some (.int l1), some (.int s0)], [.int (gI w 64 0), .ref 76], w) = _
        refine (val_g (c2 := (21, d + 5, 52, [some (.ref 64), some (.int l1), some (.int s0)], [.int s0, .int (gI w 64 0), .ref 76], w)) rfl).trans ?_
        rfl
      · refine ((val_ic_lt rfl).trans (if_neg hc144)).trans ?_
        show val (21, d + 5, 40, [some (.ref 64), some (.int l1), some (.int s0)], [], w) = _
        refine Eq.trans ?_ (if_neg hc144).symm
        refine (val_g (c2 := (21, d + 5, 42, [some (.ref 64), some (.int l1), some (.int s0)], [.int (-3)], w)) rfl).trans ?_
        exact val_r rfl
    · refine ((val_ic_le rfl).trans (if_neg hc143)).trans ?_
      show val (21, d + 5, 25, [some (.ref 64), some (.int l1), some (.int s0)], [], w) = _
      refine Eq.trans ?_ (if_neg hc143).symm
      refine (val_g (c2 := (21, d + 5, 27, [some (.ref 64), some (.int l1), some (.int s0)], [.int (-2)], w)) rfl).trans ?_
      exact val_r rfl
  · refine ((val_ic_ne rfl).trans (if_neg hc142)).trans ?_
    show val (21, d + 5, 14, [some (.ref 64), some (.int l1), some (.int s0)], [], w) = _
    refine Eq.trans ?_ (if_neg hc142).symm
    refine (val_g (c2 := (21, d + 5, 15, [some (.ref 64), some (.int l1), some (.int s0)], [.int (-1)], w)) rfl).trans ?_
    exact val_r rfl
theorem tr_21_55 (d : Nat) (w : Wd) (hW : Fix w) (l1 : Int32) (l2 : Int32)     : val (21, d + 5, 55, [some (.ref 64), some (.int l1), some (.int l2)], [], w) = some (some (.int (gI w 76 5)), w) := by
  refine (val_g (c2 := (21, d + 5, 56, [some (.ref 64), some (.int l1), some (.int l2)], [.ref 64], w)) rfl).trans ?_
  refine (val_gf rfl (hW.k 64 (Nat.le_of_ble_eq_true rfl) (Nat.le_of_ble_eq_true rfl)) (fvR (hW.r 64 6 76 rfl))).trans ?_
  show val (21, d + 5, 59, [some (.ref 64), some (.int l1), some (.int l2)], [.ref 76], w) = _
  refine (val_gf rfl (hW.k 76 (Nat.le_of_ble_eq_true rfl) (Nat.le_of_ble_eq_true rfl)) rfl).trans ?_
  show val (21, d + 5, 62, [some (.ref 64), some (.int l1), some (.int l2)], [.int (gI w 76 5)], w) = _
  exact val_r rfl
/-- BelfryHouse.free()I -/
theorem tr_22 (d : Nat) (w : Wd) (hW : Fix w)      : val (22, d + 5, 0, [some (.ref 64), none], [], w) = val (22, d + 5, 16, [some (.ref 64), some (.int (gI w 76 5))], [.int (gI w 64 0), .ref 76], w) := by
  refine (val_g (c2 := (22, d + 5, 1, [some (.ref 64), none], [.ref 64], w)) rfl).trans ?_
  refine (val_gf rfl (hW.k 64 (Nat.le_of_ble_eq_true rfl) (Nat.le_of_ble_eq_true rfl)) (fvR (hW.r 64 6 76 rfl))).trans ?_
  show val (22, d + 5, 4, [some (.ref 64), none], [.ref 76], w) = _
  refine (val_gf rfl (hW.k 76 (Nat.le_of_ble_eq_true rfl) (Nat.le_of_ble_eq_true rfl)) rfl).trans ?_
  show val (22, d + 5, 7, [some (.ref 64), none], [.int (gI w 76 5)], w) = _
  refine (val_g (c2 := (22, d + 5, 8, [some (.ref 64), some (.int (gI w 76 5))], [], w)) rfl).trans ?_
  refine (val_g (c2 := (22, d + 5, 9, [some (.ref 64), some (.int (gI w 76 5))], [.ref 64], w)) rfl).trans ?_
  refine (val_gf rfl (hW.k 64 (Nat.le_of_ble_eq_true rfl) (Nat.le_of_ble_eq_true rfl)) (fvR (hW.r 64 6 76 rfl))).trans ?_
  show val (22, d + 5, 12, [some (.ref 64), some (.int (gI w 76 5))], [.ref 76], w) = _
  refine (val_g (c2 := (22, d + 5, 13, [some (.ref 64), some (.int (gI w 76 5))], [.ref 64, .ref 76], w)) rfl).trans ?_
  refine (val_gf rfl (hW.k 64 (Nat.le_of_ble_eq_true rfl) (Nat.le_of_ble_eq_true rfl)) rfl).trans ?_
  show val (22, d + 5, 16, [some (.ref 64), some (.int (gI w 76 5))], [.int (gI w 64 0), .ref 76], w) = _
  rfl
theorem tr_22_19 (d : Nat) (w : Wd) (l1 : Int32)     : val (22, d + 5, 19, [some (.ref 64), some (.int l1)], [], w) = some (some (.int l1), w) := by
  refine (val_g (c2 := (22, d + 5, 20, [some (.ref 64), some (.int l1)], [.int l1], w)) rfl).trans ?_
  exact val_r rfl
/-- BelfryHouse.group()I -/
theorem tr_23 (d : Nat) (w : Wd) (hW : Fix w)      : val (23, d, 0, [some (.ref 64)], [], w) = (if (gI w 64 0) ≤ 6 then some (some (.int (gI w 76 4)), w) else some (some (.int (-2)), w)) := by
  refine (val_g (c2 := (23, d, 1, [some (.ref 64)], [.ref 64], w)) rfl).trans ?_
  refine (val_gf rfl (hW.k 64 (Nat.le_of_ble_eq_true rfl) (Nat.le_of_ble_eq_true rfl)) rfl).trans ?_
  show val (23, d, 4, [some (.ref 64)], [.int (gI w 64 0)], w) = _
  refine (val_g (c2 := (23, d, 6, [some (.ref 64)], [.int 6, .int (gI w 64 0)], w)) rfl).trans ?_
  by_cases hc146 : (gI w 64 0) ≤ 6
  · refine ((val_ic_le rfl).trans (if_pos hc146)).trans ?_
    show val (23, d, 14, [some (.ref 64)], [], w) = _
    refine Eq.trans ?_ (if_pos hc146).symm
    refine (val_g (c2 := (23, d, 15, [some (.ref 64)], [.ref 64], w)) rfl).trans ?_
    refine (val_gf rfl (hW.k 64 (Nat.le_of_ble_eq_true rfl) (Nat.le_of_ble_eq_true rfl)) (fvR (hW.r 64 6 76 rfl))).trans ?_
    show val (23, d, 18, [some (.ref 64)], [.ref 76], w) = _
    refine (val_gf rfl (hW.k 76 (Nat.le_of_ble_eq_true rfl) (Nat.le_of_ble_eq_true rfl)) rfl).trans ?_
    show val (23, d, 21, [some (.ref 64)], [.int (gI w 76 4)], w) = _
    exact val_r rfl
  · refine ((val_ic_le rfl).trans (if_neg hc146)).trans ?_
    show val (23, d, 9, [some (.ref 64)], [], w) = _
    refine Eq.trans ?_ (if_neg hc146).symm
    refine (val_g (c2 := (23, d, 11, [some (.ref 64)], [.int (-2)], w)) rfl).trans ?_
    refine (val_g (c2 := (23, d, 21, [some (.ref 64)], [.int (-2)], w)) rfl).trans ?_
    exact val_r rfl
/-- BelfryHouse.coset(I)I -/
theorem tr_24 (d : Nat) (w : Wd) (hW : Fix w) (x0 : Int32)     : val (24, d + 3, 0, [some (.ref 64), some (.int x0), none], [], w) = val (24, d + 3, 5, [some (.ref 64), some (.int x0), none], [.int x0, .int (gI w 64 0)], w) := by
  refine (val_g (c2 := (24, d + 3, 1, [some (.ref 64), some (.int x0), none], [.ref 64], w)) rfl).trans ?_
  refine (val_gf rfl (hW.k 64 (Nat.le_of_ble_eq_true rfl) (Nat.le_of_ble_eq_true rfl)) rfl).trans ?_
  show val (24, d + 3, 4, [some (.ref 64), some (.int x0), none], [.int (gI w 64 0)], w) = _
  refine (val_g (c2 := (24, d + 3, 5, [some (.ref 64), some (.int x0), none], [.int x0, .int (gI w 64 0)], w)) rfl).trans ?_
  rfl
theorem tr_24_8 (d : Nat) (w : Wd) (hW : Fix w) (l1 : Int32) (s0 : Int32)     : val (24, d + 3, 8, [some (.ref 64), some (.int l1), none], [.int s0], w) = (if ¬ s0 = (-1) then (if (gI w 64 0) ≤ 6 then val (24, d + 3, 37, [some (.ref 64), some (.int l1), some (.int s0)], [.int s0, .int (gI w 64 0), .ref 76], w) else some (some (.int (-2)), w)) else some (some (.int (-1)), w)) := by
  refine (val_g (c2 := (24, d + 3, 9, [some (.ref 64), some (.int l1), some (.int s0)], [], w)) rfl).trans ?_
  refine (val_g (c2 := (24, d + 3, 10, [some (.ref 64), some (.int l1), some (.int s0)], [.int s0], w)) rfl).trans ?_
  refine (val_g (c2 := (24, d + 3, 11, [some (.ref 64), some (.int l1), some (.int s0)], [.int (-1), .int s0], w)) rfl).trans ?_
  by_cases hc150 : ¬ s0 = (-1)
  · refine ((val_ic_ne rfl).trans (if_pos hc150)).trans ?_
    show val (24, d + 3, 16, [some (.ref 64), some (.int l1), some (.int s0)], [], w) = _
    refine Eq.trans ?_ (if_pos hc150).symm
    refine (val_g (c2 := (24, d + 3, 17, [some (.ref 64), some (.int l1), some (.int s0)], [.ref 64], w)) rfl).trans ?_
    refine (val_gf rfl (hW.k 64 (Nat.le_of_ble_eq_true rfl) (Nat.le_of_ble_eq_true rfl)) rfl).trans ?_
    show val (24, d + 3, 20, [some (.ref 64), some (.int l1), some (.int s0)], [.int (gI w 64 0)], w) = _
    refine (val_g (c2 := (24, d + 3, 22, [some (.ref 64), some (.int l1), some (.int s0)], [.int 6, .int (gI w 64 0)], w)) rfl).trans ?_
    by_cases hc151 : (gI w 64 0) ≤ 6
    · refine ((val_ic_le rfl).trans (if_pos hc151)).trans ?_
      show val (24, d + 3, 28, [some (.ref 64), some (.int l1), some (.int s0)], [], w) = _
      refine Eq.trans ?_ (if_pos hc151).symm
      refine (val_g (c2 := (24, d + 3, 29, [some (.ref 64), some (.int l1), some (.int s0)], [.ref 64], w)) rfl).trans ?_
      refine (val_gf rfl (hW.k 64 (Nat.le_of_ble_eq_true rfl) (Nat.le_of_ble_eq_true rfl)) (fvR (hW.r 64 6 76 rfl))).trans ?_
      show val (24, d + 3, 32, [some (.ref 64), some (.int l1), some (.int s0)], [.ref 76], w) = _
      refine (val_g (c2 := (24, d + 3, 33, [some (.ref 64), some (.int l1), some (.int s0)], [.ref 64, .ref 76], w)) rfl).trans ?_
      refine (val_gf rfl (hW.k 64 (Nat.le_of_ble_eq_true rfl) (Nat.le_of_ble_eq_true rfl)) rfl).trans ?_
      show val (24, d + 3, 36, [some (.ref 64), some (.int l1), some (.int s0)], [.int (gI w 64 0), .ref 76], w) = _
      refine (val_g (c2 := (24, d + 3, 37, [some (.ref 64), some (.int l1), some (.int s0)], [.int s0, .int (gI w 64 0), .ref 76], w)) rfl).trans ?_
      rfl
    · refine ((val_ic_le rfl).trans (if_neg hc151)).trans ?_
      show val (24, d + 3, 25, [some (.ref 64), some (.int l1), some (.int s0)], [], w) = _
      refine Eq.trans ?_ (if_neg hc151).symm
      refine (val_g (c2 := (24, d + 3, 27, [some (.ref 64), some (.int l1), some (.int s0)], [.int (-2)], w)) rfl).trans ?_
      exact val_r rfl
  · refine ((val_ic_ne rfl).trans (if_neg hc150)).trans ?_
    show val (24, d + 3, 14, [some (.ref 64), some (.int l1), some (.int s0)], [], w) = _
    refine Eq.trans ?_ (if_neg hc150).symm
    refine (val_g (c2 := (24, d + 3, 15, [some (.ref 64), some (.int l1), some (.int s0)], [.int (-1)], w)) rfl).trans ?_
    exact val_r rfl
theorem tr_24_40 (d : Nat) (w : Wd) (hW : Fix w) (l1 : Int32) (l2 : Int32) (s0 : Int32)     : val (24, d + 3, 40, [some (.ref 64), some (.int l1), some (.int l2)], [.int s0], w) = (if s0 = 0 then val (24, d + 3, 61, [some (.ref 64), some (.int l1), some (.int l2)], [.int l2, .int (gI w 64 0), .ref 76, .int (gI w 64 0)], w) else val (24, d + 3, 67, [some (.ref 64), some (.int l1), some (.int l2)], [.int (-10)], w)) := by
  by_cases hc152 : s0 = 0
  · refine ((val_if_eq rfl).trans (if_pos hc152)).trans ?_
    show val (24, d + 3, 48, [some (.ref 64), some (.int l1), some (.int l2)], [], w) = _
    refine Eq.trans ?_ (if_pos hc152).symm
    refine (val_g (c2 := (24, d + 3, 49, [some (.ref 64), some (.int l1), some (.int l2)], [.ref 64], w)) rfl).trans ?_
    refine (val_gf rfl (hW.k 64 (Nat.le_of_ble_eq_true rfl) (Nat.le_of_ble_eq_true rfl)) rfl).trans ?_
    show val (24, d + 3, 52, [some (.ref 64), some (.int l1), some (.int l2)], [.int (gI w 64 0)], w) = _
    refine (val_g (c2 := (24, d + 3, 53, [some (.ref 64), some (.int l1), some (.int l2)], [.ref 64, .int (gI w 64 0)], w)) rfl).trans ?_
    refine (val_gf rfl (hW.k 64 (Nat.le_of_ble_eq_true rfl) (Nat.le_of_ble_eq_true rfl)) (fvR (hW.r 64 6 76 rfl))).trans ?_
    show val (24, d + 3, 56, [some (.ref 64), some (.int l1), some (.int l2)], [.ref 76, .int (gI w 64 0)], w) = _
    refine (val_g (c2 := (24, d + 3, 57, [some (.ref 64), some (.int l1), some (.int l2)], [.ref 64, .ref 76, .int (gI w 64 0)], w)) rfl).trans ?_
    refine (val_gf rfl (hW.k 64 (Nat.le_of_ble_eq_true rfl) (Nat.le_of_ble_eq_true rfl)) rfl).trans ?_
    show val (24, d + 3, 60, [some (.ref 64), some (.int l1), some (.int l2)], [.int (gI w 64 0), .ref 76, .int (gI w 64 0)], w) = _
    refine (val_g (c2 := (24, d + 3, 61, [some (.ref 64), some (.int l1), some (.int l2)], [.int l2, .int (gI w 64 0), .ref 76, .int (gI w 64 0)], w)) rfl).trans ?_
    rfl
  · refine ((val_if_eq rfl).trans (if_neg hc152)).trans ?_
    show val (24, d + 3, 43, [some (.ref 64), some (.int l1), some (.int l2)], [], w) = _
    refine Eq.trans ?_ (if_neg hc152).symm
    refine (val_g (c2 := (24, d + 3, 45, [some (.ref 64), some (.int l1), some (.int l2)], [.int (-10)], w)) rfl).trans ?_
    refine (val_g (c2 := (24, d + 3, 67, [some (.ref 64), some (.int l1), some (.int l2)], [.int (-10)], w)) rfl).trans ?_
    rfl
theorem tr_24_67 (d : Nat) (w : Wd) (l1 : Int32) (l2 : Int32) (s0 : Int32)     : val (24, d + 3, 67, [some (.ref 64), some (.int l1), some (.int l2)], [.int s0], w) = some (some (.int s0), w) := by
  exact val_r rfl
/-- BelfryHouse.heads(II)I -/
theorem tr_25 (d : Nat) (w : Wd) (hW : Fix w) (x0 : Int32) (x1 : Int32)     : val (25, d + 4, 0, [some (.ref 64), some (.int x0), some (.int x1)], [], w) = (if x0 < 0 then some (some (.int (-1)), w) else (if x1 < x0 then some (some (.int (-1)), w) else (if 60 ≤ (x1 - x0) then some (some (.int (-1)), w) else val (25, d + 4, 27, [some (.ref 64), some (.int x0), some (.int x1)], [.int ((x1 - x0) + 1), .int x0, .ref 67], w)))) := by
  refine (val_g (c2 := (25, d + 4, 1, [some (.ref 64), some (.int x0), some (.int x1)], [.int x0], w)) rfl).trans ?_
  by_cases hc157 : x0 < 0
  · refine ((val_if_lt rfl).trans (if_pos hc157)).trans ?_
    show val (25, d + 4, 33, [some (.ref 64), some (.int x0), some (.int x1)], [], w) = _
    refine Eq.trans ?_ (if_pos hc157).symm
    refine (val_g (c2 := (25, d + 4, 34, [some (.ref 64), some (.int x0), some (.int x1)], [.int (-1)], w)) rfl).trans ?_
    exact val_r rfl
  · refine ((val_if_lt rfl).trans (if_neg hc157)).trans ?_
    show val (25, d + 4, 4, [some (.ref 64), some (.int x0), some (.int x1)], [], w) = _
    refine Eq.trans ?_ (if_neg hc157).symm
    refine (val_g (c2 := (25, d + 4, 5, [some (.ref 64), some (.int x0), some (.int x1)], [.int x1], w)) rfl).trans ?_
    refine (val_g (c2 := (25, d + 4, 6, [some (.ref 64), some (.int x0), some (.int x1)], [.int x0, .int x1], w)) rfl).trans ?_
    by_cases hc158 : x1 < x0
    · refine ((val_ic_lt rfl).trans (if_pos hc158)).trans ?_
      show val (25, d + 4, 33, [some (.ref 64), some (.int x0), some (.int x1)], [], w) = _
      refine Eq.trans ?_ (if_pos hc158).symm
      refine (val_g (c2 := (25, d + 4, 34, [some (.ref 64), some (.int x0), some (.int x1)], [.int (-1)], w)) rfl).trans ?_
      exact val_r rfl
    · refine ((val_ic_lt rfl).trans (if_neg hc158)).trans ?_
      show val (25, d + 4, 9, [some (.ref 64), some (.int x0), some (.int x1)], [], w) = _
      refine Eq.trans ?_ (if_neg hc158).symm
      refine (val_g (c2 := (25, d + 4, 10, [some (.ref 64), some (.int x0), some (.int x1)], [.int x1], w)) rfl).trans ?_
      refine (val_g (c2 := (25, d + 4, 11, [some (.ref 64), some (.int x0), some (.int x1)], [.int x0, .int x1], w)) rfl).trans ?_
      refine (val_g (c2 := (25, d + 4, 12, [some (.ref 64), some (.int x0), some (.int x1)], [.int (x1 - x0)], w)) rfl).trans ?_
      refine (val_g (c2 := (25, d + 4, 14, [some (.ref 64), some (.int x0), some (.int x1)], [.int 60, .int (x1 - x0)], w)) rfl).trans ?_
      by_cases hc159 : 60 ≤ (x1 - x0)
      · refine ((val_ic_ge rfl).trans (if_pos hc159)).trans ?_
        show val (25, d + 4, 33, [some (.ref 64), some (.int x0), some (.int x1)], [], w) = _
        refine Eq.trans ?_ (if_pos hc159).symm
        refine (val_g (c2 := (25, d + 4, 34, [some (.ref 64), some (.int x0), some (.int x1)], [.int (-1)], w)) rfl).trans ?_
        exact val_r rfl
      · refine ((val_ic_ge rfl).trans (if_neg hc159)).trans ?_
        show val (25, d + 4, 17, [some (.ref 64), some (.int x0), some (.int x1)], [], w) = _
        refine Eq.trans ?_ (if_neg hc159).symm
        refine (val_g (c2 := (25, d + 4, 18, [some (.ref 64), some (.int x0), some (.int x1)], [.ref 64], w)) rfl).trans ?_
        refine (val_gf rfl (hW.k 64 (Nat.le_of_ble_eq_true rfl) (Nat.le_of_ble_eq_true rfl)) (fvR (hW.r 64 5 67 rfl))).trans ?_
        show val (25, d + 4, 21, [some (.ref 64), some (.int x0), some (.int x1)], [.ref 67], w) = _
        refine (val_g (c2 := (25, d + 4, 22, [some (.ref 64), some (.int x0), some (.int x1)], [.int x0, .ref 67], w)) rfl).trans ?_
        refine (val_g (c2 := (25, d + 4, 23, [some (.ref 64), some (.int x0), some (.int x1)], [.int x1, .int x0, .ref 67], w)) rfl).trans ?_
        refine (val_g (c2 := (25, d + 4, 24, [some (.ref 64), some (.int x0), some (.int x1)], [.int x0, .int x1, .int x0, .ref 67], w)) rfl).trans ?_
        refine (val_g (c2 := (25, d + 4, 25, [some (.ref 64), some (.int x0), some (.int x1)], [.int (x1 - x0), .int x0, .ref 67], w)) rfl).trans ?_
        refine (val_g (c2 := (25, d + 4, 26, [some (.ref 64), some (.int x0), some (.int x1)], [.int 1, .int (x1 - x0), .int x0, .ref 67], w)) rfl).trans ?_
        refine (val_g (c2 := (25, d + 4, 27, [some (.ref 64), some (.int x0), some (.int x1)], [.int ((x1 - x0) + 1), .int x0, .ref 67], w)) rfl).trans ?_
        rfl
theorem tr_25_30 (d : Nat) (w : Wd) (hW : Fix w) (l1 : Int32) (l2 : Int32) (s0 : Int32)     : val (25, d + 4, 30, [some (.ref 64), some (.int l1), some (.int l2)], [.int s0], w) = (if ¬ s0 = 0 then val (25, d + 4, 52, [some (.ref 64), some (.int l1), some (.int l2)], [.int l2, .int l1, .ref 68, .int (gI w 64 0), .ref 80], w) else some (some (.int (-1)), w)) := by
  by_cases hc160 : ¬ s0 = 0
  · refine ((val_if_ne rfl).trans (if_pos hc160)).trans ?_
    show val (25, d + 4, 35, [some (.ref 64), some (.int l1), some (.int l2)], [], w) = _
    refine Eq.trans ?_ (if_pos hc160).symm
    refine (val_g (c2 := (25, d + 4, 36, [some (.ref 64), some (.int l1), some (.int l2)], [.ref 64], w)) rfl).trans ?_
    refine (val_gf rfl (hW.k 64 (Nat.le_of_ble_eq_true rfl) (Nat.le_of_ble_eq_true rfl)) (fvR (hW.r 64 7 80 rfl))).trans ?_
    show val (25, d + 4, 39, [some (.ref 64), some (.int l1), some (.int l2)], [.ref 80], w) = _
    refine (val_g (c2 := (25, d + 4, 40, [some (.ref 64), some (.int l1), some (.int l2)], [.ref 64, .ref 80], w)) rfl).trans ?_
    refine (val_gf rfl (hW.k 64 (Nat.le_of_ble_eq_true rfl) (Nat.le_of_ble_eq_true rfl)) rfl).trans ?_
    show val (25, d + 4, 43, [some (.ref 64), some (.int l1), some (.int l2)], [.int (gI w 64 0), .ref 80], w) = _
    refine (val_g (c2 := (25, d + 4, 44, [some (.ref 64), some (.int l1), some (.int l2)], [.ref 64, .int (gI w 64 0), .ref 80], w)) rfl).trans ?_
    refine (val_gf rfl (hW.k 64 (Nat.le_of_ble_eq_true rfl) (Nat.le_of_ble_eq_true rfl)) (fvR (hW.r 64 5 67 rfl))).trans ?_
    show val (25, d + 4, 47, [some (.ref 64), some (.int l1), some (.int l2)], [.ref 67, .int (gI w 64 0), .ref 80], w) = _
    refine (val_gf rfl (hW.k 67 (Nat.le_of_ble_eq_true rfl) (Nat.le_of_ble_eq_true rfl)) (fvR (hW.r 67 1 68 rfl))).trans ?_
    show val (25, d + 4, 50, [some (.ref 64), some (.int l1), some (.int l2)], [.ref 68, .int (gI w 64 0), .ref 80], w) = _
    refine (val_g (c2 := (25, d + 4, 51, [some (.ref 64), some (.int l1), some (.int l2)], [.int l1, .ref 68, .int (gI w 64 0), .ref 80], w)) rfl).trans ?_
    refine (val_g (c2 := (25, d + 4, 52, [some (.ref 64), some (.int l1), some (.int l2)], [.int l2, .int l1, .ref 68, .int (gI w 64 0), .ref 80], w)) rfl).trans ?_
    rfl
  · refine ((val_if_ne rfl).trans (if_neg hc160)).trans ?_
    show val (25, d + 4, 33, [some (.ref 64), some (.int l1), some (.int l2)], [], w) = _
    refine Eq.trans ?_ (if_neg hc160).symm
    refine (val_g (c2 := (25, d + 4, 34, [some (.ref 64), some (.int l1), some (.int l2)], [.int (-1)], w)) rfl).trans ?_
    exact val_r rfl
theorem tr_25_55 (d : Nat) (w : Wd) (hW : Fix w) (l1 : Int32) (l2 : Int32)     : val (25, d + 4, 55, [some (.ref 64), some (.int l1), some (.int l2)], [], w) = some (some (.int (gI w 80 1)), w) := by
  refine (val_g (c2 := (25, d + 4, 56, [some (.ref 64), some (.int l1), some (.int l2)], [.ref 64], w)) rfl).trans ?_
  refine (val_gf rfl (hW.k 64 (Nat.le_of_ble_eq_true rfl) (Nat.le_of_ble_eq_true rfl)) (fvR (hW.r 64 7 80 rfl))).trans ?_
  show val (25, d + 4, 59, [some (.ref 64), some (.int l1), some (.int l2)], [.ref 80], w) = _
  refine (val_gf rfl (hW.k 80 (Nat.le_of_ble_eq_true rfl) (Nat.le_of_ble_eq_true rfl)) rfl).trans ?_
  show val (25, d + 4, 62, [some (.ref 64), some (.int l1), some (.int l2)], [.int (gI w 80 1)], w) = _
  exact val_r rfl
/-- BelfryHouse.head(I)I -/
theorem tr_26 (d : Nat) (w : Wd) (hW : Fix w) (x0 : Int32)    (hy1 : (¬ (x0 < 0)) → (x0 < (gI w 80 1)) → inB x0 3600 = true) : val (26, d + 3, 0, [some (.ref 64), some (.int x0)], [], w) = (if x0 < 0 then some (some (.int (-1)), w) else (if x0 < (gI w 80 1) then val (26, d + 3, 31, [some (.ref 64), some (.int x0)], [.int (gI w 81 (x0).toNatClampNeg), .int (gI w 64 0), .ref 64], w) else some (some (.int (-1)), w))) := by
  refine (val_g (c2 := (26, d + 3, 1, [some (.ref 64), some (.int x0)], [.int x0], w)) rfl).trans ?_
  by_cases hc163 : x0 < 0
  · refine ((val_if_lt rfl).trans (if_pos hc163)).trans ?_
    show val (26, d + 3, 15, [some (.ref 64), some (.int x0)], [], w) = _
    refine Eq.trans ?_ (if_pos hc163).symm
    refine (val_g (c2 := (26, d + 3, 16, [some (.ref 64), some (.int x0)], [.int (-1)], w)) rfl).trans ?_
    exact val_r rfl
  · refine ((val_if_lt rfl).trans (if_neg hc163)).trans ?_
    show val (26, d + 3, 4, [some (.ref 64), some (.int x0)], [], w) = _
    refine Eq.trans ?_ (if_neg hc163).symm
    refine (val_g (c2 := (26, d + 3, 5, [some (.ref 64), some (.int x0)], [.int x0], w)) rfl).trans ?_
    refine (val_g (c2 := (26, d + 3, 6, [some (.ref 64), some (.int x0)], [.ref 64, .int x0], w)) rfl).trans ?_
    refine (val_gf rfl (hW.k 64 (Nat.le_of_ble_eq_true rfl) (Nat.le_of_ble_eq_true rfl)) (fvR (hW.r 64 7 80 rfl))).trans ?_
    show val (26, d + 3, 9, [some (.ref 64), some (.int x0)], [.ref 80, .int x0], w) = _
    refine (val_gf rfl (hW.k 80 (Nat.le_of_ble_eq_true rfl) (Nat.le_of_ble_eq_true rfl)) rfl).trans ?_
    show val (26, d + 3, 12, [some (.ref 64), some (.int x0)], [.int (gI w 80 1), .int x0], w) = _
    by_cases hc164 : x0 < (gI w 80 1)
    · refine ((val_ic_lt rfl).trans (if_pos hc164)).trans ?_
      show val (26, d + 3, 17, [some (.ref 64), some (.int x0)], [], w) = _
      refine Eq.trans ?_ (if_pos hc164).symm
      refine (val_g (c2 := (26, d + 3, 18, [some (.ref 64), some (.int x0)], [.ref 64], w)) rfl).trans ?_
      refine (val_g (c2 := (26, d + 3, 19, [some (.ref 64), some (.int x0)], [.ref 64, .ref 64], w)) rfl).trans ?_
      refine (val_gf rfl (hW.k 64 (Nat.le_of_ble_eq_true rfl) (Nat.le_of_ble_eq_true rfl)) rfl).trans ?_
      show val (26, d + 3, 22, [some (.ref 64), some (.int x0)], [.int (gI w 64 0), .ref 64], w) = _
      refine (val_g (c2 := (26, d + 3, 23, [some (.ref 64), some (.int x0)], [.ref 64, .int (gI w 64 0), .ref 64], w)) rfl).trans ?_
      refine (val_gf rfl (hW.k 64 (Nat.le_of_ble_eq_true rfl) (Nat.le_of_ble_eq_true rfl)) (fvR (hW.r 64 7 80 rfl))).trans ?_
      show val (26, d + 3, 26, [some (.ref 64), some (.int x0)], [.ref 80, .int (gI w 64 0), .ref 64], w) = _
      refine (val_gf rfl (hW.k 80 (Nat.le_of_ble_eq_true rfl) (Nat.le_of_ble_eq_true rfl)) (fvR (hW.r 80 0 81 rfl))).trans ?_
      show val (26, d + 3, 29, [some (.ref 64), some (.int x0)], [.ref 81, .int (gI w 64 0), .ref 64], w) = _
      refine (val_g (c2 := (26, d + 3, 30, [some (.ref 64), some (.int x0)], [.int x0, .ref 81, .int (gI w 64 0), .ref 64], w)) rfl).trans ?_
      refine (val_ial rfl (hW.k 81 (Nat.le_of_ble_eq_true rfl) (Nat.le_of_ble_eq_true rfl)) rfl (hy1 hc163 hc164)).trans ?_
      show val (26, d + 3, 31, [some (.ref 64), some (.int x0)], [.int (gI w 81 (x0).toNatClampNeg), .int (gI w 64 0), .ref 64], w) = _
      rfl
    · refine ((val_ic_lt rfl).trans (if_neg hc164)).trans ?_
      show val (26, d + 3, 15, [some (.ref 64), some (.int x0)], [], w) = _
      refine Eq.trans ?_ (if_neg hc164).symm
      refine (val_g (c2 := (26, d + 3, 16, [some (.ref 64), some (.int x0)], [.int (-1)], w)) rfl).trans ?_
      exact val_r rfl
theorem tr_26_37 (d : Nat) (w : Wd) (l1 : Int32) (s0 : Int32)     : val (26, d + 3, 37, [some (.ref 64), some (.int l1)], [.int s0], w) = some (some (.int s0), w) := by
  exact val_r rfl
/-- BelfryHouse.ringer(III)I -/
theorem tr_27 (d : Nat) (w : Wd) (x0 : Int32) (x1 : Int32) (x2 : Int32)     : val (27, d + 1, 0, [some (.ref 64), some (.int x0), some (.int x1), some (.int x2)], [], w) = val (27, d + 1, 2, [some (.ref 64), some (.int x0), some (.int x1), some (.int x2)], [.int x0, .ref 64], w) := by
  refine (val_g (c2 := (27, d + 1, 1, [some (.ref 64), some (.int x0), some (.int x1), some (.int x2)], [.ref 64], w)) rfl).trans ?_
  refine (val_g (c2 := (27, d + 1, 2, [some (.ref 64), some (.int x0), some (.int x1), some (.int x2)], [.int x0, .ref 64], w)) rfl).trans ?_
  rfl
theorem tr_27_5 (d : Nat) (w : Wd) (hW : Fix w) (l1 : Int32) (l2 : Int32) (l3 : Int32) (s0 : Int32)     : val (27, d + 1, 5, [some (.ref 64), some (.int l1), some (.int l2), some (.int l3)], [.int s0], w) = (if s0 = 0 then some (some (.int (-1)), w) else (if l2 < 0 then some (some (.int (-1)), w) else (if 4 < l2 then some (some (.int (-1)), w) else (if l3 < 0 then some (some (.int (-1)), w) else (if l3 ≤ 20 then val (27, d + 1, 36, [some (.ref 64), some (.int l1), some (.int l2), some (.int l3)], [.int l3, .int l2, .int l1, .ref 84], w) else some (some (.int (-1)), w)))))) := by
  by_cases hc170 : s0 = 0
  · refine ((val_if_eq rfl).trans (if_pos hc170)).trans ?_
    show val (27, d + 1, 27, [some (.ref 64), some (.int l1), some (.int l2), some (.int l3)], [], w) = _
    refine Eq.trans ?_ (if_pos hc170).symm
    refine (val_g (c2 := (27, d + 1, 28, [some (.ref 64), some (.int l1), some (.int l2), some (.int l3)], [.int (-1)], w)) rfl).trans ?_
    exact val_r rfl
  · refine ((val_if_eq rfl).trans (if_neg hc170)).trans ?_
    show val (27, d + 1, 8, [some (.ref 64), some (.int l1), some (.int l2), some (.int l3)], [], w) = _
    refine Eq.trans ?_ (if_neg hc170).symm
    refine (val_g (c2 := (27, d + 1, 9, [some (.ref 64), some (.int l1), some (.int l2), some (.int l3)], [.int l2], w)) rfl).trans ?_
    by_cases hc171 : l2 < 0
    · refine ((val_if_lt rfl).trans (if_pos hc171)).trans ?_
      show val (27, d + 1, 27, [some (.ref 64), some (.int l1), some (.int l2), some (.int l3)], [], w) = _
      refine Eq.trans ?_ (if_pos hc171).symm
      refine (val_g (c2 := (27, d + 1, 28, [some (.ref 64), some (.int l1), some (.int l2), some (.int l3)], [.int (-1)], w)) rfl).trans ?_
      exact val_r rfl
    · refine ((val_if_lt rfl).trans (if_neg hc171)).trans ?_
      show val (27, d + 1, 12, [some (.ref 64), some (.int l1), some (.int l2), some (.int l3)], [], w) = _
      refine Eq.trans ?_ (if_neg hc171).symm
      refine (val_g (c2 := (27, d + 1, 13, [some (.ref 64), some (.int l1), some (.int l2), some (.int l3)], [.int l2], w)) rfl).trans ?_
      refine (val_g (c2 := (27, d + 1, 14, [some (.ref 64), some (.int l1), some (.int l2), some (.int l3)], [.int 4, .int l2], w)) rfl).trans ?_
      by_cases hc172 : 4 < l2
      · refine ((val_ic_gt rfl).trans (if_pos hc172)).trans ?_
        show val (27, d + 1, 27, [some (.ref 64), some (.int l1), some (.int l2), some (.int l3)], [], w) = _
        refine Eq.trans ?_ (if_pos hc172).symm
        refine (val_g (c2 := (27, d + 1, 28, [some (.ref 64), some (.int l1), some (.int l2), some (.int l3)], [.int (-1)], w)) rfl).trans ?_
        exact val_r rfl
      · refine ((val_ic_gt rfl).trans (if_neg hc172)).trans ?_
        show val (27, d + 1, 17, [some (.ref 64), some (.int l1), some (.int l2), some (.int l3)], [], w) = _
        refine Eq.trans ?_ (if_neg hc172).symm
        refine (val_g (c2 := (27, d + 1, 18, [some (.ref 64), some (.int l1), some (.int l2), some (.int l3)], [.int l3], w)) rfl).trans ?_
        by_cases hc173 : l3 < 0
        · refine ((val_if_lt rfl).trans (if_pos hc173)).trans ?_
          show val (27, d + 1, 27, [some (.ref 64), some (.int l1), some (.int l2), some (.int l3)], [], w) = _
          refine Eq.trans ?_ (if_pos hc173).symm
          refine (val_g (c2 := (27, d + 1, 28, [some (.ref 64), some (.int l1), some (.int l2), some (.int l3)], [.int (-1)], w)) rfl).trans ?_
          exact val_r rfl
        · refine ((val_if_lt rfl).trans (if_neg hc173)).trans ?_
          show val (27, d + 1, 21, [some (.ref 64), some (.int l1), some (.int l2), some (.int l3)], [], w) = _
          refine Eq.trans ?_ (if_neg hc173).symm
          refine (val_g (c2 := (27, d + 1, 22, [some (.ref 64), some (.int l1), some (.int l2), some (.int l3)], [.int l3], w)) rfl).trans ?_
          refine (val_g (c2 := (27, d + 1, 24, [some (.ref 64), some (.int l1), some (.int l2), some (.int l3)], [.int 20, .int l3], w)) rfl).trans ?_
          by_cases hc174 : l3 ≤ 20
          · refine ((val_ic_le rfl).trans (if_pos hc174)).trans ?_
            show val (27, d + 1, 29, [some (.ref 64), some (.int l1), some (.int l2), some (.int l3)], [], w) = _
            refine Eq.trans ?_ (if_pos hc174).symm
            refine (val_g (c2 := (27, d + 1, 30, [some (.ref 64), some (.int l1), some (.int l2), some (.int l3)], [.ref 64], w)) rfl).trans ?_
            refine (val_gf rfl (hW.k 64 (Nat.le_of_ble_eq_true rfl) (Nat.le_of_ble_eq_true rfl)) (fvR (hW.r 64 8 84 rfl))).trans ?_
            show val (27, d + 1, 33, [some (.ref 64), some (.int l1), some (.int l2), some (.int l3)], [.ref 84], w) = _
            refine (val_g (c2 := (27, d + 1, 34, [some (.ref 64), some (.int l1), some (.int l2), some (.int l3)], [.int l1, .ref 84], w)) rfl).trans ?_
            refine (val_g (c2 := (27, d + 1, 35, [some (.ref 64), some (.int l1), some (.int l2), some (.int l3)], [.int l2, .int l1, .ref 84], w)) rfl).trans ?_
            refine (val_g (c2 := (27, d + 1, 36, [some (.ref 64), some (.int l1), some (.int l2), some (.int l3)], [.int l3, .int l2, .int l1, .ref 84], w)) rfl).trans ?_
            rfl
          · refine ((val_ic_le rfl).trans (if_neg hc174)).trans ?_
            show val (27, d + 1, 27, [some (.ref 64), some (.int l1), some (.int l2), some (.int l3)], [], w) = _
            refine Eq.trans ?_ (if_neg hc174).symm
            refine (val_g (c2 := (27, d + 1, 28, [some (.ref 64), some (.int l1), some (.int l2), some (.int l3)], [.int (-1)], w)) rfl).trans ?_
            exact val_r rfl
theorem tr_27_39 (d : Nat) (w : Wd) (l1 : Int32) (l2 : Int32) (l3 : Int32)     : val (27, d + 1, 39, [some (.ref 64), some (.int l1), some (.int l2), some (.int l3)], [], w) = some (some (.int 0), w) := by
  refine (val_g (c2 := (27, d + 1, 40, [some (.ref 64), some (.int l1), some (.int l2), some (.int l3)], [.int 0], w)) rfl).trans ?_
  exact val_r rfl
/-- BelfryHouse.band(III)I -/
theorem tr_28 (d : Nat) (w : Wd) (hW : Fix w) (x0 : Int32) (x1 : Int32) (x2 : Int32)     : val (28, d + 3, 0, [some (.ref 64), some (.int x0), some (.int x1), some (.int x2), none, none], [], w) = (if x2 < 1 then some (some (.int (-1)), w) else (if 400 < x2 then some (some (.int (-1)), w) else val (28, d + 3, 18, [some (.ref 64), some (.int x0), some (.int x1), some (.int x2), none, none], [.int x2, .int x1, .ref 67], w))) := by
  refine (val_g (c2 := (28, d + 3, 1, [some (.ref 64), some (.int x0), some (.int x1), some (.int x2), none, none], [.int x2], w)) rfl).trans ?_
  refine (val_g (c2 := (28, d + 3, 2, [some (.ref 64), some (.int x0), some (.int x1), some (.int x2), none, none], [.int 1, .int x2], w)) rfl).trans ?_
  by_cases hc180 : x2 < 1
  · refine ((val_ic_lt rfl).trans (if_pos hc180)).trans ?_
    show val (28, d + 3, 24, [some (.ref 64), some (.int x0), some (.int x1), some (.int x2), none, none], [], w) = _
    refine Eq.trans ?_ (if_pos hc180).symm
    refine (val_g (c2 := (28, d + 3, 25, [some (.ref 64), some (.int x0), some (.int x1), some (.int x2), none, none], [.int (-1)], w)) rfl).trans ?_
    exact val_r rfl
  · refine ((val_ic_lt rfl).trans (if_neg hc180)).trans ?_
    show val (28, d + 3, 5, [some (.ref 64), some (.int x0), some (.int x1), some (.int x2), none, none], [], w) = _
    refine Eq.trans ?_ (if_neg hc180).symm
    refine (val_g (c2 := (28, d + 3, 6, [some (.ref 64), some (.int x0), some (.int x1), some (.int x2), none, none], [.int x2], w)) rfl).trans ?_
    refine (val_g (c2 := (28, d + 3, 9, [some (.ref 64), some (.int x0), some (.int x1), some (.int x2), none, none], [.int 400, .int x2], w)) rfl).trans ?_
    by_cases hc181 : 400 < x2
    · refine ((val_ic_gt rfl).trans (if_pos hc181)).trans ?_
      show val (28, d + 3, 24, [some (.ref 64), some (.int x0), some (.int x1), some (.int x2), none, none], [], w) = _
      refine Eq.trans ?_ (if_pos hc181).symm
      refine (val_g (c2 := (28, d + 3, 25, [some (.ref 64), some (.int x0), some (.int x1), some (.int x2), none, none], [.int (-1)], w)) rfl).trans ?_
      exact val_r rfl
    · refine ((val_ic_gt rfl).trans (if_neg hc181)).trans ?_
      show val (28, d + 3, 12, [some (.ref 64), some (.int x0), some (.int x1), some (.int x2), none, none], [], w) = _
      refine Eq.trans ?_ (if_neg hc181).symm
      refine (val_g (c2 := (28, d + 3, 13, [some (.ref 64), some (.int x0), some (.int x1), some (.int x2), none, none], [.ref 64], w)) rfl).trans ?_
      refine (val_gf rfl (hW.k 64 (Nat.le_of_ble_eq_true rfl) (Nat.le_of_ble_eq_true rfl)) (fvR (hW.r 64 5 67 rfl))).trans ?_
      show val (28, d + 3, 16, [some (.ref 64), some (.int x0), some (.int x1), some (.int x2), none, none], [.ref 67], w) = _
      refine (val_g (c2 := (28, d + 3, 17, [some (.ref 64), some (.int x0), some (.int x1), some (.int x2), none, none], [.int x1, .ref 67], w)) rfl).trans ?_
      refine (val_g (c2 := (28, d + 3, 18, [some (.ref 64), some (.int x0), some (.int x1), some (.int x2), none, none], [.int x2, .int x1, .ref 67], w)) rfl).trans ?_
      rfl
theorem tr_28_21 (d : Nat) (w : Wd) (hW : Fix w) (l1 : Int32) (l2 : Int32) (l3 : Int32) (s0 : Int32)     : val (28, d + 3, 21, [some (.ref 64), some (.int l1), some (.int l2), some (.int l3), none, none], [.int s0], w) = (if ¬ s0 = 0 then val (28, d + 3, 30, [some (.ref 64), some (.int l1), some (.int l2), some (.int l3), none, none], [.ref 84], w) else some (some (.int (-1)), w)) := by
  by_cases hc182 : ¬ s0 = 0
  · refine ((val_if_ne rfl).trans (if_pos hc182)).trans ?_
    show val (28, d + 3, 26, [some (.ref 64), some (.int l1), some (.int l2), some (.int l3), none, none], [], w) = _
    refine Eq.trans ?_ (if_pos hc182).symm
    refine (val_g (c2 := (28, d + 3, 27, [some (.ref 64), some (.int l1), some (.int l2), some (.int l3), none, none], [.ref 64], w)) rfl).trans ?_
    refine (val_gf rfl (hW.k 64 (Nat.le_of_ble_eq_true rfl) (Nat.le_of_ble_eq_true rfl)) (fvR (hW.r 64 8 84 rfl))).trans ?_
    show val (28, d + 3, 30, [some (.ref 64), some (.int l1), some (.int l2), some (.int l3), none, none], [.ref 84], w) = _
    rfl
  · refine ((val_if_ne rfl).trans (if_neg hc182)).trans ?_
    show val (28, d + 3, 24, [some (.ref 64), some (.int l1), some (.int l2), some (.int l3), none, none], [], w) = _
    refine Eq.trans ?_ (if_neg hc182).symm
    refine (val_g (c2 := (28, d + 3, 25, [some (.ref 64), some (.int l1), some (.int l2), some (.int l3), none, none], [.int (-1)], w)) rfl).trans ?_
    exact val_r rfl
theorem tr_28_33 (d : Nat) (w : Wd) (l1 : Int32) (l2 : Int32) (l3 : Int32)     : val (28, d + 3, 33, [some (.ref 64), some (.int l1), some (.int l2), some (.int l3), none, none], [], w) = val (28, d + 3, 39, [some (.ref 64), some (.int l1), some (.int l2), some (.int l3), some (.int 0), some (.int l2)], [], w) := by
  refine (val_g (c2 := (28, d + 3, 34, [some (.ref 64), some (.int l1), some (.int l2), some (.int l3), none, none], [.int 0], w)) rfl).trans ?_
  refine (val_g (c2 := (28, d + 3, 36, [some (.ref 64), some (.int l1), some (.int l2), some (.int l3), some (.int 0), none], [], w)) rfl).trans ?_
  refine (val_g (c2 := (28, d + 3, 37, [some (.ref 64), some (.int l1), some (.int l2), some (.int l3), some (.int 0), none], [.int l2], w)) rfl).trans ?_
  refine (val_g (c2 := (28, d + 3, 39, [some (.ref 64), some (.int l1), some (.int l2), some (.int l3), some (.int 0), some (.int l2)], [], w)) rfl).trans ?_
  rfl
theorem tr_28_39 (d : Nat) (w : Wd) (hW : Fix w) (l1 : Int32) (l2 : Int32) (l3 : Int32) (l4 : Int32) (l5 : Int32)    (hy1 : (¬ ((l2 + l3) ≤ l5)) → inB l5 2001 = true) : val (28, d + 3, 39, [some (.ref 64), some (.int l1), some (.int l2), some (.int l3), some (.int l4), some (.int l5)], [], w) = (if (l2 + l3) ≤ l5 then some (some (.int l4), w) else val (28, d + 3, 68, [some (.ref 64), some (.int l1), some (.int l2), some (.int l3), some (.int l4), some (.int l5)], [.int l1, .int l5, .int (gI w 68 (l5).toNatClampNeg), .int (gI w 64 0), .ref 84], w)) := by
  refine (val_g (c2 := (28, d + 3, 41, [some (.ref 64), some (.int l1), some (.int l2), some (.int l3), some (.int l4), some (.int l5)], [.int l5], w)) rfl).trans ?_
  refine (val_g (c2 := (28, d + 3, 42, [some (.ref 64), some (.int l1), some (.int l2), some (.int l3), some (.int l4), some (.int l5)], [.int l2, .int l5], w)) rfl).trans ?_
  refine (val_g (c2 := (28, d + 3, 43, [some (.ref 64), some (.int l1), some (.int l2), some (.int l3), some (.int l4), some (.int l5)], [.int l3, .int l2, .int l5], w)) rfl).trans ?_
  refine (val_g (c2 := (28, d + 3, 44, [some (.ref 64), some (.int l1), some (.int l2), some (.int l3), some (.int l4), some (.int l5)], [.int (l2 + l3), .int l5], w)) rfl).trans ?_
  by_cases hc183 : (l2 + l3) ≤ l5
  · refine ((val_ic_ge rfl).trans (if_pos hc183)).trans ?_
    show val (28, d + 3, 89, [some (.ref 64), some (.int l1), some (.int l2), some (.int l3), some (.int l4), some (.int l5)], [], w) = _
    refine Eq.trans ?_ (if_pos hc183).symm
    refine (val_g (c2 := (28, d + 3, 91, [some (.ref 64), some (.int l1), some (.int l2), some (.int l3), some (.int l4), some (.int l5)], [.int l4], w)) rfl).trans ?_
    exact val_r rfl
  · refine ((val_ic_ge rfl).trans (if_neg hc183)).trans ?_
    show val (28, d + 3, 47, [some (.ref 64), some (.int l1), some (.int l2), some (.int l3), some (.int l4), some (.int l5)], [], w) = _
    refine Eq.trans ?_ (if_neg hc183).symm
    refine (val_g (c2 := (28, d + 3, 48, [some (.ref 64), some (.int l1), some (.int l2), some (.int l3), some (.int l4), some (.int l5)], [.ref 64], w)) rfl).trans ?_
    refine (val_gf rfl (hW.k 64 (Nat.le_of_ble_eq_true rfl) (Nat.le_of_ble_eq_true rfl)) (fvR (hW.r 64 8 84 rfl))).trans ?_
    show val (28, d + 3, 51, [some (.ref 64), some (.int l1), some (.int l2), some (.int l3), some (.int l4), some (.int l5)], [.ref 84], w) = _
    refine (val_g (c2 := (28, d + 3, 52, [some (.ref 64), some (.int l1), some (.int l2), some (.int l3), some (.int l4), some (.int l5)], [.ref 64, .ref 84], w)) rfl).trans ?_
    refine (val_gf rfl (hW.k 64 (Nat.le_of_ble_eq_true rfl) (Nat.le_of_ble_eq_true rfl)) rfl).trans ?_
    show val (28, d + 3, 55, [some (.ref 64), some (.int l1), some (.int l2), some (.int l3), some (.int l4), some (.int l5)], [.int (gI w 64 0), .ref 84], w) = _
    refine (val_g (c2 := (28, d + 3, 56, [some (.ref 64), some (.int l1), some (.int l2), some (.int l3), some (.int l4), some (.int l5)], [.ref 64, .int (gI w 64 0), .ref 84], w)) rfl).trans ?_
    refine (val_gf rfl (hW.k 64 (Nat.le_of_ble_eq_true rfl) (Nat.le_of_ble_eq_true rfl)) (fvR (hW.r 64 5 67 rfl))).trans ?_
    show val (28, d + 3, 59, [some (.ref 64), some (.int l1), some (.int l2), some (.int l3), some (.int l4), some (.int l5)], [.ref 67, .int (gI w 64 0), .ref 84], w) = _
    refine (val_gf rfl (hW.k 67 (Nat.le_of_ble_eq_true rfl) (Nat.le_of_ble_eq_true rfl)) (fvR (hW.r 67 1 68 rfl))).trans ?_
    show val (28, d + 3, 62, [some (.ref 64), some (.int l1), some (.int l2), some (.int l3), some (.int l4), some (.int l5)], [.ref 68, .int (gI w 64 0), .ref 84], w) = _
    refine (val_g (c2 := (28, d + 3, 64, [some (.ref 64), some (.int l1), some (.int l2), some (.int l3), some (.int l4), some (.int l5)], [.int l5, .ref 68, .int (gI w 64 0), .ref 84], w)) rfl).trans ?_
    refine (val_ial rfl (hW.k 68 (Nat.le_of_ble_eq_true rfl) (Nat.le_of_ble_eq_true rfl)) rfl (hy1 hc183)).trans ?_
    show val (28, d + 3, 65, [some (.ref 64), some (.int l1), some (.int l2), some (.int l3), some (.int l4), some (.int l5)], [.int (gI w 68 (l5).toNatClampNeg), .int (gI w 64 0), .ref 84], w) = _
    refine (val_g (c2 := (28, d + 3, 67, [some (.ref 64), some (.int l1), some (.int l2), some (.int l3), some (.int l4), some (.int l5)], [.int l5, .int (gI w 68 (l5).toNatClampNeg), .int (gI w 64 0), .ref 84], w)) rfl).trans ?_
    refine (val_g (c2 := (28, d + 3, 68, [some (.ref 64), some (.int l1), some (.int l2), some (.int l3), some (.int l4), some (.int l5)], [.int l1, .int l5, .int (gI w 68 (l5).toNatClampNeg), .int (gI w 64 0), .ref 84], w)) rfl).trans ?_
    rfl
theorem tr_28_71 (d : Nat) (w : Wd) (l1 : Int32) (l2 : Int32) (l3 : Int32) (l4 : Int32) (l5 : Int32) (s0 : Int32)     : val (28, d + 3, 71, [some (.ref 64), some (.int l1), some (.int l2), some (.int l3), some (.int l4), some (.int l5)], [.int s0], w) = (if ¬ s0 = 0 then val (28, d + 3, 39, [some (.ref 64), some (.int l1), some (.int l2), some (.int l3), some (.int (l4 + 1)), some (.int (l5 + 1))], [], w) else some (some (.int ((-10) - l4)), w)) := by
  by_cases hc184 : ¬ s0 = 0
  · refine ((val_if_ne rfl).trans (if_pos hc184)).trans ?_
    show val (28, d + 3, 80, [some (.ref 64), some (.int l1), some (.int l2), some (.int l3), some (.int l4), some (.int l5)], [], w) = _
    refine Eq.trans ?_ (if_pos hc184).symm
    refine (val_g (c2 := (28, d + 3, 83, [some (.ref 64), some (.int l1), some (.int l2), some (.int l3), some (.int (l4 + 1)), some (.int l5)], [], w)) rfl).trans ?_
    refine (val_g (c2 := (28, d + 3, 86, [some (.ref 64), some (.int l1), some (.int l2), some (.int l3), some (.int (l4 + 1)), some (.int (l5 + 1))], [], w)) rfl).trans ?_
    refine (val_g (c2 := (28, d + 3, 39, [some (.ref 64), some (.int l1), some (.int l2), some (.int l3), some (.int (l4 + 1)), some (.int (l5 + 1))], [], w)) rfl).trans ?_
    rfl
  · refine ((val_if_ne rfl).trans (if_neg hc184)).trans ?_
    show val (28, d + 3, 74, [some (.ref 64), some (.int l1), some (.int l2), some (.int l3), some (.int l4), some (.int l5)], [], w) = _
    refine Eq.trans ?_ (if_neg hc184).symm
    refine (val_g (c2 := (28, d + 3, 76, [some (.ref 64), some (.int l1), some (.int l2), some (.int l3), some (.int l4), some (.int l5)], [.int (-10)], w)) rfl).trans ?_
    refine (val_g (c2 := (28, d + 3, 78, [some (.ref 64), some (.int l1), some (.int l2), some (.int l3), some (.int l4), some (.int l5)], [.int l4, .int (-10)], w)) rfl).trans ?_
    refine (val_g (c2 := (28, d + 3, 79, [some (.ref 64), some (.int l1), some (.int l2), some (.int l3), some (.int l4), some (.int l5)], [.int ((-10) - l4)], w)) rfl).trans ?_
    exact val_r rfl
/-- BelfryHouse.blow(II)I -/
theorem tr_29 (d : Nat) (w : Wd) (x0 : Int32) (x1 : Int32)     : val (29, d + 3, 0, [some (.ref 64), some (.int x0), some (.int x1)], [], w) = val (29, d + 3, 2, [some (.ref 64), some (.int x0), some (.int x1)], [.int x1, .ref 64], w) := by
  refine (val_g (c2 := (29, d + 3, 1, [some (.ref 64), some (.int x0), some (.int x1)], [.ref 64], w)) rfl).trans ?_
  refine (val_g (c2 := (29, d + 3, 2, [some (.ref 64), some (.int x0), some (.int x1)], [.int x1, .ref 64], w)) rfl).trans ?_
  rfl
theorem tr_29_5 (d : Nat) (w : Wd) (hW : Fix w) (l1 : Int32) (l2 : Int32) (s0 : Int32)     : val (29, d + 3, 5, [some (.ref 64), some (.int l1), some (.int l2)], [.int s0], w) = (if s0 = 0 then some (some (.int (-1000000)), w) else val (29, d + 3, 18, [some (.ref 64), some (.int l1), some (.int l2)], [.int l2, .int l1, .int (gI w 64 0), .ref 84], w)) := by
  by_cases hc186 : s0 = 0
  · refine ((val_if_eq rfl).trans (if_pos hc186)).trans ?_
    show val (29, d + 3, 24, [some (.ref 64), some (.int l1), some (.int l2)], [], w) = _
    refine Eq.trans ?_ (if_pos hc186).symm
    refine (val_g (c2 := (29, d + 3, 26, [some (.ref 64), some (.int l1), some (.int l2)], [.int (-1000000)], w)) rfl).trans ?_
    exact val_r rfl
  · refine ((val_if_eq rfl).trans (if_neg hc186)).trans ?_
    show val (29, d + 3, 8, [some (.ref 64), some (.int l1), some (.int l2)], [], w) = _
    refine Eq.trans ?_ (if_neg hc186).symm
    refine (val_g (c2 := (29, d + 3, 9, [some (.ref 64), some (.int l1), some (.int l2)], [.ref 64], w)) rfl).trans ?_
    refine (val_gf rfl (hW.k 64 (Nat.le_of_ble_eq_true rfl) (Nat.le_of_ble_eq_true rfl)) (fvR (hW.r 64 8 84 rfl))).trans ?_
    show val (29, d + 3, 12, [some (.ref 64), some (.int l1), some (.int l2)], [.ref 84], w) = _
    refine (val_g (c2 := (29, d + 3, 13, [some (.ref 64), some (.int l1), some (.int l2)], [.ref 64, .ref 84], w)) rfl).trans ?_
    refine (val_gf rfl (hW.k 64 (Nat.le_of_ble_eq_true rfl) (Nat.le_of_ble_eq_true rfl)) rfl).trans ?_
    show val (29, d + 3, 16, [some (.ref 64), some (.int l1), some (.int l2)], [.int (gI w 64 0), .ref 84], w) = _
    refine (val_g (c2 := (29, d + 3, 17, [some (.ref 64), some (.int l1), some (.int l2)], [.int l1, .int (gI w 64 0), .ref 84], w)) rfl).trans ?_
    refine (val_g (c2 := (29, d + 3, 18, [some (.ref 64), some (.int l1), some (.int l2)], [.int l2, .int l1, .int (gI w 64 0), .ref 84], w)) rfl).trans ?_
    rfl
theorem tr_29_21 (d : Nat) (w : Wd) (l1 : Int32) (l2 : Int32) (s0 : Int32)     : val (29, d + 3, 21, [some (.ref 64), some (.int l1), some (.int l2)], [.int s0], w) = some (some (.int s0), w) := by
  refine (val_g (c2 := (29, d + 3, 26, [some (.ref 64), some (.int l1), some (.int l2)], [.int s0], w)) rfl).trans ?_
  exact val_r rfl
/-- BelfryHouse.ringing(I)I -/
theorem tr_30 (d : Nat) (w : Wd) (hW : Fix w) (x0 : Int32)     : val (30, d, 0, [some (.ref 64), some (.int x0)], [], w) = (if x0 = 0 then some (some (.int (gI w 84 8)), w) else (if x0 = 1 then some (some (.int (gI w 84 9)), w) else (if x0 = 2 then some (some (.int (gI w 84 7)), w) else (if x0 = 3 then some (some (.int (gI w 84 10)), w) else some (some (.int (-1)), w))))) := by
  refine (val_g (c2 := (30, d, 1, [some (.ref 64), some (.int x0)], [.int x0], w)) rfl).trans ?_
  refine (val_tsI rfl).trans ?_
  show (if x0 = 0 then val (30, d, 32, [some (.ref 64), some (.int x0)], [], w) else if x0 = 1 then val (30, d, 40, [some (.ref 64), some (.int x0)], [], w) else if x0 = 2 then val (30, d, 48, [some (.ref 64), some (.int x0)], [], w) else if x0 = 3 then val (30, d, 56, [some (.ref 64), some (.int x0)], [], w) else val (30, d, 64, [some (.ref 64), some (.int x0)], [], w)) = _
  by_cases hc191 : x0 = 0
  · refine (if_pos hc191).trans (Eq.trans ?_ (if_pos hc191).symm)
    refine (val_g (c2 := (30, d, 33, [some (.ref 64), some (.int x0)], [.ref 64], w)) rfl).trans ?_
    refine (val_gf rfl (hW.k 64 (Nat.le_of_ble_eq_true rfl) (Nat.le_of_ble_eq_true rfl)) (fvR (hW.r 64 8 84 rfl))).trans ?_
    show val (30, d, 36, [some (.ref 64), some (.int x0)], [.ref 84], w) = _
    refine (val_gf rfl (hW.k 84 (Nat.le_of_ble_eq_true rfl) (Nat.le_of_ble_eq_true rfl)) rfl).trans ?_
    show val (30, d, 39, [some (.ref 64), some (.int x0)], [.int (gI w 84 8)], w) = _
    exact val_r rfl
  · refine (if_neg hc191).trans (Eq.trans ?_ (if_neg hc191).symm)
    by_cases hc192 : x0 = 1
    · refine (if_pos hc192).trans (Eq.trans ?_ (if_pos hc192).symm)
      refine (val_g (c2 := (30, d, 41, [some (.ref 64), some (.int x0)], [.ref 64], w)) rfl).trans ?_
      refine (val_gf rfl (hW.k 64 (Nat.le_of_ble_eq_true rfl) (Nat.le_of_ble_eq_true rfl)) (fvR (hW.r 64 8 84 rfl))).trans ?_
      show val (30, d, 44, [some (.ref 64), some (.int x0)], [.ref 84], w) = _
      refine (val_gf rfl (hW.k 84 (Nat.le_of_ble_eq_true rfl) (Nat.le_of_ble_eq_true rfl)) rfl).trans ?_
      show val (30, d, 47, [some (.ref 64), some (.int x0)], [.int (gI w 84 9)], w) = _
      exact val_r rfl
    · refine (if_neg hc192).trans (Eq.trans ?_ (if_neg hc192).symm)
      by_cases hc193 : x0 = 2
      · refine (if_pos hc193).trans (Eq.trans ?_ (if_pos hc193).symm)
        refine (val_g (c2 := (30, d, 49, [some (.ref 64), some (.int x0)], [.ref 64], w)) rfl).trans ?_
        refine (val_gf rfl (hW.k 64 (Nat.le_of_ble_eq_true rfl) (Nat.le_of_ble_eq_true rfl)) (fvR (hW.r 64 8 84 rfl))).trans ?_
        show val (30, d, 52, [some (.ref 64), some (.int x0)], [.ref 84], w) = _
        refine (val_gf rfl (hW.k 84 (Nat.le_of_ble_eq_true rfl) (Nat.le_of_ble_eq_true rfl)) rfl).trans ?_
        show val (30, d, 55, [some (.ref 64), some (.int x0)], [.int (gI w 84 7)], w) = _
        exact val_r rfl
      · refine (if_neg hc193).trans (Eq.trans ?_ (if_neg hc193).symm)
        by_cases hc194 : x0 = 3
        · refine (if_pos hc194).trans (Eq.trans ?_ (if_pos hc194).symm)
          refine (val_g (c2 := (30, d, 57, [some (.ref 64), some (.int x0)], [.ref 64], w)) rfl).trans ?_
          refine (val_gf rfl (hW.k 64 (Nat.le_of_ble_eq_true rfl) (Nat.le_of_ble_eq_true rfl)) (fvR (hW.r 64 8 84 rfl))).trans ?_
          show val (30, d, 60, [some (.ref 64), some (.int x0)], [.ref 84], w) = _
          refine (val_gf rfl (hW.k 84 (Nat.le_of_ble_eq_true rfl) (Nat.le_of_ble_eq_true rfl)) rfl).trans ?_
          show val (30, d, 63, [some (.ref 64), some (.int x0)], [.int (gI w 84 10)], w) = _
          exact val_r rfl
        · refine (if_neg hc194).trans (Eq.trans ?_ (if_neg hc194).symm)
          refine (val_g (c2 := (30, d, 65, [some (.ref 64), some (.int x0)], [.int (-1)], w)) rfl).trans ?_
          exact val_r rfl
/-- BelfryHouse.slips(I)I -/
theorem tr_31 (d : Nat) (w : Wd) (x0 : Int32)     : val (31, d + 1, 0, [some (.ref 64), some (.int x0)], [], w) = val (31, d + 1, 2, [some (.ref 64), some (.int x0)], [.int x0, .ref 64], w) := by
  refine (val_g (c2 := (31, d + 1, 1, [some (.ref 64), some (.int x0)], [.ref 64], w)) rfl).trans ?_
  refine (val_g (c2 := (31, d + 1, 2, [some (.ref 64), some (.int x0)], [.int x0, .ref 64], w)) rfl).trans ?_
  rfl
theorem tr_31_5 (d : Nat) (w : Wd) (hW : Fix w) (l1 : Int32) (s0 : Int32)    (hy1 : (¬ (s0 = 0)) → inB l1 9 = true) : val (31, d + 1, 5, [some (.ref 64), some (.int l1)], [.int s0], w) = (if s0 = 0 then some (some (.int (-1)), w) else some (some (.int (gI w 87 (l1).toNatClampNeg)), w)) := by
  by_cases hc196 : s0 = 0
  · refine ((val_if_eq rfl).trans (if_pos hc196)).trans ?_
    show val (31, d + 1, 20, [some (.ref 64), some (.int l1)], [], w) = _
    refine Eq.trans ?_ (if_pos hc196).symm
    refine (val_g (c2 := (31, d + 1, 21, [some (.ref 64), some (.int l1)], [.int (-1)], w)) rfl).trans ?_
    exact val_r rfl
  · refine ((val_if_eq rfl).trans (if_neg hc196)).trans ?_
    show val (31, d + 1, 8, [some (.ref 64), some (.int l1)], [], w) = _
    refine Eq.trans ?_ (if_neg hc196).symm
    refine (val_g (c2 := (31, d + 1, 9, [some (.ref 64), some (.int l1)], [.ref 64], w)) rfl).trans ?_
    refine (val_gf rfl (hW.k 64 (Nat.le_of_ble_eq_true rfl) (Nat.le_of_ble_eq_true rfl)) (fvR (hW.r 64 8 84 rfl))).trans ?_
    show val (31, d + 1, 12, [some (.ref 64), some (.int l1)], [.ref 84], w) = _
    refine (val_gf rfl (hW.k 84 (Nat.le_of_ble_eq_true rfl) (Nat.le_of_ble_eq_true rfl)) (fvR (hW.r 84 2 87 rfl))).trans ?_
    show val (31, d + 1, 15, [some (.ref 64), some (.int l1)], [.ref 87], w) = _
    refine (val_g (c2 := (31, d + 1, 16, [some (.ref 64), some (.int l1)], [.int l1, .ref 87], w)) rfl).trans ?_
    refine (val_ial rfl (hW.k 87 (Nat.le_of_ble_eq_true rfl) (Nat.le_of_ble_eq_true rfl)) rfl (hy1 hc196)).trans ?_
    show val (31, d + 1, 17, [some (.ref 64), some (.int l1)], [.int (gI w 87 (l1).toNatClampNeg)], w) = _
    refine (val_g (c2 := (31, d + 1, 21, [some (.ref 64), some (.int l1)], [.int (gI w 87 (l1).toNatClampNeg)], w)) rfl).trans ?_
    exact val_r rfl
/-- BelfryHouse.note(IJ)I -/
theorem tr_32 (d : Nat) (w : Wd) (x0 : Int32) (x1 : Int64)     : val (32, d + 5, 0, [some (.ref 64), some (.int x0), some (.long x1), none], [], w) = val (32, d + 5, 2, [some (.ref 64), some (.int x0), some (.long x1), none], [.int x0, .ref 64], w) := by
  refine (val_g (c2 := (32, d + 5, 1, [some (.ref 64), some (.int x0), some (.long x1), none], [.ref 64], w)) rfl).trans ?_
  refine (val_g (c2 := (32, d + 5, 2, [some (.ref 64), some (.int x0), some (.long x1), none], [.int x0, .ref 64], w)) rfl).trans ?_
  rfl
theorem tr_32_5 (d : Nat) (w : Wd) (hW : Fix w) (l1 : Int32) (l2 : Int64) (s0 : Int32)     : val (32, d + 5, 5, [some (.ref 64), some (.int l1), some (.long l2), none], [.int s0], w) = (if ¬ s0 = 0 then (if (gI w 91 4) < 300 then val (32, d + 5, 32, [some (.ref 64), some (.int l1), some (.long l2), none], [.long l2, .int l1, .ref 91], w) else some (some (.int (-3)), w)) else some (some (.int (-1)), w)) := by
  by_cases hc199 : ¬ s0 = 0
  · refine ((val_if_ne rfl).trans (if_pos hc199)).trans ?_
    show val (32, d + 5, 10, [some (.ref 64), some (.int l1), some (.long l2), none], [], w) = _
    refine Eq.trans ?_ (if_pos hc199).symm
    refine (val_g (c2 := (32, d + 5, 11, [some (.ref 64), some (.int l1), some (.long l2), none], [.ref 64], w)) rfl).trans ?_
    refine (val_gf rfl (hW.k 64 (Nat.le_of_ble_eq_true rfl) (Nat.le_of_ble_eq_true rfl)) (fvR (hW.r 64 9 91 rfl))).trans ?_
    show val (32, d + 5, 14, [some (.ref 64), some (.int l1), some (.long l2), none], [.ref 91], w) = _
    refine (val_gf rfl (hW.k 91 (Nat.le_of_ble_eq_true rfl) (Nat.le_of_ble_eq_true rfl)) rfl).trans ?_
    show val (32, d + 5, 17, [some (.ref 64), some (.int l1), some (.long l2), none], [.int (gI w 91 4)], w) = _
    refine (val_g (c2 := (32, d + 5, 20, [some (.ref 64), some (.int l1), some (.long l2), none], [.int 300, .int (gI w 91 4)], w)) rfl).trans ?_
    by_cases hc200 : (gI w 91 4) < 300
    · refine ((val_ic_lt rfl).trans (if_pos hc200)).trans ?_
      show val (32, d + 5, 26, [some (.ref 64), some (.int l1), some (.long l2), none], [], w) = _
      refine Eq.trans ?_ (if_pos hc200).symm
      refine (val_g (c2 := (32, d + 5, 27, [some (.ref 64), some (.int l1), some (.long l2), none], [.ref 64], w)) rfl).trans ?_
      refine (val_gf rfl (hW.k 64 (Nat.le_of_ble_eq_true rfl) (Nat.le_of_ble_eq_true rfl)) (fvR (hW.r 64 9 91 rfl))).trans ?_
      show val (32, d + 5, 30, [some (.ref 64), some (.int l1), some (.long l2), none], [.ref 91], w) = _
      refine (val_g (c2 := (32, d + 5, 31, [some (.ref 64), some (.int l1), some (.long l2), none], [.int l1, .ref 91], w)) rfl).trans ?_
      refine (val_g (c2 := (32, d + 5, 32, [some (.ref 64), some (.int l1), some (.long l2), none], [.long l2, .int l1, .ref 91], w)) rfl).trans ?_
      rfl
    · refine ((val_ic_lt rfl).trans (if_neg hc200)).trans ?_
      show val (32, d + 5, 23, [some (.ref 64), some (.int l1), some (.long l2), none], [], w) = _
      refine Eq.trans ?_ (if_neg hc200).symm
      refine (val_g (c2 := (32, d + 5, 25, [some (.ref 64), some (.int l1), some (.long l2), none], [.int (-3)], w)) rfl).trans ?_
      exact val_r rfl
  · refine ((val_if_ne rfl).trans (if_neg hc199)).trans ?_
    show val (32, d + 5, 8, [some (.ref 64), some (.int l1), some (.long l2), none], [], w) = _
    refine Eq.trans ?_ (if_neg hc199).symm
    refine (val_g (c2 := (32, d + 5, 9, [some (.ref 64), some (.int l1), some (.long l2), none], [.int (-1)], w)) rfl).trans ?_
    exact val_r rfl
theorem tr_32_35 (d : Nat) (w : Wd) (l1 : Int32) (l2 : Int64) (s0 : Int32)     : val (32, d + 5, 35, [some (.ref 64), some (.int l1), some (.long l2), none], [.int s0], w) = some (some (.int s0), w) := by
  exact val_r rfl
/-- BelfryHouse.wipe()I -/
theorem tr_33 (d : Nat) (w : Wd) (hW : Fix w)      : val (33, d + 1, 0, [some (.ref 64), none], [], w) = val (33, d + 1, 12, [some (.ref 64), some (.int (gI w 91 4))], [.ref 91], w) := by
  refine (val_g (c2 := (33, d + 1, 1, [some (.ref 64), none], [.ref 64], w)) rfl).trans ?_
  refine (val_gf rfl (hW.k 64 (Nat.le_of_ble_eq_true rfl) (Nat.le_of_ble_eq_true rfl)) (fvR (hW.r 64 9 91 rfl))).trans ?_
  show val (33, d + 1, 4, [some (.ref 64), none], [.ref 91], w) = _
  refine (val_gf rfl (hW.k 91 (Nat.le_of_ble_eq_true rfl) (Nat.le_of_ble_eq_true rfl)) rfl).trans ?_
  show val (33, d + 1, 7, [some (.ref 64), none], [.int (gI w 91 4)], w) = _
  refine (val_g (c2 := (33, d + 1, 8, [some (.ref 64), some (.int (gI w 91 4))], [], w)) rfl).trans ?_
  refine (val_g (c2 := (33, d + 1, 9, [some (.ref 64), some (.int (gI w 91 4))], [.ref 64], w)) rfl).trans ?_
  refine (val_gf rfl (hW.k 64 (Nat.le_of_ble_eq_true rfl) (Nat.le_of_ble_eq_true rfl)) (fvR (hW.r 64 9 91 rfl))).trans ?_
  show val (33, d + 1, 12, [some (.ref 64), some (.int (gI w 91 4))], [.ref 91], w) = _
  rfl
theorem tr_33_15 (d : Nat) (w : Wd) (l1 : Int32)     : val (33, d + 1, 15, [some (.ref 64), some (.int l1)], [], w) = some (some (.int l1), w) := by
  refine (val_g (c2 := (33, d + 1, 16, [some (.ref 64), some (.int l1)], [.int l1], w)) rfl).trans ?_
  exact val_r rfl
/-- BelfryHouse.listen()I -/
theorem tr_34 (d : Nat) (w : Wd) (hW : Fix w)      : val (34, d + 5, 0, [some (.ref 64), none, none, none, none, none, none], [], w) = (if (gI w 84 6) ≤ (300 - (gI w 91 4)) then val (34, d + 5, 27, [some (.ref 64), none, none, none, none, none, none], [.int 1000], w) else some (some (.int (-3)), w)) := by
  refine (val_g (c2 := (34, d + 5, 1, [some (.ref 64), none, none, none, none, none, none], [.ref 64], w)) rfl).trans ?_
  refine (val_gf rfl (hW.k 64 (Nat.le_of_ble_eq_true rfl) (Nat.le_of_ble_eq_true rfl)) (fvR (hW.r 64 8 84 rfl))).trans ?_
  show val (34, d + 5, 4, [some (.ref 64), none, none, none, none, none, none], [.ref 84], w) = _
  refine (val_gf rfl (hW.k 84 (Nat.le_of_ble_eq_true rfl) (Nat.le_of_ble_eq_true rfl)) rfl).trans ?_
  show val (34, d + 5, 7, [some (.ref 64), none, none, none, none, none, none], [.int (gI w 84 6)], w) = _
  refine (val_g (c2 := (34, d + 5, 10, [some (.ref 64), none, none, none, none, none, none], [.int 300, .int (gI w 84 6)], w)) rfl).trans ?_
  refine (val_g (c2 := (34, d + 5, 11, [some (.ref 64), none, none, none, none, none, none], [.ref 64, .int 300, .int (gI w 84 6)], w)) rfl).trans ?_
  refine (val_gf rfl (hW.k 64 (Nat.le_of_ble_eq_true rfl) (Nat.le_of_ble_eq_true rfl)) (fvR (hW.r 64 9 91 rfl))).trans ?_
  show val (34, d + 5, 14, [some (.ref 64), none, none, none, none, none, none], [.ref 91, .int 300, .int (gI w 84 6)], w) = _
  refine (val_gf rfl (hW.k 91 (Nat.le_of_ble_eq_true rfl) (Nat.le_of_ble_eq_true rfl)) rfl).trans ?_
  show val (34, d + 5, 17, [some (.ref 64), none, none, none, none, none, none], [.int (gI w 91 4), .int 300, .int (gI w 84 6)], w) = _
  refine (val_g (c2 := (34, d + 5, 18, [some (.ref 64), none, none, none, none, none, none], [.int (300 - (gI w 91 4)), .int (gI w 84 6)], w)) rfl).trans ?_
  by_cases hc206 : (gI w 84 6) ≤ (300 - (gI w 91 4))
  · refine ((val_ic_le rfl).trans (if_pos hc206)).trans ?_
    show val (34, d + 5, 24, [some (.ref 64), none, none, none, none, none, none], [], w) = _
    refine Eq.trans ?_ (if_pos hc206).symm
    refine (val_g (c2 := (34, d + 5, 27, [some (.ref 64), none, none, none, none, none, none], [.int 1000], w)) rfl).trans ?_
    rfl
  · refine ((val_ic_le rfl).trans (if_neg hc206)).trans ?_
    show val (34, d + 5, 21, [some (.ref 64), none, none, none, none, none, none], [], w) = _
    refine Eq.trans ?_ (if_neg hc206).symm
    refine (val_g (c2 := (34, d + 5, 23, [some (.ref 64), none, none, none, none, none, none], [.int (-3)], w)) rfl).trans ?_
    exact val_r rfl
theorem tr_34_30 (d : Nat) (w : Wd) (s0 : Int64)     : val (34, d + 5, 30, [some (.ref 64), none, none, none, none, none, none], [.long s0], w) = val (34, d + 5, 33, [some (.ref 64), some (.long s0), none, some (.int 0), none, none, none], [], w) := by
  refine (val_g (c2 := (34, d + 5, 31, [some (.ref 64), some (.long s0), none, none, none, none, none], [], w)) rfl).trans ?_
  refine (val_g (c2 := (34, d + 5, 32, [some (.ref 64), some (.long s0), none, none, none, none, none], [.int 0], w)) rfl).trans ?_
  refine (val_g (c2 := (34, d + 5, 33, [some (.ref 64), some (.long s0), none, some (.int 0), none, none, none], [], w)) rfl).trans ?_
  rfl
theorem tr_34_33 (d : Nat) (w : Wd) (hW : Fix w) (l1 : Int64) (l3 : Int32) (l4 : Option Value) (l5 : Option Value)    : val (34, d + 5, 33, [some (.ref 64), some (.long l1), none, some (.int l3), l4, l5, none], [], w) = (if (gI w 84 7) ≤ l3 then some (some (.int (gI w 84 6)), w) else val (34, d + 5, 47, [some (.ref 64), some (.long l1), none, some (.int l3), some (.int 0), l5, none], [], w)) := by
  refine (val_g (c2 := (34, d + 5, 34, [some (.ref 64), some (.long l1), none, some (.int l3), l4, l5, none], [.int l3], w)) rfl).trans ?_
  refine (val_g (c2 := (34, d + 5, 35, [some (.ref 64), some (.long l1), none, some (.int l3), l4, l5, none], [.ref 64, .int l3], w)) rfl).trans ?_
  refine (val_gf rfl (hW.k 64 (Nat.le_of_ble_eq_true rfl) (Nat.le_of_ble_eq_true rfl)) (fvR (hW.r 64 8 84 rfl))).trans ?_
  show val (34, d + 5, 38, [some (.ref 64), some (.long l1), none, some (.int l3), l4, l5, none], [.ref 84, .int l3], w) = _
  refine (val_gf rfl (hW.k 84 (Nat.le_of_ble_eq_true rfl) (Nat.le_of_ble_eq_true rfl)) rfl).trans ?_
  show val (34, d + 5, 41, [some (.ref 64), some (.long l1), none, some (.int l3), l4, l5, none], [.int (gI w 84 7), .int l3], w) = _
  by_cases hc207 : (gI w 84 7) ≤ l3
  · refine ((val_ic_ge rfl).trans (if_pos hc207)).trans ?_
    show val (34, d + 5, 127, [some (.ref 64), some (.long l1), none, some (.int l3), l4, l5, none], [], w) = _
    refine Eq.trans ?_ (if_pos hc207).symm
    refine (val_g (c2 := (34, d + 5, 128, [some (.ref 64), some (.long l1), none, some (.int l3), l4, l5, none], [.ref 64], w)) rfl).trans ?_
    refine (val_gf rfl (hW.k 64 (Nat.le_of_ble_eq_true rfl) (Nat.le_of_ble_eq_true rfl)) (fvR (hW.r 64 8 84 rfl))).trans ?_
    show val (34, d + 5, 131, [some (.ref 64), some (.long l1), none, some (.int l3), l4, l5, none], [.ref 84], w) = _
    refine (val_gf rfl (hW.k 84 (Nat.le_of_ble_eq_true rfl) (Nat.le_of_ble_eq_true rfl)) rfl).trans ?_
    show val (34, d + 5, 134, [some (.ref 64), some (.long l1), none, some (.int l3), l4, l5, none], [.int (gI w 84 6)], w) = _
    exact val_r rfl
  · refine ((val_ic_ge rfl).trans (if_neg hc207)).trans ?_
    show val (34, d + 5, 44, [some (.ref 64), some (.long l1), none, some (.int l3), l4, l5, none], [], w) = _
    refine Eq.trans ?_ (if_neg hc207).symm
    refine (val_g (c2 := (34, d + 5, 45, [some (.ref 64), some (.long l1), none, some (.int l3), l4, l5, none], [.int 0], w)) rfl).trans ?_
    refine (val_g (c2 := (34, d + 5, 47, [some (.ref 64), some (.long l1), none, some (.int l3), some (.int 0), l5, none], [], w)) rfl).trans ?_
    rfl
theorem tr_34_47 (d : Nat) (w : Wd) (hW : Fix w) (l1 : Int64) (l3 : Int32) (l4 : Int32) (l5 : Option Value)   (hy1 : inB l3 400 = true) (hy2 : (¬ ((gI w 89 (l3).toNatClampNeg) ≤ l4)) → inB (((l3 * 8) + l4)) 3200 = true) : val (34, d + 5, 47, [some (.ref 64), some (.long l1), none, some (.int l3), some (.int l4), l5, none], [], w) = (if (gI w 89 (l3).toNatClampNeg) ≤ l4 then val (34, d + 5, 33, [some (.ref 64), some (.long l1), none, some (.int (l3 + 1)), some (.int l4), l5, none], [], w) else val (34, d + 5, 76, [some (.ref 64), some (.long l1), none, some (.int l3), some (.int l4), l5, none], [.int (gI w 90 (((l3 * 8) + l4)).toNatClampNeg)], w)) := by
  refine (val_g (c2 := (34, d + 5, 49, [some (.ref 64), some (.long l1), none, some (.int l3), some (.int l4), l5, none], [.int l4], w)) rfl).trans ?_
  refine (val_g (c2 := (34, d + 5, 50, [some (.ref 64), some (.long l1), none, some (.int l3), some (.int l4), l5, none], [.ref 64, .int l4], w)) rfl).trans ?_
  refine (val_gf rfl (hW.k 64 (Nat.le_of_ble_eq_true rfl) (Nat.le_of_ble_eq_true rfl)) (fvR (hW.r 64 8 84 rfl))).trans ?_
  show val (34, d + 5, 53, [some (.ref 64), some (.long l1), none, some (.int l3), some (.int l4), l5, none], [.ref 84, .int l4], w) = _
  refine (val_gf rfl (hW.k 84 (Nat.le_of_ble_eq_true rfl) (Nat.le_of_ble_eq_true rfl)) (fvR (hW.r 84 4 89 rfl))).trans ?_
  show val (34, d + 5, 56, [some (.ref 64), some (.long l1), none, some (.int l3), some (.int l4), l5, none], [.ref 89, .int l4], w) = _
  refine (val_g (c2 := (34, d + 5, 57, [some (.ref 64), some (.long l1), none, some (.int l3), some (.int l4), l5, none], [.int l3, .ref 89, .int l4], w)) rfl).trans ?_
  refine (val_ial rfl (hW.k 89 (Nat.le_of_ble_eq_true rfl) (Nat.le_of_ble_eq_true rfl)) rfl hy1).trans ?_
  show val (34, d + 5, 58, [some (.ref 64), some (.long l1), none, some (.int l3), some (.int l4), l5, none], [.int (gI w 89 (l3).toNatClampNeg), .int l4], w) = _
  by_cases hc208 : (gI w 89 (l3).toNatClampNeg) ≤ l4
  · refine ((val_ic_ge rfl).trans (if_pos hc208)).trans ?_
    show val (34, d + 5, 121, [some (.ref 64), some (.long l1), none, some (.int l3), some (.int l4), l5, none], [], w) = _
    refine Eq.trans ?_ (if_pos hc208).symm
    refine (val_g (c2 := (34, d + 5, 124, [some (.ref 64), some (.long l1), none, some (.int (l3 + 1)), some (.int l4), l5, none], [], w)) rfl).trans ?_
    refine (val_g (c2 := (34, d + 5, 33, [some (.ref 64), some (.long l1), none, some (.int (l3 + 1)), some (.int l4), l5, none], [], w)) rfl).trans ?_
    rfl
  · refine ((val_ic_ge rfl).trans (if_neg hc208)).trans ?_
    show val (34, d + 5, 61, [some (.ref 64), some (.long l1), none, some (.int l3), some (.int l4), l5, none], [], w) = _
    refine Eq.trans ?_ (if_neg hc208).symm
    refine (val_g (c2 := (34, d + 5, 62, [some (.ref 64), some (.long l1), none, some (.int l3), some (.int l4), l5, none], [.ref 64], w)) rfl).trans ?_
    refine (val_gf rfl (hW.k 64 (Nat.le_of_ble_eq_true rfl) (Nat.le_of_ble_eq_true rfl)) (fvR (hW.r 64 8 84 rfl))).trans ?_
    show val (34, d + 5, 65, [some (.ref 64), some (.long l1), none, some (.int l3), some (.int l4), l5, none], [.ref 84], w) = _
    refine (val_gf rfl (hW.k 84 (Nat.le_of_ble_eq_true rfl) (Nat.le_of_ble_eq_true rfl)) (fvR (hW.r 84 5 90 rfl))).trans ?_
    show val (34, d + 5, 68, [some (.ref 64), some (.long l1), none, some (.int l3), some (.int l4), l5, none], [.ref 90], w) = _
    refine (val_g (c2 := (34, d + 5, 69, [some (.ref 64), some (.long l1), none, some (.int l3), some (.int l4), l5, none], [.int l3, .ref 90], w)) rfl).trans ?_
    refine (val_g (c2 := (34, d + 5, 71, [some (.ref 64), some (.long l1), none, some (.int l3), some (.int l4), l5, none], [.int 8, .int l3, .ref 90], w)) rfl).trans ?_
    refine (val_g (c2 := (34, d + 5, 72, [some (.ref 64), some (.long l1), none, some (.int l3), some (.int l4), l5, none], [.int (l3 * 8), .ref 90], w)) rfl).trans ?_
    refine (val_g (c2 := (34, d + 5, 74, [some (.ref 64), some (.long l1), none, some (.int l3), some (.int l4), l5, none], [.int l4, .int (l3 * 8), .ref 90], w)) rfl).trans ?_
    refine (val_g (c2 := (34, d + 5, 75, [some (.ref 64), some (.long l1), none, some (.int l3), some (.int l4), l5, none], [.int ((l3 * 8) + l4), .ref 90], w)) rfl).trans ?_
    refine (val_ial rfl (hW.k 90 (Nat.le_of_ble_eq_true rfl) (Nat.le_of_ble_eq_true rfl)) rfl (hy2 hc208)).trans ?_
    show val (34, d + 5, 76, [some (.ref 64), some (.long l1), none, some (.int l3), some (.int l4), l5, none], [.int (gI w 90 (((l3 * 8) + l4)).toNatClampNeg)], w) = _
    rfl
theorem tr_34_79 (d : Nat) (w : Wd) (l1 : Int64) (l3 : Int32) (l4 : Int32) (s0 : Int64) (l5 : Option Value)    : val (34, d + 5, 79, [some (.ref 64), some (.long l1), none, some (.int l3), some (.int l4), l5, none], [.long s0], w) = val (34, d + 5, 80, [some (.ref 64), some (.long l1), none, some (.int l3), some (.int l4), l5, none], [.long l1, .long s0], w) := by
  refine (val_g (c2 := (34, d + 5, 80, [some (.ref 64), some (.long l1), none, some (.int l3), some (.int l4), l5, none], [.long l1, .long s0], w)) rfl).trans ?_
  rfl
theorem tr_34_83 (d : Nat) (w : Wd) (hW : Fix w) (l1 : Int64) (l3 : Int32) (l4 : Int32) (s0 : Int64) (l5 : Option Value)   (hy1 : inB l3 400 = true) : val (34, d + 5, 83, [some (.ref 64), some (.long l1), none, some (.int l3), some (.int l4), l5, none], [.long s0], w) = val (34, d + 5, 111, [some (.ref 64), some (.long l1), none, some (.int l3), some (.int l4), some (.long s0), none], [.long s0, .int ((fn_130 ((gI w 64 0)) ((gI w 88 (l3).toNatClampNeg)) l4) + 1), .ref 91], w) := by
  refine (val_g (c2 := (34, d + 5, 85, [some (.ref 64), some (.long l1), none, some (.int l3), some (.int l4), some (.long s0), none], [], w)) rfl).trans ?_
  refine (val_g (c2 := (34, d + 5, 86, [some (.ref 64), some (.long l1), none, some (.int l3), some (.int l4), some (.long s0), none], [.ref 64], w)) rfl).trans ?_
  refine (val_gf rfl (hW.k 64 (Nat.le_of_ble_eq_true rfl) (Nat.le_of_ble_eq_true rfl)) (fvR (hW.r 64 9 91 rfl))).trans ?_
  show val (34, d + 5, 89, [some (.ref 64), some (.long l1), none, some (.int l3), some (.int l4), some (.long s0), none], [.ref 91], w) = _
  refine (val_g (c2 := (34, d + 5, 90, [some (.ref 64), some (.long l1), none, some (.int l3), some (.int l4), some (.long s0), none], [.ref 64, .ref 91], w)) rfl).trans ?_
  refine (val_gf rfl (hW.k 64 (Nat.le_of_ble_eq_true rfl) (Nat.le_of_ble_eq_true rfl)) rfl).trans ?_
  show val (34, d + 5, 93, [some (.ref 64), some (.long l1), none, some (.int l3), some (.int l4), some (.long s0), none], [.int (gI w 64 0), .ref 91], w) = _
  refine (val_g (c2 := (34, d + 5, 94, [some (.ref 64), some (.long l1), none, some (.int l3), some (.int l4), some (.long s0), none], [.ref 64, .int (gI w 64 0), .ref 91], w)) rfl).trans ?_
  refine (val_gf rfl (hW.k 64 (Nat.le_of_ble_eq_true rfl) (Nat.le_of_ble_eq_true rfl)) (fvR (hW.r 64 8 84 rfl))).trans ?_
  show val (34, d + 5, 97, [some (.ref 64), some (.long l1), none, some (.int l3), some (.int l4), some (.long s0), none], [.ref 84, .int (gI w 64 0), .ref 91], w) = _
  refine (val_gf rfl (hW.k 84 (Nat.le_of_ble_eq_true rfl) (Nat.le_of_ble_eq_true rfl)) (fvR (hW.r 84 3 88 rfl))).trans ?_
  show val (34, d + 5, 100, [some (.ref 64), some (.long l1), none, some (.int l3), some (.int l4), some (.long s0), none], [.ref 88, .int (gI w 64 0), .ref 91], w) = _
  refine (val_g (c2 := (34, d + 5, 101, [some (.ref 64), some (.long l1), none, some (.int l3), some (.int l4), some (.long s0), none], [.int l3, .ref 88, .int (gI w 64 0), .ref 91], w)) rfl).trans ?_
  refine (val_ial rfl (hW.k 88 (Nat.le_of_ble_eq_true rfl) (Nat.le_of_ble_eq_true rfl)) rfl hy1).trans ?_
  show val (34, d + 5, 102, [some (.ref 64), some (.long l1), none, some (.int l3), some (.int l4), some (.long s0), none], [.int (gI w 88 (l3).toNatClampNeg), .int (gI w 64 0), .ref 91], w) = _
  refine (val_g (c2 := (34, d + 5, 104, [some (.ref 64), some (.long l1), none, some (.int l3), some (.int l4), some (.long s0), none], [.int l4, .int (gI w 88 (l3).toNatClampNeg), .int (gI w 64 0), .ref 91], w)) rfl).trans ?_
  refine (val_call (w1 := w) (pc2 := 107) rfl rfl rfl rfl rfl (Nat.le_of_ble_eq_true rfl) (Nat.le_of_ble_eq_true rfl) rfl (ev_130 (d + 4) w ((gI w 64 0)) ((gI w 88 (l3).toNatClampNeg)) l4) rfl).trans ?_
  show val (34, d + 5, 107, [some (.ref 64), some (.long l1), none, some (.int l3), some (.int l4), some (.long s0), none], [.int (fn_130 ((gI w 64 0)) ((gI w 88 (l3).toNatClampNeg)) l4), .ref 91], w) = _
  refine (val_g (c2 := (34, d + 5, 108, [some (.ref 64), some (.long l1), none, some (.int l3), some (.int l4), some (.long s0), none], [.int 1, .int (fn_130 ((gI w 64 0)) ((gI w 88 (l3).toNatClampNeg)) l4), .ref 91], w)) rfl).trans ?_
  refine (val_g (c2 := (34, d + 5, 109, [some (.ref 64), some (.long l1), none, some (.int l3), some (.int l4), some (.long s0), none], [.int ((fn_130 ((gI w 64 0)) ((gI w 88 (l3).toNatClampNeg)) l4) + 1), .ref 91], w)) rfl).trans ?_
  refine (val_g (c2 := (34, d + 5, 111, [some (.ref 64), some (.long l1), none, some (.int l3), some (.int l4), some (.long s0), none], [.long s0, .int ((fn_130 ((gI w 64 0)) ((gI w 88 (l3).toNatClampNeg)) l4) + 1), .ref 91], w)) rfl).trans ?_
  rfl
theorem tr_34_114 (d : Nat) (w : Wd) (l1 : Int64) (l3 : Int32) (l4 : Int32) (l5 : Int64) (s0 : Int32)     : val (34, d + 5, 114, [some (.ref 64), some (.long l1), none, some (.int l3), some (.int l4), some (.long l5), none], [.int s0], w) = val (34, d + 5, 47, [some (.ref 64), some (.long l1), none, some (.int l3), some (.int (l4 + 1)), some (.long l5), none], [], w) := by
  refine (val_g (c2 := (34, d + 5, 115, [some (.ref 64), some (.long l1), none, some (.int l3), some (.int l4), some (.long l5), none], [], w)) rfl).trans ?_
  refine (val_g (c2 := (34, d + 5, 118, [some (.ref 64), some (.long l1), none, some (.int l3), some (.int (l4 + 1)), some (.long l5), none], [], w)) rfl).trans ?_
  refine (val_g (c2 := (34, d + 5, 47, [some (.ref 64), some (.long l1), none, some (.int l3), some (.int (l4 + 1)), some (.long l5), none], [], w)) rfl).trans ?_
  rfl
/-- BelfryHouse.inOrder(II)I -/
theorem tr_35 (d : Nat) (w : Wd) (hW : Fix w) (x0 : Int32) (x1 : Int32)    (hy1 : (¬ (x0 < 0)) → (x0 < (gI w 91 5)) → inB x0 300 = true) (hy2 : (¬ (x0 < 0)) → (x0 < (gI w 91 5)) → (¬ (x1 = 0)) → (x1 = 1) → inB ((gI w 94 (x0).toNatClampNeg)) 300 = true) : val (35, d, 0, [some (.ref 64), some (.int x0), some (.int x1), none], [], w) = (if x0 < 0 then some (some (.int (-1)), w) else (if x0 < (gI w 91 5) then (if x1 = 0 then some (some (.int (gI w 94 (x0).toNatClampNeg)), w) else (if x1 = 1 then some (some (.int (gI w 92 ((gI w 94 (x0).toNatClampNeg)).toNatClampNeg)), w) else some (some (.int (-1)), w))) else some (some (.int (-1)), w))) := by
  refine (val_g (c2 := (35, d, 1, [some (.ref 64), some (.int x0), some (.int x1), none], [.int x0], w)) rfl).trans ?_
  by_cases hc213 : x0 < 0
  · refine ((val_if_lt rfl).trans (if_pos hc213)).trans ?_
    show val (35, d, 15, [some (.ref 64), some (.int x0), some (.int x1), none], [], w) = _
    refine Eq.trans ?_ (if_pos hc213).symm
    refine (val_g (c2 := (35, d, 16, [some (.ref 64), some (.int x0), some (.int x1), none], [.int (-1)], w)) rfl).trans ?_
    exact val_r rfl
  · refine ((val_if_lt rfl).trans (if_neg hc213)).trans ?_
    show val (35, d, 4, [some (.ref 64), some (.int x0), some (.int x1), none], [], w) = _
    refine Eq.trans ?_ (if_neg hc213).symm
    refine (val_g (c2 := (35, d, 5, [some (.ref 64), some (.int x0), some (.int x1), none], [.int x0], w)) rfl).trans ?_
    refine (val_g (c2 := (35, d, 6, [some (.ref 64), some (.int x0), some (.int x1), none], [.ref 64, .int x0], w)) rfl).trans ?_
    refine (val_gf rfl (hW.k 64 (Nat.le_of_ble_eq_true rfl) (Nat.le_of_ble_eq_true rfl)) (fvR (hW.r 64 9 91 rfl))).trans ?_
    show val (35, d, 9, [some (.ref 64), some (.int x0), some (.int x1), none], [.ref 91, .int x0], w) = _
    refine (val_gf rfl (hW.k 91 (Nat.le_of_ble_eq_true rfl) (Nat.le_of_ble_eq_true rfl)) rfl).trans ?_
    show val (35, d, 12, [some (.ref 64), some (.int x0), some (.int x1), none], [.int (gI w 91 5), .int x0], w) = _
    by_cases hc214 : x0 < (gI w 91 5)
    · refine ((val_ic_lt rfl).trans (if_pos hc214)).trans ?_
      show val (35, d, 17, [some (.ref 64), some (.int x0), some (.int x1), none], [], w) = _
      refine Eq.trans ?_ (if_pos hc214).symm
      refine (val_g (c2 := (35, d, 18, [some (.ref 64), some (.int x0), some (.int x1), none], [.ref 64], w)) rfl).trans ?_
      refine (val_gf rfl (hW.k 64 (Nat.le_of_ble_eq_true rfl) (Nat.le_of_ble_eq_true rfl)) (fvR (hW.r 64 9 91 rfl))).trans ?_
      show val (35, d, 21, [some (.ref 64), some (.int x0), some (.int x1), none], [.ref 91], w) = _
      refine (val_gf rfl (hW.k 91 (Nat.le_of_ble_eq_true rfl) (Nat.le_of_ble_eq_true rfl)) (fvR (hW.r 91 2 94 rfl))).trans ?_
      show val (35, d, 24, [some (.ref 64), some (.int x0), some (.int x1), none], [.ref 94], w) = _
      refine (val_g (c2 := (35, d, 25, [some (.ref 64), some (.int x0), some (.int x1), none], [.int x0, .ref 94], w)) rfl).trans ?_
      refine (val_ial rfl (hW.k 94 (Nat.le_of_ble_eq_true rfl) (Nat.le_of_ble_eq_true rfl)) rfl (hy1 hc213 hc214)).trans ?_
      show val (35, d, 26, [some (.ref 64), some (.int x0), some (.int x1), none], [.int (gI w 94 (x0).toNatClampNeg)], w) = _
      refine (val_g (c2 := (35, d, 27, [some (.ref 64), some (.int x0), some (.int x1), some (.int (gI w 94 (x0).toNatClampNeg))], [], w)) rfl).trans ?_
      refine (val_g (c2 := (35, d, 28, [some (.ref 64), some (.int x0), some (.int x1), some (.int (gI w 94 (x0).toNatClampNeg))], [.int x1], w)) rfl).trans ?_
      refine (val_lsI rfl).trans ?_
      show (if x1 = 0 then val (35, d, 56, [some (.ref 64), some (.int x0), some (.int x1), some (.int (gI w 94 (x0).toNatClampNeg))], [], w) else if x1 = 1 then val (35, d, 58, [some (.ref 64), some (.int x0), some (.int x1), some (.int (gI w 94 (x0).toNatClampNeg))], [], w) else val (35, d, 68, [some (.ref 64), some (.int x0), some (.int x1), some (.int (gI w 94 (x0).toNatClampNeg))], [], w)) = _
      by_cases hc215 : x1 = 0
      · refine (if_pos hc215).trans (Eq.trans ?_ (if_pos hc215).symm)
        refine (val_g (c2 := (35, d, 57, [some (.ref 64), some (.int x0), some (.int x1), some (.int (gI w 94 (x0).toNatClampNeg))], [.int (gI w 94 (x0).toNatClampNeg)], w)) rfl).trans ?_
        exact val_r rfl
      · refine (if_neg hc215).trans (Eq.trans ?_ (if_neg hc215).symm)
        by_cases hc216 : x1 = 1
        · refine (if_pos hc216).trans (Eq.trans ?_ (if_pos hc216).symm)
          refine (val_g (c2 := (35, d, 59, [some (.ref 64), some (.int x0), some (.int x1), some (.int (gI w 94 (x0).toNatClampNeg))], [.ref 64], w)) rfl).trans ?_
          refine (val_gf rfl (hW.k 64 (Nat.le_of_ble_eq_true rfl) (Nat.le_of_ble_eq_true rfl)) (fvR (hW.r 64 9 91 rfl))).trans ?_
          show val (35, d, 62, [some (.ref 64), some (.int x0), some (.int x1), some (.int (gI w 94 (x0).toNatClampNeg))], [.ref 91], w) = _
          refine (val_gf rfl (hW.k 91 (Nat.le_of_ble_eq_true rfl) (Nat.le_of_ble_eq_true rfl)) (fvR (hW.r 91 0 92 rfl))).trans ?_
          show val (35, d, 65, [some (.ref 64), some (.int x0), some (.int x1), some (.int (gI w 94 (x0).toNatClampNeg))], [.ref 92], w) = _
          refine (val_g (c2 := (35, d, 66, [some (.ref 64), some (.int x0), some (.int x1), some (.int (gI w 94 (x0).toNatClampNeg))], [.int (gI w 94 (x0).toNatClampNeg), .ref 92], w)) rfl).trans ?_
          refine (val_ial rfl (hW.k 92 (Nat.le_of_ble_eq_true rfl) (Nat.le_of_ble_eq_true rfl)) rfl (hy2 hc213 hc214 hc215 hc216)).trans ?_
          show val (35, d, 67, [some (.ref 64), some (.int x0), some (.int x1), some (.int (gI w 94 (x0).toNatClampNeg))], [.int (gI w 92 ((gI w 94 (x0).toNatClampNeg)).toNatClampNeg)], w) = _
          exact val_r rfl
        · refine (if_neg hc216).trans (Eq.trans ?_ (if_neg hc216).symm)
          refine (val_g (c2 := (35, d, 69, [some (.ref 64), some (.int x0), some (.int x1), some (.int (gI w 94 (x0).toNatClampNeg))], [.int (-1)], w)) rfl).trans ?_
          exact val_r rfl
    · refine ((val_ic_lt rfl).trans (if_neg hc214)).trans ?_
      show val (35, d, 15, [some (.ref 64), some (.int x0), some (.int x1), none], [], w) = _
      refine Eq.trans ?_ (if_neg hc214).symm
      refine (val_g (c2 := (35, d, 16, [some (.ref 64), some (.int x0), some (.int x1), none], [.int (-1)], w)) rfl).trans ?_
      exact val_r rfl
/-- BelfryHouse.heard(I)I -/
theorem tr_36 (d : Nat) (w : Wd) (hW : Fix w) (x0 : Int32)    (hy1 : (¬ (x0 < 0)) → ¬ (gI w 64 0) = 0) : val (36, d + 1, 0, [some (.ref 64), some (.int x0)], [], w) = (if x0 < 0 then some (some (.int (-1)), w) else (if x0 < ((gI w 91 5) / (gI w 64 0)) then val (36, d + 1, 31, [some (.ref 64), some (.int x0)], [.int x0, .int (gI w 64 0), .ref 91], w) else some (some (.int (-1)), w))) := by
  refine (val_g (c2 := (36, d + 1, 1, [some (.ref 64), some (.int x0)], [.int x0], w)) rfl).trans ?_
  by_cases hc219 : x0 < 0
  · refine ((val_if_lt rfl).trans (if_pos hc219)).trans ?_
    show val (36, d + 1, 20, [some (.ref 64), some (.int x0)], [], w) = _
    refine Eq.trans ?_ (if_pos hc219).symm
    refine (val_g (c2 := (36, d + 1, 21, [some (.ref 64), some (.int x0)], [.int (-1)], w)) rfl).trans ?_
    exact val_r rfl
  · refine ((val_if_lt rfl).trans (if_neg hc219)).trans ?_
    show val (36, d + 1, 4, [some (.ref 64), some (.int x0)], [], w) = _
    refine Eq.trans ?_ (if_neg hc219).symm
    refine (val_g (c2 := (36, d + 1, 5, [some (.ref 64), some (.int x0)], [.int x0], w)) rfl).trans ?_
    refine (val_g (c2 := (36, d + 1, 6, [some (.ref 64), some (.int x0)], [.ref 64, .int x0], w)) rfl).trans ?_
    refine (val_gf rfl (hW.k 64 (Nat.le_of_ble_eq_true rfl) (Nat.le_of_ble_eq_true rfl)) (fvR (hW.r 64 9 91 rfl))).trans ?_
    show val (36, d + 1, 9, [some (.ref 64), some (.int x0)], [.ref 91, .int x0], w) = _
    refine (val_gf rfl (hW.k 91 (Nat.le_of_ble_eq_true rfl) (Nat.le_of_ble_eq_true rfl)) rfl).trans ?_
    show val (36, d + 1, 12, [some (.ref 64), some (.int x0)], [.int (gI w 91 5), .int x0], w) = _
    refine (val_g (c2 := (36, d + 1, 13, [some (.ref 64), some (.int x0)], [.ref 64, .int (gI w 91 5), .int x0], w)) rfl).trans ?_
    refine (val_gf rfl (hW.k 64 (Nat.le_of_ble_eq_true rfl) (Nat.le_of_ble_eq_true rfl)) rfl).trans ?_
    show val (36, d + 1, 16, [some (.ref 64), some (.int x0)], [.int (gI w 64 0), .int (gI w 91 5), .int x0], w) = _
    refine (val_idiv rfl (hy1 hc219)).trans ?_
    show val (36, d + 1, 17, [some (.ref 64), some (.int x0)], [.int ((gI w 91 5) / (gI w 64 0)), .int x0], w) = _
    by_cases hc220 : x0 < ((gI w 91 5) / (gI w 64 0))
    · refine ((val_ic_lt rfl).trans (if_pos hc220)).trans ?_
      show val (36, d + 1, 22, [some (.ref 64), some (.int x0)], [], w) = _
      refine Eq.trans ?_ (if_pos hc220).symm
      refine (val_g (c2 := (36, d + 1, 23, [some (.ref 64), some (.int x0)], [.ref 64], w)) rfl).trans ?_
      refine (val_gf rfl (hW.k 64 (Nat.le_of_ble_eq_true rfl) (Nat.le_of_ble_eq_true rfl)) (fvR (hW.r 64 9 91 rfl))).trans ?_
      show val (36, d + 1, 26, [some (.ref 64), some (.int x0)], [.ref 91], w) = _
      refine (val_g (c2 := (36, d + 1, 27, [some (.ref 64), some (.int x0)], [.ref 64, .ref 91], w)) rfl).trans ?_
      refine (val_gf rfl (hW.k 64 (Nat.le_of_ble_eq_true rfl) (Nat.le_of_ble_eq_true rfl)) rfl).trans ?_
      show val (36, d + 1, 30, [some (.ref 64), some (.int x0)], [.int (gI w 64 0), .ref 91], w) = _
      refine (val_g (c2 := (36, d + 1, 31, [some (.ref 64), some (.int x0)], [.int x0, .int (gI w 64 0), .ref 91], w)) rfl).trans ?_
      rfl
    · refine ((val_ic_lt rfl).trans (if_neg hc220)).trans ?_
      show val (36, d + 1, 20, [some (.ref 64), some (.int x0)], [], w) = _
      refine Eq.trans ?_ (if_neg hc220).symm
      refine (val_g (c2 := (36, d + 1, 21, [some (.ref 64), some (.int x0)], [.int (-1)], w)) rfl).trans ?_
      exact val_r rfl
theorem tr_36_34 (d : Nat) (w : Wd) (l1 : Int32) (s0 : Int32)     : val (36, d + 1, 34, [some (.ref 64), some (.int l1)], [.int s0], w) = some (some (.int s0), w) := by
  exact val_r rfl
/-- BelfryHouse.line(I)J -/
theorem tr_37 (d : Nat) (w : Wd) (hW : Fix w) (x0 : Int32)     : val (37, d + 7, 0, [some (.ref 64), some (.int x0)], [], w) = (if x0 < 0 then some (some (.long 0), w) else (if x0 ≤ 3 then val (37, d + 7, 15, [some (.ref 64), some (.int x0)], [.ref 91], w) else some (some (.long 0), w))) := by
  refine (val_g (c2 := (37, d + 7, 1, [some (.ref 64), some (.int x0)], [.int x0], w)) rfl).trans ?_
  by_cases hc226 : x0 < 0
  · refine ((val_if_lt rfl).trans (if_pos hc226)).trans ?_
    show val (37, d + 7, 9, [some (.ref 64), some (.int x0)], [], w) = _
    refine Eq.trans ?_ (if_pos hc226).symm
    refine (val_g (c2 := (37, d + 7, 10, [some (.ref 64), some (.int x0)], [.long 0], w)) rfl).trans ?_
    exact val_r rfl
  · refine ((val_if_lt rfl).trans (if_neg hc226)).trans ?_
    show val (37, d + 7, 4, [some (.ref 64), some (.int x0)], [], w) = _
    refine Eq.trans ?_ (if_neg hc226).symm
    refine (val_g (c2 := (37, d + 7, 5, [some (.ref 64), some (.int x0)], [.int x0], w)) rfl).trans ?_
    refine (val_g (c2 := (37, d + 7, 6, [some (.ref 64), some (.int x0)], [.int 3, .int x0], w)) rfl).trans ?_
    by_cases hc227 : x0 ≤ 3
    · refine ((val_ic_le rfl).trans (if_pos hc227)).trans ?_
      show val (37, d + 7, 11, [some (.ref 64), some (.int x0)], [], w) = _
      refine Eq.trans ?_ (if_pos hc227).symm
      refine (val_g (c2 := (37, d + 7, 12, [some (.ref 64), some (.int x0)], [.ref 64], w)) rfl).trans ?_
      refine (val_gf rfl (hW.k 64 (Nat.le_of_ble_eq_true rfl) (Nat.le_of_ble_eq_true rfl)) (fvR (hW.r 64 9 91 rfl))).trans ?_
      show val (37, d + 7, 15, [some (.ref 64), some (.int x0)], [.ref 91], w) = _
      rfl
    · refine ((val_ic_le rfl).trans (if_neg hc227)).trans ?_
      show val (37, d + 7, 9, [some (.ref 64), some (.int x0)], [], w) = _
      refine Eq.trans ?_ (if_neg hc227).symm
      refine (val_g (c2 := (37, d + 7, 10, [some (.ref 64), some (.int x0)], [.long 0], w)) rfl).trans ?_
      exact val_r rfl
theorem tr_37_18 (d : Nat) (w : Wd) (hW : Fix w) (l1 : Int32)     : val (37, d + 7, 18, [some (.ref 64), some (.int l1)], [], w) = (if l1 = 0 then some (some (.long (gL w 91 7)), w) else (if l1 = 1 then some (some (.long (gL w 91 8)), w) else (if l1 = 2 then some (some (.long (gL w 91 9)), w) else some (some (.long (gL w 91 10)), w)))) := by
  refine (val_g (c2 := (37, d + 7, 19, [some (.ref 64), some (.int l1)], [.int l1], w)) rfl).trans ?_
  refine (val_tsI rfl).trans ?_
  show (if l1 = 0 then val (37, d + 7, 44, [some (.ref 64), some (.int l1)], [], w) else if l1 = 1 then val (37, d + 7, 52, [some (.ref 64), some (.int l1)], [], w) else if l1 = 2 then val (37, d + 7, 60, [some (.ref 64), some (.int l1)], [], w) else val (37, d + 7, 68, [some (.ref 64), some (.int l1)], [], w)) = _
  by_cases hc228 : l1 = 0
  · refine (if_pos hc228).trans (Eq.trans ?_ (if_pos hc228).symm)
    refine (val_g (c2 := (37, d + 7, 45, [some (.ref 64), some (.int l1)], [.ref 64], w)) rfl).trans ?_
    refine (val_gf rfl (hW.k 64 (Nat.le_of_ble_eq_true rfl) (Nat.le_of_ble_eq_true rfl)) (fvR (hW.r 64 9 91 rfl))).trans ?_
    show val (37, d + 7, 48, [some (.ref 64), some (.int l1)], [.ref 91], w) = _
    refine (val_gf rfl (hW.k 91 (Nat.le_of_ble_eq_true rfl) (Nat.le_of_ble_eq_true rfl)) rfl).trans ?_
    show val (37, d + 7, 51, [some (.ref 64), some (.int l1)], [.long (gL w 91 7)], w) = _
    exact val_r rfl
  · refine (if_neg hc228).trans (Eq.trans ?_ (if_neg hc228).symm)
    by_cases hc229 : l1 = 1
    · refine (if_pos hc229).trans (Eq.trans ?_ (if_pos hc229).symm)
      refine (val_g (c2 := (37, d + 7, 53, [some (.ref 64), some (.int l1)], [.ref 64], w)) rfl).trans ?_
      refine (val_gf rfl (hW.k 64 (Nat.le_of_ble_eq_true rfl) (Nat.le_of_ble_eq_true rfl)) (fvR (hW.r 64 9 91 rfl))).trans ?_
      show val (37, d + 7, 56, [some (.ref 64), some (.int l1)], [.ref 91], w) = _
      refine (val_gf rfl (hW.k 91 (Nat.le_of_ble_eq_true rfl) (Nat.le_of_ble_eq_true rfl)) rfl).trans ?_
      show val (37, d + 7, 59, [some (.ref 64), some (.int l1)], [.long (gL w 91 8)], w) = _
      exact val_r rfl
    · refine (if_neg hc229).trans (Eq.trans ?_ (if_neg hc229).symm)
      by_cases hc230 : l1 = 2
      · refine (if_pos hc230).trans (Eq.trans ?_ (if_pos hc230).symm)
        refine (val_g (c2 := (37, d + 7, 61, [some (.ref 64), some (.int l1)], [.ref 64], w)) rfl).trans ?_
        refine (val_gf rfl (hW.k 64 (Nat.le_of_ble_eq_true rfl) (Nat.le_of_ble_eq_true rfl)) (fvR (hW.r 64 9 91 rfl))).trans ?_
        show val (37, d + 7, 64, [some (.ref 64), some (.int l1)], [.ref 91], w) = _
        refine (val_gf rfl (hW.k 91 (Nat.le_of_ble_eq_true rfl) (Nat.le_of_ble_eq_true rfl)) rfl).trans ?_
        show val (37, d + 7, 67, [some (.ref 64), some (.int l1)], [.long (gL w 91 9)], w) = _
        exact val_r rfl
      · refine (if_neg hc230).trans (Eq.trans ?_ (if_neg hc230).symm)
        refine (val_g (c2 := (37, d + 7, 69, [some (.ref 64), some (.int l1)], [.ref 64], w)) rfl).trans ?_
        refine (val_gf rfl (hW.k 64 (Nat.le_of_ble_eq_true rfl) (Nat.le_of_ble_eq_true rfl)) (fvR (hW.r 64 9 91 rfl))).trans ?_
        show val (37, d + 7, 72, [some (.ref 64), some (.int l1)], [.ref 91], w) = _
        refine (val_gf rfl (hW.k 91 (Nat.le_of_ble_eq_true rfl) (Nat.le_of_ble_eq_true rfl)) rfl).trans ?_
        show val (37, d + 7, 75, [some (.ref 64), some (.int l1)], [.long (gL w 91 10)], w) = _
        exact val_r rfl
/-- BelfryHouse.along(II)J -/
theorem tr_38 (d : Nat) (w : Wd) (hW : Fix w) (x0 : Int32) (x1 : Int32)     : val (38, d + 7, 0, [some (.ref 64), some (.int x0), some (.int x1)], [], w) = (if x0 < 0 then some (some (.long 0), w) else (if (gI w 91 5) ≤ x0 then some (some (.long 0), w) else (if x1 < 0 then some (some (.long 0), w) else (if x1 ≤ 2 then val (38, d + 7, 30, [some (.ref 64), some (.int x0), some (.int x1)], [.ref 91], w) else some (some (.long 0), w))))) := by
  refine (val_g (c2 := (38, d + 7, 1, [some (.ref 64), some (.int x0), some (.int x1)], [.int x0], w)) rfl).trans ?_
  by_cases hc237 : x0 < 0
  · refine ((val_if_lt rfl).trans (if_pos hc237)).trans ?_
    show val (38, d + 7, 24, [some (.ref 64), some (.int x0), some (.int x1)], [], w) = _
    refine Eq.trans ?_ (if_pos hc237).symm
    refine (val_g (c2 := (38, d + 7, 25, [some (.ref 64), some (.int x0), some (.int x1)], [.long 0], w)) rfl).trans ?_
    exact val_r rfl
  · refine ((val_if_lt rfl).trans (if_neg hc237)).trans ?_
    show val (38, d + 7, 4, [some (.ref 64), some (.int x0), some (.int x1)], [], w) = _
    refine Eq.trans ?_ (if_neg hc237).symm
    refine (val_g (c2 := (38, d + 7, 5, [some (.ref 64), some (.int x0), some (.int x1)], [.int x0], w)) rfl).trans ?_
    refine (val_g (c2 := (38, d + 7, 6, [some (.ref 64), some (.int x0), some (.int x1)], [.ref 64, .int x0], w)) rfl).trans ?_
    refine (val_gf rfl (hW.k 64 (Nat.le_of_ble_eq_true rfl) (Nat.le_of_ble_eq_true rfl)) (fvR (hW.r 64 9 91 rfl))).trans ?_
    show val (38, d + 7, 9, [some (.ref 64), some (.int x0), some (.int x1)], [.ref 91, .int x0], w) = _
    refine (val_gf rfl (hW.k 91 (Nat.le_of_ble_eq_true rfl) (Nat.le_of_ble_eq_true rfl)) rfl).trans ?_
    show val (38, d + 7, 12, [some (.ref 64), some (.int x0), some (.int x1)], [.int (gI w 91 5), .int x0], w) = _
    by_cases hc238 : (gI w 91 5) ≤ x0
    · refine ((val_ic_ge rfl).trans (if_pos hc238)).trans ?_
      show val (38, d + 7, 24, [some (.ref 64), some (.int x0), some (.int x1)], [], w) = _
      refine Eq.trans ?_ (if_pos hc238).symm
      refine (val_g (c2 := (38, d + 7, 25, [some (.ref 64), some (.int x0), some (.int x1)], [.long 0], w)) rfl).trans ?_
      exact val_r rfl
    · refine ((val_ic_ge rfl).trans (if_neg hc238)).trans ?_
      show val (38, d + 7, 15, [some (.ref 64), some (.int x0), some (.int x1)], [], w) = _
      refine Eq.trans ?_ (if_neg hc238).symm
      refine (val_g (c2 := (38, d + 7, 16, [some (.ref 64), some (.int x0), some (.int x1)], [.int x1], w)) rfl).trans ?_
      by_cases hc239 : x1 < 0
      · refine ((val_if_lt rfl).trans (if_pos hc239)).trans ?_
        show val (38, d + 7, 24, [some (.ref 64), some (.int x0), some (.int x1)], [], w) = _
        refine Eq.trans ?_ (if_pos hc239).symm
        refine (val_g (c2 := (38, d + 7, 25, [some (.ref 64), some (.int x0), some (.int x1)], [.long 0], w)) rfl).trans ?_
        exact val_r rfl
      · refine ((val_if_lt rfl).trans (if_neg hc239)).trans ?_
        show val (38, d + 7, 19, [some (.ref 64), some (.int x0), some (.int x1)], [], w) = _
        refine Eq.trans ?_ (if_neg hc239).symm
        refine (val_g (c2 := (38, d + 7, 20, [some (.ref 64), some (.int x0), some (.int x1)], [.int x1], w)) rfl).trans ?_
        refine (val_g (c2 := (38, d + 7, 21, [some (.ref 64), some (.int x0), some (.int x1)], [.int 2, .int x1], w)) rfl).trans ?_
        by_cases hc240 : x1 ≤ 2
        · refine ((val_ic_le rfl).trans (if_pos hc240)).trans ?_
          show val (38, d + 7, 26, [some (.ref 64), some (.int x0), some (.int x1)], [], w) = _
          refine Eq.trans ?_ (if_pos hc240).symm
          refine (val_g (c2 := (38, d + 7, 27, [some (.ref 64), some (.int x0), some (.int x1)], [.ref 64], w)) rfl).trans ?_
          refine (val_gf rfl (hW.k 64 (Nat.le_of_ble_eq_true rfl) (Nat.le_of_ble_eq_true rfl)) (fvR (hW.r 64 9 91 rfl))).trans ?_
          show val (38, d + 7, 30, [some (.ref 64), some (.int x0), some (.int x1)], [.ref 91], w) = _
          rfl
        · refine ((val_ic_le rfl).trans (if_neg hc240)).trans ?_
          show val (38, d + 7, 24, [some (.ref 64), some (.int x0), some (.int x1)], [], w) = _
          refine Eq.trans ?_ (if_neg hc240).symm
          refine (val_g (c2 := (38, d + 7, 25, [some (.ref 64), some (.int x0), some (.int x1)], [.long 0], w)) rfl).trans ?_
          exact val_r rfl
theorem tr_38_33 (d : Nat) (w : Wd) (hW : Fix w) (l1 : Int32) (l2 : Int32)    (hy1 : (¬ (l2 = 0)) → (l2 = 1) → inB l1 300 = true) : val (38, d + 7, 33, [some (.ref 64), some (.int l1), some (.int l2)], [], w) = (if l2 = 0 then val (38, d + 7, 65, [some (.ref 64), some (.int l1), some (.int l2)], [.int l1, .ref 91], w) else (if l2 = 1 then some (some (.long (gL w 95 (l1).toNatClampNeg)), w) else val (38, d + 7, 84, [some (.ref 64), some (.int l1), some (.int l2)], [.int l1, .ref 91], w))) := by
  refine (val_g (c2 := (38, d + 7, 34, [some (.ref 64), some (.int l1), some (.int l2)], [.int l2], w)) rfl).trans ?_
  refine (val_lsI rfl).trans ?_
  show (if l2 = 0 then val (38, d + 7, 60, [some (.ref 64), some (.int l1), some (.int l2)], [], w) else if l2 = 1 then val (38, d + 7, 69, [some (.ref 64), some (.int l1), some (.int l2)], [], w) else val (38, d + 7, 79, [some (.ref 64), some (.int l1), some (.int l2)], [], w)) = _
  by_cases hc241 : l2 = 0
  · refine (if_pos hc241).trans (Eq.trans ?_ (if_pos hc241).symm)
    refine (val_g (c2 := (38, d + 7, 61, [some (.ref 64), some (.int l1), some (.int l2)], [.ref 64], w)) rfl).trans ?_
    refine (val_gf rfl (hW.k 64 (Nat.le_of_ble_eq_true rfl) (Nat.le_of_ble_eq_true rfl)) (fvR (hW.r 64 9 91 rfl))).trans ?_
    show val (38, d + 7, 64, [some (.ref 64), some (.int l1), some (.int l2)], [.ref 91], w) = _
    refine (val_g (c2 := (38, d + 7, 65, [some (.ref 64), some (.int l1), some (.int l2)], [.int l1, .ref 91], w)) rfl).trans ?_
    rfl
  · refine (if_neg hc241).trans (Eq.trans ?_ (if_neg hc241).symm)
    by_cases hc242 : l2 = 1
    · refine (if_pos hc242).trans (Eq.trans ?_ (if_pos hc242).symm)
      refine (val_g (c2 := (38, d + 7, 70, [some (.ref 64), some (.int l1), some (.int l2)], [.ref 64], w)) rfl).trans ?_
      refine (val_gf rfl (hW.k 64 (Nat.le_of_ble_eq_true rfl) (Nat.le_of_ble_eq_true rfl)) (fvR (hW.r 64 9 91 rfl))).trans ?_
      show val (38, d + 7, 73, [some (.ref 64), some (.int l1), some (.int l2)], [.ref 91], w) = _
      refine (val_gf rfl (hW.k 91 (Nat.le_of_ble_eq_true rfl) (Nat.le_of_ble_eq_true rfl)) (fvR (hW.r 91 3 95 rfl))).trans ?_
      show val (38, d + 7, 76, [some (.ref 64), some (.int l1), some (.int l2)], [.ref 95], w) = _
      refine (val_g (c2 := (38, d + 7, 77, [some (.ref 64), some (.int l1), some (.int l2)], [.int l1, .ref 95], w)) rfl).trans ?_
      refine (val_lal rfl (hW.k 95 (Nat.le_of_ble_eq_true rfl) (Nat.le_of_ble_eq_true rfl)) (hy1 hc241 hc242)).trans ?_
      show val (38, d + 7, 78, [some (.ref 64), some (.int l1), some (.int l2)], [.long (gL w 95 (l1).toNatClampNeg)], w) = _
      exact val_r rfl
    · refine (if_neg hc242).trans (Eq.trans ?_ (if_neg hc242).symm)
      refine (val_g (c2 := (38, d + 7, 80, [some (.ref 64), some (.int l1), some (.int l2)], [.ref 64], w)) rfl).trans ?_
      refine (val_gf rfl (hW.k 64 (Nat.le_of_ble_eq_true rfl) (Nat.le_of_ble_eq_true rfl)) (fvR (hW.r 64 9 91 rfl))).trans ?_
      show val (38, d + 7, 83, [some (.ref 64), some (.int l1), some (.int l2)], [.ref 91], w) = _
      refine (val_g (c2 := (38, d + 7, 84, [some (.ref 64), some (.int l1), some (.int l2)], [.int l1, .ref 91], w)) rfl).trans ?_
      rfl
theorem tr_38_68 (d : Nat) (w : Wd) (l1 : Int32) (l2 : Int32) (s0 : Int64)     : val (38, d + 7, 68, [some (.ref 64), some (.int l1), some (.int l2)], [.long s0], w) = some (some (.long s0), w) := by
  exact val_r rfl
theorem tr_38_87 (d : Nat) (w : Wd) (l1 : Int32) (l2 : Int32) (s0 : Int64)     : val (38, d + 7, 87, [some (.ref 64), some (.int l1), some (.int l2)], [.long s0], w) = some (some (.long s0), w) := by
  exact val_r rfl
/-- BelfryHouse.board(III)I -/
theorem tr_41 (d : Nat) (w : Wd) (hW : Fix w) (x0 : Int32) (x1 : Int32) (x2 : Int32)     : val (41, d + 2, 0, [some (.ref 64), some (.int x0), some (.int x1), some (.int x2)], [], w) = (if (fn_39 x0) = 0 then some (some (.int (-1)), w) else (if (fn_40 x1) = 0 then some (some (.int (-1)), w) else (if x2 ≤ 64 then (if 0 ≤ x2 then val (41, d + 2, 36, [some (.ref 64), some (.int x0), some (.int x1), some (.int x2)], [.int x2, .int x1, .int x0, .ref 96], w) else some (some (.int (-5)), w)) else some (some (.int (-1)), w)))) := by
  refine (val_g (c2 := (41, d + 2, 1, [some (.ref 64), some (.int x0), some (.int x1), some (.int x2)], [.int x0], w)) rfl).trans ?_
  refine (val_call (w1 := w) (pc2 := 4) rfl rfl rfl rfl rfl (Nat.le_of_ble_eq_true rfl) (Nat.le_of_ble_eq_true rfl) rfl (ev_39 (d + 1) w x0) rfl).trans ?_
  show val (41, d + 2, 4, [some (.ref 64), some (.int x0), some (.int x1), some (.int x2)], [.int (fn_39 x0)], w) = _
  by_cases hc247 : (fn_39 x0) = 0
  · refine ((val_if_eq rfl).trans (if_pos hc247)).trans ?_
    show val (41, d + 2, 20, [some (.ref 64), some (.int x0), some (.int x1), some (.int x2)], [], w) = _
    refine Eq.trans ?_ (if_pos hc247).symm
    refine (val_g (c2 := (41, d + 2, 21, [some (.ref 64), some (.int x0), some (.int x1), some (.int x2)], [.int (-1)], w)) rfl).trans ?_
    exact val_r rfl
  · refine ((val_if_eq rfl).trans (if_neg hc247)).trans ?_
    show val (41, d + 2, 7, [some (.ref 64), some (.int x0), some (.int x1), some (.int x2)], [], w) = _
    refine Eq.trans ?_ (if_neg hc247).symm
    refine (val_g (c2 := (41, d + 2, 8, [some (.ref 64), some (.int x0), some (.int x1), some (.int x2)], [.int x1], w)) rfl).trans ?_
    refine (val_call (w1 := w) (pc2 := 11) rfl rfl rfl rfl rfl (Nat.le_of_ble_eq_true rfl) (Nat.le_of_ble_eq_true rfl) rfl (ev_40 (d + 1) w x1) rfl).trans ?_
    show val (41, d + 2, 11, [some (.ref 64), some (.int x0), some (.int x1), some (.int x2)], [.int (fn_40 x1)], w) = _
    by_cases hc248 : (fn_40 x1) = 0
    · refine ((val_if_eq rfl).trans (if_pos hc248)).trans ?_
      show val (41, d + 2, 20, [some (.ref 64), some (.int x0), some (.int x1), some (.int x2)], [], w) = _
      refine Eq.trans ?_ (if_pos hc248).symm
      refine (val_g (c2 := (41, d + 2, 21, [some (.ref 64), some (.int x0), some (.int x1), some (.int x2)], [.int (-1)], w)) rfl).trans ?_
      exact val_r rfl
    · refine ((val_if_eq rfl).trans (if_neg hc248)).trans ?_
      show val (41, d + 2, 14, [some (.ref 64), some (.int x0), some (.int x1), some (.int x2)], [], w) = _
      refine Eq.trans ?_ (if_neg hc248).symm
      refine (val_g (c2 := (41, d + 2, 15, [some (.ref 64), some (.int x0), some (.int x1), some (.int x2)], [.int x2], w)) rfl).trans ?_
      refine (val_g (c2 := (41, d + 2, 17, [some (.ref 64), some (.int x0), some (.int x1), some (.int x2)], [.int 64, .int x2], w)) rfl).trans ?_
      by_cases hc249 : x2 ≤ 64
      · refine ((val_ic_le rfl).trans (if_pos hc249)).trans ?_
        show val (41, d + 2, 22, [some (.ref 64), some (.int x0), some (.int x1), some (.int x2)], [], w) = _
        refine Eq.trans ?_ (if_pos hc249).symm
        refine (val_g (c2 := (41, d + 2, 23, [some (.ref 64), some (.int x0), some (.int x1), some (.int x2)], [.int x2], w)) rfl).trans ?_
        by_cases hc250 : 0 ≤ x2
        · refine ((val_if_ge rfl).trans (if_pos hc250)).trans ?_
          show val (41, d + 2, 29, [some (.ref 64), some (.int x0), some (.int x1), some (.int x2)], [], w) = _
          refine Eq.trans ?_ (if_pos hc250).symm
          refine (val_g (c2 := (41, d + 2, 30, [some (.ref 64), some (.int x0), some (.int x1), some (.int x2)], [.ref 64], w)) rfl).trans ?_
          refine (val_gf rfl (hW.k 64 (Nat.le_of_ble_eq_true rfl) (Nat.le_of_ble_eq_true rfl)) (fvR (hW.r 64 10 96 rfl))).trans ?_
          show val (41, d + 2, 33, [some (.ref 64), some (.int x0), some (.int x1), some (.int x2)], [.ref 96], w) = _
          refine (val_g (c2 := (41, d + 2, 34, [some (.ref 64), some (.int x0), some (.int x1), some (.int x2)], [.int x0, .ref 96], w)) rfl).trans ?_
          refine (val_g (c2 := (41, d + 2, 35, [some (.ref 64), some (.int x0), some (.int x1), some (.int x2)], [.int x1, .int x0, .ref 96], w)) rfl).trans ?_
          refine (val_g (c2 := (41, d + 2, 36, [some (.ref 64), some (.int x0), some (.int x1), some (.int x2)], [.int x2, .int x1, .int x0, .ref 96], w)) rfl).trans ?_
          rfl
        · refine ((val_if_ge rfl).trans (if_neg hc250)).trans ?_
          show val (41, d + 2, 26, [some (.ref 64), some (.int x0), some (.int x1), some (.int x2)], [], w) = _
          refine Eq.trans ?_ (if_neg hc250).symm
          refine (val_g (c2 := (41, d + 2, 28, [some (.ref 64), some (.int x0), some (.int x1), some (.int x2)], [.int (-5)], w)) rfl).trans ?_
          exact val_r rfl
      · refine ((val_ic_le rfl).trans (if_neg hc249)).trans ?_
        show val (41, d + 2, 20, [some (.ref 64), some (.int x0), some (.int x1), some (.int x2)], [], w) = _
        refine Eq.trans ?_ (if_neg hc249).symm
        refine (val_g (c2 := (41, d + 2, 21, [some (.ref 64), some (.int x0), some (.int x1), some (.int x2)], [.int (-1)], w)) rfl).trans ?_
        exact val_r rfl
theorem tr_41_39 (d : Nat) (w : Wd) (l1 : Int32) (l2 : Int32) (l3 : Int32)     : val (41, d + 2, 39, [some (.ref 64), some (.int l1), some (.int l2), some (.int l3)], [], w) = some (some (.int 0), w) := by
  refine (val_g (c2 := (41, d + 2, 40, [some (.ref 64), some (.int l1), some (.int l2), some (.int l3)], [.int 0], w)) rfl).trans ?_
  exact val_r rfl
/-- BelfryHouse.clear(I)I -/
theorem tr_42 (d : Nat) (w : Wd) (hW : Fix w) (x0 : Int32)    (hy1 : (¬ (fn_39 x0) = 0) → inB x0 8 = true) : val (42, d + 1, 0, [some (.ref 64), some (.int x0)], [], w) = (if ¬ (fn_39 x0) = 0 then some (some (.int 0), (sI w 97 (x0).toNatClampNeg ((-1)))) else some (some (.int (-1)), w)) := by
  refine (val_g (c2 := (42, d + 1, 1, [some (.ref 64), some (.int x0)], [.int x0], w)) rfl).trans ?_
  refine (val_call (w1 := w) (pc2 := 4) rfl rfl rfl rfl rfl (Nat.le_of_ble_eq_true rfl) (Nat.le_of_ble_eq_true rfl) rfl (ev_39 (d) w x0) rfl).trans ?_
  show val (42, d + 1, 4, [some (.ref 64), some (.int x0)], [.int (fn_39 x0)], w) = _
  by_cases hc252 : ¬ (fn_39 x0) = 0
  · refine ((val_if_ne rfl).trans (if_pos hc252)).trans ?_
    show val (42, d + 1, 9, [some (.ref 64), some (.int x0)], [], w) = _
    refine Eq.trans ?_ (if_pos hc252).symm
    refine (val_g (c2 := (42, d + 1, 10, [some (.ref 64), some (.int x0)], [.ref 64], w)) rfl).trans ?_
    refine (val_gf rfl (hW.k 64 (Nat.le_of_ble_eq_true rfl) (Nat.le_of_ble_eq_true rfl)) (fvR (hW.r 64 10 96 rfl))).trans ?_
    show val (42, d + 1, 13, [some (.ref 64), some (.int x0)], [.ref 96], w) = _
    refine (val_gf rfl (hW.k 96 (Nat.le_of_ble_eq_true rfl) (Nat.le_of_ble_eq_true rfl)) (fvR (hW.r 96 0 97 rfl))).trans ?_
    show val (42, d + 1, 16, [some (.ref 64), some (.int x0)], [.ref 97], w) = _
    refine (val_g (c2 := (42, d + 1, 17, [some (.ref 64), some (.int x0)], [.int x0, .ref 97], w)) rfl).trans ?_
    refine (val_g (c2 := (42, d + 1, 18, [some (.ref 64), some (.int x0)], [.int (-1), .int x0, .ref 97], w)) rfl).trans ?_
    refine (val_ias rfl (hW.k 97 (Nat.le_of_ble_eq_true rfl) (Nat.le_of_ble_eq_true rfl)) (hy1 hc252)).trans ?_
    show val (42, d + 1, 19, [some (.ref 64), some (.int x0)], [], (sI w 97 (x0).toNatClampNeg ((-1)))) = _
    refine (val_g (c2 := (42, d + 1, 20, [some (.ref 64), some (.int x0)], [.int 0], (sI w 97 (x0).toNatClampNeg ((-1))))) rfl).trans ?_
    exact val_r rfl
  · refine ((val_if_ne rfl).trans (if_neg hc252)).trans ?_
    show val (42, d + 1, 7, [some (.ref 64), some (.int x0)], [], w) = _
    refine Eq.trans ?_ (if_neg hc252).symm
    refine (val_g (c2 := (42, d + 1, 8, [some (.ref 64), some (.int x0)], [.int (-1)], w)) rfl).trans ?_
    exact val_r rfl
/-- BelfryHouse.items(I)I -/
theorem tr_43 (d : Nat) (w : Wd) (hW : Fix w) (x0 : Int32)     : val (43, d + 1, 0, [some (.ref 64), some (.int x0)], [], w) = (if ¬ (fn_39 x0) = 0 then val (43, d + 1, 14, [some (.ref 64), some (.int x0)], [.int x0, .ref 96], w) else some (some (.int (-1)), w)) := by
  refine (val_g (c2 := (43, d + 1, 1, [some (.ref 64), some (.int x0)], [.int x0], w)) rfl).trans ?_
  refine (val_call (w1 := w) (pc2 := 4) rfl rfl rfl rfl rfl (Nat.le_of_ble_eq_true rfl) (Nat.le_of_ble_eq_true rfl) rfl (ev_39 (d) w x0) rfl).trans ?_
  show val (43, d + 1, 4, [some (.ref 64), some (.int x0)], [.int (fn_39 x0)], w) = _
  by_cases hc255 : ¬ (fn_39 x0) = 0
  · refine ((val_if_ne rfl).trans (if_pos hc255)).trans ?_
    show val (43, d + 1, 9, [some (.ref 64), some (.int x0)], [], w) = _
    refine Eq.trans ?_ (if_pos hc255).symm
    refine (val_g (c2 := (43, d + 1, 10, [some (.ref 64), some (.int x0)], [.ref 64], w)) rfl).trans ?_
    refine (val_gf rfl (hW.k 64 (Nat.le_of_ble_eq_true rfl) (Nat.le_of_ble_eq_true rfl)) (fvR (hW.r 64 10 96 rfl))).trans ?_
    show val (43, d + 1, 13, [some (.ref 64), some (.int x0)], [.ref 96], w) = _
    refine (val_g (c2 := (43, d + 1, 14, [some (.ref 64), some (.int x0)], [.int x0, .ref 96], w)) rfl).trans ?_
    rfl
  · refine ((val_if_ne rfl).trans (if_neg hc255)).trans ?_
    show val (43, d + 1, 7, [some (.ref 64), some (.int x0)], [], w) = _
    refine Eq.trans ?_ (if_neg hc255).symm
    refine (val_g (c2 := (43, d + 1, 8, [some (.ref 64), some (.int x0)], [.int (-1)], w)) rfl).trans ?_
    exact val_r rfl
theorem tr_43_17 (d : Nat) (w : Wd) (hW : Fix w) (l1 : Int32) (s0 : Int32)    (hy1 : (s0 = 0) → inB l1 8 = true) : val (43, d + 1, 17, [some (.ref 64), some (.int l1)], [.int s0], w) = (if s0 = 0 then some (some (.int (gI w 98 (l1).toNatClampNeg)), w) else some (some (.int (-4)), w)) := by
  by_cases hc256 : s0 = 0
  · refine ((val_if_eq rfl).trans (if_pos hc256)).trans ?_
    show val (43, d + 1, 25, [some (.ref 64), some (.int l1)], [], w) = _
    refine Eq.trans ?_ (if_pos hc256).symm
    refine (val_g (c2 := (43, d + 1, 26, [some (.ref 64), some (.int l1)], [.ref 64], w)) rfl).trans ?_
    refine (val_gf rfl (hW.k 64 (Nat.le_of_ble_eq_true rfl) (Nat.le_of_ble_eq_true rfl)) (fvR (hW.r 64 10 96 rfl))).trans ?_
    show val (43, d + 1, 29, [some (.ref 64), some (.int l1)], [.ref 96], w) = _
    refine (val_gf rfl (hW.k 96 (Nat.le_of_ble_eq_true rfl) (Nat.le_of_ble_eq_true rfl)) (fvR (hW.r 96 1 98 rfl))).trans ?_
    show val (43, d + 1, 32, [some (.ref 64), some (.int l1)], [.ref 98], w) = _
    refine (val_g (c2 := (43, d + 1, 33, [some (.ref 64), some (.int l1)], [.int l1, .ref 98], w)) rfl).trans ?_
    refine (val_ial rfl (hW.k 98 (Nat.le_of_ble_eq_true rfl) (Nat.le_of_ble_eq_true rfl)) rfl (hy1 hc256)).trans ?_
    show val (43, d + 1, 34, [some (.ref 64), some (.int l1)], [.int (gI w 98 (l1).toNatClampNeg)], w) = _
    exact val_r rfl
  · refine ((val_if_eq rfl).trans (if_neg hc256)).trans ?_
    show val (43, d + 1, 20, [some (.ref 64), some (.int l1)], [], w) = _
    refine Eq.trans ?_ (if_neg hc256).symm
    refine (val_g (c2 := (43, d + 1, 22, [some (.ref 64), some (.int l1)], [.int (-4)], w)) rfl).trans ?_
    refine (val_g (c2 := (43, d + 1, 34, [some (.ref 64), some (.int l1)], [.int (-4)], w)) rfl).trans ?_
    exact val_r rfl
/-- BelfryHouse.fill(III)I -/
theorem tr_44 (d : Nat) (w : Wd) (hW : Fix w) (x0 : Int32) (x1 : Int32) (x2 : Int32)     : val (44, d + 4, 0, [some (.ref 64), some (.int x0), some (.int x1), some (.int x2), none, none, none], [], w) = (if (fn_39 x0) = 0 then some (some (.int (-1)), w) else (if x2 < 0 then some (some (.int (-1)), w) else (if x2 ≤ 64 then (if x2 ≤ 0 then val (44, d + 4, 42, [some (.ref 64), some (.int x0), some (.int x1), some (.int x2), none, none, none], [.int x0, .ref 96], w) else val (44, d + 4, 29, [some (.ref 64), some (.int x0), some (.int x1), some (.int x2), none, none, none], [.int x2, .int x1, .ref 67], w)) else some (some (.int (-1)), w)))) := by
  refine (val_g (c2 := (44, d + 4, 1, [some (.ref 64), some (.int x0), some (.int x1), some (.int x2), none, none, none], [.int x0], w)) rfl).trans ?_
  refine (val_call (w1 := w) (pc2 := 4) rfl rfl rfl rfl rfl (Nat.le_of_ble_eq_true rfl) (Nat.le_of_ble_eq_true rfl) rfl (ev_39 (d + 3) w x0) rfl).trans ?_
  show val (44, d + 4, 4, [some (.ref 64), some (.int x0), some (.int x1), some (.int x2), none, none, none], [.int (fn_39 x0)], w) = _
  by_cases hc268 : (fn_39 x0) = 0
  · refine ((val_if_eq rfl).trans (if_pos hc268)).trans ?_
    show val (44, d + 4, 17, [some (.ref 64), some (.int x0), some (.int x1), some (.int x2), none, none, none], [], w) = _
    refine Eq.trans ?_ (if_pos hc268).symm
    refine (val_g (c2 := (44, d + 4, 18, [some (.ref 64), some (.int x0), some (.int x1), some (.int x2), none, none, none], [.int (-1)], w)) rfl).trans ?_
    exact val_r rfl
  · refine ((val_if_eq rfl).trans (if_neg hc268)).trans ?_
    show val (44, d + 4, 7, [some (.ref 64), some (.int x0), some (.int x1), some (.int x2), none, none, none], [], w) = _
    refine Eq.trans ?_ (if_neg hc268).symm
    refine (val_g (c2 := (44, d + 4, 8, [some (.ref 64), some (.int x0), some (.int x1), some (.int x2), none, none, none], [.int x2], w)) rfl).trans ?_
    by_cases hc269 : x2 < 0
    · refine ((val_if_lt rfl).trans (if_pos hc269)).trans ?_
      show val (44, d + 4, 17, [some (.ref 64), some (.int x0), some (.int x1), some (.int x2), none, none, none], [], w) = _
      refine Eq.trans ?_ (if_pos hc269).symm
      refine (val_g (c2 := (44, d + 4, 18, [some (.ref 64), some (.int x0), some (.int x1), some (.int x2), none, none, none], [.int (-1)], w)) rfl).trans ?_
      exact val_r rfl
    · refine ((val_if_lt rfl).trans (if_neg hc269)).trans ?_
      show val (44, d + 4, 11, [some (.ref 64), some (.int x0), some (.int x1), some (.int x2), none, none, none], [], w) = _
      refine Eq.trans ?_ (if_neg hc269).symm
      refine (val_g (c2 := (44, d + 4, 12, [some (.ref 64), some (.int x0), some (.int x1), some (.int x2), none, none, none], [.int x2], w)) rfl).trans ?_
      refine (val_g (c2 := (44, d + 4, 14, [some (.ref 64), some (.int x0), some (.int x1), some (.int x2), none, none, none], [.int 64, .int x2], w)) rfl).trans ?_
      by_cases hc270 : x2 ≤ 64
      · refine ((val_ic_le rfl).trans (if_pos hc270)).trans ?_
        show val (44, d + 4, 19, [some (.ref 64), some (.int x0), some (.int x1), some (.int x2), none, none, none], [], w) = _
        refine Eq.trans ?_ (if_pos hc270).symm
        refine (val_g (c2 := (44, d + 4, 20, [some (.ref 64), some (.int x0), some (.int x1), some (.int x2), none, none, none], [.int x2], w)) rfl).trans ?_
        by_cases hc271 : x2 ≤ 0
        · refine ((val_if_le rfl).trans (if_pos hc271)).trans ?_
          show val (44, d + 4, 37, [some (.ref 64), some (.int x0), some (.int x1), some (.int x2), none, none, none], [], w) = _
          refine Eq.trans ?_ (if_pos hc271).symm
          refine (val_g (c2 := (44, d + 4, 38, [some (.ref 64), some (.int x0), some (.int x1), some (.int x2), none, none, none], [.ref 64], w)) rfl).trans ?_
          refine (val_gf rfl (hW.k 64 (Nat.le_of_ble_eq_true rfl) (Nat.le_of_ble_eq_true rfl)) (fvR (hW.r 64 10 96 rfl))).trans ?_
          show val (44, d + 4, 41, [some (.ref 64), some (.int x0), some (.int x1), some (.int x2), none, none, none], [.ref 96], w) = _
          refine (val_g (c2 := (44, d + 4, 42, [some (.ref 64), some (.int x0), some (.int x1), some (.int x2), none, none, none], [.int x0, .ref 96], w)) rfl).trans ?_
          rfl
        · refine ((val_if_le rfl).trans (if_neg hc271)).trans ?_
          show val (44, d + 4, 23, [some (.ref 64), some (.int x0), some (.int x1), some (.int x2), none, none, none], [], w) = _
          refine Eq.trans ?_ (if_neg hc271).symm
          refine (val_g (c2 := (44, d + 4, 24, [some (.ref 64), some (.int x0), some (.int x1), some (.int x2), none, none, none], [.ref 64], w)) rfl).trans ?_
          refine (val_gf rfl (hW.k 64 (Nat.le_of_ble_eq_true rfl) (Nat.le_of_ble_eq_true rfl)) (fvR (hW.r 64 5 67 rfl))).trans ?_
          show val (44, d + 4, 27, [some (.ref 64), some (.int x0), some (.int x1), some (.int x2), none, none, none], [.ref 67], w) = _
          refine (val_g (c2 := (44, d + 4, 28, [some (.ref 64), some (.int x0), some (.int x1), some (.int x2), none, none, none], [.int x1, .ref 67], w)) rfl).trans ?_
          refine (val_g (c2 := (44, d + 4, 29, [some (.ref 64), some (.int x0), some (.int x1), some (.int x2), none, none, none], [.int x2, .int x1, .ref 67], w)) rfl).trans ?_
          rfl
      · refine ((val_ic_le rfl).trans (if_neg hc270)).trans ?_
        show val (44, d + 4, 17, [some (.ref 64), some (.int x0), some (.int x1), some (.int x2), none, none, none], [], w) = _
        refine Eq.trans ?_ (if_neg hc270).symm
        refine (val_g (c2 := (44, d + 4, 18, [some (.ref 64), some (.int x0), some (.int x1), some (.int x2), none, none, none], [.int (-1)], w)) rfl).trans ?_
        exact val_r rfl
theorem tr_44_32 (d : Nat) (w : Wd) (hW : Fix w) (l1 : Int32) (l2 : Int32) (l3 : Int32) (s0 : Int32)     : val (44, d + 4, 32, [some (.ref 64), some (.int l1), some (.int l2), some (.int l3), none, none, none], [.int s0], w) = (if ¬ s0 = 0 then val (44, d + 4, 42, [some (.ref 64), some (.int l1), some (.int l2), some (.int l3), none, none, none], [.int l1, .ref 96], w) else some (some (.int (-1)), w)) := by
  by_cases hc272 : ¬ s0 = 0
  · refine ((val_if_ne rfl).trans (if_pos hc272)).trans ?_
    show val (44, d + 4, 37, [some (.ref 64), some (.int l1), some (.int l2), some (.int l3), none, none, none], [], w) = _
    refine Eq.trans ?_ (if_pos hc272).symm
    refine (val_g (c2 := (44, d + 4, 38, [some (.ref 64), some (.int l1), some (.int l2), some (.int l3), none, none, none], [.ref 64], w)) rfl).trans ?_
    refine (val_gf rfl (hW.k 64 (Nat.le_of_ble_eq_true rfl) (Nat.le_of_ble_eq_true rfl)) (fvR (hW.r 64 10 96 rfl))).trans ?_
    show val (44, d + 4, 41, [some (.ref 64), some (.int l1), some (.int l2), some (.int l3), none, none, none], [.ref 96], w) = _
    refine (val_g (c2 := (44, d + 4, 42, [some (.ref 64), some (.int l1), some (.int l2), some (.int l3), none, none, none], [.int l1, .ref 96], w)) rfl).trans ?_
    rfl
  · refine ((val_if_ne rfl).trans (if_neg hc272)).trans ?_
    show val (44, d + 4, 35, [some (.ref 64), some (.int l1), some (.int l2), some (.int l3), none, none, none], [], w) = _
    refine Eq.trans ?_ (if_neg hc272).symm
    refine (val_g (c2 := (44, d + 4, 36, [some (.ref 64), some (.int l1), some (.int l2), some (.int l3), none, none, none], [.int (-1)], w)) rfl).trans ?_
    exact val_r rfl
theorem tr_44_45 (d : Nat) (w : Wd) (l1 : Int32) (l2 : Int32) (l3 : Int32) (s0 : Int32)     : val (44, d + 4, 45, [some (.ref 64), some (.int l1), some (.int l2), some (.int l3), none, none, none], [.int s0], w) = (if s0 = 0 then val (44, d + 4, 54, [some (.ref 64), some (.int l1), some (.int l2), some (.int l3), some (.int 0), none, none], [], w) else some (some (.int (-4)), w)) := by
  by_cases hc273 : s0 = 0
  · refine ((val_if_eq rfl).trans (if_pos hc273)).trans ?_
    show val (44, d + 4, 51, [some (.ref 64), some (.int l1), some (.int l2), some (.int l3), none, none, none], [], w) = _
    refine Eq.trans ?_ (if_pos hc273).symm
    refine (val_g (c2 := (44, d + 4, 52, [some (.ref 64), some (.int l1), some (.int l2), some (.int l3), none, none, none], [.int 0], w)) rfl).trans ?_
    refine (val_g (c2 := (44, d + 4, 54, [some (.ref 64), some (.int l1), some (.int l2), some (.int l3), some (.int 0), none, none], [], w)) rfl).trans ?_
    rfl
  · refine ((val_if_eq rfl).trans (if_neg hc273)).trans ?_
    show val (44, d + 4, 48, [some (.ref 64), some (.int l1), some (.int l2), some (.int l3), none, none, none], [], w) = _
    refine Eq.trans ?_ (if_neg hc273).symm
    refine (val_g (c2 := (44, d + 4, 50, [some (.ref 64), some (.int l1), some (.int l2), some (.int l3), none, none, none], [.int (-4)], w)) rfl).trans ?_
    exact val_r rfl
theorem tr_44_54 (d : Nat) (w : Wd) (hW : Fix w) (l1 : Int32) (l2 : Int32) (l3 : Int32) (l4 : Int32) (l5 : Option Value)   (hy1 : (¬ (l3 ≤ l4)) → inB l1 8 = true) (hy2 : (¬ (l3 ≤ l4)) → (l4 < (gI w 98 (l1).toNatClampNeg)) → inB l1 8 = true) : val (44, d + 4, 54, [some (.ref 64), some (.int l1), some (.int l2), some (.int l3), some (.int l4), l5, none], [], w) = (if l3 ≤ l4 then some (some (.int 0), w) else (if l4 < (gI w 98 (l1).toNatClampNeg) then val (44, d + 4, 91, [some (.ref 64), some (.int l1), some (.int l2), some (.int l3), some (.int l4), l5, none], [.int (l2 + l4), .int (gI w 97 (l1).toNatClampNeg), .ref 64], w) else some (some (.int (-6)), w))) := by
  refine (val_g (c2 := (44, d + 4, 56, [some (.ref 64), some (.int l1), some (.int l2), some (.int l3), some (.int l4), l5, none], [.int l4], w)) rfl).trans ?_
  refine (val_g (c2 := (44, d + 4, 57, [some (.ref 64), some (.int l1), some (.int l2), some (.int l3), some (.int l4), l5, none], [.int l3, .int l4], w)) rfl).trans ?_
  by_cases hc274 : l3 ≤ l4
  · refine ((val_ic_ge rfl).trans (if_pos hc274)).trans ?_
    show val (44, d + 4, 132, [some (.ref 64), some (.int l1), some (.int l2), some (.int l3), some (.int l4), l5, none], [], w) = _
    refine Eq.trans ?_ (if_pos hc274).symm
    refine (val_g (c2 := (44, d + 4, 133, [some (.ref 64), some (.int l1), some (.int l2), some (.int l3), some (.int l4), l5, none], [.int 0], w)) rfl).trans ?_
    exact val_r rfl
  · refine ((val_ic_ge rfl).trans (if_neg hc274)).trans ?_
    show val (44, d + 4, 60, [some (.ref 64), some (.int l1), some (.int l2), some (.int l3), some (.int l4), l5, none], [], w) = _
    refine Eq.trans ?_ (if_neg hc274).symm
    refine (val_g (c2 := (44, d + 4, 62, [some (.ref 64), some (.int l1), some (.int l2), some (.int l3), some (.int l4), l5, none], [.int l4], w)) rfl).trans ?_
    refine (val_g (c2 := (44, d + 4, 63, [some (.ref 64), some (.int l1), some (.int l2), some (.int l3), some (.int l4), l5, none], [.ref 64, .int l4], w)) rfl).trans ?_
    refine (val_gf rfl (hW.k 64 (Nat.le_of_ble_eq_true rfl) (Nat.le_of_ble_eq_true rfl)) (fvR (hW.r 64 10 96 rfl))).trans ?_
    show val (44, d + 4, 66, [some (.ref 64), some (.int l1), some (.int l2), some (.int l3), some (.int l4), l5, none], [.ref 96, .int l4], w) = _
    refine (val_gf rfl (hW.k 96 (Nat.le_of_ble_eq_true rfl) (Nat.le_of_ble_eq_true rfl)) (fvR (hW.r 96 1 98 rfl))).trans ?_
    show val (44, d + 4, 69, [some (.ref 64), some (.int l1), some (.int l2), some (.int l3), some (.int l4), l5, none], [.ref 98, .int l4], w) = _
    refine (val_g (c2 := (44, d + 4, 70, [some (.ref 64), some (.int l1), some (.int l2), some (.int l3), some (.int l4), l5, none], [.int l1, .ref 98, .int l4], w)) rfl).trans ?_
    refine (val_ial rfl (hW.k 98 (Nat.le_of_ble_eq_true rfl) (Nat.le_of_ble_eq_true rfl)) rfl (hy1 hc274)).trans ?_
    show val (44, d + 4, 71, [some (.ref 64), some (.int l1), some (.int l2), some (.int l3), some (.int l4), l5, none], [.int (gI w 98 (l1).toNatClampNeg), .int l4], w) = _
    by_cases hc275 : l4 < (gI w 98 (l1).toNatClampNeg)
    · refine ((val_ic_lt rfl).trans (if_pos hc275)).trans ?_
      show val (44, d + 4, 77, [some (.ref 64), some (.int l1), some (.int l2), some (.int l3), some (.int l4), l5, none], [], w) = _
      refine Eq.trans ?_ (if_pos hc275).symm
      refine (val_g (c2 := (44, d + 4, 78, [some (.ref 64), some (.int l1), some (.int l2), some (.int l3), some (.int l4), l5, none], [.ref 64], w)) rfl).trans ?_
      refine (val_g (c2 := (44, d + 4, 79, [some (.ref 64), some (.int l1), some (.int l2), some (.int l3), some (.int l4), l5, none], [.ref 64, .ref 64], w)) rfl).trans ?_
      refine (val_gf rfl (hW.k 64 (Nat.le_of_ble_eq_true rfl) (Nat.le_of_ble_eq_true rfl)) (fvR (hW.r 64 10 96 rfl))).trans ?_
      show val (44, d + 4, 82, [some (.ref 64), some (.int l1), some (.int l2), some (.int l3), some (.int l4), l5, none], [.ref 96, .ref 64], w) = _
      refine (val_gf rfl (hW.k 96 (Nat.le_of_ble_eq_true rfl) (Nat.le_of_ble_eq_true rfl)) (fvR (hW.r 96 0 97 rfl))).trans ?_
      show val (44, d + 4, 85, [some (.ref 64), some (.int l1), some (.int l2), some (.int l3), some (.int l4), l5, none], [.ref 97, .ref 64], w) = _
      refine (val_g (c2 := (44, d + 4, 86, [some (.ref 64), some (.int l1), some (.int l2), some (.int l3), some (.int l4), l5, none], [.int l1, .ref 97, .ref 64], w)) rfl).trans ?_
      refine (val_ial rfl (hW.k 97 (Nat.le_of_ble_eq_true rfl) (Nat.le_of_ble_eq_true rfl)) rfl (hy2 hc274 hc275)).trans ?_
      show val (44, d + 4, 87, [some (.ref 64), some (.int l1), some (.int l2), some (.int l3), some (.int l4), l5, none], [.int (gI w 97 (l1).toNatClampNeg), .ref 64], w) = _
      refine (val_g (c2 := (44, d + 4, 88, [some (.ref 64), some (.int l1), some (.int l2), some (.int l3), some (.int l4), l5, none], [.int l2, .int (gI w 97 (l1).toNatClampNeg), .ref 64], w)) rfl).trans ?_
      refine (val_g (c2 := (44, d + 4, 90, [some (.ref 64), some (.int l1), some (.int l2), some (.int l3), some (.int l4), l5, none], [.int l4, .int l2, .int (gI w 97 (l1).toNatClampNeg), .ref 64], w)) rfl).trans ?_
      refine (val_g (c2 := (44, d + 4, 91, [some (.ref 64), some (.int l1), some (.int l2), some (.int l3), some (.int l4), l5, none], [.int (l2 + l4), .int (gI w 97 (l1).toNatClampNeg), .ref 64], w)) rfl).trans ?_
      rfl
    · refine ((val_ic_lt rfl).trans (if_neg hc275)).trans ?_
      show val (44, d + 4, 74, [some (.ref 64), some (.int l1), some (.int l2), some (.int l3), some (.int l4), l5, none], [], w) = _
      refine Eq.trans ?_ (if_neg hc275).symm
      refine (val_g (c2 := (44, d + 4, 76, [some (.ref 64), some (.int l1), some (.int l2), some (.int l3), some (.int l4), l5, none], [.int (-6)], w)) rfl).trans ?_
      exact val_r rfl
theorem tr_44_94 (d : Nat) (w : Wd) (hW : Fix w) (l1 : Int32) (l2 : Int32) (l3 : Int32) (l4 : Int32) (s0 : Int64) (l5 : Option Value)    : val (44, d + 4, 94, [some (.ref 64), some (.int l1), some (.int l2), some (.int l3), some (.int l4), l5, none], [.long s0], w) = val (44, d + 4, 103, [some (.ref 64), some (.int l1), some (.int l2), some (.int l3), some (.int l4), some (.long s0), none], [.long s0, .int l1, .ref 96], w) := by
  refine (val_g (c2 := (44, d + 4, 96, [some (.ref 64), some (.int l1), some (.int l2), some (.int l3), some (.int l4), some (.long s0), none], [], w)) rfl).trans ?_
  refine (val_g (c2 := (44, d + 4, 97, [some (.ref 64), some (.int l1), some (.int l2), some (.int l3), some (.int l4), some (.long s0), none], [.ref 64], w)) rfl).trans ?_
  refine (val_gf rfl (hW.k 64 (Nat.le_of_ble_eq_true rfl) (Nat.le_of_ble_eq_true rfl)) (fvR (hW.r 64 10 96 rfl))).trans ?_
  show val (44, d + 4, 100, [some (.ref 64), some (.int l1), some (.int l2), some (.int l3), some (.int l4), some (.long s0), none], [.ref 96], w) = _
  refine (val_g (c2 := (44, d + 4, 101, [some (.ref 64), some (.int l1), some (.int l2), some (.int l3), some (.int l4), some (.long s0), none], [.int l1, .ref 96], w)) rfl).trans ?_
  refine (val_g (c2 := (44, d + 4, 103, [some (.ref 64), some (.int l1), some (.int l2), some (.int l3), some (.int l4), some (.long s0), none], [.long s0, .int l1, .ref 96], w)) rfl).trans ?_
  rfl
theorem tr_44_106 (d : Nat) (w : Wd) (hW : Fix w) (l1 : Int32) (l2 : Int32) (l3 : Int32) (l4 : Int32) (l5 : Int64) (s0 : Int32)     : val (44, d + 4, 106, [some (.ref 64), some (.int l1), some (.int l2), some (.int l3), some (.int l4), some (.long l5), none], [.int s0], w) = (if ¬ s0 = 0 then val (44, d + 4, 120, [some (.ref 64), some (.int l1), some (.int l2), some (.int l3), some (.int l4), some (.long l5), none], [.int l1, .ref 99], w) else some (some (.int (-8)), w)) := by
  by_cases hc276 : ¬ s0 = 0
  · refine ((val_if_ne rfl).trans (if_pos hc276)).trans ?_
    show val (44, d + 4, 112, [some (.ref 64), some (.int l1), some (.int l2), some (.int l3), some (.int l4), some (.long l5), none], [], w) = _
    refine Eq.trans ?_ (if_pos hc276).symm
    refine (val_g (c2 := (44, d + 4, 113, [some (.ref 64), some (.int l1), some (.int l2), some (.int l3), some (.int l4), some (.long l5), none], [.ref 64], w)) rfl).trans ?_
    refine (val_gf rfl (hW.k 64 (Nat.le_of_ble_eq_true rfl) (Nat.le_of_ble_eq_true rfl)) (fvR (hW.r 64 10 96 rfl))).trans ?_
    show val (44, d + 4, 116, [some (.ref 64), some (.int l1), some (.int l2), some (.int l3), some (.int l4), some (.long l5), none], [.ref 96], w) = _
    refine (val_gf rfl (hW.k 96 (Nat.le_of_ble_eq_true rfl) (Nat.le_of_ble_eq_true rfl)) (fvR (hW.r 96 2 99 rfl))).trans ?_
    show val (44, d + 4, 119, [some (.ref 64), some (.int l1), some (.int l2), some (.int l3), some (.int l4), some (.long l5), none], [.ref 99], w) = _
    refine (val_g (c2 := (44, d + 4, 120, [some (.ref 64), some (.int l1), some (.int l2), some (.int l3), some (.int l4), some (.long l5), none], [.int l1, .ref 99], w)) rfl).trans ?_
    rfl
  · refine ((val_if_ne rfl).trans (if_neg hc276)).trans ?_
    show val (44, d + 4, 109, [some (.ref 64), some (.int l1), some (.int l2), some (.int l3), some (.int l4), some (.long l5), none], [], w) = _
    refine Eq.trans ?_ (if_neg hc276).symm
    refine (val_g (c2 := (44, d + 4, 111, [some (.ref 64), some (.int l1), some (.int l2), some (.int l3), some (.int l4), some (.long l5), none], [.int (-8)], w)) rfl).trans ?_
    exact val_r rfl
theorem tr_44_121 (d : Nat) (w : Wd) (l1 : Int32) (l2 : Int32) (l3 : Int32) (l4 : Int32) (l5 : Int64) (s0 : Nat)    (m_s0 : Nat) (hk_s0 : wK w s0 = (23, m_s0)) (hy3 : inB l4 m_s0 = true) : val (44, d + 4, 121, [some (.ref 64), some (.int l1), some (.int l2), some (.int l3), some (.int l4), some (.long l5), none], [.ref s0], w) = val (44, d + 4, 54, [some (.ref 64), some (.int l1), some (.int l2), some (.int l3), some (.int (l4 + 1)), some (.long l5), none], [], (sL w s0 (l4).toNatClampNeg l5)) := by
  refine (val_g (c2 := (44, d + 4, 123, [some (.ref 64), some (.int l1), some (.int l2), some (.int l3), some (.int l4), some (.long l5), none], [.int l4, .ref s0], w)) rfl).trans ?_
  refine (val_g (c2 := (44, d + 4, 125, [some (.ref 64), some (.int l1), some (.int l2), some (.int l3), some (.int l4), some (.long l5), none], [.long l5, .int l4, .ref s0], w)) rfl).trans ?_
  refine (val_las rfl hk_s0 hy3).trans ?_
  show val (44, d + 4, 126, [some (.ref 64), some (.int l1), some (.int l2), some (.int l3), some (.int l4), some (.long l5), none], [], (sL w s0 (l4).toNatClampNeg l5)) = _
  refine (val_g (c2 := (44, d + 4, 129, [some (.ref 64), some (.int l1), some (.int l2), some (.int l3), some (.int (l4 + 1)), some (.long l5), none], [], (sL w s0 (l4).toNatClampNeg l5))) rfl).trans ?_
  refine (val_g (c2 := (44, d + 4, 54, [some (.ref 64), some (.int l1), some (.int l2), some (.int l3), some (.int (l4 + 1)), some (.long l5), none], [], (sL w s0 (l4).toNatClampNeg l5))) rfl).trans ?_
  rfl
/-- BelfryHouse.itemFromRow(II)J -/
theorem tr_45 (d : Nat) (w : Wd) (hW : Fix w) (x0 : Int32) (x1 : Int32)    (hy1 : inB x1 2001 = true) (hy2 : (¬ (x0 = 0)) → (¬ (x0 = 1)) → (¬ (x0 = 2)) → inB x1 2001 = true) : val (45, d + 3, 0, [some (.ref 64), some (.int x0), some (.int x1), none], [], w) = (if x0 = 0 then some (some (.long (Int32.toInt64 (((fn_130 ((gI w 64 0)) ((gI w 68 (x1).toNatClampNeg)) 0) + 1)))), w) else (if x0 = 1 then val (45, d + 3, 54, [some (.ref 64), some (.int x0), some (.int x1), some (.int (gI w 68 (x1).toNatClampNeg))], [.int (gI w 68 (x1).toNatClampNeg), .int (gI w 64 0)], w) else (if x0 = 2 then val (45, d + 3, 64, [some (.ref 64), some (.int x0), some (.int x1), some (.int (gI w 68 (x1).toNatClampNeg))], [.int (gI w 68 (x1).toNatClampNeg), .int (gI w 64 0)], w) else (if (gI w 70 (x1).toNatClampNeg) = 0 then some (some (.long (fn_164 ((gI w 68 (x1).toNatClampNeg)) 0)), w) else some (some (.long (fn_164 ((gI w 68 (x1).toNatClampNeg)) 1)), w))))) := by
  refine (val_g (c2 := (45, d + 3, 1, [some (.ref 64), some (.int x0), some (.int x1), none], [.ref 64], w)) rfl).trans ?_
  refine (val_gf rfl (hW.k 64 (Nat.le_of_ble_eq_true rfl) (Nat.le_of_ble_eq_true rfl)) (fvR (hW.r 64 5 67 rfl))).trans ?_
  show val (45, d + 3, 4, [some (.ref 64), some (.int x0), some (.int x1), none], [.ref 67], w) = _
  refine (val_gf rfl (hW.k 67 (Nat.le_of_ble_eq_true rfl) (Nat.le_of_ble_eq_true rfl)) (fvR (hW.r 67 1 68 rfl))).trans ?_
  show val (45, d + 3, 7, [some (.ref 64), some (.int x0), some (.int x1), none], [.ref 68], w) = _
  refine (val_g (c2 := (45, d + 3, 8, [some (.ref 64), some (.int x0), some (.int x1), none], [.int x1, .ref 68], w)) rfl).trans ?_
  refine (val_ial rfl (hW.k 68 (Nat.le_of_ble_eq_true rfl) (Nat.le_of_ble_eq_true rfl)) rfl hy1).trans ?_
  show val (45, d + 3, 9, [some (.ref 64), some (.int x0), some (.int x1), none], [.int (gI w 68 (x1).toNatClampNeg)], w) = _
  refine (val_g (c2 := (45, d + 3, 10, [some (.ref 64), some (.int x0), some (.int x1), some (.int (gI w 68 (x1).toNatClampNeg))], [], w)) rfl).trans ?_
  refine (val_g (c2 := (45, d + 3, 11, [some (.ref 64), some (.int x0), some (.int x1), some (.int (gI w 68 (x1).toNatClampNeg))], [.int x0], w)) rfl).trans ?_
  refine (val_tsI rfl).trans ?_
  show (if x0 = 0 then val (45, d + 3, 36, [some (.ref 64), some (.int x0), some (.int x1), some (.int (gI w 68 (x1).toNatClampNeg))], [], w) else if x0 = 1 then val (45, d + 3, 49, [some (.ref 64), some (.int x0), some (.int x1), some (.int (gI w 68 (x1).toNatClampNeg))], [], w) else if x0 = 2 then val (45, d + 3, 59, [some (.ref 64), some (.int x0), some (.int x1), some (.int (gI w 68 (x1).toNatClampNeg))], [], w) else val (45, d + 3, 78, [some (.ref 64), some (.int x0), some (.int x1), some (.int (gI w 68 (x1).toNatClampNeg))], [], w)) = _
  by_cases hc281 : x0 = 0
  · refine (if_pos hc281).trans (Eq.trans ?_ (if_pos hc281).symm)
    refine (val_g (c2 := (45, d + 3, 37, [some (.ref 64), some (.int x0), some (.int x1), some (.int (gI w 68 (x1).toNatClampNeg))], [.ref 64], w)) rfl).trans ?_
    refine (val_gf rfl (hW.k 64 (Nat.le_of_ble_eq_true rfl) (Nat.le_of_ble_eq_true rfl)) rfl).trans ?_
    show val (45, d + 3, 40, [some (.ref 64), some (.int x0), some (.int x1), some (.int (gI w 68 (x1).toNatClampNeg))], [.int (gI w 64 0)], w) = _
    refine (val_g (c2 := (45, d + 3, 41, [some (.ref 64), some (.int x0), some (.int x1), some (.int (gI w 68 (x1).toNatClampNeg))], [.int (gI w 68 (x1).toNatClampNeg), .int (gI w 64 0)], w)) rfl).trans ?_
    refine (val_g (c2 := (45, d + 3, 42, [some (.ref 64), some (.int x0), some (.int x1), some (.int (gI w 68 (x1).toNatClampNeg))], [.int 0, .int (gI w 68 (x1).toNatClampNeg), .int (gI w 64 0)], w)) rfl).trans ?_
    refine (val_call (w1 := w) (pc2 := 45) rfl rfl rfl rfl rfl (Nat.le_of_ble_eq_true rfl) (Nat.le_of_ble_eq_true rfl) rfl (ev_130 (d + 2) w ((gI w 64 0)) ((gI w 68 (x1).toNatClampNeg)) 0) rfl).trans ?_
    show val (45, d + 3, 45, [some (.ref 64), some (.int x0), some (.int x1), some (.int (gI w 68 (x1).toNatClampNeg))], [.int (fn_130 ((gI w 64 0)) ((gI w 68 (x1).toNatClampNeg)) 0)], w) = _
    refine (val_g (c2 := (45, d + 3, 46, [some (.ref 64), some (.int x0), some (.int x1), some (.int (gI w 68 (x1).toNatClampNeg))], [.int 1, .int (fn_130 ((gI w 64 0)) ((gI w 68 (x1).toNatClampNeg)) 0)], w)) rfl).trans ?_
    refine (val_g (c2 := (45, d + 3, 47, [some (.ref 64), some (.int x0), some (.int x1), some (.int (gI w 68 (x1).toNatClampNeg))], [.int ((fn_130 ((gI w 64 0)) ((gI w 68 (x1).toNatClampNeg)) 0) + 1)], w)) rfl).trans ?_
    refine (val_g (c2 := (45, d + 3, 48, [some (.ref 64), some (.int x0), some (.int x1), some (.int (gI w 68 (x1).toNatClampNeg))], [.long (Int32.toInt64 (((fn_130 ((gI w 64 0)) ((gI w 68 (x1).toNatClampNeg)) 0) + 1)))], w)) rfl).trans ?_
    exact val_r rfl
  · refine (if_neg hc281).trans (Eq.trans ?_ (if_neg hc281).symm)
    by_cases hc282 : x0 = 1
    · refine (if_pos hc282).trans (Eq.trans ?_ (if_pos hc282).symm)
      refine (val_g (c2 := (45, d + 3, 50, [some (.ref 64), some (.int x0), some (.int x1), some (.int (gI w 68 (x1).toNatClampNeg))], [.ref 64], w)) rfl).trans ?_
      refine (val_gf rfl (hW.k 64 (Nat.le_of_ble_eq_true rfl) (Nat.le_of_ble_eq_true rfl)) rfl).trans ?_
      show val (45, d + 3, 53, [some (.ref 64), some (.int x0), some (.int x1), some (.int (gI w 68 (x1).toNatClampNeg))], [.int (gI w 64 0)], w) = _
      refine (val_g (c2 := (45, d + 3, 54, [some (.ref 64), some (.int x0), some (.int x1), some (.int (gI w 68 (x1).toNatClampNeg))], [.int (gI w 68 (x1).toNatClampNeg), .int (gI w 64 0)], w)) rfl).trans ?_
      rfl
    · refine (if_neg hc282).trans (Eq.trans ?_ (if_neg hc282).symm)
      by_cases hc283 : x0 = 2
      · refine (if_pos hc283).trans (Eq.trans ?_ (if_pos hc283).symm)
        refine (val_g (c2 := (45, d + 3, 60, [some (.ref 64), some (.int x0), some (.int x1), some (.int (gI w 68 (x1).toNatClampNeg))], [.ref 64], w)) rfl).trans ?_
        refine (val_gf rfl (hW.k 64 (Nat.le_of_ble_eq_true rfl) (Nat.le_of_ble_eq_true rfl)) rfl).trans ?_
        show val (45, d + 3, 63, [some (.ref 64), some (.int x0), some (.int x1), some (.int (gI w 68 (x1).toNatClampNeg))], [.int (gI w 64 0)], w) = _
        refine (val_g (c2 := (45, d + 3, 64, [some (.ref 64), some (.int x0), some (.int x1), some (.int (gI w 68 (x1).toNatClampNeg))], [.int (gI w 68 (x1).toNatClampNeg), .int (gI w 64 0)], w)) rfl).trans ?_
        rfl
      · refine (if_neg hc283).trans (Eq.trans ?_ (if_neg hc283).symm)
        refine (val_g (c2 := (45, d + 3, 79, [some (.ref 64), some (.int x0), some (.int x1), some (.int (gI w 68 (x1).toNatClampNeg))], [.int (gI w 68 (x1).toNatClampNeg)], w)) rfl).trans ?_
        refine (val_g (c2 := (45, d + 3, 80, [some (.ref 64), some (.int x0), some (.int x1), some (.int (gI w 68 (x1).toNatClampNeg))], [.ref 64, .int (gI w 68 (x1).toNatClampNeg)], w)) rfl).trans ?_
        refine (val_gf rfl (hW.k 64 (Nat.le_of_ble_eq_true rfl) (Nat.le_of_ble_eq_true rfl)) (fvR (hW.r 64 5 67 rfl))).trans ?_
        show val (45, d + 3, 83, [some (.ref 64), some (.int x0), some (.int x1), some (.int (gI w 68 (x1).toNatClampNeg))], [.ref 67, .int (gI w 68 (x1).toNatClampNeg)], w) = _
        refine (val_gf rfl (hW.k 67 (Nat.le_of_ble_eq_true rfl) (Nat.le_of_ble_eq_true rfl)) (fvR (hW.r 67 3 70 rfl))).trans ?_
        show val (45, d + 3, 86, [some (.ref 64), some (.int x0), some (.int x1), some (.int (gI w 68 (x1).toNatClampNeg))], [.ref 70, .int (gI w 68 (x1).toNatClampNeg)], w) = _
        refine (val_g (c2 := (45, d + 3, 87, [some (.ref 64), some (.int x0), some (.int x1), some (.int (gI w 68 (x1).toNatClampNeg))], [.int x1, .ref 70, .int (gI w 68 (x1).toNatClampNeg)], w)) rfl).trans ?_
        refine (val_bal rfl (hW.k 70 (Nat.le_of_ble_eq_true rfl) (Nat.le_of_ble_eq_true rfl)) rfl (hy2 hc281 hc282 hc283)).trans ?_
        show val (45, d + 3, 88, [some (.ref 64), some (.int x0), some (.int x1), some (.int (gI w 68 (x1).toNatClampNeg))], [.int (gI w 70 (x1).toNatClampNeg), .int (gI w 68 (x1).toNatClampNeg)], w) = _
        by_cases hc284 : (gI w 70 (x1).toNatClampNeg) = 0
        · refine ((val_if_eq rfl).trans (if_pos hc284)).trans ?_
          show val (45, d + 3, 95, [some (.ref 64), some (.int x0), some (.int x1), some (.int (gI w 68 (x1).toNatClampNeg))], [.int (gI w 68 (x1).toNatClampNeg)], w) = _
          refine Eq.trans ?_ (if_pos hc284).symm
          refine (val_g (c2 := (45, d + 3, 96, [some (.ref 64), some (.int x0), some (.int x1), some (.int (gI w 68 (x1).toNatClampNeg))], [.int 0, .int (gI w 68 (x1).toNatClampNeg)], w)) rfl).trans ?_
          refine (val_call (w1 := w) (pc2 := 99) rfl rfl rfl rfl rfl (Nat.le_of_ble_eq_true rfl) (Nat.le_of_ble_eq_true rfl) rfl (ev_164 (d + 2) w ((gI w 68 (x1).toNatClampNeg)) 0) rfl).trans ?_
          show val (45, d + 3, 99, [some (.ref 64), some (.int x0), some (.int x1), some (.int (gI w 68 (x1).toNatClampNeg))], [.long (fn_164 ((gI w 68 (x1).toNatClampNeg)) 0)], w) = _
          exact val_r rfl
        · refine ((val_if_eq rfl).trans (if_neg hc284)).trans ?_
          show val (45, d + 3, 91, [some (.ref 64), some (.int x0), some (.int x1), some (.int (gI w 68 (x1).toNatClampNeg))], [.int (gI w 68 (x1).toNatClampNeg)], w) = _
          refine Eq.trans ?_ (if_neg hc284).symm
          refine (val_g (c2 := (45, d + 3, 92, [some (.ref 64), some (.int x0), some (.int x1), some (.int (gI w 68 (x1).toNatClampNeg))], [.int 1, .int (gI w 68 (x1).toNatClampNeg)], w)) rfl).trans ?_
          refine (val_g (c2 := (45, d + 3, 96, [some (.ref 64), some (.int x0), some (.int x1), some (.int (gI w 68 (x1).toNatClampNeg))], [.int 1, .int (gI w 68 (x1).toNatClampNeg)], w)) rfl).trans ?_
          refine (val_call (w1 := w) (pc2 := 99) rfl rfl rfl rfl rfl (Nat.le_of_ble_eq_true rfl) (Nat.le_of_ble_eq_true rfl) rfl (ev_164 (d + 2) w ((gI w 68 (x1).toNatClampNeg)) 1) rfl).trans ?_
          show val (45, d + 3, 99, [some (.ref 64), some (.int x0), some (.int x1), some (.int (gI w 68 (x1).toNatClampNeg))], [.long (fn_164 ((gI w 68 (x1).toNatClampNeg)) 1)], w) = _
          exact val_r rfl
theorem tr_45_57 (d : Nat) (w : Wd) (l1 : Int32) (l2 : Int32) (l3 : Int32) (s0 : Int32)     : val (45, d + 3, 57, [some (.ref 64), some (.int l1), some (.int l2), some (.int l3)], [.int s0], w) = some (some (.long (Int32.toInt64 s0)), w) := by
  refine (val_g (c2 := (45, d + 3, 58, [some (.ref 64), some (.int l1), some (.int l2), some (.int l3)], [.long (Int32.toInt64 s0)], w)) rfl).trans ?_
  exact val_r rfl
theorem tr_45_70 (d : Nat) (w : Wd) (l1 : Int32) (l2 : Int32) (l3 : Int32) (s0 : Int64)     : val (45, d + 3, 70, [some (.ref 64), some (.int l1), some (.int l2), some (.int l3)], [.long s0], w) = val (45, d + 3, 71, [some (.ref 64), some (.int l1), some (.int l2), some (.int l3)], [.int l2, .long s0], w) := by
  refine (val_g (c2 := (45, d + 3, 71, [some (.ref 64), some (.int l1), some (.int l2), some (.int l3)], [.int l2, .long s0], w)) rfl).trans ?_
  rfl
theorem tr_45_77 (d : Nat) (w : Wd) (l1 : Int32) (l2 : Int32) (l3 : Int32) (s0 : Int64)     : val (45, d + 3, 77, [some (.ref 64), some (.int l1), some (.int l2), some (.int l3)], [.long s0], w) = some (some (.long s0), w) := by
  exact val_r rfl
/-- BelfryHouse.copy(IIIII)I -/
theorem tr_46 (d : Nat) (w : Wd) (hW : Fix w) (x0 : Int32) (x1 : Int32) (x2 : Int32) (x3 : Int32) (x4 : Int32)     : val (46, d + 3, 0, [some (.ref 64), some (.int x0), some (.int x1), some (.int x2), some (.int x3), some (.int x4)], [], w) = (if (fn_39 x0) = 0 then some (some (.int (-1)), w) else (if ¬ (fn_39 x2) = 0 then val (46, d + 3, 27, [some (.ref 64), some (.int x0), some (.int x1), some (.int x2), some (.int x3), some (.int x4)], [.int x4, .int x3, .int x2, .int x1, .int x0, .ref 96], w) else some (some (.int (-1)), w))) := by
  refine (val_g (c2 := (46, d + 3, 1, [some (.ref 64), some (.int x0), some (.int x1), some (.int x2), some (.int x3), some (.int x4)], [.int x0], w)) rfl).trans ?_
  refine (val_call (w1 := w) (pc2 := 4) rfl rfl rfl rfl rfl (Nat.le_of_ble_eq_true rfl) (Nat.le_of_ble_eq_true rfl) rfl (ev_39 (d + 2) w x0) rfl).trans ?_
  show val (46, d + 3, 4, [some (.ref 64), some (.int x0), some (.int x1), some (.int x2), some (.int x3), some (.int x4)], [.int (fn_39 x0)], w) = _
  by_cases hc287 : (fn_39 x0) = 0
  · refine ((val_if_eq rfl).trans (if_pos hc287)).trans ?_
    show val (46, d + 3, 14, [some (.ref 64), some (.int x0), some (.int x1), some (.int x2), some (.int x3), some (.int x4)], [], w) = _
    refine Eq.trans ?_ (if_pos hc287).symm
    refine (val_g (c2 := (46, d + 3, 15, [some (.ref 64), some (.int x0), some (.int x1), some (.int x2), some (.int x3), some (.int x4)], [.int (-1)], w)) rfl).trans ?_
    exact val_r rfl
  · refine ((val_if_eq rfl).trans (if_neg hc287)).trans ?_
    show val (46, d + 3, 7, [some (.ref 64), some (.int x0), some (.int x1), some (.int x2), some (.int x3), some (.int x4)], [], w) = _
    refine Eq.trans ?_ (if_neg hc287).symm
    refine (val_g (c2 := (46, d + 3, 8, [some (.ref 64), some (.int x0), some (.int x1), some (.int x2), some (.int x3), some (.int x4)], [.int x2], w)) rfl).trans ?_
    refine (val_call (w1 := w) (pc2 := 11) rfl rfl rfl rfl rfl (Nat.le_of_ble_eq_true rfl) (Nat.le_of_ble_eq_true rfl) rfl (ev_39 (d + 2) w x2) rfl).trans ?_
    show val (46, d + 3, 11, [some (.ref 64), some (.int x0), some (.int x1), some (.int x2), some (.int x3), some (.int x4)], [.int (fn_39 x2)], w) = _
    by_cases hc288 : ¬ (fn_39 x2) = 0
    · refine ((val_if_ne rfl).trans (if_pos hc288)).trans ?_
      show val (46, d + 3, 16, [some (.ref 64), some (.int x0), some (.int x1), some (.int x2), some (.int x3), some (.int x4)], [], w) = _
      refine Eq.trans ?_ (if_pos hc288).symm
      refine (val_g (c2 := (46, d + 3, 17, [some (.ref 64), some (.int x0), some (.int x1), some (.int x2), some (.int x3), some (.int x4)], [.ref 64], w)) rfl).trans ?_
      refine (val_gf rfl (hW.k 64 (Nat.le_of_ble_eq_true rfl) (Nat.le_of_ble_eq_true rfl)) (fvR (hW.r 64 10 96 rfl))).trans ?_
      show val (46, d + 3, 20, [some (.ref 64), some (.int x0), some (.int x1), some (.int x2), some (.int x3), some (.int x4)], [.ref 96], w) = _
      refine (val_g (c2 := (46, d + 3, 21, [some (.ref 64), some (.int x0), some (.int x1), some (.int x2), some (.int x3), some (.int x4)], [.int x0, .ref 96], w)) rfl).trans ?_
      refine (val_g (c2 := (46, d + 3, 22, [some (.ref 64), some (.int x0), some (.int x1), some (.int x2), some (.int x3), some (.int x4)], [.int x1, .int x0, .ref 96], w)) rfl).trans ?_
      refine (val_g (c2 := (46, d + 3, 23, [some (.ref 64), some (.int x0), some (.int x1), some (.int x2), some (.int x3), some (.int x4)], [.int x2, .int x1, .int x0, .ref 96], w)) rfl).trans ?_
      refine (val_g (c2 := (46, d + 3, 25, [some (.ref 64), some (.int x0), some (.int x1), some (.int x2), some (.int x3), some (.int x4)], [.int x3, .int x2, .int x1, .int x0, .ref 96], w)) rfl).trans ?_
      refine (val_g (c2 := (46, d + 3, 27, [some (.ref 64), some (.int x0), some (.int x1), some (.int x2), some (.int x3), some (.int x4)], [.int x4, .int x3, .int x2, .int x1, .int x0, .ref 96], w)) rfl).trans ?_
      rfl
    · refine ((val_if_ne rfl).trans (if_neg hc288)).trans ?_
      show val (46, d + 3, 14, [some (.ref 64), some (.int x0), some (.int x1), some (.int x2), some (.int x3), some (.int x4)], [], w) = _
      refine Eq.trans ?_ (if_neg hc288).symm
      refine (val_g (c2 := (46, d + 3, 15, [some (.ref 64), some (.int x0), some (.int x1), some (.int x2), some (.int x3), some (.int x4)], [.int (-1)], w)) rfl).trans ?_
      exact val_r rfl
theorem tr_46_30 (d : Nat) (w : Wd) (l1 : Int32) (l2 : Int32) (l3 : Int32) (l4 : Int32) (l5 : Int32) (s0 : Int32)     : val (46, d + 3, 30, [some (.ref 64), some (.int l1), some (.int l2), some (.int l3), some (.int l4), some (.int l5)], [.int s0], w) = some (some (.int s0), w) := by
  exact val_r rfl
/-- BelfryHouse.item(III)J -/
theorem tr_47 (d : Nat) (w : Wd) (hW : Fix w) (x0 : Int32) (x1 : Int32) (x2 : Int32)     : val (47, d + 3, 0, [some (.ref 64), some (.int x0), some (.int x1), some (.int x2), none, none], [], w) = (if (fn_39 x0) = 0 then some (some (.long 0), w) else (if ¬ (fn_40 x1) = 0 then val (47, d + 3, 21, [some (.ref 64), some (.int x0), some (.int x1), some (.int x2), none, none], [.int x0, .ref 96], w) else some (some (.long 0), w))) := by
  refine (val_g (c2 := (47, d + 3, 1, [some (.ref 64), some (.int x0), some (.int x1), some (.int x2), none, none], [.int x0], w)) rfl).trans ?_
  refine (val_call (w1 := w) (pc2 := 4) rfl rfl rfl rfl rfl (Nat.le_of_ble_eq_true rfl) (Nat.le_of_ble_eq_true rfl) rfl (ev_39 (d + 2) w x0) rfl).trans ?_
  show val (47, d + 3, 4, [some (.ref 64), some (.int x0), some (.int x1), some (.int x2), none, none], [.int (fn_39 x0)], w) = _
  by_cases hc297 : (fn_39 x0) = 0
  · refine ((val_if_eq rfl).trans (if_pos hc297)).trans ?_
    show val (47, d + 3, 14, [some (.ref 64), some (.int x0), some (.int x1), some (.int x2), none, none], [], w) = _
    refine Eq.trans ?_ (if_pos hc297).symm
    refine (val_g (c2 := (47, d + 3, 15, [some (.ref 64), some (.int x0), some (.int x1), some (.int x2), none, none], [.long 0], w)) rfl).trans ?_
    exact val_r rfl
  · refine ((val_if_eq rfl).trans (if_neg hc297)).trans ?_
    show val (47, d + 3, 7, [some (.ref 64), some (.int x0), some (.int x1), some (.int x2), none, none], [], w) = _
    refine Eq.trans ?_ (if_neg hc297).symm
    refine (val_g (c2 := (47, d + 3, 8, [some (.ref 64), some (.int x0), some (.int x1), some (.int x2), none, none], [.int x1], w)) rfl).trans ?_
    refine (val_call (w1 := w) (pc2 := 11) rfl rfl rfl rfl rfl (Nat.le_of_ble_eq_true rfl) (Nat.le_of_ble_eq_true rfl) rfl (ev_40 (d + 2) w x1) rfl).trans ?_
    show val (47, d + 3, 11, [some (.ref 64), some (.int x0), some (.int x1), some (.int x2), none, none], [.int (fn_40 x1)], w) = _
    by_cases hc298 : ¬ (fn_40 x1) = 0
    · refine ((val_if_ne rfl).trans (if_pos hc298)).trans ?_
      show val (47, d + 3, 16, [some (.ref 64), some (.int x0), some (.int x1), some (.int x2), none, none], [], w) = _
      refine Eq.trans ?_ (if_pos hc298).symm
      refine (val_g (c2 := (47, d + 3, 17, [some (.ref 64), some (.int x0), some (.int x1), some (.int x2), none, none], [.ref 64], w)) rfl).trans ?_
      refine (val_gf rfl (hW.k 64 (Nat.le_of_ble_eq_true rfl) (Nat.le_of_ble_eq_true rfl)) (fvR (hW.r 64 10 96 rfl))).trans ?_
      show val (47, d + 3, 20, [some (.ref 64), some (.int x0), some (.int x1), some (.int x2), none, none], [.ref 96], w) = _
      refine (val_g (c2 := (47, d + 3, 21, [some (.ref 64), some (.int x0), some (.int x1), some (.int x2), none, none], [.int x0, .ref 96], w)) rfl).trans ?_
      rfl
    · refine ((val_if_ne rfl).trans (if_neg hc298)).trans ?_
      show val (47, d + 3, 14, [some (.ref 64), some (.int x0), some (.int x1), some (.int x2), none, none], [], w) = _
      refine Eq.trans ?_ (if_neg hc298).symm
      refine (val_g (c2 := (47, d + 3, 15, [some (.ref 64), some (.int x0), some (.int x1), some (.int x2), none, none], [.long 0], w)) rfl).trans ?_
      exact val_r rfl
theorem tr_47_24 (d : Nat) (w : Wd) (hW : Fix w) (l1 : Int32) (l2 : Int32) (l3 : Int32) (s0 : Int32)     : val (47, d + 3, 24, [some (.ref 64), some (.int l1), some (.int l2), some (.int l3), none, none], [.int s0], w) = (if s0 = 0 then val (47, d + 3, 37, [some (.ref 64), some (.int l1), some (.int l2), some (.int l3), none, none], [.int l2, .int l1, .ref 96], w) else some (some (.long (-4)), w)) := by
  by_cases hc299 : s0 = 0
  · refine ((val_if_eq rfl).trans (if_pos hc299)).trans ?_
    show val (47, d + 3, 31, [some (.ref 64), some (.int l1), some (.int l2), some (.int l3), none, none], [], w) = _
    refine Eq.trans ?_ (if_pos hc299).symm
    refine (val_g (c2 := (47, d + 3, 32, [some (.ref 64), some (.int l1), some (.int l2), some (.int l3), none, none], [.ref 64], w)) rfl).trans ?_
    refine (val_gf rfl (hW.k 64 (Nat.le_of_ble_eq_true rfl) (Nat.le_of_ble_eq_true rfl)) (fvR (hW.r 64 10 96 rfl))).trans ?_
    show val (47, d + 3, 35, [some (.ref 64), some (.int l1), some (.int l2), some (.int l3), none, none], [.ref 96], w) = _
    refine (val_g (c2 := (47, d + 3, 36, [some (.ref 64), some (.int l1), some (.int l2), some (.int l3), none, none], [.int l1, .ref 96], w)) rfl).trans ?_
    refine (val_g (c2 := (47, d + 3, 37, [some (.ref 64), some (.int l1), some (.int l2), some (.int l3), none, none], [.int l2, .int l1, .ref 96], w)) rfl).trans ?_
    rfl
  · refine ((val_if_eq rfl).trans (if_neg hc299)).trans ?_
    show val (47, d + 3, 27, [some (.ref 64), some (.int l1), some (.int l2), some (.int l3), none, none], [], w) = _
    refine Eq.trans ?_ (if_neg hc299).symm
    refine (val_g (c2 := (47, d + 3, 30, [some (.ref 64), some (.int l1), some (.int l2), some (.int l3), none, none], [.long (-4)], w)) rfl).trans ?_
    exact val_r rfl
theorem tr_47_40 (d : Nat) (w : Wd) (hW : Fix w) (l1 : Int32) (l2 : Int32) (l3 : Int32) (s0 : Int32)    (hy1 : (¬ s0 = 0) → (¬ (l3 < 0)) → inB l1 8 = true) : val (47, d + 3, 40, [some (.ref 64), some (.int l1), some (.int l2), some (.int l3), none, none], [.int s0], w) = (if ¬ s0 = 0 then (if l3 < 0 then some (some (.long (-6)), w) else (if l3 < (gI w 98 (l1).toNatClampNeg) then val (47, d + 3, 76, [some (.ref 64), some (.int l1), some (.int l2), some (.int l3), none, none], [.int l1, .ref 99], w) else some (some (.long (-6)), w))) else some (some (.long (-7)), w)) := by
  by_cases hc300 : ¬ s0 = 0
  · refine ((val_if_ne rfl).trans (if_pos hc300)).trans ?_
    show val (47, d + 3, 47, [some (.ref 64), some (.int l1), some (.int l2), some (.int l3), none, none], [], w) = _
    refine Eq.trans ?_ (if_pos hc300).symm
    refine (val_g (c2 := (47, d + 3, 48, [some (.ref 64), some (.int l1), some (.int l2), some (.int l3), none, none], [.int l3], w)) rfl).trans ?_
    by_cases hc301 : l3 < 0
    · refine ((val_if_lt rfl).trans (if_pos hc301)).trans ?_
      show val (47, d + 3, 64, [some (.ref 64), some (.int l1), some (.int l2), some (.int l3), none, none], [], w) = _
      refine Eq.trans ?_ (if_pos hc301).symm
      refine (val_g (c2 := (47, d + 3, 67, [some (.ref 64), some (.int l1), some (.int l2), some (.int l3), none, none], [.long (-6)], w)) rfl).trans ?_
      exact val_r rfl
    · refine ((val_if_lt rfl).trans (if_neg hc301)).trans ?_
      show val (47, d + 3, 51, [some (.ref 64), some (.int l1), some (.int l2), some (.int l3), none, none], [], w) = _
      refine Eq.trans ?_ (if_neg hc301).symm
      refine (val_g (c2 := (47, d + 3, 52, [some (.ref 64), some (.int l1), some (.int l2), some (.int l3), none, none], [.int l3], w)) rfl).trans ?_
      refine (val_g (c2 := (47, d + 3, 53, [some (.ref 64), some (.int l1), some (.int l2), some (.int l3), none, none], [.ref 64, .int l3], w)) rfl).trans ?_
      refine (val_gf rfl (hW.k 64 (Nat.le_of_ble_eq_true rfl) (Nat.le_of_ble_eq_true rfl)) (fvR (hW.r 64 10 96 rfl))).trans ?_
      show val (47, d + 3, 56, [some (.ref 64), some (.int l1), some (.int l2), some (.int l3), none, none], [.ref 96, .int l3], w) = _
      refine (val_gf rfl (hW.k 96 (Nat.le_of_ble_eq_true rfl) (Nat.le_of_ble_eq_true rfl)) (fvR (hW.r 96 1 98 rfl))).trans ?_
      show val (47, d + 3, 59, [some (.ref 64), some (.int l1), some (.int l2), some (.int l3), none, none], [.ref 98, .int l3], w) = _
      refine (val_g (c2 := (47, d + 3, 60, [some (.ref 64), some (.int l1), some (.int l2), some (.int l3), none, none], [.int l1, .ref 98, .int l3], w)) rfl).trans ?_
      refine (val_ial rfl (hW.k 98 (Nat.le_of_ble_eq_true rfl) (Nat.le_of_ble_eq_true rfl)) rfl (hy1 hc300 hc301)).trans ?_
      show val (47, d + 3, 61, [some (.ref 64), some (.int l1), some (.int l2), some (.int l3), none, none], [.int (gI w 98 (l1).toNatClampNeg), .int l3], w) = _
      by_cases hc302 : l3 < (gI w 98 (l1).toNatClampNeg)
      · refine ((val_ic_lt rfl).trans (if_pos hc302)).trans ?_
        show val (47, d + 3, 68, [some (.ref 64), some (.int l1), some (.int l2), some (.int l3), none, none], [], w) = _
        refine Eq.trans ?_ (if_pos hc302).symm
        refine (val_g (c2 := (47, d + 3, 69, [some (.ref 64), some (.int l1), some (.int l2), some (.int l3), none, none], [.ref 64], w)) rfl).trans ?_
        refine (val_gf rfl (hW.k 64 (Nat.le_of_ble_eq_true rfl) (Nat.le_of_ble_eq_true rfl)) (fvR (hW.r 64 10 96 rfl))).trans ?_
        show val (47, d + 3, 72, [some (.ref 64), some (.int l1), some (.int l2), some (.int l3), none, none], [.ref 96], w) = _
        refine (val_gf rfl (hW.k 96 (Nat.le_of_ble_eq_true rfl) (Nat.le_of_ble_eq_true rfl)) (fvR (hW.r 96 2 99 rfl))).trans ?_
        show val (47, d + 3, 75, [some (.ref 64), some (.int l1), some (.int l2), some (.int l3), none, none], [.ref 99], w) = _
        refine (val_g (c2 := (47, d + 3, 76, [some (.ref 64), some (.int l1), some (.int l2), some (.int l3), none, none], [.int l1, .ref 99], w)) rfl).trans ?_
        rfl
      · refine ((val_ic_lt rfl).trans (if_neg hc302)).trans ?_
        show val (47, d + 3, 64, [some (.ref 64), some (.int l1), some (.int l2), some (.int l3), none, none], [], w) = _
        refine Eq.trans ?_ (if_neg hc302).symm
        refine (val_g (c2 := (47, d + 3, 67, [some (.ref 64), some (.int l1), some (.int l2), some (.int l3), none, none], [.long (-6)], w)) rfl).trans ?_
        exact val_r rfl
  · refine ((val_if_ne rfl).trans (if_neg hc300)).trans ?_
    show val (47, d + 3, 43, [some (.ref 64), some (.int l1), some (.int l2), some (.int l3), none, none], [], w) = _
    refine Eq.trans ?_ (if_neg hc300).symm
    refine (val_g (c2 := (47, d + 3, 46, [some (.ref 64), some (.int l1), some (.int l2), some (.int l3), none, none], [.long (-7)], w)) rfl).trans ?_
    exact val_r rfl
theorem tr_47_77 (d : Nat) (w : Wd) (l1 : Int32) (l2 : Int32) (l3 : Int32) (s0 : Nat)    (m_s0 : Nat) (hk_s0 : wK w s0 = (23, m_s0)) (hy3 : inB l3 m_s0 = true) : val (47, d + 3, 77, [some (.ref 64), some (.int l1), some (.int l2), some (.int l3), none, none], [.ref s0], w) = (if ¬ (fn_163 l2) = 0 then (if ¬ (cmpL ((gL w s0 (l3).toNatClampNeg)) 0) = 0 then val (47, d + 3, 110, [some (.ref 64), some (.int l1), some (.int l2), some (.int l3), some (.long (gL w s0 (l3).toNatClampNeg)), none], [.int (fn_165 ((gL w s0 (l3).toNatClampNeg))), .ref 64], w) else some (some (.long (-4)), w)) else some (some (.long (gL w s0 (l3).toNatClampNeg)), w)) := by
  refine (val_g (c2 := (47, d + 3, 78, [some (.ref 64), some (.int l1), some (.int l2), some (.int l3), none, none], [.int l3, .ref s0], w)) rfl).trans ?_
  refine (val_lal rfl hk_s0 hy3).trans ?_
  show val (47, d + 3, 79, [some (.ref 64), some (.int l1), some (.int l2), some (.int l3), none, none], [.long (gL w s0 (l3).toNatClampNeg)], w) = _
  refine (val_g (c2 := (47, d + 3, 81, [some (.ref 64), some (.int l1), some (.int l2), some (.int l3), some (.long (gL w s0 (l3).toNatClampNeg)), none], [], w)) rfl).trans ?_
  refine (val_g (c2 := (47, d + 3, 82, [some (.ref 64), some (.int l1), some (.int l2), some (.int l3), some (.long (gL w s0 (l3).toNatClampNeg)), none], [.int l2], w)) rfl).trans ?_
  refine (val_call (w1 := w) (pc2 := 85) rfl rfl rfl rfl rfl (Nat.le_of_ble_eq_true rfl) (Nat.le_of_ble_eq_true rfl) rfl (ev_163 (d + 2) w l2) rfl).trans ?_
  show val (47, d + 3, 85, [some (.ref 64), some (.int l1), some (.int l2), some (.int l3), some (.long (gL w s0 (l3).toNatClampNeg)), none], [.int (fn_163 l2)], w) = _
  by_cases hc303 : ¬ (fn_163 l2) = 0
  · refine ((val_if_ne rfl).trans (if_pos hc303)).trans ?_
    show val (47, d + 3, 91, [some (.ref 64), some (.int l1), some (.int l2), some (.int l3), some (.long (gL w s0 (l3).toNatClampNeg)), none], [], w) = _
    refine Eq.trans ?_ (if_pos hc303).symm
    refine (val_g (c2 := (47, d + 3, 93, [some (.ref 64), some (.int l1), some (.int l2), some (.int l3), some (.long (gL w s0 (l3).toNatClampNeg)), none], [.long (gL w s0 (l3).toNatClampNeg)], w)) rfl).trans ?_
    refine (val_g (c2 := (47, d + 3, 94, [some (.ref 64), some (.int l1), some (.int l2), some (.int l3), some (.long (gL w s0 (l3).toNatClampNeg)), none], [.long 0, .long (gL w s0 (l3).toNatClampNeg)], w)) rfl).trans ?_
    refine (val_g (c2 := (47, d + 3, 95, [some (.ref 64), some (.int l1), some (.int l2), some (.int l3), some (.long (gL w s0 (l3).toNatClampNeg)), none], [.int (cmpL ((gL w s0 (l3).toNatClampNeg)) 0)], w)) rfl).trans ?_
    by_cases hc304 : ¬ (cmpL ((gL w s0 (l3).toNatClampNeg)) 0) = 0
    · refine ((val_if_ne rfl).trans (if_pos hc304)).trans ?_
      show val (47, d + 3, 104, [some (.ref 64), some (.int l1), some (.int l2), some (.int l3), some (.long (gL w s0 (l3).toNatClampNeg)), none], [], w) = _
      refine Eq.trans ?_ (if_pos hc304).symm
      refine (val_g (c2 := (47, d + 3, 105, [some (.ref 64), some (.int l1), some (.int l2), some (.int l3), some (.long (gL w s0 (l3).toNatClampNeg)), none], [.ref 64], w)) rfl).trans ?_
      refine (val_g (c2 := (47, d + 3, 107, [some (.ref 64), some (.int l1), some (.int l2), some (.int l3), some (.long (gL w s0 (l3).toNatClampNeg)), none], [.long (gL w s0 (l3).toNatClampNeg), .ref 64], w)) rfl).trans ?_
      refine (val_call (w1 := w) (pc2 := 110) rfl rfl rfl rfl rfl (Nat.le_of_ble_eq_true rfl) (Nat.le_of_ble_eq_true rfl) rfl (ev_165 (d + 2) w ((gL w s0 (l3).toNatClampNeg))) rfl).trans ?_
      show val (47, d + 3, 110, [some (.ref 64), some (.int l1), some (.int l2), some (.int l3), some (.long (gL w s0 (l3).toNatClampNeg)), none], [.int (fn_165 ((gL w s0 (l3).toNatClampNeg))), .ref 64], w) = _
      rfl
    · refine ((val_if_ne rfl).trans (if_neg hc304)).trans ?_
      show val (47, d + 3, 98, [some (.ref 64), some (.int l1), some (.int l2), some (.int l3), some (.long (gL w s0 (l3).toNatClampNeg)), none], [], w) = _
      refine Eq.trans ?_ (if_neg hc304).symm
      refine (val_g (c2 := (47, d + 3, 101, [some (.ref 64), some (.int l1), some (.int l2), some (.int l3), some (.long (gL w s0 (l3).toNatClampNeg)), none], [.long (-4)], w)) rfl).trans ?_
      refine (val_g (c2 := (47, d + 3, 114, [some (.ref 64), some (.int l1), some (.int l2), some (.int l3), some (.long (gL w s0 (l3).toNatClampNeg)), none], [.long (-4)], w)) rfl).trans ?_
      exact val_r rfl
  · refine ((val_if_ne rfl).trans (if_neg hc303)).trans ?_
    show val (47, d + 3, 88, [some (.ref 64), some (.int l1), some (.int l2), some (.int l3), some (.long (gL w s0 (l3).toNatClampNeg)), none], [], w) = _
    refine Eq.trans ?_ (if_neg hc303).symm
    refine (val_g (c2 := (47, d + 3, 90, [some (.ref 64), some (.int l1), some (.int l2), some (.int l3), some (.long (gL w s0 (l3).toNatClampNeg)), none], [.long (gL w s0 (l3).toNatClampNeg)], w)) rfl).trans ?_
    exact val_r rfl
theorem tr_47_113 (d : Nat) (w : Wd) (l1 : Int32) (l2 : Int32) (l3 : Int32) (l4 : Int64) (s0 : Int32)     : val (47, d + 3, 113, [some (.ref 64), some (.int l1), some (.int l2), some (.int l3), some (.long l4), none], [.int s0], w) = some (some (.long (Int32.toInt64 s0)), w) := by
  refine (val_g (c2 := (47, d + 3, 114, [some (.ref 64), some (.int l1), some (.int l2), some (.int l3), some (.long l4), none], [.long (Int32.toInt64 s0)], w)) rfl).trans ?_
  exact val_r rfl
/-- BelfryHouse$Band.<init>()V -/
theorem tr_48 (d : Nat) (w : Wd)      : val (48, d + 1, 0, [some (.ref 84)], [], w) = val (48, d + 1, 7, [some (.ref 84)], [.int 9, .ref 84], w) := by
  refine (val_g (c2 := (48, d + 1, 1, [some (.ref 84)], [.ref 84], w)) rfl).trans ?_
  refine (val_g (c2 := (48, d + 1, 4, [some (.ref 84)], [], w)) rfl).trans ?_
  refine (val_g (c2 := (48, d + 1, 5, [some (.ref 84)], [.ref 84], w)) rfl).trans ?_
  refine (val_g (c2 := (48, d + 1, 7, [some (.ref 84)], [.int 9, .ref 84], w)) rfl).trans ?_
  rfl
theorem tr_48_12 (d : Nat) (w : Wd)      : val (48, d + 1, 12, [some (.ref 84)], [], w) = val (48, d + 1, 15, [some (.ref 84)], [.int 9, .ref 84], w) := by
  refine (val_g (c2 := (48, d + 1, 13, [some (.ref 84)], [.ref 84], w)) rfl).trans ?_
  refine (val_g (c2 := (48, d + 1, 15, [some (.ref 84)], [.int 9, .ref 84], w)) rfl).trans ?_
  rfl
theorem tr_48_20 (d : Nat) (w : Wd)      : val (48, d + 1, 20, [some (.ref 84)], [], w) = val (48, d + 1, 23, [some (.ref 84)], [.int 9, .ref 84], w) := by
  refine (val_g (c2 := (48, d + 1, 21, [some (.ref 84)], [.ref 84], w)) rfl).trans ?_
  refine (val_g (c2 := (48, d + 1, 23, [some (.ref 84)], [.int 9, .ref 84], w)) rfl).trans ?_
  rfl
theorem tr_48_28 (d : Nat) (w : Wd)      : val (48, d + 1, 28, [some (.ref 84)], [], w) = val (48, d + 1, 32, [some (.ref 84)], [.int 400, .ref 84], w) := by
  refine (val_g (c2 := (48, d + 1, 29, [some (.ref 84)], [.ref 84], w)) rfl).trans ?_
  refine (val_g (c2 := (48, d + 1, 32, [some (.ref 84)], [.int 400, .ref 84], w)) rfl).trans ?_
  rfl
theorem tr_48_37 (d : Nat) (w : Wd)      : val (48, d + 1, 37, [some (.ref 84)], [], w) = val (48, d + 1, 41, [some (.ref 84)], [.int 400, .ref 84], w) := by
  refine (val_g (c2 := (48, d + 1, 38, [some (.ref 84)], [.ref 84], w)) rfl).trans ?_
  refine (val_g (c2 := (48, d + 1, 41, [some (.ref 84)], [.int 400, .ref 84], w)) rfl).trans ?_
  rfl
theorem tr_48_46 (d : Nat) (w : Wd)      : val (48, d + 1, 46, [some (.ref 84)], [], w) = val (48, d + 1, 50, [some (.ref 84)], [.int 3200, .ref 84], w) := by
  refine (val_g (c2 := (48, d + 1, 47, [some (.ref 84)], [.ref 84], w)) rfl).trans ?_
  refine (val_g (c2 := (48, d + 1, 50, [some (.ref 84)], [.int 3200, .ref 84], w)) rfl).trans ?_
  rfl
theorem tr_48_55 (d : Nat) (w : Wd) (hW : Fix w)      : val (48, d + 1, 55, [some (.ref 84)], [], w) = some (none, (sI ((sI ((sI ((sI ((sI w 84 6 0)) 84 7 0)) 84 8 0)) 84 9 0)) 84 10 ((-9)))) := by
  refine (val_g (c2 := (48, d + 1, 56, [some (.ref 84)], [.ref 84], w)) rfl).trans ?_
  refine (val_g (c2 := (48, d + 1, 57, [some (.ref 84)], [.int 0, .ref 84], w)) rfl).trans ?_
  refine (val_pf rfl (hW.k 84 (Nat.le_of_ble_eq_true rfl) (Nat.le_of_ble_eq_true rfl)) rfl).trans ?_
  show val (48, d + 1, 60, [some (.ref 84)], [], (sI w 84 6 0)) = _
  refine (val_g (c2 := (48, d + 1, 61, [some (.ref 84)], [.ref 84], (sI w 84 6 0))) rfl).trans ?_
  refine (val_g (c2 := (48, d + 1, 62, [some (.ref 84)], [.int 0, .ref 84], (sI w 84 6 0))) rfl).trans ?_
  refine (val_pf (w := (sI w 84 6 0)) rfl (hW.k 84 (Nat.le_of_ble_eq_true rfl) (Nat.le_of_ble_eq_true rfl)) rfl).trans ?_
  show val (48, d + 1, 65, [some (.ref 84)], [], (sI ((sI w 84 6 0)) 84 7 0)) = _
  refine (val_g (c2 := (48, d + 1, 66, [some (.ref 84)], [.ref 84], (sI ((sI w 84 6 0)) 84 7 0))) rfl).trans ?_
  refine (val_g (c2 := (48, d + 1, 67, [some (.ref 84)], [.int 0, .ref 84], (sI ((sI w 84 6 0)) 84 7 0))) rfl).trans ?_
  refine (val_pf (w := (sI ((sI w 84 6 0)) 84 7 0)) rfl (hW.k 84 (Nat.le_of_ble_eq_true rfl) (Nat.le_of_ble_eq_true rfl)) rfl).trans ?_
  show val (48, d + 1, 70, [some (.ref 84)], [], (sI ((sI ((sI w 84 6 0)) 84 7 0)) 84 8 0)) = _
  refine (val_g (c2 := (48, d + 1, 71, [some (.ref 84)], [.ref 84], (sI ((sI ((sI w 84 6 0)) 84 7 0)) 84 8 0))) rfl).trans ?_
  refine (val_g (c2 := (48, d + 1, 72, [some (.ref 84)], [.int 0, .ref 84], (sI ((sI ((sI w 84 6 0)) 84 7 0)) 84 8 0))) rfl).trans ?_
  refine (val_pf (w := (sI ((sI ((sI w 84 6 0)) 84 7 0)) 84 8 0)) rfl (hW.k 84 (Nat.le_of_ble_eq_true rfl) (Nat.le_of_ble_eq_true rfl)) rfl).trans ?_
  show val (48, d + 1, 75, [some (.ref 84)], [], (sI ((sI ((sI ((sI w 84 6 0)) 84 7 0)) 84 8 0)) 84 9 0)) = _
  refine (val_g (c2 := (48, d + 1, 76, [some (.ref 84)], [.ref 84], (sI ((sI ((sI ((sI w 84 6 0)) 84 7 0)) 84 8 0)) 84 9 0))) rfl).trans ?_
  refine (val_g (c2 := (48, d + 1, 78, [some (.ref 84)], [.int (-9), .ref 84], (sI ((sI ((sI ((sI w 84 6 0)) 84 7 0)) 84 8 0)) 84 9 0))) rfl).trans ?_
  refine (val_pf (w := (sI ((sI ((sI ((sI w 84 6 0)) 84 7 0)) 84 8 0)) 84 9 0)) rfl (hW.k 84 (Nat.le_of_ble_eq_true rfl) (Nat.le_of_ble_eq_true rfl)) rfl).trans ?_
  show val (48, d + 1, 81, [some (.ref 84)], [], (sI ((sI ((sI ((sI ((sI w 84 6 0)) 84 7 0)) 84 8 0)) 84 9 0)) 84 10 ((-9)))) = _
  exact val_r rfl
/-- BelfryHouse$Band.assemble()V -/
theorem tr_49 (d : Nat) (w : Wd)      : val (49, d + 1, 0, [some (.ref 84), none], [], w) = val (49, d + 1, 2, [some (.ref 84), some (.int 1)], [], w) := by
  refine (val_g (c2 := (49, d + 1, 1, [some (.ref 84), none], [.int 1], w)) rfl).trans ?_
  refine (val_g (c2 := (49, d + 1, 2, [some (.ref 84), some (.int 1)], [], w)) rfl).trans ?_
  rfl
theorem tr_49_2 (d : Nat) (w : Wd) (l1 : Int32)     : val (49, d + 1, 2, [some (.ref 84), some (.int l1)], [], w) = (if 8 < l1 then val (49, d + 1, 23, [some (.ref 84), some (.int l1)], [.ref 84], w) else val (49, d + 1, 13, [some (.ref 84), some (.int l1)], [.int 10, .int 0, .int l1, .ref 84], w)) := by
  refine (val_g (c2 := (49, d + 1, 3, [some (.ref 84), some (.int l1)], [.int l1], w)) rfl).trans ?_
  refine (val_g (c2 := (49, d + 1, 5, [some (.ref 84), some (.int l1)], [.int 8, .int l1], w)) rfl).trans ?_
  by_cases hc306 : 8 < l1
  · refine ((val_ic_gt rfl).trans (if_pos hc306)).trans ?_
    show val (49, d + 1, 22, [some (.ref 84), some (.int l1)], [], w) = _
    refine Eq.trans ?_ (if_pos hc306).symm
    refine (val_g (c2 := (49, d + 1, 23, [some (.ref 84), some (.int l1)], [.ref 84], w)) rfl).trans ?_
    rfl
  · refine ((val_ic_gt rfl).trans (if_neg hc306)).trans ?_
    show val (49, d + 1, 8, [some (.ref 84), some (.int l1)], [], w) = _
    refine Eq.trans ?_ (if_neg hc306).symm
    refine (val_g (c2 := (49, d + 1, 9, [some (.ref 84), some (.int l1)], [.ref 84], w)) rfl).trans ?_
    refine (val_g (c2 := (49, d + 1, 10, [some (.ref 84), some (.int l1)], [.int l1, .ref 84], w)) rfl).trans ?_
    refine (val_g (c2 := (49, d + 1, 11, [some (.ref 84), some (.int l1)], [.int 0, .int l1, .ref 84], w)) rfl).trans ?_
    refine (val_g (c2 := (49, d + 1, 13, [some (.ref 84), some (.int l1)], [.int 10, .int 0, .int l1, .ref 84], w)) rfl).trans ?_
    rfl
theorem tr_49_16 (d : Nat) (w : Wd) (l1 : Int32)     : val (49, d + 1, 16, [some (.ref 84), some (.int l1)], [], w) = val (49, d + 1, 2, [some (.ref 84), some (.int (l1 + 1))], [], w) := by
  refine (val_g (c2 := (49, d + 1, 19, [some (.ref 84), some (.int (l1 + 1))], [], w)) rfl).trans ?_
  refine (val_g (c2 := (49, d + 1, 2, [some (.ref 84), some (.int (l1 + 1))], [], w)) rfl).trans ?_
  rfl
theorem tr_49_26 (d : Nat) (w : Wd) (l1 : Int32)     : val (49, d + 1, 26, [some (.ref 84), some (.int l1)], [], w) = some (none, w) := by
  exact val_r rfl
/-- BelfryHouse$Band.put(III)V -/
theorem tr_50 (d : Nat) (w : Wd) (hW : Fix w) (x0 : Int32) (x1 : Int32) (x2 : Int32)    (hy1 : inB x0 9 = true) : val (50, d, 0, [some (.ref 84), some (.int x0), some (.int x1), some (.int x2)], [], w) = some (none, (sI ((sI ((sI w 85 (x0).toNatClampNeg x1)) 86 (x0).toNatClampNeg x2)) 87 (x0).toNatClampNeg 0)) := by
  refine (val_g (c2 := (50, d, 1, [some (.ref 84), some (.int x0), some (.int x1), some (.int x2)], [.ref 84], w)) rfl).trans ?_
  refine (val_gf rfl (hW.k 84 (Nat.le_of_ble_eq_true rfl) (Nat.le_of_ble_eq_true rfl)) (fvR (hW.r 84 0 85 rfl))).trans ?_
  show val (50, d, 4, [some (.ref 84), some (.int x0), some (.int x1), some (.int x2)], [.ref 85], w) = _
  refine (val_g (c2 := (50, d, 5, [some (.ref 84), some (.int x0), some (.int x1), some (.int x2)], [.int x0, .ref 85], w)) rfl).trans ?_
  refine (val_g (c2 := (50, d, 6, [some (.ref 84), some (.int x0), some (.int x1), some (.int x2)], [.int x1, .int x0, .ref 85], w)) rfl).trans ?_
  refine (val_ias rfl (hW.k 85 (Nat.le_of_ble_eq_true rfl) (Nat.le_of_ble_eq_true rfl)) hy1).trans ?_
  show val (50, d, 7, [some (.ref 84), some (.int x0), some (.int x1), some (.int x2)], [], (sI w 85 (x0).toNatClampNeg x1)) = _
  refine (val_g (c2 := (50, d, 8, [some (.ref 84), some (.int x0), some (.int x1), some (.int x2)], [.ref 84], (sI w 85 (x0).toNatClampNeg x1))) rfl).trans ?_
  refine (val_gf (w := (sI w 85 (x0).toNatClampNeg x1)) rfl (hW.k 84 (Nat.le_of_ble_eq_true rfl) (Nat.le_of_ble_eq_true rfl)) (fvR (hW.r 84 1 86 rfl))).trans ?_
  show val (50, d, 11, [some (.ref 84), some (.int x0), some (.int x1), some (.int x2)], [.ref 86], (sI w 85 (x0).toNatClampNeg x1)) = _
  refine (val_g (c2 := (50, d, 12, [some (.ref 84), some (.int x0), some (.int x1), some (.int x2)], [.int x0, .ref 86], (sI w 85 (x0).toNatClampNeg x1))) rfl).trans ?_
  refine (val_g (c2 := (50, d, 13, [some (.ref 84), some (.int x0), some (.int x1), some (.int x2)], [.int x2, .int x0, .ref 86], (sI w 85 (x0).toNatClampNeg x1))) rfl).trans ?_
  refine (val_ias (w := (sI w 85 (x0).toNatClampNeg x1)) rfl (hW.k 86 (Nat.le_of_ble_eq_true rfl) (Nat.le_of_ble_eq_true rfl)) hy1).trans ?_
  show val (50, d, 14, [some (.ref 84), some (.int x0), some (.int x1), some (.int x2)], [], (sI ((sI w 85 (x0).toNatClampNeg x1)) 86 (x0).toNatClampNeg x2)) = _
  refine (val_g (c2 := (50, d, 15, [some (.ref 84), some (.int x0), some (.int x1), some (.int x2)], [.ref 84], (sI ((sI w 85 (x0).toNatClampNeg x1)) 86 (x0).toNatClampNeg x2))) rfl).trans ?_
  refine (val_gf (w := (sI ((sI w 85 (x0).toNatClampNeg x1)) 86 (x0).toNatClampNeg x2)) rfl (hW.k 84 (Nat.le_of_ble_eq_true rfl) (Nat.le_of_ble_eq_true rfl)) (fvR (hW.r 84 2 87 rfl))).trans ?_
  show val (50, d, 18, [some (.ref 84), some (.int x0), some (.int x1), some (.int x2)], [.ref 87], (sI ((sI w 85 (x0).toNatClampNeg x1)) 86 (x0).toNatClampNeg x2)) = _
  refine (val_g (c2 := (50, d, 19, [some (.ref 84), some (.int x0), some (.int x1), some (.int x2)], [.int x0, .ref 87], (sI ((sI w 85 (x0).toNatClampNeg x1)) 86 (x0).toNatClampNeg x2))) rfl).trans ?_
  refine (val_g (c2 := (50, d, 20, [some (.ref 84), some (.int x0), some (.int x1), some (.int x2)], [.int 0, .int x0, .ref 87], (sI ((sI w 85 (x0).toNatClampNeg x1)) 86 (x0).toNatClampNeg x2))) rfl).trans ?_
  refine (val_ias (w := (sI ((sI w 85 (x0).toNatClampNeg x1)) 86 (x0).toNatClampNeg x2)) rfl (hW.k 87 (Nat.le_of_ble_eq_true rfl) (Nat.le_of_ble_eq_true rfl)) hy1).trans ?_
  show val (50, d, 21, [some (.ref 84), some (.int x0), some (.int x1), some (.int x2)], [], (sI ((sI ((sI w 85 (x0).toNatClampNeg x1)) 86 (x0).toNatClampNeg x2)) 87 (x0).toNatClampNeg 0)) = _
  exact val_r rfl
/-- BelfryHouse$Band.beginRinging()V -/
theorem tr_51 (d : Nat) (w : Wd) (hW : Fix w)      : val (51, d, 0, [some (.ref 84)], [], w) = some (none, (sI ((sI ((sI ((sI ((sI w 84 6 0)) 84 7 0)) 84 8 0)) 84 9 0)) 84 10 ((-9)))) := by
  refine (val_g (c2 := (51, d, 1, [some (.ref 84)], [.ref 84], w)) rfl).trans ?_
  refine (val_g (c2 := (51, d, 2, [some (.ref 84)], [.int 0, .ref 84], w)) rfl).trans ?_
  refine (val_pf rfl (hW.k 84 (Nat.le_of_ble_eq_true rfl) (Nat.le_of_ble_eq_true rfl)) rfl).trans ?_
  show val (51, d, 5, [some (.ref 84)], [], (sI w 84 6 0)) = _
  refine (val_g (c2 := (51, d, 6, [some (.ref 84)], [.ref 84], (sI w 84 6 0))) rfl).trans ?_
  refine (val_g (c2 := (51, d, 7, [some (.ref 84)], [.int 0, .ref 84], (sI w 84 6 0))) rfl).trans ?_
  refine (val_pf (w := (sI w 84 6 0)) rfl (hW.k 84 (Nat.le_of_ble_eq_true rfl) (Nat.le_of_ble_eq_true rfl)) rfl).trans ?_
  show val (51, d, 10, [some (.ref 84)], [], (sI ((sI w 84 6 0)) 84 7 0)) = _
  refine (val_g (c2 := (51, d, 11, [some (.ref 84)], [.ref 84], (sI ((sI w 84 6 0)) 84 7 0))) rfl).trans ?_
  refine (val_g (c2 := (51, d, 12, [some (.ref 84)], [.int 0, .ref 84], (sI ((sI w 84 6 0)) 84 7 0))) rfl).trans ?_
  refine (val_pf (w := (sI ((sI w 84 6 0)) 84 7 0)) rfl (hW.k 84 (Nat.le_of_ble_eq_true rfl) (Nat.le_of_ble_eq_true rfl)) rfl).trans ?_
  show val (51, d, 15, [some (.ref 84)], [], (sI ((sI ((sI w 84 6 0)) 84 7 0)) 84 8 0)) = _
  refine (val_g (c2 := (51, d, 16, [some (.ref 84)], [.ref 84], (sI ((sI ((sI w 84 6 0)) 84 7 0)) 84 8 0))) rfl).trans ?_
  refine (val_g (c2 := (51, d, 17, [some (.ref 84)], [.int 0, .ref 84], (sI ((sI ((sI w 84 6 0)) 84 7 0)) 84 8 0))) rfl).trans ?_
  refine (val_pf (w := (sI ((sI ((sI w 84 6 0)) 84 7 0)) 84 8 0)) rfl (hW.k 84 (Nat.le_of_ble_eq_true rfl) (Nat.le_of_ble_eq_true rfl)) rfl).trans ?_
  show val (51, d, 20, [some (.ref 84)], [], (sI ((sI ((sI ((sI w 84 6 0)) 84 7 0)) 84 8 0)) 84 9 0)) = _
  refine (val_g (c2 := (51, d, 21, [some (.ref 84)], [.ref 84], (sI ((sI ((sI ((sI w 84 6 0)) 84 7 0)) 84 8 0)) 84 9 0))) rfl).trans ?_
  refine (val_g (c2 := (51, d, 23, [some (.ref 84)], [.int (-9), .ref 84], (sI ((sI ((sI ((sI w 84 6 0)) 84 7 0)) 84 8 0)) 84 9 0))) rfl).trans ?_
  refine (val_pf (w := (sI ((sI ((sI ((sI w 84 6 0)) 84 7 0)) 84 8 0)) 84 9 0)) rfl (hW.k 84 (Nat.le_of_ble_eq_true rfl) (Nat.le_of_ble_eq_true rfl)) rfl).trans ?_
  show val (51, d, 26, [some (.ref 84)], [], (sI ((sI ((sI ((sI ((sI w 84 6 0)) 84 7 0)) 84 8 0)) 84 9 0)) 84 10 ((-9)))) = _
  exact val_r rfl
/-- BelfryHouse$Band.draw(III)I -/
theorem tr_52 (d : Nat) (w : Wd) (hW : Fix w) (x0 : Int32) (x1 : Int32) (x2 : Int32)    (hy1 : inB x0 9 = true) (hy2 : ((41 - (2 * (gI w 86 (x0).toNatClampNeg))) ≤ 0) → inB x0 9 = true) (hy3 : (¬ ((41 - (2 * (gI w 86 (x0).toNatClampNeg))) ≤ 0)) → ¬ (41 - (2 * (gI w 86 (x0).toNatClampNeg))) = 0) (hy4 : (¬ ((41 - (2 * (gI w 86 (x0).toNatClampNeg))) ≤ 0)) → inB x0 9 = true) : val (52, d, 0, [some (.ref 84), some (.int x0), some (.int x1), some (.int x2), none, none], [], w) = (if (41 - (2 * (gI w 86 (x0).toNatClampNeg))) ≤ 0 then some (some (.int ((0 - 20) + (gI w 86 (x0).toNatClampNeg))), w) else some (some (.int ((((ushI ((((x2 ^^^ (((64 * x1) + x0) * (-1640531535))) ^^^ (ushI ((x2 ^^^ (((64 * x1) + x0) * (-1640531535)))) 15)) * (-2048144777))) 8) - (ushI ((((x2 ^^^ (((64 * x1) + x0) * (-1640531535))) ^^^ (ushI ((x2 ^^^ (((64 * x1) + x0) * (-1640531535)))) 15)) * (-2048144777))) 8) / (41 - (2 * (gI w 86 (x0).toNatClampNeg))) * (41 - (2 * (gI w 86 (x0).toNatClampNeg)))) - 20) + (gI w 86 (x0).toNatClampNeg))), w)) := by
  refine (val_g (c2 := (52, d, 1, [some (.ref 84), some (.int x0), some (.int x1), some (.int x2), none, none], [.int x2], w)) rfl).trans ?_
  refine (val_g (c2 := (52, d, 3, [some (.ref 84), some (.int x0), some (.int x1), some (.int x2), none, none], [.int 64, .int x2], w)) rfl).trans ?_
  refine (val_g (c2 := (52, d, 4, [some (.ref 84), some (.int x0), some (.int x1), some (.int x2), none, none], [.int x1, .int 64, .int x2], w)) rfl).trans ?_
  refine (val_g (c2 := (52, d, 5, [some (.ref 84), some (.int x0), some (.int x1), some (.int x2), none, none], [.int (64 * x1), .int x2], w)) rfl).trans ?_
  refine (val_g (c2 := (52, d, 6, [some (.ref 84), some (.int x0), some (.int x1), some (.int x2), none, none], [.int x0, .int (64 * x1), .int x2], w)) rfl).trans ?_
  refine (val_g (c2 := (52, d, 7, [some (.ref 84), some (.int x0), some (.int x1), some (.int x2), none, none], [.int ((64 * x1) + x0), .int x2], w)) rfl).trans ?_
  refine (val_g (c2 := (52, d, 9, [some (.ref 84), some (.int x0), some (.int x1), some (.int x2), none, none], [.int (-1640531535), .int ((64 * x1) + x0), .int x2], w)) rfl).trans ?_
  refine (val_g (c2 := (52, d, 10, [some (.ref 84), some (.int x0), some (.int x1), some (.int x2), none, none], [.int (((64 * x1) + x0) * (-1640531535)), .int x2], w)) rfl).trans ?_
  refine (val_g (c2 := (52, d, 11, [some (.ref 84), some (.int x0), some (.int x1), some (.int x2), none, none], [.int (x2 ^^^ (((64 * x1) + x0) * (-1640531535)))], w)) rfl).trans ?_
  refine (val_g (c2 := (52, d, 13, [some (.ref 84), some (.int x0), some (.int x1), some (.int x2), some (.int (x2 ^^^ (((64 * x1) + x0) * (-1640531535)))), none], [], w)) rfl).trans ?_
  refine (val_g (c2 := (52, d, 15, [some (.ref 84), some (.int x0), some (.int x1), some (.int x2), some (.int (x2 ^^^ (((64 * x1) + x0) * (-1640531535)))), none], [.int (x2 ^^^ (((64 * x1) + x0) * (-1640531535)))], w)) rfl).trans ?_
  refine (val_g (c2 := (52, d, 17, [some (.ref 84), some (.int x0), some (.int x1), some (.int x2), some (.int (x2 ^^^ (((64 * x1) + x0) * (-1640531535)))), none], [.int (x2 ^^^ (((64 * x1) + x0) * (-1640531535))), .int (x2 ^^^ (((64 * x1) + x0) * (-1640531535)))], w)) rfl).trans ?_
  refine (val_g (c2 := (52, d, 19, [some (.ref 84), some (.int x0), some (.int x1), some (.int x2), some (.int (x2 ^^^ (((64 * x1) + x0) * (-1640531535)))), none], [.int 15, .int (x2 ^^^ (((64 * x1) + x0) * (-1640531535))), .int (x2 ^^^ (((64 * x1) + x0) * (-1640531535)))], w)) rfl).trans ?_
  refine (val_g (c2 := (52, d, 20, [some (.ref 84), some (.int x0), some (.int x1), some (.int x2), some (.int (x2 ^^^ (((64 * x1) + x0) * (-1640531535)))), none], [.int (ushI ((x2 ^^^ (((64 * x1) + x0) * (-1640531535)))) 15), .int (x2 ^^^ (((64 * x1) + x0) * (-1640531535)))], w)) rfl).trans ?_
  refine (val_g (c2 := (52, d, 21, [some (.ref 84), some (.int x0), some (.int x1), some (.int x2), some (.int (x2 ^^^ (((64 * x1) + x0) * (-1640531535)))), none], [.int ((x2 ^^^ (((64 * x1) + x0) * (-1640531535))) ^^^ (ushI ((x2 ^^^ (((64 * x1) + x0) * (-1640531535)))) 15))], w)) rfl).trans ?_
  refine (val_g (c2 := (52, d, 23, [some (.ref 84), some (.int x0), some (.int x1), some (.int x2), some (.int (x2 ^^^ (((64 * x1) + x0) * (-1640531535)))), none], [.int (-2048144777), .int ((x2 ^^^ (((64 * x1) + x0) * (-1640531535))) ^^^ (ushI ((x2 ^^^ (((64 * x1) + x0) * (-1640531535)))) 15))], w)) rfl).trans ?_
  refine (val_g (c2 := (52, d, 24, [some (.ref 84), some (.int x0), some (.int x1), some (.int x2), some (.int (x2 ^^^ (((64 * x1) + x0) * (-1640531535)))), none], [.int (((x2 ^^^ (((64 * x1) + x0) * (-1640531535))) ^^^ (ushI ((x2 ^^^ (((64 * x1) + x0) * (-1640531535)))) 15)) * (-2048144777))], w)) rfl).trans ?_
  refine (val_g (c2 := (52, d, 26, [some (.ref 84), some (.int x0), some (.int x1), some (.int x2), some (.int (((x2 ^^^ (((64 * x1) + x0) * (-1640531535))) ^^^ (ushI ((x2 ^^^ (((64 * x1) + x0) * (-1640531535)))) 15)) * (-2048144777))), none], [], w)) rfl).trans ?_
  refine (val_g (c2 := (52, d, 28, [some (.ref 84), some (.int x0), some (.int x1), some (.int x2), some (.int (((x2 ^^^ (((64 * x1) + x0) * (-1640531535))) ^^^ (ushI ((x2 ^^^ (((64 * x1) + x0) * (-1640531535)))) 15)) * (-2048144777))), none], [.int 41], w)) rfl).trans ?_
  refine (val_g (c2 := (52, d, 29, [some (.ref 84), some (.int x0), some (.int x1), some (.int x2), some (.int (((x2 ^^^ (((64 * x1) + x0) * (-1640531535))) ^^^ (ushI ((x2 ^^^ (((64 * x1) + x0) * (-1640531535)))) 15)) * (-2048144777))), none], [.int 2, .int 41], w)) rfl).trans ?_
  refine (val_g (c2 := (52, d, 30, [some (.ref 84), some (.int x0), some (.int x1), some (.int x2), some (.int (((x2 ^^^ (((64 * x1) + x0) * (-1640531535))) ^^^ (ushI ((x2 ^^^ (((64 * x1) + x0) * (-1640531535)))) 15)) * (-2048144777))), none], [.ref 84, .int 2, .int 41], w)) rfl).trans ?_
  refine (val_gf rfl (hW.k 84 (Nat.le_of_ble_eq_true rfl) (Nat.le_of_ble_eq_true rfl)) (fvR (hW.r 84 1 86 rfl))).trans ?_
  show val (52, d, 33, [some (.ref 84), some (.int x0), some (.int x1), some (.int x2), some (.int (((x2 ^^^ (((64 * x1) + x0) * (-1640531535))) ^^^ (ushI ((x2 ^^^ (((64 * x1) + x0) * (-1640531535)))) 15)) * (-2048144777))), none], [.ref 86, .int 2, .int 41], w) = _
  refine (val_g (c2 := (52, d, 34, [some (.ref 84), some (.int x0), some (.int x1), some (.int x2), some (.int (((x2 ^^^ (((64 * x1) + x0) * (-1640531535))) ^^^ (ushI ((x2 ^^^ (((64 * x1) + x0) * (-1640531535)))) 15)) * (-2048144777))), none], [.int x0, .ref 86, .int 2, .int 41], w)) rfl).trans ?_
  refine (val_ial rfl (hW.k 86 (Nat.le_of_ble_eq_true rfl) (Nat.le_of_ble_eq_true rfl)) rfl hy1).trans ?_
  show val (52, d, 35, [some (.ref 84), some (.int x0), some (.int x1), some (.int x2), some (.int (((x2 ^^^ (((64 * x1) + x0) * (-1640531535))) ^^^ (ushI ((x2 ^^^ (((64 * x1) + x0) * (-1640531535)))) 15)) * (-2048144777))), none], [.int (gI w 86 (x0).toNatClampNeg), .int 2, .int 41], w) = _
  refine (val_g (c2 := (52, d, 36, [some (.ref 84), some (.int x0), some (.int x1), some (.int x2), some (.int (((x2 ^^^ (((64 * x1) + x0) * (-1640531535))) ^^^ (ushI ((x2 ^^^ (((64 * x1) + x0) * (-1640531535)))) 15)) * (-2048144777))), none], [.int (2 * (gI w 86 (x0).toNatClampNeg)), .int 41], w)) rfl).trans ?_
  refine (val_g (c2 := (52, d, 37, [some (.ref 84), some (.int x0), some (.int x1), some (.int x2), some (.int (((x2 ^^^ (((64 * x1) + x0) * (-1640531535))) ^^^ (ushI ((x2 ^^^ (((64 * x1) + x0) * (-1640531535)))) 15)) * (-2048144777))), none], [.int (41 - (2 * (gI w 86 (x0).toNatClampNeg)))], w)) rfl).trans ?_
  refine (val_g (c2 := (52, d, 39, [some (.ref 84), some (.int x0), some (.int x1), some (.int x2), some (.int (((x2 ^^^ (((64 * x1) + x0) * (-1640531535))) ^^^ (ushI ((x2 ^^^ (((64 * x1) + x0) * (-1640531535)))) 15)) * (-2048144777))), some (.int (41 - (2 * (gI w 86 (x0).toNatClampNeg))))], [], w)) rfl).trans ?_
  refine (val_g (c2 := (52, d, 41, [some (.ref 84), some (.int x0), some (.int x1), some (.int x2), some (.int (((x2 ^^^ (((64 * x1) + x0) * (-1640531535))) ^^^ (ushI ((x2 ^^^ (((64 * x1) + x0) * (-1640531535)))) 15)) * (-2048144777))), some (.int (41 - (2 * (gI w 86 (x0).toNatClampNeg))))], [.int (41 - (2 * (gI w 86 (x0).toNatClampNeg)))], w)) rfl).trans ?_
  by_cases hc308 : (41 - (2 * (gI w 86 (x0).toNatClampNeg))) ≤ 0
  · refine ((val_if_le rfl).trans (if_pos hc308)).trans ?_
    show val (52, d, 55, [some (.ref 84), some (.int x0), some (.int x1), some (.int x2), some (.int (((x2 ^^^ (((64 * x1) + x0) * (-1640531535))) ^^^ (ushI ((x2 ^^^ (((64 * x1) + x0) * (-1640531535)))) 15)) * (-2048144777))), some (.int (41 - (2 * (gI w 86 (x0).toNatClampNeg))))], [], w) = _
    refine Eq.trans ?_ (if_pos hc308).symm
    refine (val_g (c2 := (52, d, 56, [some (.ref 84), some (.int x0), some (.int x1), some (.int x2), some (.int (((x2 ^^^ (((64 * x1) + x0) * (-1640531535))) ^^^ (ushI ((x2 ^^^ (((64 * x1) + x0) * (-1640531535)))) 15)) * (-2048144777))), some (.int (41 - (2 * (gI w 86 (x0).toNatClampNeg))))], [.int 0], w)) rfl).trans ?_
    refine (val_g (c2 := (52, d, 58, [some (.ref 84), some (.int x0), some (.int x1), some (.int x2), some (.int (((x2 ^^^ (((64 * x1) + x0) * (-1640531535))) ^^^ (ushI ((x2 ^^^ (((64 * x1) + x0) * (-1640531535)))) 15)) * (-2048144777))), some (.int (41 - (2 * (gI w 86 (x0).toNatClampNeg))))], [.int 20, .int 0], w)) rfl).trans ?_
    refine (val_g (c2 := (52, d, 59, [some (.ref 84), some (.int x0), some (.int x1), some (.int x2), some (.int (((x2 ^^^ (((64 * x1) + x0) * (-1640531535))) ^^^ (ushI ((x2 ^^^ (((64 * x1) + x0) * (-1640531535)))) 15)) * (-2048144777))), some (.int (41 - (2 * (gI w 86 (x0).toNatClampNeg))))], [.int (0 - 20)], w)) rfl).trans ?_
    refine (val_g (c2 := (52, d, 60, [some (.ref 84), some (.int x0), some (.int x1), some (.int x2), some (.int (((x2 ^^^ (((64 * x1) + x0) * (-1640531535))) ^^^ (ushI ((x2 ^^^ (((64 * x1) + x0) * (-1640531535)))) 15)) * (-2048144777))), some (.int (41 - (2 * (gI w 86 (x0).toNatClampNeg))))], [.ref 84, .int (0 - 20)], w)) rfl).trans ?_
    refine (val_gf rfl (hW.k 84 (Nat.le_of_ble_eq_true rfl) (Nat.le_of_ble_eq_true rfl)) (fvR (hW.r 84 1 86 rfl))).trans ?_
    show val (52, d, 63, [some (.ref 84), some (.int x0), some (.int x1), some (.int x2), some (.int (((x2 ^^^ (((64 * x1) + x0) * (-1640531535))) ^^^ (ushI ((x2 ^^^ (((64 * x1) + x0) * (-1640531535)))) 15)) * (-2048144777))), some (.int (41 - (2 * (gI w 86 (x0).toNatClampNeg))))], [.ref 86, .int (0 - 20)], w) = _
    refine (val_g (c2 := (52, d, 64, [some (.ref 84), some (.int x0), some (.int x1), some (.int x2), some (.int (((x2 ^^^ (((64 * x1) + x0) * (-1640531535))) ^^^ (ushI ((x2 ^^^ (((64 * x1) + x0) * (-1640531535)))) 15)) * (-2048144777))), some (.int (41 - (2 * (gI w 86 (x0).toNatClampNeg))))], [.int x0, .ref 86, .int (0 - 20)], w)) rfl).trans ?_
    refine (val_ial rfl (hW.k 86 (Nat.le_of_ble_eq_true rfl) (Nat.le_of_ble_eq_true rfl)) rfl (hy2 hc308)).trans ?_
    show val (52, d, 65, [some (.ref 84), some (.int x0), some (.int x1), some (.int x2), some (.int (((x2 ^^^ (((64 * x1) + x0) * (-1640531535))) ^^^ (ushI ((x2 ^^^ (((64 * x1) + x0) * (-1640531535)))) 15)) * (-2048144777))), some (.int (41 - (2 * (gI w 86 (x0).toNatClampNeg))))], [.int (gI w 86 (x0).toNatClampNeg), .int (0 - 20)], w) = _
    refine (val_g (c2 := (52, d, 66, [some (.ref 84), some (.int x0), some (.int x1), some (.int x2), some (.int (((x2 ^^^ (((64 * x1) + x0) * (-1640531535))) ^^^ (ushI ((x2 ^^^ (((64 * x1) + x0) * (-1640531535)))) 15)) * (-2048144777))), some (.int (41 - (2 * (gI w 86 (x0).toNatClampNeg))))], [.int ((0 - 20) + (gI w 86 (x0).toNatClampNeg))], w)) rfl).trans ?_
    exact val_r rfl
  · refine ((val_if_le rfl).trans (if_neg hc308)).trans ?_
    show val (52, d, 44, [some (.ref 84), some (.int x0), some (.int x1), some (.int x2), some (.int (((x2 ^^^ (((64 * x1) + x0) * (-1640531535))) ^^^ (ushI ((x2 ^^^ (((64 * x1) + x0) * (-1640531535)))) 15)) * (-2048144777))), some (.int (41 - (2 * (gI w 86 (x0).toNatClampNeg))))], [], w) = _
    refine Eq.trans ?_ (if_neg hc308).symm
    refine (val_g (c2 := (52, d, 46, [some (.ref 84), some (.int x0), some (.int x1), some (.int x2), some (.int (((x2 ^^^ (((64 * x1) + x0) * (-1640531535))) ^^^ (ushI ((x2 ^^^ (((64 * x1) + x0) * (-1640531535)))) 15)) * (-2048144777))), some (.int (41 - (2 * (gI w 86 (x0).toNatClampNeg))))], [.int (((x2 ^^^ (((64 * x1) + x0) * (-1640531535))) ^^^ (ushI ((x2 ^^^ (((64 * x1) + x0) * (-1640531535)))) 15)) * (-2048144777))], w)) rfl).trans ?_
    refine (val_g (c2 := (52, d, 48, [some (.ref 84), some (.int x0), some (.int x1), some (.int x2), some (.int (((x2 ^^^ (((64 * x1) + x0) * (-1640531535))) ^^^ (ushI ((x2 ^^^ (((64 * x1) + x0) * (-1640531535)))) 15)) * (-2048144777))), some (.int (41 - (2 * (gI w 86 (x0).toNatClampNeg))))], [.int 8, .int (((x2 ^^^ (((64 * x1) + x0) * (-1640531535))) ^^^ (ushI ((x2 ^^^ (((64 * x1) + x0) * (-1640531535)))) 15)) * (-2048144777))], w)) rfl).trans ?_
    refine (val_g (c2 := (52, d, 49, [some (.ref 84), some (.int x0), some (.int x1), some (.int x2), some (.int (((x2 ^^^ (((64 * x1) + x0) * (-1640531535))) ^^^ (ushI ((x2 ^^^ (((64 * x1) + x0) * (-1640531535)))) 15)) * (-2048144777))), some (.int (41 - (2 * (gI w 86 (x0).toNatClampNeg))))], [.int (ushI ((((x2 ^^^ (((64 * x1) + x0) * (-1640531535))) ^^^ (ushI ((x2 ^^^ (((64 * x1) + x0) * (-1640531535)))) 15)) * (-2048144777))) 8)], w)) rfl).trans ?_
    refine (val_g (c2 := (52, d, 51, [some (.ref 84), some (.int x0), some (.int x1), some (.int x2), some (.int (((x2 ^^^ (((64 * x1) + x0) * (-1640531535))) ^^^ (ushI ((x2 ^^^ (((64 * x1) + x0) * (-1640531535)))) 15)) * (-2048144777))), some (.int (41 - (2 * (gI w 86 (x0).toNatClampNeg))))], [.int (41 - (2 * (gI w 86 (x0).toNatClampNeg))), .int (ushI ((((x2 ^^^ (((64 * x1) + x0) * (-1640531535))) ^^^ (ushI ((x2 ^^^ (((64 * x1) + x0) * (-1640531535)))) 15)) * (-2048144777))) 8)], w)) rfl).trans ?_
    refine (val_irem rfl (hy3 hc308)).trans ?_
    show val (52, d, 52, [some (.ref 84), some (.int x0), some (.int x1), some (.int x2), some (.int (((x2 ^^^ (((64 * x1) + x0) * (-1640531535))) ^^^ (ushI ((x2 ^^^ (((64 * x1) + x0) * (-1640531535)))) 15)) * (-2048144777))), some (.int (41 - (2 * (gI w 86 (x0).toNatClampNeg))))], [.int ((ushI ((((x2 ^^^ (((64 * x1) + x0) * (-1640531535))) ^^^ (ushI ((x2 ^^^ (((64 * x1) + x0) * (-1640531535)))) 15)) * (-2048144777))) 8) - (ushI ((((x2 ^^^ (((64 * x1) + x0) * (-1640531535))) ^^^ (ushI ((x2 ^^^ (((64 * x1) + x0) * (-1640531535)))) 15)) * (-2048144777))) 8) / (41 - (2 * (gI w 86 (x0).toNatClampNeg))) * (41 - (2 * (gI w 86 (x0).toNatClampNeg))))], w) = _
    refine (val_g (c2 := (52, d, 56, [some (.ref 84), some (.int x0), some (.int x1), some (.int x2), some (.int (((x2 ^^^ (((64 * x1) + x0) * (-1640531535))) ^^^ (ushI ((x2 ^^^ (((64 * x1) + x0) * (-1640531535)))) 15)) * (-2048144777))), some (.int (41 - (2 * (gI w 86 (x0).toNatClampNeg))))], [.int ((ushI ((((x2 ^^^ (((64 * x1) + x0) * (-1640531535))) ^^^ (ushI ((x2 ^^^ (((64 * x1) + x0) * (-1640531535)))) 15)) * (-2048144777))) 8) - (ushI ((((x2 ^^^ (((64 * x1) + x0) * (-1640531535))) ^^^ (ushI ((x2 ^^^ (((64 * x1) + x0) * (-1640531535)))) 15)) * (-2048144777))) 8) / (41 - (2 * (gI w 86 (x0).toNatClampNeg))) * (41 - (2 * (gI w 86 (x0).toNatClampNeg))))], w)) rfl).trans ?_
    refine (val_g (c2 := (52, d, 58, [some (.ref 84), some (.int x0), some (.int x1), some (.int x2), some (.int (((x2 ^^^ (((64 * x1) + x0) * (-1640531535))) ^^^ (ushI ((x2 ^^^ (((64 * x1) + x0) * (-1640531535)))) 15)) * (-2048144777))), some (.int (41 - (2 * (gI w 86 (x0).toNatClampNeg))))], [.int 20, .int ((ushI ((((x2 ^^^ (((64 * x1) + x0) * (-1640531535))) ^^^ (ushI ((x2 ^^^ (((64 * x1) + x0) * (-1640531535)))) 15)) * (-2048144777))) 8) - (ushI ((((x2 ^^^ (((64 * x1) + x0) * (-1640531535))) ^^^ (ushI ((x2 ^^^ (((64 * x1) + x0) * (-1640531535)))) 15)) * (-2048144777))) 8) / (41 - (2 * (gI w 86 (x0).toNatClampNeg))) * (41 - (2 * (gI w 86 (x0).toNatClampNeg))))], w)) rfl).trans ?_
    refine (val_g (c2 := (52, d, 59, [some (.ref 84), some (.int x0), some (.int x1), some (.int x2), some (.int (((x2 ^^^ (((64 * x1) + x0) * (-1640531535))) ^^^ (ushI ((x2 ^^^ (((64 * x1) + x0) * (-1640531535)))) 15)) * (-2048144777))), some (.int (41 - (2 * (gI w 86 (x0).toNatClampNeg))))], [.int (((ushI ((((x2 ^^^ (((64 * x1) + x0) * (-1640531535))) ^^^ (ushI ((x2 ^^^ (((64 * x1) + x0) * (-1640531535)))) 15)) * (-2048144777))) 8) - (ushI ((((x2 ^^^ (((64 * x1) + x0) * (-1640531535))) ^^^ (ushI ((x2 ^^^ (((64 * x1) + x0) * (-1640531535)))) 15)) * (-2048144777))) 8) / (41 - (2 * (gI w 86 (x0).toNatClampNeg))) * (41 - (2 * (gI w 86 (x0).toNatClampNeg)))) - 20)], w)) rfl).trans ?_
    refine (val_g (c2 := (52, d, 60, [some (.ref 84), some (.int x0), some (.int x1), some (.int x2), some (.int (((x2 ^^^ (((64 * x1) + x0) * (-1640531535))) ^^^ (ushI ((x2 ^^^ (((64 * x1) + x0) * (-1640531535)))) 15)) * (-2048144777))), some (.int (41 - (2 * (gI w 86 (x0).toNatClampNeg))))], [.ref 84, .int (((ushI ((((x2 ^^^ (((64 * x1) + x0) * (-1640531535))) ^^^ (ushI ((x2 ^^^ (((64 * x1) + x0) * (-1640531535)))) 15)) * (-2048144777))) 8) - (ushI ((((x2 ^^^ (((64 * x1) + x0) * (-1640531535))) ^^^ (ushI ((x2 ^^^ (((64 * x1) + x0) * (-1640531535)))) 15)) * (-2048144777))) 8) / (41 - (2 * (gI w 86 (x0).toNatClampNeg))) * (41 - (2 * (gI w 86 (x0).toNatClampNeg)))) - 20)], w)) rfl).trans ?_
    refine (val_gf rfl (hW.k 84 (Nat.le_of_ble_eq_true rfl) (Nat.le_of_ble_eq_true rfl)) (fvR (hW.r 84 1 86 rfl))).trans ?_
    show val (52, d, 63, [some (.ref 84), some (.int x0), some (.int x1), some (.int x2), some (.int (((x2 ^^^ (((64 * x1) + x0) * (-1640531535))) ^^^ (ushI ((x2 ^^^ (((64 * x1) + x0) * (-1640531535)))) 15)) * (-2048144777))), some (.int (41 - (2 * (gI w 86 (x0).toNatClampNeg))))], [.ref 86, .int (((ushI ((((x2 ^^^ (((64 * x1) + x0) * (-1640531535))) ^^^ (ushI ((x2 ^^^ (((64 * x1) + x0) * (-1640531535)))) 15)) * (-2048144777))) 8) - (ushI ((((x2 ^^^ (((64 * x1) + x0) * (-1640531535))) ^^^ (ushI ((x2 ^^^ (((64 * x1) + x0) * (-1640531535)))) 15)) * (-2048144777))) 8) / (41 - (2 * (gI w 86 (x0).toNatClampNeg))) * (41 - (2 * (gI w 86 (x0).toNatClampNeg)))) - 20)], w) = _
    refine (val_g (c2 := (52, d, 64, [some (.ref 84), some (.int x0), some (.int x1), some (.int x2), some (.int (((x2 ^^^ (((64 * x1) + x0) * (-1640531535))) ^^^ (ushI ((x2 ^^^ (((64 * x1) + x0) * (-1640531535)))) 15)) * (-2048144777))), some (.int (41 - (2 * (gI w 86 (x0).toNatClampNeg))))], [.int x0, .ref 86, .int (((ushI ((((x2 ^^^ (((64 * x1) + x0) * (-1640531535))) ^^^ (ushI ((x2 ^^^ (((64 * x1) + x0) * (-1640531535)))) 15)) * (-2048144777))) 8) - (ushI ((((x2 ^^^ (((64 * x1) + x0) * (-1640531535))) ^^^ (ushI ((x2 ^^^ (((64 * x1) + x0) * (-1640531535)))) 15)) * (-2048144777))) 8) / (41 - (2 * (gI w 86 (x0).toNatClampNeg))) * (41 - (2 * (gI w 86 (x0).toNatClampNeg)))) - 20)], w)) rfl).trans ?_
    refine (val_ial rfl (hW.k 86 (Nat.le_of_ble_eq_true rfl) (Nat.le_of_ble_eq_true rfl)) rfl (hy4 hc308)).trans ?_
    show val (52, d, 65, [some (.ref 84), some (.int x0), some (.int x1), some (.int x2), some (.int (((x2 ^^^ (((64 * x1) + x0) * (-1640531535))) ^^^ (ushI ((x2 ^^^ (((64 * x1) + x0) * (-1640531535)))) 15)) * (-2048144777))), some (.int (41 - (2 * (gI w 86 (x0).toNatClampNeg))))], [.int (gI w 86 (x0).toNatClampNeg), .int (((ushI ((((x2 ^^^ (((64 * x1) + x0) * (-1640531535))) ^^^ (ushI ((x2 ^^^ (((64 * x1) + x0) * (-1640531535)))) 15)) * (-2048144777))) 8) - (ushI ((((x2 ^^^ (((64 * x1) + x0) * (-1640531535))) ^^^ (ushI ((x2 ^^^ (((64 * x1) + x0) * (-1640531535)))) 15)) * (-2048144777))) 8) / (41 - (2 * (gI w 86 (x0).toNatClampNeg))) * (41 - (2 * (gI w 86 (x0).toNatClampNeg)))) - 20)], w) = _
    refine (val_g (c2 := (52, d, 66, [some (.ref 84), some (.int x0), some (.int x1), some (.int x2), some (.int (((x2 ^^^ (((64 * x1) + x0) * (-1640531535))) ^^^ (ushI ((x2 ^^^ (((64 * x1) + x0) * (-1640531535)))) 15)) * (-2048144777))), some (.int (41 - (2 * (gI w 86 (x0).toNatClampNeg))))], [.int ((((ushI ((((x2 ^^^ (((64 * x1) + x0) * (-1640531535))) ^^^ (ushI ((x2 ^^^ (((64 * x1) + x0) * (-1640531535)))) 15)) * (-2048144777))) 8) - (ushI ((((x2 ^^^ (((64 * x1) + x0) * (-1640531535))) ^^^ (ushI ((x2 ^^^ (((64 * x1) + x0) * (-1640531535)))) 15)) * (-2048144777))) 8) / (41 - (2 * (gI w 86 (x0).toNatClampNeg))) * (41 - (2 * (gI w 86 (x0).toNatClampNeg)))) - 20) + (gI w 86 (x0).toNatClampNeg))], w)) rfl).trans ?_
    exact val_r rfl
/-- BelfryHouse$Band.offset(II)I -/
theorem tr_53 (d : Nat) (w : Wd) (hW : Fix w) (x0 : Int32) (x1 : Int32)    (hy1 : inB x0 9 = true) (hy2 : (¬ ((gI w 85 (x0).toNatClampNeg) = 1)) → ((gI w 85 (x0).toNatClampNeg) = 2) → inB x0 9 = true) : val (53, d, 0, [some (.ref 84), some (.int x0), some (.int x1), none], [], w) = (if (gI w 85 (x0).toNatClampNeg) = 1 then some (some (.int (x1 - 15)), w) else (if (gI w 85 (x0).toNatClampNeg) = 2 then some (some (.int ((x1 - 15) + (10 * (gI w 87 (x0).toNatClampNeg)))), w) else (if (gI w 85 (x0).toNatClampNeg) = 3 then some (some (.int (x1 / 2)), w) else (if (gI w 85 (x0).toNatClampNeg) = 4 then some (some (.int (((2 * (x1 / 2)) + x1) / 3)), w) else some (some (.int x1), w))))) := by
  refine (val_g (c2 := (53, d, 1, [some (.ref 84), some (.int x0), some (.int x1), none], [.int x1], w)) rfl).trans ?_
  refine (val_g (c2 := (53, d, 2, [some (.ref 84), some (.int x0), some (.int x1), none], [.int 2, .int x1], w)) rfl).trans ?_
  refine (val_idiv rfl (by decide)).trans ?_
  show val (53, d, 3, [some (.ref 84), some (.int x0), some (.int x1), none], [.int (x1 / 2)], w) = _
  refine (val_g (c2 := (53, d, 4, [some (.ref 84), some (.int x0), some (.int x1), some (.int (x1 / 2))], [], w)) rfl).trans ?_
  refine (val_g (c2 := (53, d, 5, [some (.ref 84), some (.int x0), some (.int x1), some (.int (x1 / 2))], [.ref 84], w)) rfl).trans ?_
  refine (val_gf rfl (hW.k 84 (Nat.le_of_ble_eq_true rfl) (Nat.le_of_ble_eq_true rfl)) (fvR (hW.r 84 0 85 rfl))).trans ?_
  show val (53, d, 8, [some (.ref 84), some (.int x0), some (.int x1), some (.int (x1 / 2))], [.ref 85], w) = _
  refine (val_g (c2 := (53, d, 9, [some (.ref 84), some (.int x0), some (.int x1), some (.int (x1 / 2))], [.int x0, .ref 85], w)) rfl).trans ?_
  refine (val_ial rfl (hW.k 85 (Nat.le_of_ble_eq_true rfl) (Nat.le_of_ble_eq_true rfl)) rfl hy1).trans ?_
  show val (53, d, 10, [some (.ref 84), some (.int x0), some (.int x1), some (.int (x1 / 2))], [.int (gI w 85 (x0).toNatClampNeg)], w) = _
  refine (val_tsI rfl).trans ?_
  show (if (gI w 85 (x0).toNatClampNeg) = 1 then val (53, d, 40, [some (.ref 84), some (.int x0), some (.int x1), some (.int (x1 / 2))], [], w) else if (gI w 85 (x0).toNatClampNeg) = 2 then val (53, d, 45, [some (.ref 84), some (.int x0), some (.int x1), some (.int (x1 / 2))], [], w) else if (gI w 85 (x0).toNatClampNeg) = 3 then val (53, d, 60, [some (.ref 84), some (.int x0), some (.int x1), some (.int (x1 / 2))], [], w) else if (gI w 85 (x0).toNatClampNeg) = 4 then val (53, d, 62, [some (.ref 84), some (.int x0), some (.int x1), some (.int (x1 / 2))], [], w) else val (53, d, 70, [some (.ref 84), some (.int x0), some (.int x1), some (.int (x1 / 2))], [], w)) = _
  by_cases hc313 : (gI w 85 (x0).toNatClampNeg) = 1
  · refine (if_pos hc313).trans (Eq.trans ?_ (if_pos hc313).symm)
    refine (val_g (c2 := (53, d, 41, [some (.ref 84), some (.int x0), some (.int x1), some (.int (x1 / 2))], [.int x1], w)) rfl).trans ?_
    refine (val_g (c2 := (53, d, 43, [some (.ref 84), some (.int x0), some (.int x1), some (.int (x1 / 2))], [.int 15, .int x1], w)) rfl).trans ?_
    refine (val_g (c2 := (53, d, 44, [some (.ref 84), some (.int x0), some (.int x1), some (.int (x1 / 2))], [.int (x1 - 15)], w)) rfl).trans ?_
    exact val_r rfl
  · refine (if_neg hc313).trans (Eq.trans ?_ (if_neg hc313).symm)
    by_cases hc314 : (gI w 85 (x0).toNatClampNeg) = 2
    · refine (if_pos hc314).trans (Eq.trans ?_ (if_pos hc314).symm)
      refine (val_g (c2 := (53, d, 46, [some (.ref 84), some (.int x0), some (.int x1), some (.int (x1 / 2))], [.int x1], w)) rfl).trans ?_
      refine (val_g (c2 := (53, d, 48, [some (.ref 84), some (.int x0), some (.int x1), some (.int (x1 / 2))], [.int 15, .int x1], w)) rfl).trans ?_
      refine (val_g (c2 := (53, d, 49, [some (.ref 84), some (.int x0), some (.int x1), some (.int (x1 / 2))], [.int (x1 - 15)], w)) rfl).trans ?_
      refine (val_g (c2 := (53, d, 51, [some (.ref 84), some (.int x0), some (.int x1), some (.int (x1 / 2))], [.int 10, .int (x1 - 15)], w)) rfl).trans ?_
      refine (val_g (c2 := (53, d, 52, [some (.ref 84), some (.int x0), some (.int x1), some (.int (x1 / 2))], [.ref 84, .int 10, .int (x1 - 15)], w)) rfl).trans ?_
      refine (val_gf rfl (hW.k 84 (Nat.le_of_ble_eq_true rfl) (Nat.le_of_ble_eq_true rfl)) (fvR (hW.r 84 2 87 rfl))).trans ?_
      show val (53, d, 55, [some (.ref 84), some (.int x0), some (.int x1), some (.int (x1 / 2))], [.ref 87, .int 10, .int (x1 - 15)], w) = _
      refine (val_g (c2 := (53, d, 56, [some (.ref 84), some (.int x0), some (.int x1), some (.int (x1 / 2))], [.int x0, .ref 87, .int 10, .int (x1 - 15)], w)) rfl).trans ?_
      refine (val_ial rfl (hW.k 87 (Nat.le_of_ble_eq_true rfl) (Nat.le_of_ble_eq_true rfl)) rfl (hy2 hc313 hc314)).trans ?_
      show val (53, d, 57, [some (.ref 84), some (.int x0), some (.int x1), some (.int (x1 / 2))], [.int (gI w 87 (x0).toNatClampNeg), .int 10, .int (x1 - 15)], w) = _
      refine (val_g (c2 := (53, d, 58, [some (.ref 84), some (.int x0), some (.int x1), some (.int (x1 / 2))], [.int (10 * (gI w 87 (x0).toNatClampNeg)), .int (x1 - 15)], w)) rfl).trans ?_
      refine (val_g (c2 := (53, d, 59, [some (.ref 84), some (.int x0), some (.int x1), some (.int (x1 / 2))], [.int ((x1 - 15) + (10 * (gI w 87 (x0).toNatClampNeg)))], w)) rfl).trans ?_
      exact val_r rfl
    · refine (if_neg hc314).trans (Eq.trans ?_ (if_neg hc314).symm)
      by_cases hc315 : (gI w 85 (x0).toNatClampNeg) = 3
      · refine (if_pos hc315).trans (Eq.trans ?_ (if_pos hc315).symm)
        refine (val_g (c2 := (53, d, 61, [some (.ref 84), some (.int x0), some (.int x1), some (.int (x1 / 2))], [.int (x1 / 2)], w)) rfl).trans ?_
        exact val_r rfl
      · refine (if_neg hc315).trans (Eq.trans ?_ (if_neg hc315).symm)
        by_cases hc316 : (gI w 85 (x0).toNatClampNeg) = 4
        · refine (if_pos hc316).trans (Eq.trans ?_ (if_pos hc316).symm)
          refine (val_g (c2 := (53, d, 63, [some (.ref 84), some (.int x0), some (.int x1), some (.int (x1 / 2))], [.int 2], w)) rfl).trans ?_
          refine (val_g (c2 := (53, d, 64, [some (.ref 84), some (.int x0), some (.int x1), some (.int (x1 / 2))], [.int (x1 / 2), .int 2], w)) rfl).trans ?_
          refine (val_g (c2 := (53, d, 65, [some (.ref 84), some (.int x0), some (.int x1), some (.int (x1 / 2))], [.int (2 * (x1 / 2))], w)) rfl).trans ?_
          refine (val_g (c2 := (53, d, 66, [some (.ref 84), some (.int x0), some (.int x1), some (.int (x1 / 2))], [.int x1, .int (2 * (x1 / 2))], w)) rfl).trans ?_
          refine (val_g (c2 := (53, d, 67, [some (.ref 84), some (.int x0), some (.int x1), some (.int (x1 / 2))], [.int ((2 * (x1 / 2)) + x1)], w)) rfl).trans ?_
          refine (val_g (c2 := (53, d, 68, [some (.ref 84), some (.int x0), some (.int x1), some (.int (x1 / 2))], [.int 3, .int ((2 * (x1 / 2)) + x1)], w)) rfl).trans ?_
          refine (val_idiv rfl (by decide)).trans ?_
          show val (53, d, 69, [some (.ref 84), some (.int x0), some (.int x1), some (.int (x1 / 2))], [.int (((2 * (x1 / 2)) + x1) / 3)], w) = _
          exact val_r rfl
        · refine (if_neg hc316).trans (Eq.trans ?_ (if_neg hc316).symm)
          refine (val_g (c2 := (53, d, 71, [some (.ref 84), some (.int x0), some (.int x1), some (.int (x1 / 2))], [.int x1], w)) rfl).trans ?_
          exact val_r rfl
/-- BelfryHouse$Band.ringRow(IIII)Z -/
theorem tr_54 (d : Nat) (w : Wd) (hW : Fix w) (x0 : Int32) (x1 : Int32) (x2 : Int32) (x3 : Int32)    (hy1 : ((gI w 84 7) < 400) → inB ((gI w 84 7)) 400 = true) : val (54, d + 2, 0, [some (.ref 84), some (.int x0), some (.int x1), some (.int x2), some (.int x3), none, none, none, none, none], [], w) = (if (gI w 84 7) < 400 then val (54, d + 2, 47, [some (.ref 84), some (.int x0), some (.int x1), some (.int x2), some (.int x3), some (.int (gI w 84 7)), some (.int 0), some (.int 0), none, none], [], (sI ((sI ((sI w 84 7 (((gI w 84 7) + 1)))) 88 ((gI w 84 7)).toNatClampNeg x1)) 89 ((gI w 84 7)).toNatClampNeg 0)) else some (some (.int 0), w)) := by
  refine (val_g (c2 := (54, d + 2, 1, [some (.ref 84), some (.int x0), some (.int x1), some (.int x2), some (.int x3), none, none, none, none, none], [.ref 84], w)) rfl).trans ?_
  refine (val_gf rfl (hW.k 84 (Nat.le_of_ble_eq_true rfl) (Nat.le_of_ble_eq_true rfl)) rfl).trans ?_
  show val (54, d + 2, 4, [some (.ref 84), some (.int x0), some (.int x1), some (.int x2), some (.int x3), none, none, none, none, none], [.int (gI w 84 7)], w) = _
  refine (val_g (c2 := (54, d + 2, 7, [some (.ref 84), some (.int x0), some (.int x1), some (.int x2), some (.int x3), none, none, none, none, none], [.int 400, .int (gI w 84 7)], w)) rfl).trans ?_
  by_cases hc325 : (gI w 84 7) < 400
  · refine ((val_ic_lt rfl).trans (if_pos hc325)).trans ?_
    show val (54, d + 2, 12, [some (.ref 84), some (.int x0), some (.int x1), some (.int x2), some (.int x3), none, none, none, none, none], [], w) = _
    refine Eq.trans ?_ (if_pos hc325).symm
    refine (val_g (c2 := (54, d + 2, 13, [some (.ref 84), some (.int x0), some (.int x1), some (.int x2), some (.int x3), none, none, none, none, none], [.ref 84], w)) rfl).trans ?_
    refine (val_g (c2 := (54, d + 2, 14, [some (.ref 84), some (.int x0), some (.int x1), some (.int x2), some (.int x3), none, none, none, none, none], [.ref 84, .ref 84], w)) rfl).trans ?_
    refine (val_gf rfl (hW.k 84 (Nat.le_of_ble_eq_true rfl) (Nat.le_of_ble_eq_true rfl)) rfl).trans ?_
    show val (54, d + 2, 17, [some (.ref 84), some (.int x0), some (.int x1), some (.int x2), some (.int x3), none, none, none, none, none], [.int (gI w 84 7), .ref 84], w) = _
    refine (val_g (c2 := (54, d + 2, 18, [some (.ref 84), some (.int x0), some (.int x1), some (.int x2), some (.int x3), none, none, none, none, none], [.int (gI w 84 7), .ref 84, .int (gI w 84 7)], w)) rfl).trans ?_
    refine (val_g (c2 := (54, d + 2, 19, [some (.ref 84), some (.int x0), some (.int x1), some (.int x2), some (.int x3), none, none, none, none, none], [.int 1, .int (gI w 84 7), .ref 84, .int (gI w 84 7)], w)) rfl).trans ?_
    refine (val_g (c2 := (54, d + 2, 20, [some (.ref 84), some (.int x0), some (.int x1), some (.int x2), some (.int x3), none, none, none, none, none], [.int ((gI w 84 7) + 1), .ref 84, .int (gI w 84 7)], w)) rfl).trans ?_
    refine (val_pf rfl (hW.k 84 (Nat.le_of_ble_eq_true rfl) (Nat.le_of_ble_eq_true rfl)) rfl).trans ?_
    show val (54, d + 2, 23, [some (.ref 84), some (.int x0), some (.int x1), some (.int x2), some (.int x3), none, none, none, none, none], [.int (gI w 84 7)], (sI w 84 7 (((gI w 84 7) + 1)))) = _
    refine (val_g (c2 := (54, d + 2, 25, [some (.ref 84), some (.int x0), some (.int x1), some (.int x2), some (.int x3), some (.int (gI w 84 7)), none, none, none, none], [], (sI w 84 7 (((gI w 84 7) + 1))))) rfl).trans ?_
    refine (val_g (c2 := (54, d + 2, 26, [some (.ref 84), some (.int x0), some (.int x1), some (.int x2), some (.int x3), some (.int (gI w 84 7)), none, none, none, none], [.int 0], (sI w 84 7 (((gI w 84 7) + 1))))) rfl).trans ?_
    refine (val_g (c2 := (54, d + 2, 28, [some (.ref 84), some (.int x0), some (.int x1), some (.int x2), some (.int x3), some (.int (gI w 84 7)), some (.int 0), none, none, none], [], (sI w 84 7 (((gI w 84 7) + 1))))) rfl).trans ?_
    refine (val_g (c2 := (54, d + 2, 29, [some (.ref 84), some (.int x0), some (.int x1), some (.int x2), some (.int x3), some (.int (gI w 84 7)), some (.int 0), none, none, none], [.ref 84], (sI w 84 7 (((gI w 84 7) + 1))))) rfl).trans ?_
    refine (val_gf (w := (sI w 84 7 (((gI w 84 7) + 1)))) rfl (hW.k 84 (Nat.le_of_ble_eq_true rfl) (Nat.le_of_ble_eq_true rfl)) (fvR (hW.r 84 3 88 rfl))).trans ?_
    show val (54, d + 2, 32, [some (.ref 84), some (.int x0), some (.int x1), some (.int x2), some (.int x3), some (.int (gI w 84 7)), some (.int 0), none, none, none], [.ref 88], (sI w 84 7 (((gI w 84 7) + 1)))) = _
    refine (val_g (c2 := (54, d + 2, 34, [some (.ref 84), some (.int x0), some (.int x1), some (.int x2), some (.int x3), some (.int (gI w 84 7)), some (.int 0), none, none, none], [.int (gI w 84 7), .ref 88], (sI w 84 7 (((gI w 84 7) + 1))))) rfl).trans ?_
    refine (val_g (c2 := (54, d + 2, 35, [some (.ref 84), some (.int x0), some (.int x1), some (.int x2), some (.int x3), some (.int (gI w 84 7)), some (.int 0), none, none, none], [.int x1, .int (gI w 84 7), .ref 88], (sI w 84 7 (((gI w 84 7) + 1))))) rfl).trans ?_
    refine (val_ias (w := (sI w 84 7 (((gI w 84 7) + 1)))) rfl (hW.k 88 (Nat.le_of_ble_eq_true rfl) (Nat.le_of_ble_eq_true rfl)) (hy1 hc325)).trans ?_
    show val (54, d + 2, 36, [some (.ref 84), some (.int x0), some (.int x1), some (.int x2), some (.int x3), some (.int (gI w 84 7)), some (.int 0), none, none, none], [], (sI ((sI w 84 7 (((gI w 84 7) + 1)))) 88 ((gI w 84 7)).toNatClampNeg x1)) = _
    refine (val_g (c2 := (54, d + 2, 37, [some (.ref 84), some (.int x0), some (.int x1), some (.int x2), some (.int x3), some (.int (gI w 84 7)), some (.int 0), none, none, none], [.ref 84], (sI ((sI w 84 7 (((gI w 84 7) + 1)))) 88 ((gI w 84 7)).toNatClampNeg x1))) rfl).trans ?_
    refine (val_gf (w := (sI ((sI w 84 7 (((gI w 84 7) + 1)))) 88 ((gI w 84 7)).toNatClampNeg x1)) rfl (hW.k 84 (Nat.le_of_ble_eq_true rfl) (Nat.le_of_ble_eq_true rfl)) (fvR (hW.r 84 4 89 rfl))).trans ?_
    show val (54, d + 2, 40, [some (.ref 84), some (.int x0), some (.int x1), some (.int x2), some (.int x3), some (.int (gI w 84 7)), some (.int 0), none, none, none], [.ref 89], (sI ((sI w 84 7 (((gI w 84 7) + 1)))) 88 ((gI w 84 7)).toNatClampNeg x1)) = _
    refine (val_g (c2 := (54, d + 2, 42, [some (.ref 84), some (.int x0), some (.int x1), some (.int x2), some (.int x3), some (.int (gI w 84 7)), some (.int 0), none, none, none], [.int (gI w 84 7), .ref 89], (sI ((sI w 84 7 (((gI w 84 7) + 1)))) 88 ((gI w 84 7)).toNatClampNeg x1))) rfl).trans ?_
    refine (val_g (c2 := (54, d + 2, 43, [some (.ref 84), some (.int x0), some (.int x1), some (.int x2), some (.int x3), some (.int (gI w 84 7)), some (.int 0), none, none, none], [.int 0, .int (gI w 84 7), .ref 89], (sI ((sI w 84 7 (((gI w 84 7) + 1)))) 88 ((gI w 84 7)).toNatClampNeg x1))) rfl).trans ?_
    refine (val_ias (w := (sI ((sI w 84 7 (((gI w 84 7) + 1)))) 88 ((gI w 84 7)).toNatClampNeg x1)) rfl (hW.k 89 (Nat.le_of_ble_eq_true rfl) (Nat.le_of_ble_eq_true rfl)) (hy1 hc325)).trans ?_
    show val (54, d + 2, 44, [some (.ref 84), some (.int x0), some (.int x1), some (.int x2), some (.int x3), some (.int (gI w 84 7)), some (.int 0), none, none, none], [], (sI ((sI ((sI w 84 7 (((gI w 84 7) + 1)))) 88 ((gI w 84 7)).toNatClampNeg x1)) 89 ((gI w 84 7)).toNatClampNeg 0)) = _
    refine (val_g (c2 := (54, d + 2, 45, [some (.ref 84), some (.int x0), some (.int x1), some (.int x2), some (.int x3), some (.int (gI w 84 7)), some (.int 0), none, none, none], [.int 0], (sI ((sI ((sI w 84 7 (((gI w 84 7) + 1)))) 88 ((gI w 84 7)).toNatClampNeg x1)) 89 ((gI w 84 7)).toNatClampNeg 0))) rfl).trans ?_
    refine (val_g (c2 := (54, d + 2, 47, [some (.ref 84), some (.int x0), some (.int x1), some (.int x2), some (.int x3), some (.int (gI w 84 7)), some (.int 0), some (.int 0), none, none], [], (sI ((sI ((sI w 84 7 (((gI w 84 7) + 1)))) 88 ((gI w 84 7)).toNatClampNeg x1)) 89 ((gI w 84 7)).toNatClampNeg 0))) rfl).trans ?_
    rfl
  · refine ((val_ic_lt rfl).trans (if_neg hc325)).trans ?_
    show val (54, d + 2, 10, [some (.ref 84), some (.int x0), some (.int x1), some (.int x2), some (.int x3), none, none, none, none, none], [], w) = _
    refine Eq.trans ?_ (if_neg hc325).symm
    refine (val_g (c2 := (54, d + 2, 11, [some (.ref 84), some (.int x0), some (.int x1), some (.int x2), some (.int x3), none, none, none, none, none], [.int 0], w)) rfl).trans ?_
    exact val_r rfl
theorem tr_54_47 (d : Nat) (w : Wd) (l1 : Int32) (l2 : Int32) (l3 : Int32) (l4 : Int32) (l5 : Int32) (l6 : Int32) (l7 : Int32) (l8 : Option Value) (l9 : Option Value)    : val (54, d + 2, 47, [some (.ref 84), some (.int l1), some (.int l2), some (.int l3), some (.int l4), some (.int l5), some (.int l6), some (.int l7), l8, l9], [], w) = (if l1 ≤ l7 then some (some (.int 1), w) else val (54, d + 2, 88, [some (.ref 84), some (.int l1), some (.int l2), some (.int l3), some (.int l4), some (.int l5), some (.int l6), some (.int l7), some (.int ((fn_130 l1 l2 l7) + 1)), l9], [.int l4, .int l3, .int ((fn_130 l1 l2 l7) + 1), .ref 84, .int ((fn_130 l1 l2 l7) + 1), .ref 84, .int (20 * ((((l1 * l3) + l7) + 1) + (l3 / 2)))], w)) := by
  refine (val_g (c2 := (54, d + 2, 49, [some (.ref 84), some (.int l1), some (.int l2), some (.int l3), some (.int l4), some (.int l5), some (.int l6), some (.int l7), l8, l9], [.int l7], w)) rfl).trans ?_
  refine (val_g (c2 := (54, d + 2, 50, [some (.ref 84), some (.int l1), some (.int l2), some (.int l3), some (.int l4), some (.int l5), some (.int l6), some (.int l7), l8, l9], [.int l1, .int l7], w)) rfl).trans ?_
  by_cases hc326 : l1 ≤ l7
  · refine ((val_ic_ge rfl).trans (if_pos hc326)).trans ?_
    show val (54, d + 2, 175, [some (.ref 84), some (.int l1), some (.int l2), some (.int l3), some (.int l4), some (.int l5), some (.int l6), some (.int l7), l8, l9], [], w) = _
    refine Eq.trans ?_ (if_pos hc326).symm
    refine (val_g (c2 := (54, d + 2, 176, [some (.ref 84), some (.int l1), some (.int l2), some (.int l3), some (.int l4), some (.int l5), some (.int l6), some (.int l7), l8, l9], [.int 1], w)) rfl).trans ?_
    exact val_r rfl
  · refine ((val_ic_ge rfl).trans (if_neg hc326)).trans ?_
    show val (54, d + 2, 53, [some (.ref 84), some (.int l1), some (.int l2), some (.int l3), some (.int l4), some (.int l5), some (.int l6), some (.int l7), l8, l9], [], w) = _
    refine Eq.trans ?_ (if_neg hc326).symm
    refine (val_g (c2 := (54, d + 2, 54, [some (.ref 84), some (.int l1), some (.int l2), some (.int l3), some (.int l4), some (.int l5), some (.int l6), some (.int l7), l8, l9], [.int l1], w)) rfl).trans ?_
    refine (val_g (c2 := (54, d + 2, 55, [some (.ref 84), some (.int l1), some (.int l2), some (.int l3), some (.int l4), some (.int l5), some (.int l6), some (.int l7), l8, l9], [.int l2, .int l1], w)) rfl).trans ?_
    refine (val_g (c2 := (54, d + 2, 57, [some (.ref 84), some (.int l1), some (.int l2), some (.int l3), some (.int l4), some (.int l5), some (.int l6), some (.int l7), l8, l9], [.int l7, .int l2, .int l1], w)) rfl).trans ?_
    refine (val_call (w1 := w) (pc2 := 60) rfl rfl rfl rfl rfl (Nat.le_of_ble_eq_true rfl) (Nat.le_of_ble_eq_true rfl) rfl (ev_130 (d + 1) w l1 l2 l7) rfl).trans ?_
    show val (54, d + 2, 60, [some (.ref 84), some (.int l1), some (.int l2), some (.int l3), some (.int l4), some (.int l5), some (.int l6), some (.int l7), l8, l9], [.int (fn_130 l1 l2 l7)], w) = _
    refine (val_g (c2 := (54, d + 2, 61, [some (.ref 84), some (.int l1), some (.int l2), some (.int l3), some (.int l4), some (.int l5), some (.int l6), some (.int l7), l8, l9], [.int 1, .int (fn_130 l1 l2 l7)], w)) rfl).trans ?_
    refine (val_g (c2 := (54, d + 2, 62, [some (.ref 84), some (.int l1), some (.int l2), some (.int l3), some (.int l4), some (.int l5), some (.int l6), some (.int l7), l8, l9], [.int ((fn_130 l1 l2 l7) + 1)], w)) rfl).trans ?_
    refine (val_g (c2 := (54, d + 2, 64, [some (.ref 84), some (.int l1), some (.int l2), some (.int l3), some (.int l4), some (.int l5), some (.int l6), some (.int l7), some (.int ((fn_130 l1 l2 l7) + 1)), l9], [], w)) rfl).trans ?_
    refine (val_g (c2 := (54, d + 2, 66, [some (.ref 84), some (.int l1), some (.int l2), some (.int l3), some (.int l4), some (.int l5), some (.int l6), some (.int l7), some (.int ((fn_130 l1 l2 l7) + 1)), l9], [.int 20], w)) rfl).trans ?_
    refine (val_g (c2 := (54, d + 2, 67, [some (.ref 84), some (.int l1), some (.int l2), some (.int l3), some (.int l4), some (.int l5), some (.int l6), some (.int l7), some (.int ((fn_130 l1 l2 l7) + 1)), l9], [.int l1, .int 20], w)) rfl).trans ?_
    refine (val_g (c2 := (54, d + 2, 68, [some (.ref 84), some (.int l1), some (.int l2), some (.int l3), some (.int l4), some (.int l5), some (.int l6), some (.int l7), some (.int ((fn_130 l1 l2 l7) + 1)), l9], [.int l3, .int l1, .int 20], w)) rfl).trans ?_
    refine (val_g (c2 := (54, d + 2, 69, [some (.ref 84), some (.int l1), some (.int l2), some (.int l3), some (.int l4), some (.int l5), some (.int l6), some (.int l7), some (.int ((fn_130 l1 l2 l7) + 1)), l9], [.int (l1 * l3), .int 20], w)) rfl).trans ?_
    refine (val_g (c2 := (54, d + 2, 71, [some (.ref 84), some (.int l1), some (.int l2), some (.int l3), some (.int l4), some (.int l5), some (.int l6), some (.int l7), some (.int ((fn_130 l1 l2 l7) + 1)), l9], [.int l7, .int (l1 * l3), .int 20], w)) rfl).trans ?_
    refine (val_g (c2 := (54, d + 2, 72, [some (.ref 84), some (.int l1), some (.int l2), some (.int l3), some (.int l4), some (.int l5), some (.int l6), some (.int l7), some (.int ((fn_130 l1 l2 l7) + 1)), l9], [.int ((l1 * l3) + l7), .int 20], w)) rfl).trans ?_
    refine (val_g (c2 := (54, d + 2, 73, [some (.ref 84), some (.int l1), some (.int l2), some (.int l3), some (.int l4), some (.int l5), some (.int l6), some (.int l7), some (.int ((fn_130 l1 l2 l7) + 1)), l9], [.int 1, .int ((l1 * l3) + l7), .int 20], w)) rfl).trans ?_
    refine (val_g (c2 := (54, d + 2, 74, [some (.ref 84), some (.int l1), some (.int l2), some (.int l3), some (.int l4), some (.int l5), some (.int l6), some (.int l7), some (.int ((fn_130 l1 l2 l7) + 1)), l9], [.int (((l1 * l3) + l7) + 1), .int 20], w)) rfl).trans ?_
    refine (val_g (c2 := (54, d + 2, 75, [some (.ref 84), some (.int l1), some (.int l2), some (.int l3), some (.int l4), some (.int l5), some (.int l6), some (.int l7), some (.int ((fn_130 l1 l2 l7) + 1)), l9], [.int l3, .int (((l1 * l3) + l7) + 1), .int 20], w)) rfl).trans ?_
    refine (val_g (c2 := (54, d + 2, 76, [some (.ref 84), some (.int l1), some (.int l2), some (.int l3), some (.int l4), some (.int l5), some (.int l6), some (.int l7), some (.int ((fn_130 l1 l2 l7) + 1)), l9], [.int 2, .int l3, .int (((l1 * l3) + l7) + 1), .int 20], w)) rfl).trans ?_
    refine (val_idiv rfl (by decide)).trans ?_
    show val (54, d + 2, 77, [some (.ref 84), some (.int l1), some (.int l2), some (.int l3), some (.int l4), some (.int l5), some (.int l6), some (.int l7), some (.int ((fn_130 l1 l2 l7) + 1)), l9], [.int (l3 / 2), .int (((l1 * l3) + l7) + 1), .int 20], w) = _
    refine (val_g (c2 := (54, d + 2, 78, [some (.ref 84), some (.int l1), some (.int l2), some (.int l3), some (.int l4), some (.int l5), some (.int l6), some (.int l7), some (.int ((fn_130 l1 l2 l7) + 1)), l9], [.int ((((l1 * l3) + l7) + 1) + (l3 / 2)), .int 20], w)) rfl).trans ?_
    refine (val_g (c2 := (54, d + 2, 79, [some (.ref 84), some (.int l1), some (.int l2), some (.int l3), some (.int l4), some (.int l5), some (.int l6), some (.int l7), some (.int ((fn_130 l1 l2 l7) + 1)), l9], [.int (20 * ((((l1 * l3) + l7) + 1) + (l3 / 2)))], w)) rfl).trans ?_
    refine (val_g (c2 := (54, d + 2, 80, [some (.ref 84), some (.int l1), some (.int l2), some (.int l3), some (.int l4), some (.int l5), some (.int l6), some (.int l7), some (.int ((fn_130 l1 l2 l7) + 1)), l9], [.ref 84, .int (20 * ((((l1 * l3) + l7) + 1) + (l3 / 2)))], w)) rfl).trans ?_
    refine (val_g (c2 := (54, d + 2, 82, [some (.ref 84), some (.int l1), some (.int l2), some (.int l3), some (.int l4), some (.int l5), some (.int l6), some (.int l7), some (.int ((fn_130 l1 l2 l7) + 1)), l9], [.int ((fn_130 l1 l2 l7) + 1), .ref 84, .int (20 * ((((l1 * l3) + l7) + 1) + (l3 / 2)))], w)) rfl).trans ?_
    refine (val_g (c2 := (54, d + 2, 83, [some (.ref 84), some (.int l1), some (.int l2), some (.int l3), some (.int l4), some (.int l5), some (.int l6), some (.int l7), some (.int ((fn_130 l1 l2 l7) + 1)), l9], [.ref 84, .int ((fn_130 l1 l2 l7) + 1), .ref 84, .int (20 * ((((l1 * l3) + l7) + 1) + (l3 / 2)))], w)) rfl).trans ?_
    refine (val_g (c2 := (54, d + 2, 85, [some (.ref 84), some (.int l1), some (.int l2), some (.int l3), some (.int l4), some (.int l5), some (.int l6), some (.int l7), some (.int ((fn_130 l1 l2 l7) + 1)), l9], [.int ((fn_130 l1 l2 l7) + 1), .ref 84, .int ((fn_130 l1 l2 l7) + 1), .ref 84, .int (20 * ((((l1 * l3) + l7) + 1) + (l3 / 2)))], w)) rfl).trans ?_
    refine (val_g (c2 := (54, d + 2, 86, [some (.ref 84), some (.int l1), some (.int l2), some (.int l3), some (.int l4), some (.int l5), some (.int l6), some (.int l7), some (.int ((fn_130 l1 l2 l7) + 1)), l9], [.int l3, .int ((fn_130 l1 l2 l7) + 1), .ref 84, .int ((fn_130 l1 l2 l7) + 1), .ref 84, .int (20 * ((((l1 * l3) + l7) + 1) + (l3 / 2)))], w)) rfl).trans ?_
    refine (val_g (c2 := (54, d + 2, 88, [some (.ref 84), some (.int l1), some (.int l2), some (.int l3), some (.int l4), some (.int l5), some (.int l6), some (.int l7), some (.int ((fn_130 l1 l2 l7) + 1)), l9], [.int l4, .int l3, .int ((fn_130 l1 l2 l7) + 1), .ref 84, .int ((fn_130 l1 l2 l7) + 1), .ref 84, .int (20 * ((((l1 * l3) + l7) + 1) + (l3 / 2)))], w)) rfl).trans ?_
    rfl
theorem tr_54_94 (d : Nat) (w : Wd) (hW : Fix w) (l1 : Int32) (l2 : Int32) (l3 : Int32) (l4 : Int32) (l5 : Int32) (l6 : Int32) (l7 : Int32) (l8 : Int32) (s0 : Int32) (s1 : Int32) (l9 : Option Value)   (hy1 : inB (((l5 * 8) + l7)) 3200 = true) (hy2 : inB l5 400 = true) : val (54, d + 2, 94, [some (.ref 84), some (.int l1), some (.int l2), some (.int l3), some (.int l4), some (.int l5), some (.int l6), some (.int l7), some (.int l8), l9], [.int s0, .int s1], w) = (if l7 = 0 then val (54, d + 2, 47, [some (.ref 84), some (.int l1), some (.int l2), some (.int l3), some (.int l4), some (.int l5), some (.int (s1 + s0)), some (.int (l7 + 1)), some (.int l8), some (.int (s1 + s0))], [], (sI ((sI ((sI w 90 (((l5 * 8) + l7)).toNatClampNeg ((s1 + s0)))) 89 (l5).toNatClampNeg (((gI ((sI w 90 (((l5 * 8) + l7)).toNatClampNeg ((s1 + s0)))) 89 (l5).toNatClampNeg) + 1)))) 84 6 (((gI ((sI ((sI w 90 (((l5 * 8) + l7)).toNatClampNeg ((s1 + s0)))) 89 (l5).toNatClampNeg (((gI ((sI w 90 (((l5 * 8) + l7)).toNatClampNeg ((s1 + s0)))) 89 (l5).toNatClampNeg) + 1)))) 84 6) + 1)))) else (if (s1 + s0) ≤ l6 then val (54, d + 2, 155, [some (.ref 84), some (.int l1), some (.int l2), some (.int l3), some (.int l4), some (.int l5), some (.int l6), some (.int l7), some (.int l8), some (.int (s1 + s0))], [.int l8, .ref 84], (sI ((sI ((sI w 90 (((l5 * 8) + l7)).toNatClampNeg ((s1 + s0)))) 89 (l5).toNatClampNeg (((gI ((sI w 90 (((l5 * 8) + l7)).toNatClampNeg ((s1 + s0)))) 89 (l5).toNatClampNeg) + 1)))) 84 6 (((gI ((sI ((sI w 90 (((l5 * 8) + l7)).toNatClampNeg ((s1 + s0)))) 89 (l5).toNatClampNeg (((gI ((sI w 90 (((l5 * 8) + l7)).toNatClampNeg ((s1 + s0)))) 89 (l5).toNatClampNeg) + 1)))) 84 6) + 1)))) else val (54, d + 2, 47, [some (.ref 84), some (.int l1), some (.int l2), some (.int l3), some (.int l4), some (.int l5), some (.int (s1 + s0)), some (.int (l7 + 1)), some (.int l8), some (.int (s1 + s0))], [], (sI ((sI ((sI w 90 (((l5 * 8) + l7)).toNatClampNeg ((s1 + s0)))) 89 (l5).toNatClampNeg (((gI ((sI w 90 (((l5 * 8) + l7)).toNatClampNeg ((s1 + s0)))) 89 (l5).toNatClampNeg) + 1)))) 84 6 (((gI ((sI ((sI w 90 (((l5 * 8) + l7)).toNatClampNeg ((s1 + s0)))) 89 (l5).toNatClampNeg (((gI ((sI w 90 (((l5 * 8) + l7)).toNatClampNeg ((s1 + s0)))) 89 (l5).toNatClampNeg) + 1)))) 84 6) + 1)))))) := by
  refine (val_g (c2 := (54, d + 2, 95, [some (.ref 84), some (.int l1), some (.int l2), some (.int l3), some (.int l4), some (.int l5), some (.int l6), some (.int l7), some (.int l8), l9], [.int (s1 + s0)], w)) rfl).trans ?_
  refine (val_g (c2 := (54, d + 2, 97, [some (.ref 84), some (.int l1), some (.int l2), some (.int l3), some (.int l4), some (.int l5), some (.int l6), some (.int l7), some (.int l8), some (.int (s1 + s0))], [], w)) rfl).trans ?_
  refine (val_g (c2 := (54, d + 2, 98, [some (.ref 84), some (.int l1), some (.int l2), some (.int l3), some (.int l4), some (.int l5), some (.int l6), some (.int l7), some (.int l8), some (.int (s1 + s0))], [.ref 84], w)) rfl).trans ?_
  refine (val_gf rfl (hW.k 84 (Nat.le_of_ble_eq_true rfl) (Nat.le_of_ble_eq_true rfl)) (fvR (hW.r 84 5 90 rfl))).trans ?_
  show val (54, d + 2, 101, [some (.ref 84), some (.int l1), some (.int l2), some (.int l3), some (.int l4), some (.int l5), some (.int l6), some (.int l7), some (.int l8), some (.int (s1 + s0))], [.ref 90], w) = _
  refine (val_g (c2 := (54, d + 2, 103, [some (.ref 84), some (.int l1), some (.int l2), some (.int l3), some (.int l4), some (.int l5), some (.int l6), some (.int l7), some (.int l8), some (.int (s1 + s0))], [.int l5, .ref 90], w)) rfl).trans ?_
  refine (val_g (c2 := (54, d + 2, 105, [some (.ref 84), some (.int l1), some (.int l2), some (.int l3), some (.int l4), some (.int l5), some (.int l6), some (.int l7), some (.int l8), some (.int (s1 + s0))], [.int 8, .int l5, .ref 90], w)) rfl).trans ?_
  refine (val_g (c2 := (54, d + 2, 106, [some (.ref 84), some (.int l1), some (.int l2), some (.int l3), some (.int l4), some (.int l5), some (.int l6), some (.int l7), some (.int l8), some (.int (s1 + s0))], [.int (l5 * 8), .ref 90], w)) rfl).trans ?_
  refine (val_g (c2 := (54, d + 2, 108, [some (.ref 84), some (.int l1), some (.int l2), some (.int l3), some (.int l4), some (.int l5), some (.int l6), some (.int l7), some (.int l8), some (.int (s1 + s0))], [.int l7, .int (l5 * 8), .ref 90], w)) rfl).trans ?_
  refine (val_g (c2 := (54, d + 2, 109, [some (.ref 84), some (.int l1), some (.int l2), some (.int l3), some (.int l4), some (.int l5), some (.int l6), some (.int l7), some (.int l8), some (.int (s1 + s0))], [.int ((l5 * 8) + l7), .ref 90], w)) rfl).trans ?_
  refine (val_g (c2 := (54, d + 2, 111, [some (.ref 84), some (.int l1), some (.int l2), some (.int l3), some (.int l4), some (.int l5), some (.int l6), some (.int l7), some (.int l8), some (.int (s1 + s0))], [.int (s1 + s0), .int ((l5 * 8) + l7), .ref 90], w)) rfl).trans ?_
  refine (val_ias rfl (hW.k 90 (Nat.le_of_ble_eq_true rfl) (Nat.le_of_ble_eq_true rfl)) hy1).trans ?_
  show val (54, d + 2, 112, [some (.ref 84), some (.int l1), some (.int l2), some (.int l3), some (.int l4), some (.int l5), some (.int l6), some (.int l7), some (.int l8), some (.int (s1 + s0))], [], (sI w 90 (((l5 * 8) + l7)).toNatClampNeg ((s1 + s0)))) = _
  refine (val_g (c2 := (54, d + 2, 113, [some (.ref 84), some (.int l1), some (.int l2), some (.int l3), some (.int l4), some (.int l5), some (.int l6), some (.int l7), some (.int l8), some (.int (s1 + s0))], [.ref 84], (sI w 90 (((l5 * 8) + l7)).toNatClampNeg ((s1 + s0))))) rfl).trans ?_
  refine (val_gf (w := (sI w 90 (((l5 * 8) + l7)).toNatClampNeg ((s1 + s0)))) rfl (hW.k 84 (Nat.le_of_ble_eq_true rfl) (Nat.le_of_ble_eq_true rfl)) (fvR (hW.r 84 4 89 rfl))).trans ?_
  show val (54, d + 2, 116, [some (.ref 84), some (.int l1), some (.int l2), some (.int l3), some (.int l4), some (.int l5), some (.int l6), some (.int l7), some (.int l8), some (.int (s1 + s0))], [.ref 89], (sI w 90 (((l5 * 8) + l7)).toNatClampNeg ((s1 + s0)))) = _
  refine (val_g (c2 := (54, d + 2, 118, [some (.ref 84), some (.int l1), some (.int l2), some (.int l3), some (.int l4), some (.int l5), some (.int l6), some (.int l7), some (.int l8), some (.int (s1 + s0))], [.int l5, .ref 89], (sI w 90 (((l5 * 8) + l7)).toNatClampNeg ((s1 + s0))))) rfl).trans ?_
  refine (val_g (c2 := (54, d + 2, 119, [some (.ref 84), some (.int l1), some (.int l2), some (.int l3), some (.int l4), some (.int l5), some (.int l6), some (.int l7), some (.int l8), some (.int (s1 + s0))], [.int l5, .ref 89, .int l5, .ref 89], (sI w 90 (((l5 * 8) + l7)).toNatClampNeg ((s1 + s0))))) rfl).trans ?_
  refine (val_ial (w := (sI w 90 (((l5 * 8) + l7)).toNatClampNeg ((s1 + s0)))) rfl (hW.k 89 (Nat.le_of_ble_eq_true rfl) (Nat.le_of_ble_eq_true rfl)) rfl hy2).trans ?_
  show val (54, d + 2, 120, [some (.ref 84), some (.int l1), some (.int l2), some (.int l3), some (.int l4), some (.int l5), some (.int l6), some (.int l7), some (.int l8), some (.int (s1 + s0))], [.int (gI ((sI w 90 (((l5 * 8) + l7)).toNatClampNeg ((s1 + s0)))) 89 (l5).toNatClampNeg), .int l5, .ref 89], (sI w 90 (((l5 * 8) + l7)).toNatClampNeg ((s1 + s0)))) = _
  refine (val_g (c2 := (54, d + 2, 121, [some (.ref 84), some (.int l1), some (.int l2), some (.int l3), some (.int l4), some (.int l5), some (.int l6), some (.int l7), some (.int l8), some (.int (s1 + s0))], [.int 1, .int (gI ((sI w 90 (((l5 * 8) + l7)).toNatClampNeg ((s1 + s0)))) 89 (l5).toNatClampNeg), .int l5, .ref 89], (sI w 90 (((l5 * 8) + l7)).toNatClampNeg ((s1 + s0))))) rfl).trans ?_
  refine (val_g (c2 := (54, d + 2, 122, [some (.ref 84), some (.int l1), some (.int l2), some (.int l3), some (.int l4), some (.int l5), some (.int l6), some (.int l7), some (.int l8), some (.int (s1 + s0))], [.int ((gI ((sI w 90 (((l5 * 8) + l7)).toNatClampNeg ((s1 + s0)))) 89 (l5).toNatClampNeg) + 1), .int l5, .ref 89], (sI w 90 (((l5 * 8) + l7)).toNatClampNeg ((s1 + s0))))) rfl).trans ?_
  refine (val_ias (w := (sI w 90 (((l5 * 8) + l7)).toNatClampNeg ((s1 + s0)))) rfl (hW.k 89 (Nat.le_of_ble_eq_true rfl) (Nat.le_of_ble_eq_true rfl)) hy2).trans ?_
  show val (54, d + 2, 123, [some (.ref 84), some (.int l1), some (.int l2), some (.int l3), some (.int l4), some (.int l5), some (.int l6), some (.int l7), some (.int l8), some (.int (s1 + s0))], [], (sI ((sI w 90 (((l5 * 8) + l7)).toNatClampNeg ((s1 + s0)))) 89 (l5).toNatClampNeg (((gI ((sI w 90 (((l5 * 8) + l7)).toNatClampNeg ((s1 + s0)))) 89 (l5).toNatClampNeg) + 1)))) = _
  refine (val_g (c2 := (54, d + 2, 124, [some (.ref 84), some (.int l1), some (.int l2), some (.int l3), some (.int l4), some (.int l5), some (.int l6), some (.int l7), some (.int l8), some (.int (s1 + s0))], [.ref 84], (sI ((sI w 90 (((l5 * 8) + l7)).toNatClampNeg ((s1 + s0)))) 89 (l5).toNatClampNeg (((gI ((sI w 90 (((l5 * 8) + l7)).toNatClampNeg ((s1 + s0)))) 89 (l5).toNatClampNeg) + 1))))) rfl).trans ?_
  refine (val_g (c2 := (54, d + 2, 125, [some (.ref 84), some (.int l1), some (.int l2), some (.int l3), some (.int l4), some (.int l5), some (.int l6), some (.int l7), some (.int l8), some (.int (s1 + s0))], [.ref 84, .ref 84], (sI ((sI w 90 (((l5 * 8) + l7)).toNatClampNeg ((s1 + s0)))) 89 (l5).toNatClampNeg (((gI ((sI w 90 (((l5 * 8) + l7)).toNatClampNeg ((s1 + s0)))) 89 (l5).toNatClampNeg) + 1))))) rfl).trans ?_
  refine (val_gf (w := (sI ((sI w 90 (((l5 * 8) + l7)).toNatClampNeg ((s1 + s0)))) 89 (l5).toNatClampNeg (((gI ((sI w 90 (((l5 * 8) + l7)).toNatClampNeg ((s1 + s0)))) 89 (l5).toNatClampNeg) + 1)))) rfl (hW.k 84 (Nat.le_of_ble_eq_true rfl) (Nat.le_of_ble_eq_true rfl)) rfl).trans ?_
  show val (54, d + 2, 128, [some (.ref 84), some (.int l1), some (.int l2), some (.int l3), some (.int l4), some (.int l5), some (.int l6), some (.int l7), some (.int l8), some (.int (s1 + s0))], [.int (gI ((sI ((sI w 90 (((l5 * 8) + l7)).toNatClampNeg ((s1 + s0)))) 89 (l5).toNatClampNeg (((gI ((sI w 90 (((l5 * 8) + l7)).toNatClampNeg ((s1 + s0)))) 89 (l5).toNatClampNeg) + 1)))) 84 6), .ref 84], (sI ((sI w 90 (((l5 * 8) + l7)).toNatClampNeg ((s1 + s0)))) 89 (l5).toNatClampNeg (((gI ((sI w 90 (((l5 * 8) + l7)).toNatClampNeg ((s1 + s0)))) 89 (l5).toNatClampNeg) + 1)))) = _
  refine (val_g (c2 := (54, d + 2, 129, [some (.ref 84), some (.int l1), some (.int l2), some (.int l3), some (.int l4), some (.int l5), some (.int l6), some (.int l7), some (.int l8), some (.int (s1 + s0))], [.int 1, .int (gI ((sI ((sI w 90 (((l5 * 8) + l7)).toNatClampNeg ((s1 + s0)))) 89 (l5).toNatClampNeg (((gI ((sI w 90 (((l5 * 8) + l7)).toNatClampNeg ((s1 + s0)))) 89 (l5).toNatClampNeg) + 1)))) 84 6), .ref 84], (sI ((sI w 90 (((l5 * 8) + l7)).toNatClampNeg ((s1 + s0)))) 89 (l5).toNatClampNeg (((gI ((sI w 90 (((l5 * 8) + l7)).toNatClampNeg ((s1 + s0)))) 89 (l5).toNatClampNeg) + 1))))) rfl).trans ?_
  refine (val_g (c2 := (54, d + 2, 130, [some (.ref 84), some (.int l1), some (.int l2), some (.int l3), some (.int l4), some (.int l5), some (.int l6), some (.int l7), some (.int l8), some (.int (s1 + s0))], [.int ((gI ((sI ((sI w 90 (((l5 * 8) + l7)).toNatClampNeg ((s1 + s0)))) 89 (l5).toNatClampNeg (((gI ((sI w 90 (((l5 * 8) + l7)).toNatClampNeg ((s1 + s0)))) 89 (l5).toNatClampNeg) + 1)))) 84 6) + 1), .ref 84], (sI ((sI w 90 (((l5 * 8) + l7)).toNatClampNeg ((s1 + s0)))) 89 (l5).toNatClampNeg (((gI ((sI w 90 (((l5 * 8) + l7)).toNatClampNeg ((s1 + s0)))) 89 (l5).toNatClampNeg) + 1))))) rfl).trans ?_
  refine (val_pf (w := (sI ((sI w 90 (((l5 * 8) + l7)).toNatClampNeg ((s1 + s0)))) 89 (l5).toNatClampNeg (((gI ((sI w 90 (((l5 * 8) + l7)).toNatClampNeg ((s1 + s0)))) 89 (l5).toNatClampNeg) + 1)))) rfl (hW.k 84 (Nat.le_of_ble_eq_true rfl) (Nat.le_of_ble_eq_true rfl)) rfl).trans ?_
  show val (54, d + 2, 133, [some (.ref 84), some (.int l1), some (.int l2), some (.int l3), some (.int l4), some (.int l5), some (.int l6), some (.int l7), some (.int l8), some (.int (s1 + s0))], [], (sI ((sI ((sI w 90 (((l5 * 8) + l7)).toNatClampNeg ((s1 + s0)))) 89 (l5).toNatClampNeg (((gI ((sI w 90 (((l5 * 8) + l7)).toNatClampNeg ((s1 + s0)))) 89 (l5).toNatClampNeg) + 1)))) 84 6 (((gI ((sI ((sI w 90 (((l5 * 8) + l7)).toNatClampNeg ((s1 + s0)))) 89 (l5).toNatClampNeg (((gI ((sI w 90 (((l5 * 8) + l7)).toNatClampNeg ((s1 + s0)))) 89 (l5).toNatClampNeg) + 1)))) 84 6) + 1)))) = _
  refine (val_g (c2 := (54, d + 2, 135, [some (.ref 84), some (.int l1), some (.int l2), some (.int l3), some (.int l4), some (.int l5), some (.int l6), some (.int l7), some (.int l8), some (.int (s1 + s0))], [.int l7], (sI ((sI ((sI w 90 (((l5 * 8) + l7)).toNatClampNeg ((s1 + s0)))) 89 (l5).toNatClampNeg (((gI ((sI w 90 (((l5 * 8) + l7)).toNatClampNeg ((s1 + s0)))) 89 (l5).toNatClampNeg) + 1)))) 84 6 (((gI ((sI ((sI w 90 (((l5 * 8) + l7)).toNatClampNeg ((s1 + s0)))) 89 (l5).toNatClampNeg (((gI ((sI w 90 (((l5 * 8) + l7)).toNatClampNeg ((s1 + s0)))) 89 (l5).toNatClampNeg) + 1)))) 84 6) + 1))))) rfl).trans ?_
  by_cases hc327 : l7 = 0
  · refine ((val_if_eq rfl).trans (if_pos hc327)).trans ?_
    show val (54, d + 2, 145, [some (.ref 84), some (.int l1), some (.int l2), some (.int l3), some (.int l4), some (.int l5), some (.int l6), some (.int l7), some (.int l8), some (.int (s1 + s0))], [], (sI ((sI ((sI w 90 (((l5 * 8) + l7)).toNatClampNeg ((s1 + s0)))) 89 (l5).toNatClampNeg (((gI ((sI w 90 (((l5 * 8) + l7)).toNatClampNeg ((s1 + s0)))) 89 (l5).toNatClampNeg) + 1)))) 84 6 (((gI ((sI ((sI w 90 (((l5 * 8) + l7)).toNatClampNeg ((s1 + s0)))) 89 (l5).toNatClampNeg (((gI ((sI w 90 (((l5 * 8) + l7)).toNatClampNeg ((s1 + s0)))) 89 (l5).toNatClampNeg) + 1)))) 84 6) + 1)))) = _
    refine Eq.trans ?_ (if_pos hc327).symm
    refine (val_g (c2 := (54, d + 2, 147, [some (.ref 84), some (.int l1), some (.int l2), some (.int l3), some (.int l4), some (.int l5), some (.int l6), some (.int l7), some (.int l8), some (.int (s1 + s0))], [.int (s1 + s0)], (sI ((sI ((sI w 90 (((l5 * 8) + l7)).toNatClampNeg ((s1 + s0)))) 89 (l5).toNatClampNeg (((gI ((sI w 90 (((l5 * 8) + l7)).toNatClampNeg ((s1 + s0)))) 89 (l5).toNatClampNeg) + 1)))) 84 6 (((gI ((sI ((sI w 90 (((l5 * 8) + l7)).toNatClampNeg ((s1 + s0)))) 89 (l5).toNatClampNeg (((gI ((sI w 90 (((l5 * 8) + l7)).toNatClampNeg ((s1 + s0)))) 89 (l5).toNatClampNeg) + 1)))) 84 6) + 1))))) rfl).trans ?_
    refine (val_g (c2 := (54, d + 2, 149, [some (.ref 84), some (.int l1), some (.int l2), some (.int l3), some (.int l4), some (.int l5), some (.int (s1 + s0)), some (.int l7), some (.int l8), some (.int (s1 + s0))], [], (sI ((sI ((sI w 90 (((l5 * 8) + l7)).toNatClampNeg ((s1 + s0)))) 89 (l5).toNatClampNeg (((gI ((sI w 90 (((l5 * 8) + l7)).toNatClampNeg ((s1 + s0)))) 89 (l5).toNatClampNeg) + 1)))) 84 6 (((gI ((sI ((sI w 90 (((l5 * 8) + l7)).toNatClampNeg ((s1 + s0)))) 89 (l5).toNatClampNeg (((gI ((sI w 90 (((l5 * 8) + l7)).toNatClampNeg ((s1 + s0)))) 89 (l5).toNatClampNeg) + 1)))) 84 6) + 1))))) rfl).trans ?_
    refine (val_g (c2 := (54, d + 2, 169, [some (.ref 84), some (.int l1), some (.int l2), some (.int l3), some (.int l4), some (.int l5), some (.int (s1 + s0)), some (.int l7), some (.int l8), some (.int (s1 + s0))], [], (sI ((sI ((sI w 90 (((l5 * 8) + l7)).toNatClampNeg ((s1 + s0)))) 89 (l5).toNatClampNeg (((gI ((sI w 90 (((l5 * 8) + l7)).toNatClampNeg ((s1 + s0)))) 89 (l5).toNatClampNeg) + 1)))) 84 6 (((gI ((sI ((sI w 90 (((l5 * 8) + l7)).toNatClampNeg ((s1 + s0)))) 89 (l5).toNatClampNeg (((gI ((sI w 90 (((l5 * 8) + l7)).toNatClampNeg ((s1 + s0)))) 89 (l5).toNatClampNeg) + 1)))) 84 6) + 1))))) rfl).trans ?_
    refine (val_g (c2 := (54, d + 2, 172, [some (.ref 84), some (.int l1), some (.int l2), some (.int l3), some (.int l4), some (.int l5), some (.int (s1 + s0)), some (.int (l7 + 1)), some (.int l8), some (.int (s1 + s0))], [], (sI ((sI ((sI w 90 (((l5 * 8) + l7)).toNatClampNeg ((s1 + s0)))) 89 (l5).toNatClampNeg (((gI ((sI w 90 (((l5 * 8) + l7)).toNatClampNeg ((s1 + s0)))) 89 (l5).toNatClampNeg) + 1)))) 84 6 (((gI ((sI ((sI w 90 (((l5 * 8) + l7)).toNatClampNeg ((s1 + s0)))) 89 (l5).toNatClampNeg (((gI ((sI w 90 (((l5 * 8) + l7)).toNatClampNeg ((s1 + s0)))) 89 (l5).toNatClampNeg) + 1)))) 84 6) + 1))))) rfl).trans ?_
    refine (val_g (c2 := (54, d + 2, 47, [some (.ref 84), some (.int l1), some (.int l2), some (.int l3), some (.int l4), some (.int l5), some (.int (s1 + s0)), some (.int (l7 + 1)), some (.int l8), some (.int (s1 + s0))], [], (sI ((sI ((sI w 90 (((l5 * 8) + l7)).toNatClampNeg ((s1 + s0)))) 89 (l5).toNatClampNeg (((gI ((sI w 90 (((l5 * 8) + l7)).toNatClampNeg ((s1 + s0)))) 89 (l5).toNatClampNeg) + 1)))) 84 6 (((gI ((sI ((sI w 90 (((l5 * 8) + l7)).toNatClampNeg ((s1 + s0)))) 89 (l5).toNatClampNeg (((gI ((sI w 90 (((l5 * 8) + l7)).toNatClampNeg ((s1 + s0)))) 89 (l5).toNatClampNeg) + 1)))) 84 6) + 1))))) rfl).trans ?_
    rfl
  · refine ((val_if_eq rfl).trans (if_neg hc327)).trans ?_
    show val (54, d + 2, 138, [some (.ref 84), some (.int l1), some (.int l2), some (.int l3), some (.int l4), some (.int l5), some (.int l6), some (.int l7), some (.int l8), some (.int (s1 + s0))], [], (sI ((sI ((sI w 90 (((l5 * 8) + l7)).toNatClampNeg ((s1 + s0)))) 89 (l5).toNatClampNeg (((gI ((sI w 90 (((l5 * 8) + l7)).toNatClampNeg ((s1 + s0)))) 89 (l5).toNatClampNeg) + 1)))) 84 6 (((gI ((sI ((sI w 90 (((l5 * 8) + l7)).toNatClampNeg ((s1 + s0)))) 89 (l5).toNatClampNeg (((gI ((sI w 90 (((l5 * 8) + l7)).toNatClampNeg ((s1 + s0)))) 89 (l5).toNatClampNeg) + 1)))) 84 6) + 1)))) = _
    refine Eq.trans ?_ (if_neg hc327).symm
    refine (val_g (c2 := (54, d + 2, 140, [some (.ref 84), some (.int l1), some (.int l2), some (.int l3), some (.int l4), some (.int l5), some (.int l6), some (.int l7), some (.int l8), some (.int (s1 + s0))], [.int (s1 + s0)], (sI ((sI ((sI w 90 (((l5 * 8) + l7)).toNatClampNeg ((s1 + s0)))) 89 (l5).toNatClampNeg (((gI ((sI w 90 (((l5 * 8) + l7)).toNatClampNeg ((s1 + s0)))) 89 (l5).toNatClampNeg) + 1)))) 84 6 (((gI ((sI ((sI w 90 (((l5 * 8) + l7)).toNatClampNeg ((s1 + s0)))) 89 (l5).toNatClampNeg (((gI ((sI w 90 (((l5 * 8) + l7)).toNatClampNeg ((s1 + s0)))) 89 (l5).toNatClampNeg) + 1)))) 84 6) + 1))))) rfl).trans ?_
    refine (val_g (c2 := (54, d + 2, 142, [some (.ref 84), some (.int l1), some (.int l2), some (.int l3), some (.int l4), some (.int l5), some (.int l6), some (.int l7), some (.int l8), some (.int (s1 + s0))], [.int l6, .int (s1 + s0)], (sI ((sI ((sI w 90 (((l5 * 8) + l7)).toNatClampNeg ((s1 + s0)))) 89 (l5).toNatClampNeg (((gI ((sI w 90 (((l5 * 8) + l7)).toNatClampNeg ((s1 + s0)))) 89 (l5).toNatClampNeg) + 1)))) 84 6 (((gI ((sI ((sI w 90 (((l5 * 8) + l7)).toNatClampNeg ((s1 + s0)))) 89 (l5).toNatClampNeg (((gI ((sI w 90 (((l5 * 8) + l7)).toNatClampNeg ((s1 + s0)))) 89 (l5).toNatClampNeg) + 1)))) 84 6) + 1))))) rfl).trans ?_
    by_cases hc328 : (s1 + s0) ≤ l6
    · refine ((val_ic_le rfl).trans (if_pos hc328)).trans ?_
      show val (54, d + 2, 152, [some (.ref 84), some (.int l1), some (.int l2), some (.int l3), some (.int l4), some (.int l5), some (.int l6), some (.int l7), some (.int l8), some (.int (s1 + s0))], [], (sI ((sI ((sI w 90 (((l5 * 8) + l7)).toNatClampNeg ((s1 + s0)))) 89 (l5).toNatClampNeg (((gI ((sI w 90 (((l5 * 8) + l7)).toNatClampNeg ((s1 + s0)))) 89 (l5).toNatClampNeg) + 1)))) 84 6 (((gI ((sI ((sI w 90 (((l5 * 8) + l7)).toNatClampNeg ((s1 + s0)))) 89 (l5).toNatClampNeg (((gI ((sI w 90 (((l5 * 8) + l7)).toNatClampNeg ((s1 + s0)))) 89 (l5).toNatClampNeg) + 1)))) 84 6) + 1)))) = _
      refine Eq.trans ?_ (if_pos hc328).symm
      refine (val_g (c2 := (54, d + 2, 153, [some (.ref 84), some (.int l1), some (.int l2), some (.int l3), some (.int l4), some (.int l5), some (.int l6), some (.int l7), some (.int l8), some (.int (s1 + s0))], [.ref 84], (sI ((sI ((sI w 90 (((l5 * 8) + l7)).toNatClampNeg ((s1 + s0)))) 89 (l5).toNatClampNeg (((gI ((sI w 90 (((l5 * 8) + l7)).toNatClampNeg ((s1 + s0)))) 89 (l5).toNatClampNeg) + 1)))) 84 6 (((gI ((sI ((sI w 90 (((l5 * 8) + l7)).toNatClampNeg ((s1 + s0)))) 89 (l5).toNatClampNeg (((gI ((sI w 90 (((l5 * 8) + l7)).toNatClampNeg ((s1 + s0)))) 89 (l5).toNatClampNeg) + 1)))) 84 6) + 1))))) rfl).trans ?_
      refine (val_g (c2 := (54, d + 2, 155, [some (.ref 84), some (.int l1), some (.int l2), some (.int l3), some (.int l4), some (.int l5), some (.int l6), some (.int l7), some (.int l8), some (.int (s1 + s0))], [.int l8, .ref 84], (sI ((sI ((sI w 90 (((l5 * 8) + l7)).toNatClampNeg ((s1 + s0)))) 89 (l5).toNatClampNeg (((gI ((sI w 90 (((l5 * 8) + l7)).toNatClampNeg ((s1 + s0)))) 89 (l5).toNatClampNeg) + 1)))) 84 6 (((gI ((sI ((sI w 90 (((l5 * 8) + l7)).toNatClampNeg ((s1 + s0)))) 89 (l5).toNatClampNeg (((gI ((sI w 90 (((l5 * 8) + l7)).toNatClampNeg ((s1 + s0)))) 89 (l5).toNatClampNeg) + 1)))) 84 6) + 1))))) rfl).trans ?_
      rfl
    · refine ((val_ic_le rfl).trans (if_neg hc328)).trans ?_
      show val (54, d + 2, 145, [some (.ref 84), some (.int l1), some (.int l2), some (.int l3), some (.int l4), some (.int l5), some (.int l6), some (.int l7), some (.int l8), some (.int (s1 + s0))], [], (sI ((sI ((sI w 90 (((l5 * 8) + l7)).toNatClampNeg ((s1 + s0)))) 89 (l5).toNatClampNeg (((gI ((sI w 90 (((l5 * 8) + l7)).toNatClampNeg ((s1 + s0)))) 89 (l5).toNatClampNeg) + 1)))) 84 6 (((gI ((sI ((sI w 90 (((l5 * 8) + l7)).toNatClampNeg ((s1 + s0)))) 89 (l5).toNatClampNeg (((gI ((sI w 90 (((l5 * 8) + l7)).toNatClampNeg ((s1 + s0)))) 89 (l5).toNatClampNeg) + 1)))) 84 6) + 1)))) = _
      refine Eq.trans ?_ (if_neg hc328).symm
      refine (val_g (c2 := (54, d + 2, 147, [some (.ref 84), some (.int l1), some (.int l2), some (.int l3), some (.int l4), some (.int l5), some (.int l6), some (.int l7), some (.int l8), some (.int (s1 + s0))], [.int (s1 + s0)], (sI ((sI ((sI w 90 (((l5 * 8) + l7)).toNatClampNeg ((s1 + s0)))) 89 (l5).toNatClampNeg (((gI ((sI w 90 (((l5 * 8) + l7)).toNatClampNeg ((s1 + s0)))) 89 (l5).toNatClampNeg) + 1)))) 84 6 (((gI ((sI ((sI w 90 (((l5 * 8) + l7)).toNatClampNeg ((s1 + s0)))) 89 (l5).toNatClampNeg (((gI ((sI w 90 (((l5 * 8) + l7)).toNatClampNeg ((s1 + s0)))) 89 (l5).toNatClampNeg) + 1)))) 84 6) + 1))))) rfl).trans ?_
      refine (val_g (c2 := (54, d + 2, 149, [some (.ref 84), some (.int l1), some (.int l2), some (.int l3), some (.int l4), some (.int l5), some (.int (s1 + s0)), some (.int l7), some (.int l8), some (.int (s1 + s0))], [], (sI ((sI ((sI w 90 (((l5 * 8) + l7)).toNatClampNeg ((s1 + s0)))) 89 (l5).toNatClampNeg (((gI ((sI w 90 (((l5 * 8) + l7)).toNatClampNeg ((s1 + s0)))) 89 (l5).toNatClampNeg) + 1)))) 84 6 (((gI ((sI ((sI w 90 (((l5 * 8) + l7)).toNatClampNeg ((s1 + s0)))) 89 (l5).toNatClampNeg (((gI ((sI w 90 (((l5 * 8) + l7)).toNatClampNeg ((s1 + s0)))) 89 (l5).toNatClampNeg) + 1)))) 84 6) + 1))))) rfl).trans ?_
      refine (val_g (c2 := (54, d + 2, 169, [some (.ref 84), some (.int l1), some (.int l2), some (.int l3), some (.int l4), some (.int l5), some (.int (s1 + s0)), some (.int l7), some (.int l8), some (.int (s1 + s0))], [], (sI ((sI ((sI w 90 (((l5 * 8) + l7)).toNatClampNeg ((s1 + s0)))) 89 (l5).toNatClampNeg (((gI ((sI w 90 (((l5 * 8) + l7)).toNatClampNeg ((s1 + s0)))) 89 (l5).toNatClampNeg) + 1)))) 84 6 (((gI ((sI ((sI w 90 (((l5 * 8) + l7)).toNatClampNeg ((s1 + s0)))) 89 (l5).toNatClampNeg (((gI ((sI w 90 (((l5 * 8) + l7)).toNatClampNeg ((s1 + s0)))) 89 (l5).toNatClampNeg) + 1)))) 84 6) + 1))))) rfl).trans ?_
      refine (val_g (c2 := (54, d + 2, 172, [some (.ref 84), some (.int l1), some (.int l2), some (.int l3), some (.int l4), some (.int l5), some (.int (s1 + s0)), some (.int (l7 + 1)), some (.int l8), some (.int (s1 + s0))], [], (sI ((sI ((sI w 90 (((l5 * 8) + l7)).toNatClampNeg ((s1 + s0)))) 89 (l5).toNatClampNeg (((gI ((sI w 90 (((l5 * 8) + l7)).toNatClampNeg ((s1 + s0)))) 89 (l5).toNatClampNeg) + 1)))) 84 6 (((gI ((sI ((sI w 90 (((l5 * 8) + l7)).toNatClampNeg ((s1 + s0)))) 89 (l5).toNatClampNeg (((gI ((sI w 90 (((l5 * 8) + l7)).toNatClampNeg ((s1 + s0)))) 89 (l5).toNatClampNeg) + 1)))) 84 6) + 1))))) rfl).trans ?_
      refine (val_g (c2 := (54, d + 2, 47, [some (.ref 84), some (.int l1), some (.int l2), some (.int l3), some (.int l4), some (.int l5), some (.int (s1 + s0)), some (.int (l7 + 1)), some (.int l8), some (.int (s1 + s0))], [], (sI ((sI ((sI w 90 (((l5 * 8) + l7)).toNatClampNeg ((s1 + s0)))) 89 (l5).toNatClampNeg (((gI ((sI w 90 (((l5 * 8) + l7)).toNatClampNeg ((s1 + s0)))) 89 (l5).toNatClampNeg) + 1)))) 84 6 (((gI ((sI ((sI w 90 (((l5 * 8) + l7)).toNatClampNeg ((s1 + s0)))) 89 (l5).toNatClampNeg (((gI ((sI w 90 (((l5 * 8) + l7)).toNatClampNeg ((s1 + s0)))) 89 (l5).toNatClampNeg) + 1)))) 84 6) + 1))))) rfl).trans ?_
      rfl
theorem tr_54_158 (d : Nat) (w : Wd) (l1 : Int32) (l2 : Int32) (l3 : Int32) (l4 : Int32) (l5 : Int32) (l6 : Int32) (l7 : Int32) (l8 : Int32) (l9 : Int32) (s0 : Int32)     : val (54, d + 2, 158, [some (.ref 84), some (.int l1), some (.int l2), some (.int l3), some (.int l4), some (.int l5), some (.int l6), some (.int l7), some (.int l8), some (.int l9)], [.int s0], w) = (if s0 = 0 then val (54, d + 2, 47, [some (.ref 84), some (.int l1), some (.int l2), some (.int l3), some (.int l4), some (.int l5), some (.int l6), some (.int (l7 + 1)), some (.int l8), some (.int l9)], [], w) else val (54, d + 2, 165, [some (.ref 84), some (.int l1), some (.int l2), some (.int l3), some (.int l4), some (.int l5), some (.int l6), some (.int l7), some (.int l8), some (.int l9)], [.int l8, .int l1, .ref 84], w)) := by
  by_cases hc329 : s0 = 0
  · refine ((val_if_eq rfl).trans (if_pos hc329)).trans ?_
    show val (54, d + 2, 169, [some (.ref 84), some (.int l1), some (.int l2), some (.int l3), some (.int l4), some (.int l5), some (.int l6), some (.int l7), some (.int l8), some (.int l9)], [], w) = _
    refine Eq.trans ?_ (if_pos hc329).symm
    refine (val_g (c2 := (54, d + 2, 172, [some (.ref 84), some (.int l1), some (.int l2), some (.int l3), some (.int l4), some (.int l5), some (.int l6), some (.int (l7 + 1)), some (.int l8), some (.int l9)], [], w)) rfl).trans ?_
    refine (val_g (c2 := (54, d + 2, 47, [some (.ref 84), some (.int l1), some (.int l2), some (.int l3), some (.int l4), some (.int l5), some (.int l6), some (.int (l7 + 1)), some (.int l8), some (.int l9)], [], w)) rfl).trans ?_
    rfl
  · refine ((val_if_eq rfl).trans (if_neg hc329)).trans ?_
    show val (54, d + 2, 161, [some (.ref 84), some (.int l1), some (.int l2), some (.int l3), some (.int l4), some (.int l5), some (.int l6), some (.int l7), some (.int l8), some (.int l9)], [], w) = _
    refine Eq.trans ?_ (if_neg hc329).symm
    refine (val_g (c2 := (54, d + 2, 162, [some (.ref 84), some (.int l1), some (.int l2), some (.int l3), some (.int l4), some (.int l5), some (.int l6), some (.int l7), some (.int l8), some (.int l9)], [.ref 84], w)) rfl).trans ?_
    refine (val_g (c2 := (54, d + 2, 163, [some (.ref 84), some (.int l1), some (.int l2), some (.int l3), some (.int l4), some (.int l5), some (.int l6), some (.int l7), some (.int l8), some (.int l9)], [.int l1, .ref 84], w)) rfl).trans ?_
    refine (val_g (c2 := (54, d + 2, 165, [some (.ref 84), some (.int l1), some (.int l2), some (.int l3), some (.int l4), some (.int l5), some (.int l6), some (.int l7), some (.int l8), some (.int l9)], [.int l8, .int l1, .ref 84], w)) rfl).trans ?_
    rfl
theorem tr_54_168 (d : Nat) (w : Wd) (l1 : Int32) (l2 : Int32) (l3 : Int32) (l4 : Int32) (l5 : Int32) (l6 : Int32) (l7 : Int32) (l8 : Int32) (l9 : Int32) (s0 : Int32)    (hy1 : narB 1 s0 = true) : val (54, d + 2, 168, [some (.ref 84), some (.int l1), some (.int l2), some (.int l3), some (.int l4), some (.int l5), some (.int l6), some (.int l7), some (.int l8), some (.int l9)], [.int s0], w) = some (some (.int s0), w) := by
  exact val_r (if_pos hy1)
/-- BelfryHouse$Band.losesItself(I)Z -/
theorem tr_55 (d : Nat) (w : Wd) (hW : Fix w) (x0 : Int32)    (hy1 : inB x0 9 = true) (hy2 : (¬ (¬ (gI ((sI ((sI w 84 8 (((gI w 84 8) + 1)))) 87 (x0).toNatClampNeg (((gI ((sI w 84 8 (((gI w 84 8) + 1)))) 87 (x0).toNatClampNeg) + 1)))) 85 (x0).toNatClampNeg) = 2)) → inB x0 9 = true) : val (55, d, 0, [some (.ref 84), some (.int x0)], [], w) = (if ¬ (gI ((sI ((sI w 84 8 (((gI w 84 8) + 1)))) 87 (x0).toNatClampNeg (((gI ((sI w 84 8 (((gI w 84 8) + 1)))) 87 (x0).toNatClampNeg) + 1)))) 85 (x0).toNatClampNeg) = 2 then some (some (.int 0), (sI ((sI w 84 8 (((gI w 84 8) + 1)))) 87 (x0).toNatClampNeg (((gI ((sI w 84 8 (((gI w 84 8) + 1)))) 87 (x0).toNatClampNeg) + 1)))) else (if (gI ((sI ((sI w 84 8 (((gI w 84 8) + 1)))) 87 (x0).toNatClampNeg (((gI ((sI w 84 8 (((gI w 84 8) + 1)))) 87 (x0).toNatClampNeg) + 1)))) 87 (x0).toNatClampNeg) < 3 then some (some (.int 0), (sI ((sI w 84 8 (((gI w 84 8) + 1)))) 87 (x0).toNatClampNeg (((gI ((sI w 84 8 (((gI w 84 8) + 1)))) 87 (x0).toNatClampNeg) + 1)))) else some (some (.int 1), (sI ((sI w 84 8 (((gI w 84 8) + 1)))) 87 (x0).toNatClampNeg (((gI ((sI w 84 8 (((gI w 84 8) + 1)))) 87 (x0).toNatClampNeg) + 1)))))) := by
  refine (val_g (c2 := (55, d, 1, [some (.ref 84), some (.int x0)], [.ref 84], w)) rfl).trans ?_
  refine (val_g (c2 := (55, d, 2, [some (.ref 84), some (.int x0)], [.ref 84, .ref 84], w)) rfl).trans ?_
  refine (val_gf rfl (hW.k 84 (Nat.le_of_ble_eq_true rfl) (Nat.le_of_ble_eq_true rfl)) rfl).trans ?_
  show val (55, d, 5, [some (.ref 84), some (.int x0)], [.int (gI w 84 8), .ref 84], w) = _
  refine (val_g (c2 := (55, d, 6, [some (.ref 84), some (.int x0)], [.int 1, .int (gI w 84 8), .ref 84], w)) rfl).trans ?_
  refine (val_g (c2 := (55, d, 7, [some (.ref 84), some (.int x0)], [.int ((gI w 84 8) + 1), .ref 84], w)) rfl).trans ?_
  refine (val_pf rfl (hW.k 84 (Nat.le_of_ble_eq_true rfl) (Nat.le_of_ble_eq_true rfl)) rfl).trans ?_
  show val (55, d, 10, [some (.ref 84), some (.int x0)], [], (sI w 84 8 (((gI w 84 8) + 1)))) = _
  refine (val_g (c2 := (55, d, 11, [some (.ref 84), some (.int x0)], [.ref 84], (sI w 84 8 (((gI w 84 8) + 1))))) rfl).trans ?_
  refine (val_gf (w := (sI w 84 8 (((gI w 84 8) + 1)))) rfl (hW.k 84 (Nat.le_of_ble_eq_true rfl) (Nat.le_of_ble_eq_true rfl)) (fvR (hW.r 84 2 87 rfl))).trans ?_
  show val (55, d, 14, [some (.ref 84), some (.int x0)], [.ref 87], (sI w 84 8 (((gI w 84 8) + 1)))) = _
  refine (val_g (c2 := (55, d, 15, [some (.ref 84), some (.int x0)], [.int x0, .ref 87], (sI w 84 8 (((gI w 84 8) + 1))))) rfl).trans ?_
  refine (val_g (c2 := (55, d, 16, [some (.ref 84), some (.int x0)], [.int x0, .ref 87, .int x0, .ref 87], (sI w 84 8 (((gI w 84 8) + 1))))) rfl).trans ?_
  refine (val_ial (w := (sI w 84 8 (((gI w 84 8) + 1)))) rfl (hW.k 87 (Nat.le_of_ble_eq_true rfl) (Nat.le_of_ble_eq_true rfl)) rfl hy1).trans ?_
  show val (55, d, 17, [some (.ref 84), some (.int x0)], [.int (gI ((sI w 84 8 (((gI w 84 8) + 1)))) 87 (x0).toNatClampNeg), .int x0, .ref 87], (sI w 84 8 (((gI w 84 8) + 1)))) = _
  refine (val_g (c2 := (55, d, 18, [some (.ref 84), some (.int x0)], [.int 1, .int (gI ((sI w 84 8 (((gI w 84 8) + 1)))) 87 (x0).toNatClampNeg), .int x0, .ref 87], (sI w 84 8 (((gI w 84 8) + 1))))) rfl).trans ?_
  refine (val_g (c2 := (55, d, 19, [some (.ref 84), some (.int x0)], [.int ((gI ((sI w 84 8 (((gI w 84 8) + 1)))) 87 (x0).toNatClampNeg) + 1), .int x0, .ref 87], (sI w 84 8 (((gI w 84 8) + 1))))) rfl).trans ?_
  refine (val_ias (w := (sI w 84 8 (((gI w 84 8) + 1)))) rfl (hW.k 87 (Nat.le_of_ble_eq_true rfl) (Nat.le_of_ble_eq_true rfl)) hy1).trans ?_
  show val (55, d, 20, [some (.ref 84), some (.int x0)], [], (sI ((sI w 84 8 (((gI w 84 8) + 1)))) 87 (x0).toNatClampNeg (((gI ((sI w 84 8 (((gI w 84 8) + 1)))) 87 (x0).toNatClampNeg) + 1)))) = _
  refine (val_g (c2 := (55, d, 21, [some (.ref 84), some (.int x0)], [.ref 84], (sI ((sI w 84 8 (((gI w 84 8) + 1)))) 87 (x0).toNatClampNeg (((gI ((sI w 84 8 (((gI w 84 8) + 1)))) 87 (x0).toNatClampNeg) + 1))))) rfl).trans ?_
  refine (val_gf (w := (sI ((sI w 84 8 (((gI w 84 8) + 1)))) 87 (x0).toNatClampNeg (((gI ((sI w 84 8 (((gI w 84 8) + 1)))) 87 (x0).toNatClampNeg) + 1)))) rfl (hW.k 84 (Nat.le_of_ble_eq_true rfl) (Nat.le_of_ble_eq_true rfl)) (fvR (hW.r 84 0 85 rfl))).trans ?_
  show val (55, d, 24, [some (.ref 84), some (.int x0)], [.ref 85], (sI ((sI w 84 8 (((gI w 84 8) + 1)))) 87 (x0).toNatClampNeg (((gI ((sI w 84 8 (((gI w 84 8) + 1)))) 87 (x0).toNatClampNeg) + 1)))) = _
  refine (val_g (c2 := (55, d, 25, [some (.ref 84), some (.int x0)], [.int x0, .ref 85], (sI ((sI w 84 8 (((gI w 84 8) + 1)))) 87 (x0).toNatClampNeg (((gI ((sI w 84 8 (((gI w 84 8) + 1)))) 87 (x0).toNatClampNeg) + 1))))) rfl).trans ?_
  refine (val_ial (w := (sI ((sI w 84 8 (((gI w 84 8) + 1)))) 87 (x0).toNatClampNeg (((gI ((sI w 84 8 (((gI w 84 8) + 1)))) 87 (x0).toNatClampNeg) + 1)))) rfl (hW.k 85 (Nat.le_of_ble_eq_true rfl) (Nat.le_of_ble_eq_true rfl)) rfl hy1).trans ?_
  show val (55, d, 26, [some (.ref 84), some (.int x0)], [.int (gI ((sI ((sI w 84 8 (((gI w 84 8) + 1)))) 87 (x0).toNatClampNeg (((gI ((sI w 84 8 (((gI w 84 8) + 1)))) 87 (x0).toNatClampNeg) + 1)))) 85 (x0).toNatClampNeg)], (sI ((sI w 84 8 (((gI w 84 8) + 1)))) 87 (x0).toNatClampNeg (((gI ((sI w 84 8 (((gI w 84 8) + 1)))) 87 (x0).toNatClampNeg) + 1)))) = _
  refine (val_g (c2 := (55, d, 27, [some (.ref 84), some (.int x0)], [.int 2, .int (gI ((sI ((sI w 84 8 (((gI w 84 8) + 1)))) 87 (x0).toNatClampNeg (((gI ((sI w 84 8 (((gI w 84 8) + 1)))) 87 (x0).toNatClampNeg) + 1)))) 85 (x0).toNatClampNeg)], (sI ((sI w 84 8 (((gI w 84 8) + 1)))) 87 (x0).toNatClampNeg (((gI ((sI w 84 8 (((gI w 84 8) + 1)))) 87 (x0).toNatClampNeg) + 1))))) rfl).trans ?_
  by_cases hc332 : ¬ (gI ((sI ((sI w 84 8 (((gI w 84 8) + 1)))) 87 (x0).toNatClampNeg (((gI ((sI w 84 8 (((gI w 84 8) + 1)))) 87 (x0).toNatClampNeg) + 1)))) 85 (x0).toNatClampNeg) = 2
  · refine ((val_ic_ne rfl).trans (if_pos hc332)).trans ?_
    show val (55, d, 44, [some (.ref 84), some (.int x0)], [], (sI ((sI w 84 8 (((gI w 84 8) + 1)))) 87 (x0).toNatClampNeg (((gI ((sI w 84 8 (((gI w 84 8) + 1)))) 87 (x0).toNatClampNeg) + 1)))) = _
    refine Eq.trans ?_ (if_pos hc332).symm
    refine (val_g (c2 := (55, d, 45, [some (.ref 84), some (.int x0)], [.int 0], (sI ((sI w 84 8 (((gI w 84 8) + 1)))) 87 (x0).toNatClampNeg (((gI ((sI w 84 8 (((gI w 84 8) + 1)))) 87 (x0).toNatClampNeg) + 1))))) rfl).trans ?_
    exact val_r rfl
  · refine ((val_ic_ne rfl).trans (if_neg hc332)).trans ?_
    show val (55, d, 30, [some (.ref 84), some (.int x0)], [], (sI ((sI w 84 8 (((gI w 84 8) + 1)))) 87 (x0).toNatClampNeg (((gI ((sI w 84 8 (((gI w 84 8) + 1)))) 87 (x0).toNatClampNeg) + 1)))) = _
    refine Eq.trans ?_ (if_neg hc332).symm
    refine (val_g (c2 := (55, d, 31, [some (.ref 84), some (.int x0)], [.ref 84], (sI ((sI w 84 8 (((gI w 84 8) + 1)))) 87 (x0).toNatClampNeg (((gI ((sI w 84 8 (((gI w 84 8) + 1)))) 87 (x0).toNatClampNeg) + 1))))) rfl).trans ?_
    refine (val_gf (w := (sI ((sI w 84 8 (((gI w 84 8) + 1)))) 87 (x0).toNatClampNeg (((gI ((sI w 84 8 (((gI w 84 8) + 1)))) 87 (x0).toNatClampNeg) + 1)))) rfl (hW.k 84 (Nat.le_of_ble_eq_true rfl) (Nat.le_of_ble_eq_true rfl)) (fvR (hW.r 84 2 87 rfl))).trans ?_
    show val (55, d, 34, [some (.ref 84), some (.int x0)], [.ref 87], (sI ((sI w 84 8 (((gI w 84 8) + 1)))) 87 (x0).toNatClampNeg (((gI ((sI w 84 8 (((gI w 84 8) + 1)))) 87 (x0).toNatClampNeg) + 1)))) = _
    refine (val_g (c2 := (55, d, 35, [some (.ref 84), some (.int x0)], [.int x0, .ref 87], (sI ((sI w 84 8 (((gI w 84 8) + 1)))) 87 (x0).toNatClampNeg (((gI ((sI w 84 8 (((gI w 84 8) + 1)))) 87 (x0).toNatClampNeg) + 1))))) rfl).trans ?_
    refine (val_ial (w := (sI ((sI w 84 8 (((gI w 84 8) + 1)))) 87 (x0).toNatClampNeg (((gI ((sI w 84 8 (((gI w 84 8) + 1)))) 87 (x0).toNatClampNeg) + 1)))) rfl (hW.k 87 (Nat.le_of_ble_eq_true rfl) (Nat.le_of_ble_eq_true rfl)) rfl (hy2 hc332)).trans ?_
    show val (55, d, 36, [some (.ref 84), some (.int x0)], [.int (gI ((sI ((sI w 84 8 (((gI w 84 8) + 1)))) 87 (x0).toNatClampNeg (((gI ((sI w 84 8 (((gI w 84 8) + 1)))) 87 (x0).toNatClampNeg) + 1)))) 87 (x0).toNatClampNeg)], (sI ((sI w 84 8 (((gI w 84 8) + 1)))) 87 (x0).toNatClampNeg (((gI ((sI w 84 8 (((gI w 84 8) + 1)))) 87 (x0).toNatClampNeg) + 1)))) = _
    refine (val_g (c2 := (55, d, 37, [some (.ref 84), some (.int x0)], [.int 3, .int (gI ((sI ((sI w 84 8 (((gI w 84 8) + 1)))) 87 (x0).toNatClampNeg (((gI ((sI w 84 8 (((gI w 84 8) + 1)))) 87 (x0).toNatClampNeg) + 1)))) 87 (x0).toNatClampNeg)], (sI ((sI w 84 8 (((gI w 84 8) + 1)))) 87 (x0).toNatClampNeg (((gI ((sI w 84 8 (((gI w 84 8) + 1)))) 87 (x0).toNatClampNeg) + 1))))) rfl).trans ?_
    by_cases hc333 : (gI ((sI ((sI w 84 8 (((gI w 84 8) + 1)))) 87 (x0).toNatClampNeg (((gI ((sI w 84 8 (((gI w 84 8) + 1)))) 87 (x0).toNatClampNeg) + 1)))) 87 (x0).toNatClampNeg) < 3
    · refine ((val_ic_lt rfl).trans (if_pos hc333)).trans ?_
      show val (55, d, 44, [some (.ref 84), some (.int x0)], [], (sI ((sI w 84 8 (((gI w 84 8) + 1)))) 87 (x0).toNatClampNeg (((gI ((sI w 84 8 (((gI w 84 8) + 1)))) 87 (x0).toNatClampNeg) + 1)))) = _
      refine Eq.trans ?_ (if_pos hc333).symm
      refine (val_g (c2 := (55, d, 45, [some (.ref 84), some (.int x0)], [.int 0], (sI ((sI w 84 8 (((gI w 84 8) + 1)))) 87 (x0).toNatClampNeg (((gI ((sI w 84 8 (((gI w 84 8) + 1)))) 87 (x0).toNatClampNeg) + 1))))) rfl).trans ?_
      exact val_r rfl
    · refine ((val_ic_lt rfl).trans (if_neg hc333)).trans ?_
      show val (55, d, 40, [some (.ref 84), some (.int x0)], [], (sI ((sI w 84 8 (((gI w 84 8) + 1)))) 87 (x0).toNatClampNeg (((gI ((sI w 84 8 (((gI w 84 8) + 1)))) 87 (x0).toNatClampNeg) + 1)))) = _
      refine Eq.trans ?_ (if_neg hc333).symm
      refine (val_g (c2 := (55, d, 41, [some (.ref 84), some (.int x0)], [.int 1], (sI ((sI w 84 8 (((gI w 84 8) + 1)))) 87 (x0).toNatClampNeg (((gI ((sI w 84 8 (((gI w 84 8) + 1)))) 87 (x0).toNatClampNeg) + 1))))) rfl).trans ?_
      refine (val_g (c2 := (55, d, 45, [some (.ref 84), some (.int x0)], [.int 1], (sI ((sI w 84 8 (((gI w 84 8) + 1)))) 87 (x0).toNatClampNeg (((gI ((sI w 84 8 (((gI w 84 8) + 1)))) 87 (x0).toNatClampNeg) + 1))))) rfl).trans ?_
      exact val_r rfl
/-- BelfryHouse$Band.getsWords(II)Z -/
theorem tr_56 (d : Nat) (w : Wd) (hW : Fix w) (x0 : Int32) (x1 : Int32)     : val (56, d + 1, 0, [some (.ref 84), some (.int x0), some (.int x1)], [], w) = (if 5 ≤ (gI ((sI w 84 10 x1)) 84 9) then some (some (.int 0), (sI w 84 10 x1)) else val (56, d + 1, 15, [some (.ref 84), some (.int x0), some (.int x1)], [.int x0, .ref 84], (sI w 84 10 x1))) := by
  refine (val_g (c2 := (56, d + 1, 1, [some (.ref 84), some (.int x0), some (.int x1)], [.ref 84], w)) rfl).trans ?_
  refine (val_g (c2 := (56, d + 1, 2, [some (.ref 84), some (.int x0), some (.int x1)], [.int x1, .ref 84], w)) rfl).trans ?_
  refine (val_pf rfl (hW.k 84 (Nat.le_of_ble_eq_true rfl) (Nat.le_of_ble_eq_true rfl)) rfl).trans ?_
  show val (56, d + 1, 5, [some (.ref 84), some (.int x0), some (.int x1)], [], (sI w 84 10 x1)) = _
  refine (val_g (c2 := (56, d + 1, 6, [some (.ref 84), some (.int x0), some (.int x1)], [.ref 84], (sI w 84 10 x1))) rfl).trans ?_
  refine (val_gf (w := (sI w 84 10 x1)) rfl (hW.k 84 (Nat.le_of_ble_eq_true rfl) (Nat.le_of_ble_eq_true rfl)) rfl).trans ?_
  show val (56, d + 1, 9, [some (.ref 84), some (.int x0), some (.int x1)], [.int (gI ((sI w 84 10 x1)) 84 9)], (sI w 84 10 x1)) = _
  refine (val_g (c2 := (56, d + 1, 10, [some (.ref 84), some (.int x0), some (.int x1)], [.int 5, .int (gI ((sI w 84 10 x1)) 84 9)], (sI w 84 10 x1))) rfl).trans ?_
  by_cases hc336 : 5 ≤ (gI ((sI w 84 10 x1)) 84 9)
  · refine ((val_ic_ge rfl).trans (if_pos hc336)).trans ?_
    show val (56, d + 1, 21, [some (.ref 84), some (.int x0), some (.int x1)], [], (sI w 84 10 x1)) = _
    refine Eq.trans ?_ (if_pos hc336).symm
    refine (val_g (c2 := (56, d + 1, 22, [some (.ref 84), some (.int x0), some (.int x1)], [.int 0], (sI w 84 10 x1))) rfl).trans ?_
    exact val_r rfl
  · refine ((val_ic_ge rfl).trans (if_neg hc336)).trans ?_
    show val (56, d + 1, 13, [some (.ref 84), some (.int x0), some (.int x1)], [], (sI w 84 10 x1)) = _
    refine Eq.trans ?_ (if_neg hc336).symm
    refine (val_g (c2 := (56, d + 1, 14, [some (.ref 84), some (.int x0), some (.int x1)], [.ref 84], (sI w 84 10 x1))) rfl).trans ?_
    refine (val_g (c2 := (56, d + 1, 15, [some (.ref 84), some (.int x0), some (.int x1)], [.int x0, .ref 84], (sI w 84 10 x1))) rfl).trans ?_
    rfl
theorem tr_56_18 (d : Nat) (w : Wd) (hW : Fix w) (l1 : Int32) (l2 : Int32) (s0 : Int32)    (hy1 : (¬ s0 = 0) → inB l2 9 = true) : val (56, d + 1, 18, [some (.ref 84), some (.int l1), some (.int l2)], [.int s0], w) = (if ¬ s0 = 0 then some (some (.int 1), (sI ((sI w 84 9 (((gI w 84 9) + 1)))) 87 (l2).toNatClampNeg 0)) else some (some (.int 0), w)) := by
  by_cases hc337 : ¬ s0 = 0
  · refine ((val_if_ne rfl).trans (if_pos hc337)).trans ?_
    show val (56, d + 1, 23, [some (.ref 84), some (.int l1), some (.int l2)], [], w) = _
    refine Eq.trans ?_ (if_pos hc337).symm
    refine (val_g (c2 := (56, d + 1, 24, [some (.ref 84), some (.int l1), some (.int l2)], [.ref 84], w)) rfl).trans ?_
    refine (val_g (c2 := (56, d + 1, 25, [some (.ref 84), some (.int l1), some (.int l2)], [.ref 84, .ref 84], w)) rfl).trans ?_
    refine (val_gf rfl (hW.k 84 (Nat.le_of_ble_eq_true rfl) (Nat.le_of_ble_eq_true rfl)) rfl).trans ?_
    show val (56, d + 1, 28, [some (.ref 84), some (.int l1), some (.int l2)], [.int (gI w 84 9), .ref 84], w) = _
    refine (val_g (c2 := (56, d + 1, 29, [some (.ref 84), some (.int l1), some (.int l2)], [.int 1, .int (gI w 84 9), .ref 84], w)) rfl).trans ?_
    refine (val_g (c2 := (56, d + 1, 30, [some (.ref 84), some (.int l1), some (.int l2)], [.int ((gI w 84 9) + 1), .ref 84], w)) rfl).trans ?_
    refine (val_pf rfl (hW.k 84 (Nat.le_of_ble_eq_true rfl) (Nat.le_of_ble_eq_true rfl)) rfl).trans ?_
    show val (56, d + 1, 33, [some (.ref 84), some (.int l1), some (.int l2)], [], (sI w 84 9 (((gI w 84 9) + 1)))) = _
    refine (val_g (c2 := (56, d + 1, 34, [some (.ref 84), some (.int l1), some (.int l2)], [.ref 84], (sI w 84 9 (((gI w 84 9) + 1))))) rfl).trans ?_
    refine (val_gf (w := (sI w 84 9 (((gI w 84 9) + 1)))) rfl (hW.k 84 (Nat.le_of_ble_eq_true rfl) (Nat.le_of_ble_eq_true rfl)) (fvR (hW.r 84 2 87 rfl))).trans ?_
    show val (56, d + 1, 37, [some (.ref 84), some (.int l1), some (.int l2)], [.ref 87], (sI w 84 9 (((gI w 84 9) + 1)))) = _
    refine (val_g (c2 := (56, d + 1, 38, [some (.ref 84), some (.int l1), some (.int l2)], [.int l2, .ref 87], (sI w 84 9 (((gI w 84 9) + 1))))) rfl).trans ?_
    refine (val_g (c2 := (56, d + 1, 39, [some (.ref 84), some (.int l1), some (.int l2)], [.int 0, .int l2, .ref 87], (sI w 84 9 (((gI w 84 9) + 1))))) rfl).trans ?_
    refine (val_ias (w := (sI w 84 9 (((gI w 84 9) + 1)))) rfl (hW.k 87 (Nat.le_of_ble_eq_true rfl) (Nat.le_of_ble_eq_true rfl)) (hy1 hc337)).trans ?_
    show val (56, d + 1, 40, [some (.ref 84), some (.int l1), some (.int l2)], [], (sI ((sI w 84 9 (((gI w 84 9) + 1)))) 87 (l2).toNatClampNeg 0)) = _
    refine (val_g (c2 := (56, d + 1, 41, [some (.ref 84), some (.int l1), some (.int l2)], [.int 1], (sI ((sI w 84 9 (((gI w 84 9) + 1)))) 87 (l2).toNatClampNeg 0))) rfl).trans ?_
    exact val_r rfl
  · refine ((val_if_ne rfl).trans (if_neg hc337)).trans ?_
    show val (56, d + 1, 21, [some (.ref 84), some (.int l1), some (.int l2)], [], w) = _
    refine Eq.trans ?_ (if_neg hc337).symm
    refine (val_g (c2 := (56, d + 1, 22, [some (.ref 84), some (.int l1), some (.int l2)], [.int 0], w)) rfl).trans ?_
    exact val_r rfl
/-- BelfryHouse$Band.hasConductor(I)Z -/
theorem tr_57 (d : Nat) (w : Wd) (x0 : Int32)     : val (57, d, 0, [some (.ref 84), some (.int x0), none], [], w) = val (57, d, 2, [some (.ref 84), some (.int x0), some (.int 1)], [], w) := by
  refine (val_g (c2 := (57, d, 1, [some (.ref 84), some (.int x0), none], [.int 1], w)) rfl).trans ?_
  refine (val_g (c2 := (57, d, 2, [some (.ref 84), some (.int x0), some (.int 1)], [], w)) rfl).trans ?_
  rfl
theorem tr_57_2 (d : Nat) (w : Wd) (hW : Fix w) (l1 : Int32) (l2 : Int32)    (hy1 : (¬ (l1 < l2)) → inB l2 9 = true) (hy2 : (¬ (l1 < l2)) → (¬ ((gI w 85 (l2).toNatClampNeg) = 3)) → inB l2 9 = true) : val (57, d, 2, [some (.ref 84), some (.int l1), some (.int l2)], [], w) = (if l1 < l2 then some (some (.int 0), w) else (if (gI w 85 (l2).toNatClampNeg) = 3 then some (some (.int 1), w) else (if ¬ (gI w 85 (l2).toNatClampNeg) = 4 then val (57, d, 2, [some (.ref 84), some (.int l1), some (.int (l2 + 1))], [], w) else some (some (.int 1), w)))) := by
  refine (val_g (c2 := (57, d, 3, [some (.ref 84), some (.int l1), some (.int l2)], [.int l2], w)) rfl).trans ?_
  refine (val_g (c2 := (57, d, 4, [some (.ref 84), some (.int l1), some (.int l2)], [.int l1, .int l2], w)) rfl).trans ?_
  by_cases hc341 : l1 < l2
  · refine ((val_ic_gt rfl).trans (if_pos hc341)).trans ?_
    show val (57, d, 35, [some (.ref 84), some (.int l1), some (.int l2)], [], w) = _
    refine Eq.trans ?_ (if_pos hc341).symm
    refine (val_g (c2 := (57, d, 36, [some (.ref 84), some (.int l1), some (.int l2)], [.int 0], w)) rfl).trans ?_
    exact val_r rfl
  · refine ((val_ic_gt rfl).trans (if_neg hc341)).trans ?_
    show val (57, d, 7, [some (.ref 84), some (.int l1), some (.int l2)], [], w) = _
    refine Eq.trans ?_ (if_neg hc341).symm
    refine (val_g (c2 := (57, d, 8, [some (.ref 84), some (.int l1), some (.int l2)], [.ref 84], w)) rfl).trans ?_
    refine (val_gf rfl (hW.k 84 (Nat.le_of_ble_eq_true rfl) (Nat.le_of_ble_eq_true rfl)) (fvR (hW.r 84 0 85 rfl))).trans ?_
    show val (57, d, 11, [some (.ref 84), some (.int l1), some (.int l2)], [.ref 85], w) = _
    refine (val_g (c2 := (57, d, 12, [some (.ref 84), some (.int l1), some (.int l2)], [.int l2, .ref 85], w)) rfl).trans ?_
    refine (val_ial rfl (hW.k 85 (Nat.le_of_ble_eq_true rfl) (Nat.le_of_ble_eq_true rfl)) rfl (hy1 hc341)).trans ?_
    show val (57, d, 13, [some (.ref 84), some (.int l1), some (.int l2)], [.int (gI w 85 (l2).toNatClampNeg)], w) = _
    refine (val_g (c2 := (57, d, 14, [some (.ref 84), some (.int l1), some (.int l2)], [.int 3, .int (gI w 85 (l2).toNatClampNeg)], w)) rfl).trans ?_
    by_cases hc342 : (gI w 85 (l2).toNatClampNeg) = 3
    · refine ((val_ic_eq rfl).trans (if_pos hc342)).trans ?_
      show val (57, d, 27, [some (.ref 84), some (.int l1), some (.int l2)], [], w) = _
      refine Eq.trans ?_ (if_pos hc342).symm
      refine (val_g (c2 := (57, d, 28, [some (.ref 84), some (.int l1), some (.int l2)], [.int 1], w)) rfl).trans ?_
      exact val_r rfl
    · refine ((val_ic_eq rfl).trans (if_neg hc342)).trans ?_
      show val (57, d, 17, [some (.ref 84), some (.int l1), some (.int l2)], [], w) = _
      refine Eq.trans ?_ (if_neg hc342).symm
      refine (val_g (c2 := (57, d, 18, [some (.ref 84), some (.int l1), some (.int l2)], [.ref 84], w)) rfl).trans ?_
      refine (val_gf rfl (hW.k 84 (Nat.le_of_ble_eq_true rfl) (Nat.le_of_ble_eq_true rfl)) (fvR (hW.r 84 0 85 rfl))).trans ?_
      show val (57, d, 21, [some (.ref 84), some (.int l1), some (.int l2)], [.ref 85], w) = _
      refine (val_g (c2 := (57, d, 22, [some (.ref 84), some (.int l1), some (.int l2)], [.int l2, .ref 85], w)) rfl).trans ?_
      refine (val_ial rfl (hW.k 85 (Nat.le_of_ble_eq_true rfl) (Nat.le_of_ble_eq_true rfl)) rfl (hy2 hc341 hc342)).trans ?_
      show val (57, d, 23, [some (.ref 84), some (.int l1), some (.int l2)], [.int (gI w 85 (l2).toNatClampNeg)], w) = _
      refine (val_g (c2 := (57, d, 24, [some (.ref 84), some (.int l1), some (.int l2)], [.int 4, .int (gI w 85 (l2).toNatClampNeg)], w)) rfl).trans ?_
      by_cases hc343 : ¬ (gI w 85 (l2).toNatClampNeg) = 4
      · refine ((val_ic_ne rfl).trans (if_pos hc343)).trans ?_
        show val (57, d, 29, [some (.ref 84), some (.int l1), some (.int l2)], [], w) = _
        refine Eq.trans ?_ (if_pos hc343).symm
        refine (val_g (c2 := (57, d, 32, [some (.ref 84), some (.int l1), some (.int (l2 + 1))], [], w)) rfl).trans ?_
        refine (val_g (c2 := (57, d, 2, [some (.ref 84), some (.int l1), some (.int (l2 + 1))], [], w)) rfl).trans ?_
        rfl
      · refine ((val_ic_ne rfl).trans (if_neg hc343)).trans ?_
        show val (57, d, 27, [some (.ref 84), some (.int l1), some (.int l2)], [], w) = _
        refine Eq.trans ?_ (if_neg hc343).symm
        refine (val_g (c2 := (57, d, 28, [some (.ref 84), some (.int l1), some (.int l2)], [.int 1], w)) rfl).trans ?_
        exact val_r rfl
/-- BelfryHouse$Band.timeOf(III)I -/
theorem tr_58 (d : Nat) (w : Wd) (hW : Fix w) (x0 : Int32) (x1 : Int32) (x2 : Int32)    (hy1 : (¬ (x1 < 0)) → (x1 < (gI w 84 7)) → inB x1 400 = true) : val (58, d + 2, 0, [some (.ref 84), some (.int x0), some (.int x1), some (.int x2), none], [], w) = (if x1 < 0 then some (some (.int (-1000000)), w) else (if x1 < (gI w 84 7) then val (58, d + 2, 25, [some (.ref 84), some (.int x0), some (.int x1), some (.int x2), none], [.int (x2 - 1), .int (gI w 88 (x1).toNatClampNeg), .int x0], w) else some (some (.int (-1000000)), w))) := by
  refine (val_g (c2 := (58, d + 2, 1, [some (.ref 84), some (.int x0), some (.int x1), some (.int x2), none], [.int x1], w)) rfl).trans ?_
  by_cases hc347 : x1 < 0
  · refine ((val_if_lt rfl).trans (if_pos hc347)).trans ?_
    show val (58, d + 2, 12, [some (.ref 84), some (.int x0), some (.int x1), some (.int x2), none], [], w) = _
    refine Eq.trans ?_ (if_pos hc347).symm
    refine (val_g (c2 := (58, d + 2, 14, [some (.ref 84), some (.int x0), some (.int x1), some (.int x2), none], [.int (-1000000)], w)) rfl).trans ?_
    exact val_r rfl
  · refine ((val_if_lt rfl).trans (if_neg hc347)).trans ?_
    show val (58, d + 2, 4, [some (.ref 84), some (.int x0), some (.int x1), some (.int x2), none], [], w) = _
    refine Eq.trans ?_ (if_neg hc347).symm
    refine (val_g (c2 := (58, d + 2, 5, [some (.ref 84), some (.int x0), some (.int x1), some (.int x2), none], [.int x1], w)) rfl).trans ?_
    refine (val_g (c2 := (58, d + 2, 6, [some (.ref 84), some (.int x0), some (.int x1), some (.int x2), none], [.ref 84, .int x1], w)) rfl).trans ?_
    refine (val_gf rfl (hW.k 84 (Nat.le_of_ble_eq_true rfl) (Nat.le_of_ble_eq_true rfl)) rfl).trans ?_
    show val (58, d + 2, 9, [some (.ref 84), some (.int x0), some (.int x1), some (.int x2), none], [.int (gI w 84 7), .int x1], w) = _
    by_cases hc348 : x1 < (gI w 84 7)
    · refine ((val_ic_lt rfl).trans (if_pos hc348)).trans ?_
      show val (58, d + 2, 15, [some (.ref 84), some (.int x0), some (.int x1), some (.int x2), none], [], w) = _
      refine Eq.trans ?_ (if_pos hc348).symm
      refine (val_g (c2 := (58, d + 2, 16, [some (.ref 84), some (.int x0), some (.int x1), some (.int x2), none], [.int x0], w)) rfl).trans ?_
      refine (val_g (c2 := (58, d + 2, 17, [some (.ref 84), some (.int x0), some (.int x1), some (.int x2), none], [.ref 84, .int x0], w)) rfl).trans ?_
      refine (val_gf rfl (hW.k 84 (Nat.le_of_ble_eq_true rfl) (Nat.le_of_ble_eq_true rfl)) (fvR (hW.r 84 3 88 rfl))).trans ?_
      show val (58, d + 2, 20, [some (.ref 84), some (.int x0), some (.int x1), some (.int x2), none], [.ref 88, .int x0], w) = _
      refine (val_g (c2 := (58, d + 2, 21, [some (.ref 84), some (.int x0), some (.int x1), some (.int x2), none], [.int x1, .ref 88, .int x0], w)) rfl).trans ?_
      refine (val_ial rfl (hW.k 88 (Nat.le_of_ble_eq_true rfl) (Nat.le_of_ble_eq_true rfl)) rfl (hy1 hc347 hc348)).trans ?_
      show val (58, d + 2, 22, [some (.ref 84), some (.int x0), some (.int x1), some (.int x2), none], [.int (gI w 88 (x1).toNatClampNeg), .int x0], w) = _
      refine (val_g (c2 := (58, d + 2, 23, [some (.ref 84), some (.int x0), some (.int x1), some (.int x2), none], [.int x2, .int (gI w 88 (x1).toNatClampNeg), .int x0], w)) rfl).trans ?_
      refine (val_g (c2 := (58, d + 2, 24, [some (.ref 84), some (.int x0), some (.int x1), some (.int x2), none], [.int 1, .int x2, .int (gI w 88 (x1).toNatClampNeg), .int x0], w)) rfl).trans ?_
      refine (val_g (c2 := (58, d + 2, 25, [some (.ref 84), some (.int x0), some (.int x1), some (.int x2), none], [.int (x2 - 1), .int (gI w 88 (x1).toNatClampNeg), .int x0], w)) rfl).trans ?_
      rfl
    · refine ((val_ic_lt rfl).trans (if_neg hc348)).trans ?_
      show val (58, d + 2, 12, [some (.ref 84), some (.int x0), some (.int x1), some (.int x2), none], [], w) = _
      refine Eq.trans ?_ (if_neg hc348).symm
      refine (val_g (c2 := (58, d + 2, 14, [some (.ref 84), some (.int x0), some (.int x1), some (.int x2), none], [.int (-1000000)], w)) rfl).trans ?_
      exact val_r rfl
theorem tr_58_28 (d : Nat) (w : Wd) (hW : Fix w) (l1 : Int32) (l2 : Int32) (l3 : Int32) (s0 : Int32)    (hy1 : inB l2 400 = true) (hy2 : (¬ ((gI w 89 (l2).toNatClampNeg) ≤ s0)) → inB (((l2 * 8) + s0)) 3200 = true) : val (58, d + 2, 28, [some (.ref 84), some (.int l1), some (.int l2), some (.int l3), none], [.int s0], w) = (if (gI w 89 (l2).toNatClampNeg) ≤ s0 then some (some (.int (-1000000)), w) else some (some (.int (gI w 90 (((l2 * 8) + s0)).toNatClampNeg)), w)) := by
  refine (val_g (c2 := (58, d + 2, 30, [some (.ref 84), some (.int l1), some (.int l2), some (.int l3), some (.int s0)], [], w)) rfl).trans ?_
  refine (val_g (c2 := (58, d + 2, 32, [some (.ref 84), some (.int l1), some (.int l2), some (.int l3), some (.int s0)], [.int s0], w)) rfl).trans ?_
  refine (val_g (c2 := (58, d + 2, 33, [some (.ref 84), some (.int l1), some (.int l2), some (.int l3), some (.int s0)], [.ref 84, .int s0], w)) rfl).trans ?_
  refine (val_gf rfl (hW.k 84 (Nat.le_of_ble_eq_true rfl) (Nat.le_of_ble_eq_true rfl)) (fvR (hW.r 84 4 89 rfl))).trans ?_
  show val (58, d + 2, 36, [some (.ref 84), some (.int l1), some (.int l2), some (.int l3), some (.int s0)], [.ref 89, .int s0], w) = _
  refine (val_g (c2 := (58, d + 2, 37, [some (.ref 84), some (.int l1), some (.int l2), some (.int l3), some (.int s0)], [.int l2, .ref 89, .int s0], w)) rfl).trans ?_
  refine (val_ial rfl (hW.k 89 (Nat.le_of_ble_eq_true rfl) (Nat.le_of_ble_eq_true rfl)) rfl hy1).trans ?_
  show val (58, d + 2, 38, [some (.ref 84), some (.int l1), some (.int l2), some (.int l3), some (.int s0)], [.int (gI w 89 (l2).toNatClampNeg), .int s0], w) = _
  by_cases hc349 : (gI w 89 (l2).toNatClampNeg) ≤ s0
  · refine ((val_ic_ge rfl).trans (if_pos hc349)).trans ?_
    show val (58, d + 2, 56, [some (.ref 84), some (.int l1), some (.int l2), some (.int l3), some (.int s0)], [], w) = _
    refine Eq.trans ?_ (if_pos hc349).symm
    refine (val_g (c2 := (58, d + 2, 58, [some (.ref 84), some (.int l1), some (.int l2), some (.int l3), some (.int s0)], [.int (-1000000)], w)) rfl).trans ?_
    exact val_r rfl
  · refine ((val_ic_ge rfl).trans (if_neg hc349)).trans ?_
    show val (58, d + 2, 41, [some (.ref 84), some (.int l1), some (.int l2), some (.int l3), some (.int s0)], [], w) = _
    refine Eq.trans ?_ (if_neg hc349).symm
    refine (val_g (c2 := (58, d + 2, 42, [some (.ref 84), some (.int l1), some (.int l2), some (.int l3), some (.int s0)], [.ref 84], w)) rfl).trans ?_
    refine (val_gf rfl (hW.k 84 (Nat.le_of_ble_eq_true rfl) (Nat.le_of_ble_eq_true rfl)) (fvR (hW.r 84 5 90 rfl))).trans ?_
    show val (58, d + 2, 45, [some (.ref 84), some (.int l1), some (.int l2), some (.int l3), some (.int s0)], [.ref 90], w) = _
    refine (val_g (c2 := (58, d + 2, 46, [some (.ref 84), some (.int l1), some (.int l2), some (.int l3), some (.int s0)], [.int l2, .ref 90], w)) rfl).trans ?_
    refine (val_g (c2 := (58, d + 2, 48, [some (.ref 84), some (.int l1), some (.int l2), some (.int l3), some (.int s0)], [.int 8, .int l2, .ref 90], w)) rfl).trans ?_
    refine (val_g (c2 := (58, d + 2, 49, [some (.ref 84), some (.int l1), some (.int l2), some (.int l3), some (.int s0)], [.int (l2 * 8), .ref 90], w)) rfl).trans ?_
    refine (val_g (c2 := (58, d + 2, 51, [some (.ref 84), some (.int l1), some (.int l2), some (.int l3), some (.int s0)], [.int s0, .int (l2 * 8), .ref 90], w)) rfl).trans ?_
    refine (val_g (c2 := (58, d + 2, 52, [some (.ref 84), some (.int l1), some (.int l2), some (.int l3), some (.int s0)], [.int ((l2 * 8) + s0), .ref 90], w)) rfl).trans ?_
    refine (val_ial rfl (hW.k 90 (Nat.le_of_ble_eq_true rfl) (Nat.le_of_ble_eq_true rfl)) rfl (hy2 hc349)).trans ?_
    show val (58, d + 2, 53, [some (.ref 84), some (.int l1), some (.int l2), some (.int l3), some (.int s0)], [.int (gI w 90 (((l2 * 8) + s0)).toNatClampNeg)], w) = _
    refine (val_g (c2 := (58, d + 2, 58, [some (.ref 84), some (.int l1), some (.int l2), some (.int l3), some (.int s0)], [.int (gI w 90 (((l2 * 8) + s0)).toNatClampNeg)], w)) rfl).trans ?_
    exact val_r rfl
/-- BelfryHouse$Group.<init>()V -/
theorem tr_59 (d : Nat) (w : Wd)      : val (59, d + 1, 0, [some (.ref 76)], [], w) = val (59, d + 1, 8, [some (.ref 76)], [.int 720, .ref 76], w) := by
  refine (val_g (c2 := (59, d + 1, 1, [some (.ref 76)], [.ref 76], w)) rfl).trans ?_
  refine (val_g (c2 := (59, d + 1, 4, [some (.ref 76)], [], w)) rfl).trans ?_
  refine (val_g (c2 := (59, d + 1, 5, [some (.ref 76)], [.ref 76], w)) rfl).trans ?_
  refine (val_g (c2 := (59, d + 1, 8, [some (.ref 76)], [.int 720, .ref 76], w)) rfl).trans ?_
  rfl
theorem tr_59_13 (d : Nat) (w : Wd)      : val (59, d + 1, 13, [some (.ref 76)], [], w) = val (59, d + 1, 17, [some (.ref 76)], [.int 720, .ref 76], w) := by
  refine (val_g (c2 := (59, d + 1, 14, [some (.ref 76)], [.ref 76], w)) rfl).trans ?_
  refine (val_g (c2 := (59, d + 1, 17, [some (.ref 76)], [.int 720, .ref 76], w)) rfl).trans ?_
  rfl
theorem tr_59_22 (d : Nat) (w : Wd)      : val (59, d + 1, 22, [some (.ref 76)], [], w) = val (59, d + 1, 25, [some (.ref 76)], [.int 6, .ref 76], w) := by
  refine (val_g (c2 := (59, d + 1, 23, [some (.ref 76)], [.ref 76], w)) rfl).trans ?_
  refine (val_g (c2 := (59, d + 1, 25, [some (.ref 76)], [.int 6, .ref 76], w)) rfl).trans ?_
  rfl
theorem tr_59_30 (d : Nat) (w : Wd) (hW : Fix w)      : val (59, d + 1, 30, [some (.ref 76)], [], w) = some (none, (sI ((sI ((sI w 76 3 0)) 76 4 0)) 76 5 0)) := by
  refine (val_g (c2 := (59, d + 1, 31, [some (.ref 76)], [.ref 76], w)) rfl).trans ?_
  refine (val_g (c2 := (59, d + 1, 32, [some (.ref 76)], [.int 0, .ref 76], w)) rfl).trans ?_
  refine (val_pf rfl (hW.k 76 (Nat.le_of_ble_eq_true rfl) (Nat.le_of_ble_eq_true rfl)) rfl).trans ?_
  show val (59, d + 1, 35, [some (.ref 76)], [], (sI w 76 3 0)) = _
  refine (val_g (c2 := (59, d + 1, 36, [some (.ref 76)], [.ref 76], (sI w 76 3 0))) rfl).trans ?_
  refine (val_g (c2 := (59, d + 1, 37, [some (.ref 76)], [.int 0, .ref 76], (sI w 76 3 0))) rfl).trans ?_
  refine (val_pf (w := (sI w 76 3 0)) rfl (hW.k 76 (Nat.le_of_ble_eq_true rfl) (Nat.le_of_ble_eq_true rfl)) rfl).trans ?_
  show val (59, d + 1, 40, [some (.ref 76)], [], (sI ((sI w 76 3 0)) 76 4 0)) = _
  refine (val_g (c2 := (59, d + 1, 41, [some (.ref 76)], [.ref 76], (sI ((sI w 76 3 0)) 76 4 0))) rfl).trans ?_
  refine (val_g (c2 := (59, d + 1, 42, [some (.ref 76)], [.int 0, .ref 76], (sI ((sI w 76 3 0)) 76 4 0))) rfl).trans ?_
  refine (val_pf (w := (sI ((sI w 76 3 0)) 76 4 0)) rfl (hW.k 76 (Nat.le_of_ble_eq_true rfl) (Nat.le_of_ble_eq_true rfl)) rfl).trans ?_
  show val (59, d + 1, 45, [some (.ref 76)], [], (sI ((sI ((sI w 76 3 0)) 76 4 0)) 76 5 0)) = _
  exact val_r rfl
/-- BelfryHouse$Group.dissolve(I)V -/
theorem tr_60 (d : Nat) (w : Wd) (hW : Fix w) (x0 : Int32)     : val (60, d + 4, 0, [some (.ref 76), some (.int x0)], [], w) = val (60, d + 4, 12, [some (.ref 76), some (.int x0)], [.int x0, .ref 76], (sI ((sI w 76 5 0)) 76 3 0)) := by
  refine (val_g (c2 := (60, d + 4, 1, [some (.ref 76), some (.int x0)], [.ref 76], w)) rfl).trans ?_
  refine (val_g (c2 := (60, d + 4, 2, [some (.ref 76), some (.int x0)], [.int 0, .ref 76], w)) rfl).trans ?_
  refine (val_pf rfl (hW.k 76 (Nat.le_of_ble_eq_true rfl) (Nat.le_of_ble_eq_true rfl)) rfl).trans ?_
  show val (60, d + 4, 5, [some (.ref 76), some (.int x0)], [], (sI w 76 5 0)) = _
  refine (val_g (c2 := (60, d + 4, 6, [some (.ref 76), some (.int x0)], [.ref 76], (sI w 76 5 0))) rfl).trans ?_
  refine (val_g (c2 := (60, d + 4, 7, [some (.ref 76), some (.int x0)], [.int 0, .ref 76], (sI w 76 5 0))) rfl).trans ?_
  refine (val_pf (w := (sI w 76 5 0)) rfl (hW.k 76 (Nat.le_of_ble_eq_true rfl) (Nat.le_of_ble_eq_true rfl)) rfl).trans ?_
  show val (60, d + 4, 10, [some (.ref 76), some (.int x0)], [], (sI ((sI w 76 5 0)) 76 3 0)) = _
  refine (val_g (c2 := (60, d + 4, 11, [some (.ref 76), some (.int x0)], [.ref 76], (sI ((sI w 76 5 0)) 76 3 0))) rfl).trans ?_
  refine (val_g (c2 := (60, d + 4, 12, [some (.ref 76), some (.int x0)], [.int x0, .ref 76], (sI ((sI w 76 5 0)) 76 3 0))) rfl).trans ?_
  rfl
theorem tr_60_15 (d : Nat) (w : Wd) (l1 : Int32)     : val (60, d + 4, 15, [some (.ref 76), some (.int l1)], [], w) = some (none, w) := by
  exact val_r rfl
/-- BelfryHouse$Group.has(II)Z -/
theorem tr_61 (d : Nat) (w : Wd) (x0 : Int32) (x1 : Int32)     : val (61, d + 2, 0, [some (.ref 76), some (.int x0), some (.int x1), none], [], w) = val (61, d + 2, 2, [some (.ref 76), some (.int x0), some (.int x1), none], [.int x1, .int x0], w) := by
  refine (val_g (c2 := (61, d + 2, 1, [some (.ref 76), some (.int x0), some (.int x1), none], [.int x0], w)) rfl).trans ?_
  refine (val_g (c2 := (61, d + 2, 2, [some (.ref 76), some (.int x0), some (.int x1), none], [.int x1, .int x0], w)) rfl).trans ?_
  rfl
theorem tr_61_5 (d : Nat) (w : Wd) (hW : Fix w) (l1 : Int32) (l2 : Int32) (s0 : Int32)    (hy1 : (¬ (720 ≤ s0)) → inB s0 720 = true) : val (61, d + 2, 5, [some (.ref 76), some (.int l1), some (.int l2), none], [.int s0], w) = (if 720 ≤ s0 then some (some (.int 0), w) else (if (gI w 78 (s0).toNatClampNeg) = 0 then some (some (.int 0), w) else some (some (.int 1), w))) := by
  refine (val_g (c2 := (61, d + 2, 6, [some (.ref 76), some (.int l1), some (.int l2), some (.int s0)], [], w)) rfl).trans ?_
  refine (val_g (c2 := (61, d + 2, 7, [some (.ref 76), some (.int l1), some (.int l2), some (.int s0)], [.int s0], w)) rfl).trans ?_
  refine (val_g (c2 := (61, d + 2, 10, [some (.ref 76), some (.int l1), some (.int l2), some (.int s0)], [.int 720, .int s0], w)) rfl).trans ?_
  by_cases hc352 : 720 ≤ s0
  · refine ((val_ic_ge rfl).trans (if_pos hc352)).trans ?_
    show val (61, d + 2, 26, [some (.ref 76), some (.int l1), some (.int l2), some (.int s0)], [], w) = _
    refine Eq.trans ?_ (if_pos hc352).symm
    refine (val_g (c2 := (61, d + 2, 27, [some (.ref 76), some (.int l1), some (.int l2), some (.int s0)], [.int 0], w)) rfl).trans ?_
    exact val_r rfl
  · refine ((val_ic_ge rfl).trans (if_neg hc352)).trans ?_
    show val (61, d + 2, 13, [some (.ref 76), some (.int l1), some (.int l2), some (.int s0)], [], w) = _
    refine Eq.trans ?_ (if_neg hc352).symm
    refine (val_g (c2 := (61, d + 2, 14, [some (.ref 76), some (.int l1), some (.int l2), some (.int s0)], [.ref 76], w)) rfl).trans ?_
    refine (val_gf rfl (hW.k 76 (Nat.le_of_ble_eq_true rfl) (Nat.le_of_ble_eq_true rfl)) (fvR (hW.r 76 1 78 rfl))).trans ?_
    show val (61, d + 2, 17, [some (.ref 76), some (.int l1), some (.int l2), some (.int s0)], [.ref 78], w) = _
    refine (val_g (c2 := (61, d + 2, 18, [some (.ref 76), some (.int l1), some (.int l2), some (.int s0)], [.int s0, .ref 78], w)) rfl).trans ?_
    refine (val_bal rfl (hW.k 78 (Nat.le_of_ble_eq_true rfl) (Nat.le_of_ble_eq_true rfl)) rfl (hy1 hc352)).trans ?_
    show val (61, d + 2, 19, [some (.ref 76), some (.int l1), some (.int l2), some (.int s0)], [.int (gI w 78 (s0).toNatClampNeg)], w) = _
    by_cases hc353 : (gI w 78 (s0).toNatClampNeg) = 0
    · refine ((val_if_eq rfl).trans (if_pos hc353)).trans ?_
      show val (61, d + 2, 26, [some (.ref 76), some (.int l1), some (.int l2), some (.int s0)], [], w) = _
      refine Eq.trans ?_ (if_pos hc353).symm
      refine (val_g (c2 := (61, d + 2, 27, [some (.ref 76), some (.int l1), some (.int l2), some (.int s0)], [.int 0], w)) rfl).trans ?_
      exact val_r rfl
    · refine ((val_if_eq rfl).trans (if_neg hc353)).trans ?_
      show val (61, d + 2, 22, [some (.ref 76), some (.int l1), some (.int l2), some (.int s0)], [], w) = _
      refine Eq.trans ?_ (if_neg hc353).symm
      refine (val_g (c2 := (61, d + 2, 23, [some (.ref 76), some (.int l1), some (.int l2), some (.int s0)], [.int 1], w)) rfl).trans ?_
      refine (val_g (c2 := (61, d + 2, 27, [some (.ref 76), some (.int l1), some (.int l2), some (.int s0)], [.int 1], w)) rfl).trans ?_
      exact val_r rfl
/-- BelfryHouse$Group.include(II)V -/
theorem tr_62 (d : Nat) (w : Wd) (x0 : Int32) (x1 : Int32)     : val (62, d + 2, 0, [some (.ref 76), some (.int x0), some (.int x1), none], [], w) = val (62, d + 2, 2, [some (.ref 76), some (.int x0), some (.int x1), none], [.int x1, .int x0], w) := by
  refine (val_g (c2 := (62, d + 2, 1, [some (.ref 76), some (.int x0), some (.int x1), none], [.int x0], w)) rfl).trans ?_
  refine (val_g (c2 := (62, d + 2, 2, [some (.ref 76), some (.int x0), some (.int x1), none], [.int x1, .int x0], w)) rfl).trans ?_
  rfl
theorem tr_62_5 (d : Nat) (w : Wd) (hW : Fix w) (l1 : Int32) (l2 : Int32) (s0 : Int32)    (hy1 : (¬ (720 ≤ s0)) → (¬ (720 ≤ (gI w 76 4))) → inB s0 720 = true) (hy2 : (¬ (720 ≤ s0)) → (¬ (720 ≤ (gI w 76 4))) → ((gI w 78 (s0).toNatClampNeg) = 0) → inB s0 720 = true) (hy3 : (¬ (720 ≤ s0)) → (¬ (720 ≤ (gI w 76 4))) → ((gI w 78 (s0).toNatClampNeg) = 0) → inB ((gI ((sI w 78 (s0).toNatClampNeg ((vp_nar .boolean 1)))) 76 4)) 720 = true) : val (62, d + 2, 5, [some (.ref 76), some (.int l1), some (.int l2), none], [.int s0], w) = (if 720 ≤ s0 then some (none, w) else (if 720 ≤ (gI w 76 4) then some (none, w) else (if (gI w 78 (s0).toNatClampNeg) = 0 then some (none, (sI ((sI ((sI w 78 (s0).toNatClampNeg ((vp_nar .boolean 1)))) 76 4 (((gI ((sI w 78 (s0).toNatClampNeg ((vp_nar .boolean 1)))) 76 4) + 1)))) 77 ((gI ((sI w 78 (s0).toNatClampNeg ((vp_nar .boolean 1)))) 76 4)).toNatClampNeg l2)) else some (none, w)))) := by
  refine (val_g (c2 := (62, d + 2, 6, [some (.ref 76), some (.int l1), some (.int l2), some (.int s0)], [], w)) rfl).trans ?_
  refine (val_g (c2 := (62, d + 2, 7, [some (.ref 76), some (.int l1), some (.int l2), some (.int s0)], [.int s0], w)) rfl).trans ?_
  refine (val_g (c2 := (62, d + 2, 10, [some (.ref 76), some (.int l1), some (.int l2), some (.int s0)], [.int 720, .int s0], w)) rfl).trans ?_
  by_cases hc357 : 720 ≤ s0
  · refine ((val_ic_ge rfl).trans (if_pos hc357)).trans ?_
    show val (62, d + 2, 32, [some (.ref 76), some (.int l1), some (.int l2), some (.int s0)], [], w) = _
    refine Eq.trans ?_ (if_pos hc357).symm
    exact val_r rfl
  · refine ((val_ic_ge rfl).trans (if_neg hc357)).trans ?_
    show val (62, d + 2, 13, [some (.ref 76), some (.int l1), some (.int l2), some (.int s0)], [], w) = _
    refine Eq.trans ?_ (if_neg hc357).symm
    refine (val_g (c2 := (62, d + 2, 14, [some (.ref 76), some (.int l1), some (.int l2), some (.int s0)], [.ref 76], w)) rfl).trans ?_
    refine (val_gf rfl (hW.k 76 (Nat.le_of_ble_eq_true rfl) (Nat.le_of_ble_eq_true rfl)) rfl).trans ?_
    show val (62, d + 2, 17, [some (.ref 76), some (.int l1), some (.int l2), some (.int s0)], [.int (gI w 76 4)], w) = _
    refine (val_g (c2 := (62, d + 2, 20, [some (.ref 76), some (.int l1), some (.int l2), some (.int s0)], [.int 720, .int (gI w 76 4)], w)) rfl).trans ?_
    by_cases hc358 : 720 ≤ (gI w 76 4)
    · refine ((val_ic_ge rfl).trans (if_pos hc358)).trans ?_
      show val (62, d + 2, 32, [some (.ref 76), some (.int l1), some (.int l2), some (.int s0)], [], w) = _
      refine Eq.trans ?_ (if_pos hc358).symm
      exact val_r rfl
    · refine ((val_ic_ge rfl).trans (if_neg hc358)).trans ?_
      show val (62, d + 2, 23, [some (.ref 76), some (.int l1), some (.int l2), some (.int s0)], [], w) = _
      refine Eq.trans ?_ (if_neg hc358).symm
      refine (val_g (c2 := (62, d + 2, 24, [some (.ref 76), some (.int l1), some (.int l2), some (.int s0)], [.ref 76], w)) rfl).trans ?_
      refine (val_gf rfl (hW.k 76 (Nat.le_of_ble_eq_true rfl) (Nat.le_of_ble_eq_true rfl)) (fvR (hW.r 76 1 78 rfl))).trans ?_
      show val (62, d + 2, 27, [some (.ref 76), some (.int l1), some (.int l2), some (.int s0)], [.ref 78], w) = _
      refine (val_g (c2 := (62, d + 2, 28, [some (.ref 76), some (.int l1), some (.int l2), some (.int s0)], [.int s0, .ref 78], w)) rfl).trans ?_
      refine (val_bal rfl (hW.k 78 (Nat.le_of_ble_eq_true rfl) (Nat.le_of_ble_eq_true rfl)) rfl (hy1 hc357 hc358)).trans ?_
      show val (62, d + 2, 29, [some (.ref 76), some (.int l1), some (.int l2), some (.int s0)], [.int (gI w 78 (s0).toNatClampNeg)], w) = _
      by_cases hc359 : (gI w 78 (s0).toNatClampNeg) = 0
      · refine ((val_if_eq rfl).trans (if_pos hc359)).trans ?_
        show val (62, d + 2, 33, [some (.ref 76), some (.int l1), some (.int l2), some (.int s0)], [], w) = _
        refine Eq.trans ?_ (if_pos hc359).symm
        refine (val_g (c2 := (62, d + 2, 34, [some (.ref 76), some (.int l1), some (.int l2), some (.int s0)], [.ref 76], w)) rfl).trans ?_
        refine (val_gf rfl (hW.k 76 (Nat.le_of_ble_eq_true rfl) (Nat.le_of_ble_eq_true rfl)) (fvR (hW.r 76 1 78 rfl))).trans ?_
        show val (62, d + 2, 37, [some (.ref 76), some (.int l1), some (.int l2), some (.int s0)], [.ref 78], w) = _
        refine (val_g (c2 := (62, d + 2, 38, [some (.ref 76), some (.int l1), some (.int l2), some (.int s0)], [.int s0, .ref 78], w)) rfl).trans ?_
        refine (val_g (c2 := (62, d + 2, 39, [some (.ref 76), some (.int l1), some (.int l2), some (.int s0)], [.int 1, .int s0, .ref 78], w)) rfl).trans ?_
        refine (val_basZ rfl (hW.k 78 (Nat.le_of_ble_eq_true rfl) (Nat.le_of_ble_eq_true rfl)) (hy2 hc357 hc358 hc359)).trans ?_
        show val (62, d + 2, 40, [some (.ref 76), some (.int l1), some (.int l2), some (.int s0)], [], (sI w 78 (s0).toNatClampNeg ((vp_nar .boolean 1)))) = _
        refine (val_g (c2 := (62, d + 2, 41, [some (.ref 76), some (.int l1), some (.int l2), some (.int s0)], [.ref 76], (sI w 78 (s0).toNatClampNeg ((vp_nar .boolean 1))))) rfl).trans ?_
        refine (val_gf (w := (sI w 78 (s0).toNatClampNeg ((vp_nar .boolean 1)))) rfl (hW.k 76 (Nat.le_of_ble_eq_true rfl) (Nat.le_of_ble_eq_true rfl)) (fvR (hW.r 76 0 77 rfl))).trans ?_
        show val (62, d + 2, 44, [some (.ref 76), some (.int l1), some (.int l2), some (.int s0)], [.ref 77], (sI w 78 (s0).toNatClampNeg ((vp_nar .boolean 1)))) = _
        refine (val_g (c2 := (62, d + 2, 45, [some (.ref 76), some (.int l1), some (.int l2), some (.int s0)], [.ref 76, .ref 77], (sI w 78 (s0).toNatClampNeg ((vp_nar .boolean 1))))) rfl).trans ?_
        refine (val_g (c2 := (62, d + 2, 46, [some (.ref 76), some (.int l1), some (.int l2), some (.int s0)], [.ref 76, .ref 76, .ref 77], (sI w 78 (s0).toNatClampNeg ((vp_nar .boolean 1))))) rfl).trans ?_
        refine (val_gf (w := (sI w 78 (s0).toNatClampNeg ((vp_nar .boolean 1)))) rfl (hW.k 76 (Nat.le_of_ble_eq_true rfl) (Nat.le_of_ble_eq_true rfl)) rfl).trans ?_
        show val (62, d + 2, 49, [some (.ref 76), some (.int l1), some (.int l2), some (.int s0)], [.int (gI ((sI w 78 (s0).toNatClampNeg ((vp_nar .boolean 1)))) 76 4), .ref 76, .ref 77], (sI w 78 (s0).toNatClampNeg ((vp_nar .boolean 1)))) = _
        refine (val_g (c2 := (62, d + 2, 50, [some (.ref 76), some (.int l1), some (.int l2), some (.int s0)], [.int (gI ((sI w 78 (s0).toNatClampNeg ((vp_nar .boolean 1)))) 76 4), .ref 76, .int (gI ((sI w 78 (s0).toNatClampNeg ((vp_nar .boolean 1)))) 76 4), .ref 77], (sI w 78 (s0).toNatClampNeg ((vp_nar .boolean 1))))) rfl).trans ?_
        refine (val_g (c2 := (62, d + 2, 51, [some (.ref 76), some (.int l1), some (.int l2), some (.int s0)], [.int 1, .int (gI ((sI w 78 (s0).toNatClampNeg ((vp_nar .boolean 1)))) 76 4), .ref 76, .int (gI ((sI w 78 (s0).toNatClampNeg ((vp_nar .boolean 1)))) 76 4), .ref 77], (sI w 78 (s0).toNatClampNeg ((vp_nar .boolean 1))))) rfl).trans ?_
        refine (val_g (c2 := (62, d + 2, 52, [some (.ref 76), some (.int l1), some (.int l2), some (.int s0)], [.int ((gI ((sI w 78 (s0).toNatClampNeg ((vp_nar .boolean 1)))) 76 4) + 1), .ref 76, .int (gI ((sI w 78 (s0).toNatClampNeg ((vp_nar .boolean 1)))) 76 4), .ref 77], (sI w 78 (s0).toNatClampNeg ((vp_nar .boolean 1))))) rfl).trans ?_
        refine (val_pf (w := (sI w 78 (s0).toNatClampNeg ((vp_nar .boolean 1)))) rfl (hW.k 76 (Nat.le_of_ble_eq_true rfl) (Nat.le_of_ble_eq_true rfl)) rfl).trans ?_
        show val (62, d + 2, 55, [some (.ref 76), some (.int l1), some (.int l2), some (.int s0)], [.int (gI ((sI w 78 (s0).toNatClampNeg ((vp_nar .boolean 1)))) 76 4), .ref 77], (sI ((sI w 78 (s0).toNatClampNeg ((vp_nar .boolean 1)))) 76 4 (((gI ((sI w 78 (s0).toNatClampNeg ((vp_nar .boolean 1)))) 76 4) + 1)))) = _
        refine (val_g (c2 := (62, d + 2, 56, [some (.ref 76), some (.int l1), some (.int l2), some (.int s0)], [.int l2, .int (gI ((sI w 78 (s0).toNatClampNeg ((vp_nar .boolean 1)))) 76 4), .ref 77], (sI ((sI w 78 (s0).toNatClampNeg ((vp_nar .boolean 1)))) 76 4 (((gI ((sI w 78 (s0).toNatClampNeg ((vp_nar .boolean 1)))) 76 4) + 1))))) rfl).trans ?_
        refine (val_ias (w := (sI ((sI w 78 (s0).toNatClampNeg ((vp_nar .boolean 1)))) 76 4 (((gI ((sI w 78 (s0).toNatClampNeg ((vp_nar .boolean 1)))) 76 4) + 1)))) rfl (hW.k 77 (Nat.le_of_ble_eq_true rfl) (Nat.le_of_ble_eq_true rfl)) (hy3 hc357 hc358 hc359)).trans ?_
        show val (62, d + 2, 57, [some (.ref 76), some (.int l1), some (.int l2), some (.int s0)], [], (sI ((sI ((sI w 78 (s0).toNatClampNeg ((vp_nar .boolean 1)))) 76 4 (((gI ((sI w 78 (s0).toNatClampNeg ((vp_nar .boolean 1)))) 76 4) + 1)))) 77 ((gI ((sI w 78 (s0).toNatClampNeg ((vp_nar .boolean 1)))) 76 4)).toNatClampNeg l2)) = _
        exact val_r rfl
      · refine ((val_if_eq rfl).trans (if_neg hc359)).trans ?_
        show val (62, d + 2, 32, [some (.ref 76), some (.int l1), some (.int l2), some (.int s0)], [], w) = _
        refine Eq.trans ?_ (if_neg hc359).symm
        exact val_r rfl
/-- BelfryHouse$Group.(lets in)(II)V -/
theorem tr_63 (d : Nat) (w : Wd) (hW : Fix w) (x0 : Int32) (x1 : Int32)     : val (63, d + 4, 0, [some (.ref 76), some (.int x0), some (.int x1)], [], w) = val (63, d + 4, 13, [some (.ref 76), some (.int x0), some (.int x1)], [.int x1, .int x0, .ref 76], (sI w 76 5 (((gI w 76 5) + 1)))) := by
  refine (val_g (c2 := (63, d + 4, 1, [some (.ref 76), some (.int x0), some (.int x1)], [.ref 76], w)) rfl).trans ?_
  refine (val_g (c2 := (63, d + 4, 2, [some (.ref 76), some (.int x0), some (.int x1)], [.ref 76, .ref 76], w)) rfl).trans ?_
  refine (val_gf rfl (hW.k 76 (Nat.le_of_ble_eq_true rfl) (Nat.le_of_ble_eq_true rfl)) rfl).trans ?_
  show val (63, d + 4, 5, [some (.ref 76), some (.int x0), some (.int x1)], [.int (gI w 76 5), .ref 76], w) = _
  refine (val_g (c2 := (63, d + 4, 6, [some (.ref 76), some (.int x0), some (.int x1)], [.int 1, .int (gI w 76 5), .ref 76], w)) rfl).trans ?_
  refine (val_g (c2 := (63, d + 4, 7, [some (.ref 76), some (.int x0), some (.int x1)], [.int ((gI w 76 5) + 1), .ref 76], w)) rfl).trans ?_
  refine (val_pf rfl (hW.k 76 (Nat.le_of_ble_eq_true rfl) (Nat.le_of_ble_eq_true rfl)) rfl).trans ?_
  show val (63, d + 4, 10, [some (.ref 76), some (.int x0), some (.int x1)], [], (sI w 76 5 (((gI w 76 5) + 1)))) = _
  refine (val_g (c2 := (63, d + 4, 11, [some (.ref 76), some (.int x0), some (.int x1)], [.ref 76], (sI w 76 5 (((gI w 76 5) + 1))))) rfl).trans ?_
  refine (val_g (c2 := (63, d + 4, 12, [some (.ref 76), some (.int x0), some (.int x1)], [.int x0, .ref 76], (sI w 76 5 (((gI w 76 5) + 1))))) rfl).trans ?_
  refine (val_g (c2 := (63, d + 4, 13, [some (.ref 76), some (.int x0), some (.int x1)], [.int x1, .int x0, .ref 76], (sI w 76 5 (((gI w 76 5) + 1))))) rfl).trans ?_
  rfl
theorem tr_63_16 (d : Nat) (w : Wd) (hW : Fix w) (l1 : Int32) (l2 : Int32) (s0 : Int32)    (hy1 : (¬ (¬ s0 = 0)) → ((gI w 76 3) < 6) → inB ((gI w 76 3)) 6 = true) : val (63, d + 4, 16, [some (.ref 76), some (.int l1), some (.int l2)], [.int s0], w) = (if ¬ s0 = 0 then some (none, w) else (if (gI w 76 3) < 6 then val (63, d + 4, 48, [some (.ref 76), some (.int l1), some (.int l2)], [.int l1, .ref 76], (sI ((sI w 76 3 (((gI w 76 3) + 1)))) 79 ((gI w 76 3)).toNatClampNeg l2)) else some (none, w))) := by
  by_cases hc362 : ¬ s0 = 0
  · refine ((val_if_ne rfl).trans (if_pos hc362)).trans ?_
    show val (63, d + 4, 28, [some (.ref 76), some (.int l1), some (.int l2)], [], w) = _
    refine Eq.trans ?_ (if_pos hc362).symm
    exact val_r rfl
  · refine ((val_if_ne rfl).trans (if_neg hc362)).trans ?_
    show val (63, d + 4, 19, [some (.ref 76), some (.int l1), some (.int l2)], [], w) = _
    refine Eq.trans ?_ (if_neg hc362).symm
    refine (val_g (c2 := (63, d + 4, 20, [some (.ref 76), some (.int l1), some (.int l2)], [.ref 76], w)) rfl).trans ?_
    refine (val_gf rfl (hW.k 76 (Nat.le_of_ble_eq_true rfl) (Nat.le_of_ble_eq_true rfl)) rfl).trans ?_
    show val (63, d + 4, 23, [some (.ref 76), some (.int l1), some (.int l2)], [.int (gI w 76 3)], w) = _
    refine (val_g (c2 := (63, d + 4, 25, [some (.ref 76), some (.int l1), some (.int l2)], [.int 6, .int (gI w 76 3)], w)) rfl).trans ?_
    by_cases hc363 : (gI w 76 3) < 6
    · refine ((val_ic_lt rfl).trans (if_pos hc363)).trans ?_
      show val (63, d + 4, 29, [some (.ref 76), some (.int l1), some (.int l2)], [], w) = _
      refine Eq.trans ?_ (if_pos hc363).symm
      refine (val_g (c2 := (63, d + 4, 30, [some (.ref 76), some (.int l1), some (.int l2)], [.ref 76], w)) rfl).trans ?_
      refine (val_gf rfl (hW.k 76 (Nat.le_of_ble_eq_true rfl) (Nat.le_of_ble_eq_true rfl)) (fvR (hW.r 76 2 79 rfl))).trans ?_
      show val (63, d + 4, 33, [some (.ref 76), some (.int l1), some (.int l2)], [.ref 79], w) = _
      refine (val_g (c2 := (63, d + 4, 34, [some (.ref 76), some (.int l1), some (.int l2)], [.ref 76, .ref 79], w)) rfl).trans ?_
      refine (val_g (c2 := (63, d + 4, 35, [some (.ref 76), some (.int l1), some (.int l2)], [.ref 76, .ref 76, .ref 79], w)) rfl).trans ?_
      refine (val_gf rfl (hW.k 76 (Nat.le_of_ble_eq_true rfl) (Nat.le_of_ble_eq_true rfl)) rfl).trans ?_
      show val (63, d + 4, 38, [some (.ref 76), some (.int l1), some (.int l2)], [.int (gI w 76 3), .ref 76, .ref 79], w) = _
      refine (val_g (c2 := (63, d + 4, 39, [some (.ref 76), some (.int l1), some (.int l2)], [.int (gI w 76 3), .ref 76, .int (gI w 76 3), .ref 79], w)) rfl).trans ?_
      refine (val_g (c2 := (63, d + 4, 40, [some (.ref 76), some (.int l1), some (.int l2)], [.int 1, .int (gI w 76 3), .ref 76, .int (gI w 76 3), .ref 79], w)) rfl).trans ?_
      refine (val_g (c2 := (63, d + 4, 41, [some (.ref 76), some (.int l1), some (.int l2)], [.int ((gI w 76 3) + 1), .ref 76, .int (gI w 76 3), .ref 79], w)) rfl).trans ?_
      refine (val_pf rfl (hW.k 76 (Nat.le_of_ble_eq_true rfl) (Nat.le_of_ble_eq_true rfl)) rfl).trans ?_
      show val (63, d + 4, 44, [some (.ref 76), some (.int l1), some (.int l2)], [.int (gI w 76 3), .ref 79], (sI w 76 3 (((gI w 76 3) + 1)))) = _
      refine (val_g (c2 := (63, d + 4, 45, [some (.ref 76), some (.int l1), some (.int l2)], [.int l2, .int (gI w 76 3), .ref 79], (sI w 76 3 (((gI w 76 3) + 1))))) rfl).trans ?_
      refine (val_ias (w := (sI w 76 3 (((gI w 76 3) + 1)))) rfl (hW.k 79 (Nat.le_of_ble_eq_true rfl) (Nat.le_of_ble_eq_true rfl)) (hy1 hc362 hc363)).trans ?_
      show val (63, d + 4, 46, [some (.ref 76), some (.int l1), some (.int l2)], [], (sI ((sI w 76 3 (((gI w 76 3) + 1)))) 79 ((gI w 76 3)).toNatClampNeg l2)) = _
      refine (val_g (c2 := (63, d + 4, 47, [some (.ref 76), some (.int l1), some (.int l2)], [.ref 76], (sI ((sI w 76 3 (((gI w 76 3) + 1)))) 79 ((gI w 76 3)).toNatClampNeg l2))) rfl).trans ?_
      refine (val_g (c2 := (63, d + 4, 48, [some (.ref 76), some (.int l1), some (.int l2)], [.int l1, .ref 76], (sI ((sI w 76 3 (((gI w 76 3) + 1)))) 79 ((gI w 76 3)).toNatClampNeg l2))) rfl).trans ?_
      rfl
    · refine ((val_ic_lt rfl).trans (if_neg hc363)).trans ?_
      show val (63, d + 4, 28, [some (.ref 76), some (.int l1), some (.int l2)], [], w) = _
      refine Eq.trans ?_ (if_neg hc363).symm
      exact val_r rfl
theorem tr_63_51 (d : Nat) (w : Wd) (l1 : Int32) (l2 : Int32)     : val (63, d + 4, 51, [some (.ref 76), some (.int l1), some (.int l2)], [], w) = some (none, w) := by
  exact val_r rfl
/-- BelfryHouse$Group.close(I)V -/
theorem tr_64 (d : Nat) (w : Wd) (x0 : Int32)     : val (64, d + 3, 0, [some (.ref 76), some (.int x0), none, none], [], w) = val (64, d + 3, 2, [some (.ref 76), some (.int x0), some (.int 0), none], [], w) := by
  refine (val_g (c2 := (64, d + 3, 1, [some (.ref 76), some (.int x0), none, none], [.int 0], w)) rfl).trans ?_
  refine (val_g (c2 := (64, d + 3, 2, [some (.ref 76), some (.int x0), some (.int 0), none], [], w)) rfl).trans ?_
  rfl
theorem tr_64_2 (d : Nat) (w : Wd) (hW : Fix w) (l1 : Int32) (l2 : Int32)    (hy1 : (¬ (720 ≤ l2)) → inB l2 720 = true) : val (64, d + 3, 2, [some (.ref 76), some (.int l1), some (.int l2), none], [], w) = (if 720 ≤ l2 then val (64, d + 3, 30, [some (.ref 76), some (.int l1), some (.int l2), none], [.int l1, .int l1, .ref 76], (sI w 76 4 0)) else val (64, d + 3, 2, [some (.ref 76), some (.int l1), some (.int (l2 + 1)), none], [], (sI w 78 (l2).toNatClampNeg ((vp_nar .boolean 0))))) := by
  refine (val_g (c2 := (64, d + 3, 3, [some (.ref 76), some (.int l1), some (.int l2), none], [.int l2], w)) rfl).trans ?_
  refine (val_g (c2 := (64, d + 3, 6, [some (.ref 76), some (.int l1), some (.int l2), none], [.int 720, .int l2], w)) rfl).trans ?_
  by_cases hc370 : 720 ≤ l2
  · refine ((val_ic_ge rfl).trans (if_pos hc370)).trans ?_
    show val (64, d + 3, 22, [some (.ref 76), some (.int l1), some (.int l2), none], [], w) = _
    refine Eq.trans ?_ (if_pos hc370).symm
    refine (val_g (c2 := (64, d + 3, 23, [some (.ref 76), some (.int l1), some (.int l2), none], [.ref 76], w)) rfl).trans ?_
    refine (val_g (c2 := (64, d + 3, 24, [some (.ref 76), some (.int l1), some (.int l2), none], [.int 0, .ref 76], w)) rfl).trans ?_
    refine (val_pf rfl (hW.k 76 (Nat.le_of_ble_eq_true rfl) (Nat.le_of_ble_eq_true rfl)) rfl).trans ?_
    show val (64, d + 3, 27, [some (.ref 76), some (.int l1), some (.int l2), none], [], (sI w 76 4 0)) = _
    refine (val_g (c2 := (64, d + 3, 28, [some (.ref 76), some (.int l1), some (.int l2), none], [.ref 76], (sI w 76 4 0))) rfl).trans ?_
    refine (val_g (c2 := (64, d + 3, 29, [some (.ref 76), some (.int l1), some (.int l2), none], [.int l1, .ref 76], (sI w 76 4 0))) rfl).trans ?_
    refine (val_g (c2 := (64, d + 3, 30, [some (.ref 76), some (.int l1), some (.int l2), none], [.int l1, .int l1, .ref 76], (sI w 76 4 0))) rfl).trans ?_
    rfl
  · refine ((val_ic_ge rfl).trans (if_neg hc370)).trans ?_
    show val (64, d + 3, 9, [some (.ref 76), some (.int l1), some (.int l2), none], [], w) = _
    refine Eq.trans ?_ (if_neg hc370).symm
    refine (val_g (c2 := (64, d + 3, 10, [some (.ref 76), some (.int l1), some (.int l2), none], [.ref 76], w)) rfl).trans ?_
    refine (val_gf rfl (hW.k 76 (Nat.le_of_ble_eq_true rfl) (Nat.le_of_ble_eq_true rfl)) (fvR (hW.r 76 1 78 rfl))).trans ?_
    show val (64, d + 3, 13, [some (.ref 76), some (.int l1), some (.int l2), none], [.ref 78], w) = _
    refine (val_g (c2 := (64, d + 3, 14, [some (.ref 76), some (.int l1), some (.int l2), none], [.int l2, .ref 78], w)) rfl).trans ?_
    refine (val_g (c2 := (64, d + 3, 15, [some (.ref 76), some (.int l1), some (.int l2), none], [.int 0, .int l2, .ref 78], w)) rfl).trans ?_
    refine (val_basZ rfl (hW.k 78 (Nat.le_of_ble_eq_true rfl) (Nat.le_of_ble_eq_true rfl)) (hy1 hc370)).trans ?_
    show val (64, d + 3, 16, [some (.ref 76), some (.int l1), some (.int l2), none], [], (sI w 78 (l2).toNatClampNeg ((vp_nar .boolean 0)))) = _
    refine (val_g (c2 := (64, d + 3, 19, [some (.ref 76), some (.int l1), some (.int (l2 + 1)), none], [], (sI w 78 (l2).toNatClampNeg ((vp_nar .boolean 0))))) rfl).trans ?_
    refine (val_g (c2 := (64, d + 3, 2, [some (.ref 76), some (.int l1), some (.int (l2 + 1)), none], [], (sI w 78 (l2).toNatClampNeg ((vp_nar .boolean 0))))) rfl).trans ?_
    rfl
theorem tr_64_36 (d : Nat) (w : Wd) (l1 : Int32) (l2 : Int32)     : val (64, d + 3, 36, [some (.ref 76), some (.int l1), some (.int l2), none], [], w) = val (64, d + 3, 38, [some (.ref 76), some (.int l1), some (.int 0), none], [], w) := by
  refine (val_g (c2 := (64, d + 3, 37, [some (.ref 76), some (.int l1), some (.int l2), none], [.int 0], w)) rfl).trans ?_
  refine (val_g (c2 := (64, d + 3, 38, [some (.ref 76), some (.int l1), some (.int 0), none], [], w)) rfl).trans ?_
  rfl
theorem tr_64_38 (d : Nat) (w : Wd) (hW : Fix w) (l1 : Int32) (l2 : Int32) (l3 : Option Value)    : val (64, d + 3, 38, [some (.ref 76), some (.int l1), some (.int l2), l3], [], w) = (if (gI w 76 4) ≤ l2 then some (none, w) else (if 720 ≤ l2 then some (none, w) else val (64, d + 3, 55, [some (.ref 76), some (.int l1), some (.int l2), some (.int 0)], [], w))) := by
  refine (val_g (c2 := (64, d + 3, 39, [some (.ref 76), some (.int l1), some (.int l2), l3], [.int l2], w)) rfl).trans ?_
  refine (val_g (c2 := (64, d + 3, 40, [some (.ref 76), some (.int l1), some (.int l2), l3], [.ref 76, .int l2], w)) rfl).trans ?_
  refine (val_gf rfl (hW.k 76 (Nat.le_of_ble_eq_true rfl) (Nat.le_of_ble_eq_true rfl)) rfl).trans ?_
  show val (64, d + 3, 43, [some (.ref 76), some (.int l1), some (.int l2), l3], [.int (gI w 76 4), .int l2], w) = _
  by_cases hc371 : (gI w 76 4) ≤ l2
  · refine ((val_ic_ge rfl).trans (if_pos hc371)).trans ?_
    show val (64, d + 3, 96, [some (.ref 76), some (.int l1), some (.int l2), l3], [], w) = _
    refine Eq.trans ?_ (if_pos hc371).symm
    exact val_r rfl
  · refine ((val_ic_ge rfl).trans (if_neg hc371)).trans ?_
    show val (64, d + 3, 46, [some (.ref 76), some (.int l1), some (.int l2), l3], [], w) = _
    refine Eq.trans ?_ (if_neg hc371).symm
    refine (val_g (c2 := (64, d + 3, 47, [some (.ref 76), some (.int l1), some (.int l2), l3], [.int l2], w)) rfl).trans ?_
    refine (val_g (c2 := (64, d + 3, 50, [some (.ref 76), some (.int l1), some (.int l2), l3], [.int 720, .int l2], w)) rfl).trans ?_
    by_cases hc372 : 720 ≤ l2
    · refine ((val_ic_ge rfl).trans (if_pos hc372)).trans ?_
      show val (64, d + 3, 96, [some (.ref 76), some (.int l1), some (.int l2), l3], [], w) = _
      refine Eq.trans ?_ (if_pos hc372).symm
      exact val_r rfl
    · refine ((val_ic_ge rfl).trans (if_neg hc372)).trans ?_
      show val (64, d + 3, 53, [some (.ref 76), some (.int l1), some (.int l2), l3], [], w) = _
      refine Eq.trans ?_ (if_neg hc372).symm
      refine (val_g (c2 := (64, d + 3, 54, [some (.ref 76), some (.int l1), some (.int l2), l3], [.int 0], w)) rfl).trans ?_
      refine (val_g (c2 := (64, d + 3, 55, [some (.ref 76), some (.int l1), some (.int l2), some (.int 0)], [], w)) rfl).trans ?_
      rfl
theorem tr_64_55 (d : Nat) (w : Wd) (hW : Fix w) (l1 : Int32) (l2 : Int32) (l3 : Int32)    (hy1 : (¬ ((gI w 76 3) ≤ l3)) → inB l2 720 = true) (hy2 : (¬ ((gI w 76 3) ≤ l3)) → inB l3 6 = true) : val (64, d + 3, 55, [some (.ref 76), some (.int l1), some (.int l2), some (.int l3)], [], w) = (if (gI w 76 3) ≤ l3 then val (64, d + 3, 38, [some (.ref 76), some (.int l1), some (.int (l2 + 1)), some (.int l3)], [], w) else val (64, d + 3, 78, [some (.ref 76), some (.int l1), some (.int l2), some (.int l3)], [.int (gI w 79 (l3).toNatClampNeg), .int (gI w 77 (l2).toNatClampNeg), .int l1, .int l1, .ref 76], w)) := by
  refine (val_g (c2 := (64, d + 3, 56, [some (.ref 76), some (.int l1), some (.int l2), some (.int l3)], [.int l3], w)) rfl).trans ?_
  refine (val_g (c2 := (64, d + 3, 57, [some (.ref 76), some (.int l1), some (.int l2), some (.int l3)], [.ref 76, .int l3], w)) rfl).trans ?_
  refine (val_gf rfl (hW.k 76 (Nat.le_of_ble_eq_true rfl) (Nat.le_of_ble_eq_true rfl)) rfl).trans ?_
  show val (64, d + 3, 60, [some (.ref 76), some (.int l1), some (.int l2), some (.int l3)], [.int (gI w 76 3), .int l3], w) = _
  by_cases hc373 : (gI w 76 3) ≤ l3
  · refine ((val_ic_ge rfl).trans (if_pos hc373)).trans ?_
    show val (64, d + 3, 90, [some (.ref 76), some (.int l1), some (.int l2), some (.int l3)], [], w) = _
    refine Eq.trans ?_ (if_pos hc373).symm
    refine (val_g (c2 := (64, d + 3, 93, [some (.ref 76), some (.int l1), some (.int (l2 + 1)), some (.int l3)], [], w)) rfl).trans ?_
    refine (val_g (c2 := (64, d + 3, 38, [some (.ref 76), some (.int l1), some (.int (l2 + 1)), some (.int l3)], [], w)) rfl).trans ?_
    rfl
  · refine ((val_ic_ge rfl).trans (if_neg hc373)).trans ?_
    show val (64, d + 3, 63, [some (.ref 76), some (.int l1), some (.int l2), some (.int l3)], [], w) = _
    refine Eq.trans ?_ (if_neg hc373).symm
    refine (val_g (c2 := (64, d + 3, 64, [some (.ref 76), some (.int l1), some (.int l2), some (.int l3)], [.ref 76], w)) rfl).trans ?_
    refine (val_g (c2 := (64, d + 3, 65, [some (.ref 76), some (.int l1), some (.int l2), some (.int l3)], [.int l1, .ref 76], w)) rfl).trans ?_
    refine (val_g (c2 := (64, d + 3, 66, [some (.ref 76), some (.int l1), some (.int l2), some (.int l3)], [.int l1, .int l1, .ref 76], w)) rfl).trans ?_
    refine (val_g (c2 := (64, d + 3, 67, [some (.ref 76), some (.int l1), some (.int l2), some (.int l3)], [.ref 76, .int l1, .int l1, .ref 76], w)) rfl).trans ?_
    refine (val_gf rfl (hW.k 76 (Nat.le_of_ble_eq_true rfl) (Nat.le_of_ble_eq_true rfl)) (fvR (hW.r 76 0 77 rfl))).trans ?_
    show val (64, d + 3, 70, [some (.ref 76), some (.int l1), some (.int l2), some (.int l3)], [.ref 77, .int l1, .int l1, .ref 76], w) = _
    refine (val_g (c2 := (64, d + 3, 71, [some (.ref 76), some (.int l1), some (.int l2), some (.int l3)], [.int l2, .ref 77, .int l1, .int l1, .ref 76], w)) rfl).trans ?_
    refine (val_ial rfl (hW.k 77 (Nat.le_of_ble_eq_true rfl) (Nat.le_of_ble_eq_true rfl)) rfl (hy1 hc373)).trans ?_
    show val (64, d + 3, 72, [some (.ref 76), some (.int l1), some (.int l2), some (.int l3)], [.int (gI w 77 (l2).toNatClampNeg), .int l1, .int l1, .ref 76], w) = _
    refine (val_g (c2 := (64, d + 3, 73, [some (.ref 76), some (.int l1), some (.int l2), some (.int l3)], [.ref 76, .int (gI w 77 (l2).toNatClampNeg), .int l1, .int l1, .ref 76], w)) rfl).trans ?_
    refine (val_gf rfl (hW.k 76 (Nat.le_of_ble_eq_true rfl) (Nat.le_of_ble_eq_true rfl)) (fvR (hW.r 76 2 79 rfl))).trans ?_
    show val (64, d + 3, 76, [some (.ref 76), some (.int l1), some (.int l2), some (.int l3)], [.ref 79, .int (gI w 77 (l2).toNatClampNeg), .int l1, .int l1, .ref 76], w) = _
    refine (val_g (c2 := (64, d + 3, 77, [some (.ref 76), some (.int l1), some (.int l2), some (.int l3)], [.int l3, .ref 79, .int (gI w 77 (l2).toNatClampNeg), .int l1, .int l1, .ref 76], w)) rfl).trans ?_
    refine (val_ial rfl (hW.k 79 (Nat.le_of_ble_eq_true rfl) (Nat.le_of_ble_eq_true rfl)) rfl (hy2 hc373)).trans ?_
    show val (64, d + 3, 78, [some (.ref 76), some (.int l1), some (.int l2), some (.int l3)], [.int (gI w 79 (l3).toNatClampNeg), .int (gI w 77 (l2).toNatClampNeg), .int l1, .int l1, .ref 76], w) = _
    rfl
theorem tr_64_84 (d : Nat) (w : Wd) (l1 : Int32) (l2 : Int32) (l3 : Int32)     : val (64, d + 3, 84, [some (.ref 76), some (.int l1), some (.int l2), some (.int l3)], [], w) = val (64, d + 3, 55, [some (.ref 76), some (.int l1), some (.int l2), some (.int (l3 + 1))], [], w) := by
  refine (val_g (c2 := (64, d + 3, 87, [some (.ref 76), some (.int l1), some (.int l2), some (.int (l3 + 1))], [], w)) rfl).trans ?_
  refine (val_g (c2 := (64, d + 3, 55, [some (.ref 76), some (.int l1), some (.int l2), some (.int (l3 + 1))], [], w)) rfl).trans ?_
  rfl
/-- BelfryHouse$Group.leastWith(II)I -/
theorem tr_65 (d : Nat) (w : Wd) (x0 : Int32) (x1 : Int32)     : val (65, d + 2, 0, [some (.ref 76), some (.int x0), some (.int x1), none, none], [], w) = val (65, d + 2, 5, [some (.ref 76), some (.int x0), some (.int x1), some (.int x1), some (.int 0)], [], w) := by
  refine (val_g (c2 := (65, d + 2, 1, [some (.ref 76), some (.int x0), some (.int x1), none, none], [.int x1], w)) rfl).trans ?_
  refine (val_g (c2 := (65, d + 2, 2, [some (.ref 76), some (.int x0), some (.int x1), some (.int x1), none], [], w)) rfl).trans ?_
  refine (val_g (c2 := (65, d + 2, 3, [some (.ref 76), some (.int x0), some (.int x1), some (.int x1), none], [.int 0], w)) rfl).trans ?_
  refine (val_g (c2 := (65, d + 2, 5, [some (.ref 76), some (.int x0), some (.int x1), some (.int x1), some (.int 0)], [], w)) rfl).trans ?_
  rfl
theorem tr_65_5 (d : Nat) (w : Wd) (hW : Fix w) (l1 : Int32) (l2 : Int32) (l3 : Int32) (l4 : Int32)    (hy1 : (¬ ((gI w 76 4) ≤ l4)) → inB l4 720 = true) : val (65, d + 2, 5, [some (.ref 76), some (.int l1), some (.int l2), some (.int l3), some (.int l4)], [], w) = (if (gI w 76 4) ≤ l4 then some (some (.int l3), w) else val (65, d + 2, 24, [some (.ref 76), some (.int l1), some (.int l2), some (.int l3), some (.int l4)], [.int l2, .int (gI w 77 (l4).toNatClampNeg), .int l1, .int l3], w)) := by
  refine (val_g (c2 := (65, d + 2, 7, [some (.ref 76), some (.int l1), some (.int l2), some (.int l3), some (.int l4)], [.int l4], w)) rfl).trans ?_
  refine (val_g (c2 := (65, d + 2, 8, [some (.ref 76), some (.int l1), some (.int l2), some (.int l3), some (.int l4)], [.ref 76, .int l4], w)) rfl).trans ?_
  refine (val_gf rfl (hW.k 76 (Nat.le_of_ble_eq_true rfl) (Nat.le_of_ble_eq_true rfl)) rfl).trans ?_
  show val (65, d + 2, 11, [some (.ref 76), some (.int l1), some (.int l2), some (.int l3), some (.int l4)], [.int (gI w 76 4), .int l4], w) = _
  by_cases hc375 : (gI w 76 4) ≤ l4
  · refine ((val_ic_ge rfl).trans (if_pos hc375)).trans ?_
    show val (65, d + 2, 37, [some (.ref 76), some (.int l1), some (.int l2), some (.int l3), some (.int l4)], [], w) = _
    refine Eq.trans ?_ (if_pos hc375).symm
    refine (val_g (c2 := (65, d + 2, 38, [some (.ref 76), some (.int l1), some (.int l2), some (.int l3), some (.int l4)], [.int l3], w)) rfl).trans ?_
    exact val_r rfl
  · refine ((val_ic_ge rfl).trans (if_neg hc375)).trans ?_
    show val (65, d + 2, 14, [some (.ref 76), some (.int l1), some (.int l2), some (.int l3), some (.int l4)], [], w) = _
    refine Eq.trans ?_ (if_neg hc375).symm
    refine (val_g (c2 := (65, d + 2, 15, [some (.ref 76), some (.int l1), some (.int l2), some (.int l3), some (.int l4)], [.int l3], w)) rfl).trans ?_
    refine (val_g (c2 := (65, d + 2, 16, [some (.ref 76), some (.int l1), some (.int l2), some (.int l3), some (.int l4)], [.int l1, .int l3], w)) rfl).trans ?_
    refine (val_g (c2 := (65, d + 2, 17, [some (.ref 76), some (.int l1), some (.int l2), some (.int l3), some (.int l4)], [.ref 76, .int l1, .int l3], w)) rfl).trans ?_
    refine (val_gf rfl (hW.k 76 (Nat.le_of_ble_eq_true rfl) (Nat.le_of_ble_eq_true rfl)) (fvR (hW.r 76 0 77 rfl))).trans ?_
    show val (65, d + 2, 20, [some (.ref 76), some (.int l1), some (.int l2), some (.int l3), some (.int l4)], [.ref 77, .int l1, .int l3], w) = _
    refine (val_g (c2 := (65, d + 2, 22, [some (.ref 76), some (.int l1), some (.int l2), some (.int l3), some (.int l4)], [.int l4, .ref 77, .int l1, .int l3], w)) rfl).trans ?_
    refine (val_ial rfl (hW.k 77 (Nat.le_of_ble_eq_true rfl) (Nat.le_of_ble_eq_true rfl)) rfl (hy1 hc375)).trans ?_
    show val (65, d + 2, 23, [some (.ref 76), some (.int l1), some (.int l2), some (.int l3), some (.int l4)], [.int (gI w 77 (l4).toNatClampNeg), .int l1, .int l3], w) = _
    refine (val_g (c2 := (65, d + 2, 24, [some (.ref 76), some (.int l1), some (.int l2), some (.int l3), some (.int l4)], [.int l2, .int (gI w 77 (l4).toNatClampNeg), .int l1, .int l3], w)) rfl).trans ?_
    rfl
theorem tr_65_27 (d : Nat) (w : Wd) (l1 : Int32) (l2 : Int32) (l3 : Int32) (l4 : Int32) (s0 : Int32) (s1 : Int32)     : val (65, d + 2, 27, [some (.ref 76), some (.int l1), some (.int l2), some (.int l3), some (.int l4)], [.int s0, .int s1], w) = val (65, d + 2, 5, [some (.ref 76), some (.int l1), some (.int l2), some (.int (if s0 < s1 then s0 else s1)), some (.int (l4 + 1))], [], w) := by
  refine (val_g (c2 := (65, d + 2, 30, [some (.ref 76), some (.int l1), some (.int l2), some (.int l3), some (.int l4)], [.int (if s0 < s1 then s0 else s1)], w)) rfl).trans ?_
  refine (val_g (c2 := (65, d + 2, 31, [some (.ref 76), some (.int l1), some (.int l2), some (.int (if s0 < s1 then s0 else s1)), some (.int l4)], [], w)) rfl).trans ?_
  refine (val_g (c2 := (65, d + 2, 34, [some (.ref 76), some (.int l1), some (.int l2), some (.int (if s0 < s1 then s0 else s1)), some (.int (l4 + 1))], [], w)) rfl).trans ?_
  refine (val_g (c2 := (65, d + 2, 5, [some (.ref 76), some (.int l1), some (.int l2), some (.int (if s0 < s1 then s0 else s1)), some (.int (l4 + 1))], [], w)) rfl).trans ?_
  rfl
/-- BelfryHouse$Heads.<init>()V -/
theorem tr_66 (d : Nat) (w : Wd)      : val (66, d + 1, 0, [some (.ref 80)], [], w) = val (66, d + 1, 8, [some (.ref 80)], [.int 3600, .ref 80], w) := by
  refine (val_g (c2 := (66, d + 1, 1, [some (.ref 80)], [.ref 80], w)) rfl).trans ?_
  refine (val_g (c2 := (66, d + 1, 4, [some (.ref 80)], [], w)) rfl).trans ?_
  refine (val_g (c2 := (66, d + 1, 5, [some (.ref 80)], [.ref 80], w)) rfl).trans ?_
  refine (val_g (c2 := (66, d + 1, 8, [some (.ref 80)], [.int 3600, .ref 80], w)) rfl).trans ?_
  rfl
theorem tr_66_13 (d : Nat) (w : Wd) (hW : Fix w)      : val (66, d + 1, 13, [some (.ref 80)], [], w) = val (66, d + 1, 22, [some (.ref 80)], [.int 630, .ref 80], (sI w 80 1 0)) := by
  refine (val_g (c2 := (66, d + 1, 14, [some (.ref 80)], [.ref 80], w)) rfl).trans ?_
  refine (val_g (c2 := (66, d + 1, 15, [some (.ref 80)], [.int 0, .ref 80], w)) rfl).trans ?_
  refine (val_pf rfl (hW.k 80 (Nat.le_of_ble_eq_true rfl) (Nat.le_of_ble_eq_true rfl)) rfl).trans ?_
  show val (66, d + 1, 18, [some (.ref 80)], [], (sI w 80 1 0)) = _
  refine (val_g (c2 := (66, d + 1, 19, [some (.ref 80)], [.ref 80], (sI w 80 1 0))) rfl).trans ?_
  refine (val_g (c2 := (66, d + 1, 22, [some (.ref 80)], [.int 630, .ref 80], (sI w 80 1 0))) rfl).trans ?_
  rfl
theorem tr_66_27 (d : Nat) (w : Wd)      : val (66, d + 1, 27, [some (.ref 80)], [], w) = val (66, d + 1, 30, [some (.ref 80)], [.int 60, .ref 80], w) := by
  refine (val_g (c2 := (66, d + 1, 28, [some (.ref 80)], [.ref 80], w)) rfl).trans ?_
  refine (val_g (c2 := (66, d + 1, 30, [some (.ref 80)], [.int 60, .ref 80], w)) rfl).trans ?_
  rfl
theorem tr_66_35 (d : Nat) (w : Wd)      : val (66, d + 1, 35, [some (.ref 80)], [], w) = some (none, w) := by
  exact val_r rfl
/-- BelfryHouse$Heads.forget()V -/
theorem tr_67 (d : Nat) (w : Wd) (hW : Fix w)      : val (67, d, 0, [some (.ref 80)], [], w) = some (none, (sI w 80 1 0)) := by
  refine (val_g (c2 := (67, d, 1, [some (.ref 80)], [.ref 80], w)) rfl).trans ?_
  refine (val_g (c2 := (67, d, 2, [some (.ref 80)], [.int 0, .ref 80], w)) rfl).trans ?_
  refine (val_pf rfl (hW.k 80 (Nat.le_of_ble_eq_true rfl) (Nat.le_of_ble_eq_true rfl)) rfl).trans ?_
  show val (67, d, 5, [some (.ref 80)], [], (sI w 80 1 0)) = _
  exact val_r rfl
/-- BelfryHouse$Heads.mark(II)V -/
theorem tr_68 (d : Nat) (w : Wd) (x0 : Int32) (x1 : Int32)     : val (68, d + 2, 0, [some (.ref 80), some (.int x0), some (.int x1), none], [], w) = val (68, d + 2, 2, [some (.ref 80), some (.int x0), some (.int x1), none], [.int x1, .int x0], w) := by
  refine (val_g (c2 := (68, d + 2, 1, [some (.ref 80), some (.int x0), some (.int x1), none], [.int x0], w)) rfl).trans ?_
  refine (val_g (c2 := (68, d + 2, 2, [some (.ref 80), some (.int x0), some (.int x1), none], [.int x1, .int x0], w)) rfl).trans ?_
  rfl
theorem tr_68_5 (d : Nat) (w : Wd) (hW : Fix w) (l1 : Int32) (l2 : Int32) (s0 : Int32)    (hy1 : inB ((s0 >>> (6 &&& 31))) 630 = true) : val (68, d + 2, 5, [some (.ref 80), some (.int l1), some (.int l2), none], [.int s0], w) = some (none, (sL w 82 ((s0 >>> (6 &&& 31))).toNatClampNeg (((gL w 82 ((s0 >>> (6 &&& 31))).toNatClampNeg) ||| (shlL 1 ((s0 &&& 63))))))) := by
  refine (val_g (c2 := (68, d + 2, 6, [some (.ref 80), some (.int l1), some (.int l2), some (.int s0)], [], w)) rfl).trans ?_
  refine (val_g (c2 := (68, d + 2, 7, [some (.ref 80), some (.int l1), some (.int l2), some (.int s0)], [.ref 80], w)) rfl).trans ?_
  refine (val_gf rfl (hW.k 80 (Nat.le_of_ble_eq_true rfl) (Nat.le_of_ble_eq_true rfl)) (fvR (hW.r 80 2 82 rfl))).trans ?_
  show val (68, d + 2, 10, [some (.ref 80), some (.int l1), some (.int l2), some (.int s0)], [.ref 82], w) = _
  refine (val_g (c2 := (68, d + 2, 11, [some (.ref 80), some (.int l1), some (.int l2), some (.int s0)], [.int s0, .ref 82], w)) rfl).trans ?_
  refine (val_g (c2 := (68, d + 2, 13, [some (.ref 80), some (.int l1), some (.int l2), some (.int s0)], [.int 6, .int s0, .ref 82], w)) rfl).trans ?_
  refine (val_g (c2 := (68, d + 2, 14, [some (.ref 80), some (.int l1), some (.int l2), some (.int s0)], [.int (s0 >>> (6 &&& 31)), .ref 82], w)) rfl).trans ?_
  refine (val_g (c2 := (68, d + 2, 15, [some (.ref 80), some (.int l1), some (.int l2), some (.int s0)], [.int (s0 >>> (6 &&& 31)), .ref 82, .int (s0 >>> (6 &&& 31)), .ref 82], w)) rfl).trans ?_
  refine (val_lal rfl (hW.k 82 (Nat.le_of_ble_eq_true rfl) (Nat.le_of_ble_eq_true rfl)) hy1).trans ?_
  show val (68, d + 2, 16, [some (.ref 80), some (.int l1), some (.int l2), some (.int s0)], [.long (gL w 82 ((s0 >>> (6 &&& 31))).toNatClampNeg), .int (s0 >>> (6 &&& 31)), .ref 82], w) = _
  refine (val_g (c2 := (68, d + 2, 17, [some (.ref 80), some (.int l1), some (.int l2), some (.int s0)], [.long 1, .long (gL w 82 ((s0 >>> (6 &&& 31))).toNatClampNeg), .int (s0 >>> (6 &&& 31)), .ref 82], w)) rfl).trans ?_
  refine (val_g (c2 := (68, d + 2, 18, [some (.ref 80), some (.int l1), some (.int l2), some (.int s0)], [.int s0, .long 1, .long (gL w 82 ((s0 >>> (6 &&& 31))).toNatClampNeg), .int (s0 >>> (6 &&& 31)), .ref 82], w)) rfl).trans ?_
  refine (val_g (c2 := (68, d + 2, 20, [some (.ref 80), some (.int l1), some (.int l2), some (.int s0)], [.int 63, .int s0, .long 1, .long (gL w 82 ((s0 >>> (6 &&& 31))).toNatClampNeg), .int (s0 >>> (6 &&& 31)), .ref 82], w)) rfl).trans ?_
  refine (val_g (c2 := (68, d + 2, 21, [some (.ref 80), some (.int l1), some (.int l2), some (.int s0)], [.int (s0 &&& 63), .long 1, .long (gL w 82 ((s0 >>> (6 &&& 31))).toNatClampNeg), .int (s0 >>> (6 &&& 31)), .ref 82], w)) rfl).trans ?_
  refine (val_g (c2 := (68, d + 2, 22, [some (.ref 80), some (.int l1), some (.int l2), some (.int s0)], [.long (shlL 1 ((s0 &&& 63))), .long (gL w 82 ((s0 >>> (6 &&& 31))).toNatClampNeg), .int (s0 >>> (6 &&& 31)), .ref 82], w)) rfl).trans ?_
  refine (val_g (c2 := (68, d + 2, 23, [some (.ref 80), some (.int l1), some (.int l2), some (.int s0)], [.long ((gL w 82 ((s0 >>> (6 &&& 31))).toNatClampNeg) ||| (shlL 1 ((s0 &&& 63)))), .int (s0 >>> (6 &&& 31)), .ref 82], w)) rfl).trans ?_
  refine (val_las rfl (hW.k 82 (Nat.le_of_ble_eq_true rfl) (Nat.le_of_ble_eq_true rfl)) hy1).trans ?_
  show val (68, d + 2, 24, [some (.ref 80), some (.int l1), some (.int l2), some (.int s0)], [], (sL w 82 ((s0 >>> (6 &&& 31))).toNatClampNeg (((gL w 82 ((s0 >>> (6 &&& 31))).toNatClampNeg) ||| (shlL 1 ((s0 &&& 63))))))) = _
  exact val_r rfl
/-- BelfryHouse$Heads.find(I[III)V -/
theorem tr_69 (d : Nat) (w : Wd) (hW : Fix w) (x0 : Int32) (p1 : Nat) (x2 : Int32) (x3 : Int32)     : val (69, d + 3, 0, [some (.ref 80), some (.int x0), some (.ref p1), some (.int x2), some (.int x3), none, none, none], [], w) = val (69, d + 3, 5, [some (.ref 80), some (.int x0), some (.ref p1), some (.int x2), some (.int x3), none, none, none], [.long 0, .ref 82], w) := by
  refine (val_g (c2 := (69, d + 3, 1, [some (.ref 80), some (.int x0), some (.ref p1), some (.int x2), some (.int x3), none, none, none], [.ref 80], w)) rfl).trans ?_
  refine (val_gf rfl (hW.k 80 (Nat.le_of_ble_eq_true rfl) (Nat.le_of_ble_eq_true rfl)) (fvR (hW.r 80 2 82 rfl))).trans ?_
  show val (69, d + 3, 4, [some (.ref 80), some (.int x0), some (.ref p1), some (.int x2), some (.int x3), none, none, none], [.ref 82], w) = _
  refine (val_g (c2 := (69, d + 3, 5, [some (.ref 80), some (.int x0), some (.ref p1), some (.int x2), some (.int x3), none, none, none], [.long 0, .ref 82], w)) rfl).trans ?_
  rfl
theorem tr_69_8 (d : Nat) (w : Wd) (l1 : Int32) (l2 : Nat) (l3 : Int32) (l4 : Int32)     : val (69, d + 3, 8, [some (.ref 80), some (.int l1), some (.ref l2), some (.int l3), some (.int l4), none, none, none], [], w) = val (69, d + 3, 11, [some (.ref 80), some (.int l1), some (.ref l2), some (.int l3), some (.int l4), none, none, none], [.int l1, .int l1, .ref 80], w) := by
  refine (val_g (c2 := (69, d + 3, 9, [some (.ref 80), some (.int l1), some (.ref l2), some (.int l3), some (.int l4), none, none, none], [.ref 80], w)) rfl).trans ?_
  refine (val_g (c2 := (69, d + 3, 10, [some (.ref 80), some (.int l1), some (.ref l2), some (.int l3), some (.int l4), none, none, none], [.int l1, .ref 80], w)) rfl).trans ?_
  refine (val_g (c2 := (69, d + 3, 11, [some (.ref 80), some (.int l1), some (.ref l2), some (.int l3), some (.int l4), none, none, none], [.int l1, .int l1, .ref 80], w)) rfl).trans ?_
  rfl
theorem tr_69_17 (d : Nat) (w : Wd) (l1 : Int32) (l2 : Nat) (l3 : Int32) (l4 : Int32)     : val (69, d + 3, 17, [some (.ref 80), some (.int l1), some (.ref l2), some (.int l3), some (.int l4), none, none, none], [], w) = val (69, d + 3, 20, [some (.ref 80), some (.int l1), some (.ref l2), some (.int l3), some (.int l4), some (.int l3), none, none], [], w) := by
  refine (val_g (c2 := (69, d + 3, 18, [some (.ref 80), some (.int l1), some (.ref l2), some (.int l3), some (.int l4), none, none, none], [.int l3], w)) rfl).trans ?_
  refine (val_g (c2 := (69, d + 3, 20, [some (.ref 80), some (.int l1), some (.ref l2), some (.int l3), some (.int l4), some (.int l3), none, none], [], w)) rfl).trans ?_
  rfl
theorem tr_69_20 (d : Nat) (w : Wd) (l1 : Int32) (l2 : Nat) (l3 : Int32) (l4 : Int32) (l5 : Int32) (l6 : Option Value) (l7 : Option Value)    : val (69, d + 3, 20, [some (.ref 80), some (.int l1), some (.ref l2), some (.int l3), some (.int l4), some (.int l5), l6, l7], [], w) = (if l4 < l5 then val (69, d + 3, 105, [some (.ref 80), some (.int l1), some (.ref l2), some (.int l3), some (.int l4), some (.int l5), l6, l7], [.int l1, .ref 80], w) else val (69, d + 3, 30, [some (.ref 80), some (.int l1), some (.ref l2), some (.int l3), some (.int l4), some (.int l5), some (.int l3), l7], [], w)) := by
  refine (val_g (c2 := (69, d + 3, 22, [some (.ref 80), some (.int l1), some (.ref l2), some (.int l3), some (.int l4), some (.int l5), l6, l7], [.int l5], w)) rfl).trans ?_
  refine (val_g (c2 := (69, d + 3, 24, [some (.ref 80), some (.int l1), some (.ref l2), some (.int l3), some (.int l4), some (.int l5), l6, l7], [.int l4, .int l5], w)) rfl).trans ?_
  by_cases hc380 : l4 < l5
  · refine ((val_ic_gt rfl).trans (if_pos hc380)).trans ?_
    show val (69, d + 3, 103, [some (.ref 80), some (.int l1), some (.ref l2), some (.int l3), some (.int l4), some (.int l5), l6, l7], [], w) = _
    refine Eq.trans ?_ (if_pos hc380).symm
    refine (val_g (c2 := (69, d + 3, 104, [some (.ref 80), some (.int l1), some (.ref l2), some (.int l3), some (.int l4), some (.int l5), l6, l7], [.ref 80], w)) rfl).trans ?_
    refine (val_g (c2 := (69, d + 3, 105, [some (.ref 80), some (.int l1), some (.ref l2), some (.int l3), some (.int l4), some (.int l5), l6, l7], [.int l1, .ref 80], w)) rfl).trans ?_
    rfl
  · refine ((val_ic_gt rfl).trans (if_neg hc380)).trans ?_
    show val (69, d + 3, 27, [some (.ref 80), some (.int l1), some (.ref l2), some (.int l3), some (.int l4), some (.int l5), l6, l7], [], w) = _
    refine Eq.trans ?_ (if_neg hc380).symm
    refine (val_g (c2 := (69, d + 3, 28, [some (.ref 80), some (.int l1), some (.ref l2), some (.int l3), some (.int l4), some (.int l5), l6, l7], [.int l3], w)) rfl).trans ?_
    refine (val_g (c2 := (69, d + 3, 30, [some (.ref 80), some (.int l1), some (.ref l2), some (.int l3), some (.int l4), some (.int l5), some (.int l3), l7], [], w)) rfl).trans ?_
    rfl
theorem tr_69_30 (d : Nat) (w : Wd) (hW : Fix w) (l1 : Int32) (l2 : Nat) (l3 : Int32) (l4 : Int32) (l5 : Int32) (l6 : Int32) (l7 : Option Value)   (m_l2 : Nat) (hk_l2 : wK w l2 = (20, m_l2)) (hy3 : (l5 ≤ l6) → inB l5 m_l2 = true) (hy4 : (¬ (l5 ≤ l6)) → inB l5 m_l2 = true) (hy5 : (¬ (l5 ≤ l6)) → inB ((l6 - l3)) 60 = true) : val (69, d + 3, 30, [some (.ref 80), some (.int l1), some (.ref l2), some (.int l3), some (.int l4), some (.int l5), some (.int l6), l7], [], w) = (if l5 ≤ l6 then val (69, d + 3, 93, [some (.ref 80), some (.int l1), some (.ref l2), some (.int l3), some (.int l4), some (.int l5), some (.int l6), l7], [.int (gI w l2 (l5).toNatClampNeg), .int l1, .int (l5 - l3), .ref 83], w) else val (69, d + 3, 51, [some (.ref 80), some (.int l1), some (.ref l2), some (.int l3), some (.int l4), some (.int l5), some (.int l6), l7], [.int (gI w 83 ((l6 - l3)).toNatClampNeg), .int (gI w l2 (l5).toNatClampNeg), .int l1], w)) := by
  refine (val_g (c2 := (69, d + 3, 32, [some (.ref 80), some (.int l1), some (.ref l2), some (.int l3), some (.int l4), some (.int l5), some (.int l6), l7], [.int l6], w)) rfl).trans ?_
  refine (val_g (c2 := (69, d + 3, 34, [some (.ref 80), some (.int l1), some (.ref l2), some (.int l3), some (.int l4), some (.int l5), some (.int l6), l7], [.int l5, .int l6], w)) rfl).trans ?_
  by_cases hc381 : l5 ≤ l6
  · refine ((val_ic_ge rfl).trans (if_pos hc381)).trans ?_
    show val (69, d + 3, 80, [some (.ref 80), some (.int l1), some (.ref l2), some (.int l3), some (.int l4), some (.int l5), some (.int l6), l7], [], w) = _
    refine Eq.trans ?_ (if_pos hc381).symm
    refine (val_g (c2 := (69, d + 3, 81, [some (.ref 80), some (.int l1), some (.ref l2), some (.int l3), some (.int l4), some (.int l5), some (.int l6), l7], [.ref 80], w)) rfl).trans ?_
    refine (val_gf rfl (hW.k 80 (Nat.le_of_ble_eq_true rfl) (Nat.le_of_ble_eq_true rfl)) (fvR (hW.r 80 3 83 rfl))).trans ?_
    show val (69, d + 3, 84, [some (.ref 80), some (.int l1), some (.ref l2), some (.int l3), some (.int l4), some (.int l5), some (.int l6), l7], [.ref 83], w) = _
    refine (val_g (c2 := (69, d + 3, 86, [some (.ref 80), some (.int l1), some (.ref l2), some (.int l3), some (.int l4), some (.int l5), some (.int l6), l7], [.int l5, .ref 83], w)) rfl).trans ?_
    refine (val_g (c2 := (69, d + 3, 87, [some (.ref 80), some (.int l1), some (.ref l2), some (.int l3), some (.int l4), some (.int l5), some (.int l6), l7], [.int l3, .int l5, .ref 83], w)) rfl).trans ?_
    refine (val_g (c2 := (69, d + 3, 88, [some (.ref 80), some (.int l1), some (.ref l2), some (.int l3), some (.int l4), some (.int l5), some (.int l6), l7], [.int (l5 - l3), .ref 83], w)) rfl).trans ?_
    refine (val_g (c2 := (69, d + 3, 89, [some (.ref 80), some (.int l1), some (.ref l2), some (.int l3), some (.int l4), some (.int l5), some (.int l6), l7], [.int l1, .int (l5 - l3), .ref 83], w)) rfl).trans ?_
    refine (val_g (c2 := (69, d + 3, 90, [some (.ref 80), some (.int l1), some (.ref l2), some (.int l3), some (.int l4), some (.int l5), some (.int l6), l7], [.ref l2, .int l1, .int (l5 - l3), .ref 83], w)) rfl).trans ?_
    refine (val_g (c2 := (69, d + 3, 92, [some (.ref 80), some (.int l1), some (.ref l2), some (.int l3), some (.int l4), some (.int l5), some (.int l6), l7], [.int l5, .ref l2, .int l1, .int (l5 - l3), .ref 83], w)) rfl).trans ?_
    refine (val_ial rfl hk_l2 rfl (hy3 hc381)).trans ?_
    show val (69, d + 3, 93, [some (.ref 80), some (.int l1), some (.ref l2), some (.int l3), some (.int l4), some (.int l5), some (.int l6), l7], [.int (gI w l2 (l5).toNatClampNeg), .int l1, .int (l5 - l3), .ref 83], w) = _
    rfl
  · refine ((val_ic_ge rfl).trans (if_neg hc381)).trans ?_
    show val (69, d + 3, 37, [some (.ref 80), some (.int l1), some (.ref l2), some (.int l3), some (.int l4), some (.int l5), some (.int l6), l7], [], w) = _
    refine Eq.trans ?_ (if_neg hc381).symm
    refine (val_g (c2 := (69, d + 3, 38, [some (.ref 80), some (.int l1), some (.ref l2), some (.int l3), some (.int l4), some (.int l5), some (.int l6), l7], [.int l1], w)) rfl).trans ?_
    refine (val_g (c2 := (69, d + 3, 39, [some (.ref 80), some (.int l1), some (.ref l2), some (.int l3), some (.int l4), some (.int l5), some (.int l6), l7], [.ref l2, .int l1], w)) rfl).trans ?_
    refine (val_g (c2 := (69, d + 3, 41, [some (.ref 80), some (.int l1), some (.ref l2), some (.int l3), some (.int l4), some (.int l5), some (.int l6), l7], [.int l5, .ref l2, .int l1], w)) rfl).trans ?_
    refine (val_ial rfl hk_l2 rfl (hy4 hc381)).trans ?_
    show val (69, d + 3, 42, [some (.ref 80), some (.int l1), some (.ref l2), some (.int l3), some (.int l4), some (.int l5), some (.int l6), l7], [.int (gI w l2 (l5).toNatClampNeg), .int l1], w) = _
    refine (val_g (c2 := (69, d + 3, 43, [some (.ref 80), some (.int l1), some (.ref l2), some (.int l3), some (.int l4), some (.int l5), some (.int l6), l7], [.ref 80, .int (gI w l2 (l5).toNatClampNeg), .int l1], w)) rfl).trans ?_
    refine (val_gf rfl (hW.k 80 (Nat.le_of_ble_eq_true rfl) (Nat.le_of_ble_eq_true rfl)) (fvR (hW.r 80 3 83 rfl))).trans ?_
    show val (69, d + 3, 46, [some (.ref 80), some (.int l1), some (.ref l2), some (.int l3), some (.int l4), some (.int l5), some (.int l6), l7], [.ref 83, .int (gI w l2 (l5).toNatClampNeg), .int l1], w) = _
    refine (val_g (c2 := (69, d + 3, 48, [some (.ref 80), some (.int l1), some (.ref l2), some (.int l3), some (.int l4), some (.int l5), some (.int l6), l7], [.int l6, .ref 83, .int (gI w l2 (l5).toNatClampNeg), .int l1], w)) rfl).trans ?_
    refine (val_g (c2 := (69, d + 3, 49, [some (.ref 80), some (.int l1), some (.ref l2), some (.int l3), some (.int l4), some (.int l5), some (.int l6), l7], [.int l3, .int l6, .ref 83, .int (gI w l2 (l5).toNatClampNeg), .int l1], w)) rfl).trans ?_
    refine (val_g (c2 := (69, d + 3, 50, [some (.ref 80), some (.int l1), some (.ref l2), some (.int l3), some (.int l4), some (.int l5), some (.int l6), l7], [.int (l6 - l3), .ref 83, .int (gI w l2 (l5).toNatClampNeg), .int l1], w)) rfl).trans ?_
    refine (val_ial rfl (hW.k 83 (Nat.le_of_ble_eq_true rfl) (Nat.le_of_ble_eq_true rfl)) rfl (hy5 hc381)).trans ?_
    show val (69, d + 3, 51, [some (.ref 80), some (.int l1), some (.ref l2), some (.int l3), some (.int l4), some (.int l5), some (.int l6), l7], [.int (gI w 83 ((l6 - l3)).toNatClampNeg), .int (gI w l2 (l5).toNatClampNeg), .int l1], w) = _
    rfl
theorem tr_69_54 (d : Nat) (w : Wd) (l1 : Int32) (l2 : Nat) (l3 : Int32) (l4 : Int32) (l5 : Int32) (l6 : Int32) (s0 : Int32) (l7 : Option Value)    : val (69, d + 3, 54, [some (.ref 80), some (.int l1), some (.ref l2), some (.int l3), some (.int l4), some (.int l5), some (.int l6), l7], [.int s0], w) = val (69, d + 3, 60, [some (.ref 80), some (.int l1), some (.ref l2), some (.int l3), some (.int l4), some (.int l5), some (.int l6), some (.int s0)], [.int s0, .int l1, .ref 80], w) := by
  refine (val_g (c2 := (69, d + 3, 56, [some (.ref 80), some (.int l1), some (.ref l2), some (.int l3), some (.int l4), some (.int l5), some (.int l6), some (.int s0)], [], w)) rfl).trans ?_
  refine (val_g (c2 := (69, d + 3, 57, [some (.ref 80), some (.int l1), some (.ref l2), some (.int l3), some (.int l4), some (.int l5), some (.int l6), some (.int s0)], [.ref 80], w)) rfl).trans ?_
  refine (val_g (c2 := (69, d + 3, 58, [some (.ref 80), some (.int l1), some (.ref l2), some (.int l3), some (.int l4), some (.int l5), some (.int l6), some (.int s0)], [.int l1, .ref 80], w)) rfl).trans ?_
  refine (val_g (c2 := (69, d + 3, 60, [some (.ref 80), some (.int l1), some (.ref l2), some (.int l3), some (.int l4), some (.int l5), some (.int l6), some (.int s0)], [.int s0, .int l1, .ref 80], w)) rfl).trans ?_
  rfl
theorem tr_69_63 (d : Nat) (w : Wd) (l1 : Int32) (l2 : Nat) (l3 : Int32) (l4 : Int32) (l5 : Int32) (l6 : Int32) (l7 : Int32)     : val (69, d + 3, 63, [some (.ref 80), some (.int l1), some (.ref l2), some (.int l3), some (.int l4), some (.int l5), some (.int l6), some (.int l7)], [], w) = val (69, d + 3, 68, [some (.ref 80), some (.int l1), some (.ref l2), some (.int l3), some (.int l4), some (.int l5), some (.int l6), some (.int l7)], [.int l7, .int l1, .int l1, .ref 80], w) := by
  refine (val_g (c2 := (69, d + 3, 64, [some (.ref 80), some (.int l1), some (.ref l2), some (.int l3), some (.int l4), some (.int l5), some (.int l6), some (.int l7)], [.ref 80], w)) rfl).trans ?_
  refine (val_g (c2 := (69, d + 3, 65, [some (.ref 80), some (.int l1), some (.ref l2), some (.int l3), some (.int l4), some (.int l5), some (.int l6), some (.int l7)], [.int l1, .ref 80], w)) rfl).trans ?_
  refine (val_g (c2 := (69, d + 3, 66, [some (.ref 80), some (.int l1), some (.ref l2), some (.int l3), some (.int l4), some (.int l5), some (.int l6), some (.int l7)], [.int l1, .int l1, .ref 80], w)) rfl).trans ?_
  refine (val_g (c2 := (69, d + 3, 68, [some (.ref 80), some (.int l1), some (.ref l2), some (.int l3), some (.int l4), some (.int l5), some (.int l6), some (.int l7)], [.int l7, .int l1, .int l1, .ref 80], w)) rfl).trans ?_
  rfl
theorem tr_69_74 (d : Nat) (w : Wd) (l1 : Int32) (l2 : Nat) (l3 : Int32) (l4 : Int32) (l5 : Int32) (l6 : Int32) (l7 : Int32)     : val (69, d + 3, 74, [some (.ref 80), some (.int l1), some (.ref l2), some (.int l3), some (.int l4), some (.int l5), some (.int l6), some (.int l7)], [], w) = val (69, d + 3, 30, [some (.ref 80), some (.int l1), some (.ref l2), some (.int l3), some (.int l4), some (.int l5), some (.int (l6 + 1)), some (.int l7)], [], w) := by
  refine (val_g (c2 := (69, d + 3, 77, [some (.ref 80), some (.int l1), some (.ref l2), some (.int l3), some (.int l4), some (.int l5), some (.int (l6 + 1)), some (.int l7)], [], w)) rfl).trans ?_
  refine (val_g (c2 := (69, d + 3, 30, [some (.ref 80), some (.int l1), some (.ref l2), some (.int l3), some (.int l4), some (.int l5), some (.int (l6 + 1)), some (.int l7)], [], w)) rfl).trans ?_
  rfl
theorem tr_69_96 (d : Nat) (w : Wd) (hW : Fix w) (l1 : Int32) (l2 : Nat) (l3 : Int32) (l4 : Int32) (l5 : Int32) (l6 : Int32) (s0 : Int32) (s1 : Int32) (l7 : Option Value)   (hy1 : inB s1 60 = true) : val (69, d + 3, 96, [some (.ref 80), some (.int l1), some (.ref l2), some (.int l3), some (.int l4), some (.int l5), some (.int l6), l7], [.int s0, .int s1, .ref 83], w) = val (69, d + 3, 20, [some (.ref 80), some (.int l1), some (.ref l2), some (.int l3), some (.int l4), some (.int (l5 + 1)), some (.int l6), l7], [], (sI w 83 (s1).toNatClampNeg s0)) := by
  refine (val_ias rfl (hW.k 83 (Nat.le_of_ble_eq_true rfl) (Nat.le_of_ble_eq_true rfl)) hy1).trans ?_
  show val (69, d + 3, 97, [some (.ref 80), some (.int l1), some (.ref l2), some (.int l3), some (.int l4), some (.int l5), some (.int l6), l7], [], (sI w 83 (s1).toNatClampNeg s0)) = _
  refine (val_g (c2 := (69, d + 3, 100, [some (.ref 80), some (.int l1), some (.ref l2), some (.int l3), some (.int l4), some (.int (l5 + 1)), some (.int l6), l7], [], (sI w 83 (s1).toNatClampNeg s0))) rfl).trans ?_
  refine (val_g (c2 := (69, d + 3, 20, [some (.ref 80), some (.int l1), some (.ref l2), some (.int l3), some (.int l4), some (.int (l5 + 1)), some (.int l6), l7], [], (sI w 83 (s1).toNatClampNeg s0))) rfl).trans ?_
  rfl
theorem tr_69_111 (d : Nat) (w : Wd) (l1 : Int32) (l2 : Nat) (l3 : Int32) (l4 : Int32) (l5 : Int32) (l6 : Option Value) (l7 : Option Value)    : val (69, d + 3, 111, [some (.ref 80), some (.int l1), some (.ref l2), some (.int l3), some (.int l4), some (.int l5), l6, l7], [], w) = some (none, w) := by
  exact val_r rfl
