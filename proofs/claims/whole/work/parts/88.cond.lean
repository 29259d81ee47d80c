/-! THE READER: a condition -/
section RCD
variable {w : Wd} {o M T N c r : Nat} {t : Nat → Int32} {k : Tk} {cs : List Cd}
theorem c_cond1 (d : Nat) (hN : N ≤ 8) (hS : Sr w o M T N t k c r cs) (hl : cs.length < 8) (nt : Bool) :
    (∀ q, pCd1 N t T nt k = .ok q → ∃ v, val (89, d + 7, 6, [some (.ref o), some (.ref r), none, none], [.int (b01 nt)], w) = some (none, v) ∧ Fr (FCd o M r) w v ∧ Sr v o M T N t q.2 c r (cs ++ [q.1])) ∧
    (∀ e, pCd1 N t T nt k = .error e → ∃ v, val (89, d + 7, 6, [some (.ref o), some (.ref r), none, none], [.int (b01 nt)], w) = some (none, v) ∧ Fr (FCd o M r) w v ∧ gI v o 1 = nI e ∧ Rd v o M T N t) := by
  have hS0 := hS.1
  have hk := hS0.2.2.1.2.1
  have hro := hS.2.1
  have e0 := tr_89_6 d w o r (b01 nt) 8 hk
  have k4 := hS0.2.2.2.2.1.1
  unfold pCd1
  by_cases h2 : k.1 = 2
  · rw [if_pos h2]
    rw [if_neg (fun h => h ((hS0.2.2.2.1.k2 k4).mpr (Or.inl h2)))] at e0
    obtain ⟨y, z⟩ := c_placing d hN hS hl (by omega) nt
    refine ⟨fun q hq => ?_, fun e he => ?_⟩
    · obtain ⟨v, x1, x2, x3⟩ := y q hq
      refine ⟨v, e0.trans ?_, x2, x3⟩
      refine (val_call (pc2 := 21) rfl rfl rfl rfl (rcvO hk (by decide)) (Nat.le_of_ble_eq_true rfl) (Nat.le_of_ble_eq_true rfl) rfl x1 rfl).trans ?_
      exact (tr_89_21 d v o r _).trans (tr_89_125 d v o r _)
    · obtain ⟨v, x1, x2, x3⟩ := z e he
      refine ⟨v, e0.trans ?_, x2, x3⟩
      refine (val_call (pc2 := 21) rfl rfl rfl rfl (rcvO hk (by decide)) (Nat.le_of_ble_eq_true rfl) (Nat.le_of_ble_eq_true rfl) rfl x1 rfl).trans ?_
      exact (tr_89_21 d v o r _).trans (tr_89_125 d v o r _)
  rw [if_neg h2]
  by_cases h3 : gI w o 5 = 3
  · have hL := ((hS0.2.2.2.1.k2 k4).mp h3).resolve_left h2
    have k14 : k.1 = 4 := hL.2.1
    rw [if_neg (fun h => h h3)] at e0
    obtain ⟨y, z⟩ := c_placing d hN hS hl (by omega) nt
    have nw2 : ∀ j, isWd t k j = false := fun j => by unfold isWd; rw [decide_eq_false (show ¬ k.1 = 1 by omega)]; rfl
    rw [nw2 4, if_neg (show ¬ false = true by decide), nw2 5, if_neg (show ¬ false = true by decide), nw2 6, if_neg (show ¬ false = true by decide), nw2 7, if_neg (show ¬ false = true by decide)]
    refine ⟨fun q hq => (by cases hq), fun e he => ?_⟩
    cases he
    have hp : pPla N t T nt k = .error k.2.1 := by
      unfold pPla
      rw [if_neg (fun h : InR k 1 N => h2 h.1)]
    obtain ⟨v, x1, x2, x3⟩ := z _ hp
    refine ⟨v, e0.trans ?_, x2, x3⟩
    refine (val_call (pc2 := 21) rfl rfl rfl rfl (rcvO hk (by decide)) (Nat.le_of_ble_eq_true rfl) (Nat.le_of_ble_eq_true rfl) rfl x1 rfl).trans ?_
    exact (tr_89_21 d v o r _).trans (tr_89_125 d v o r _)
  rw [if_pos h3] at e0
  cases h4 : isWd t k 4 with
  | true =>
    rw [if_pos rfl]
    refine ⟨fun q hq => ?_, fun e he => (by cases he)⟩
    cases hq
    obtain ⟨v, x1, x2, x3⟩ := c_twYes (d + 1) hS0 (j := 4) (by decide) h4
    have hS1 := hS.ch x2.tkf.ch x3
    obtain ⟨u, g1, g2, g3⟩ := c_require (d + 6) hS1.2.2.2 hl nt 2 0 0
    refine ⟨u, e0.trans ?_, (x2.tkf.ch (M := M)).cr.trans g2.cl, hS1.ru g2 g3⟩
    refine (val_call (pc2 := 30) rfl rfl rfl rfl (rcvO hk (by decide)) (Nat.le_of_ble_eq_true rfl) (Nat.le_of_ble_eq_true rfl) rfl x1 rfl).trans ?_
    refine (tr_89_30 d v o r _ _).trans ?_
    rw [if_neg (show ¬ (1 : Int32) = 0 by decide)]
    refine (val_call (pc2 := 41) rfl rfl rfl rfl (rcvO hS1.2.2.2.1 (by decide)) (Nat.le_of_ble_eq_true rfl) (Nat.le_of_ble_eq_true rfl) rfl g1 rfl).trans ?_
    exact (tr_89_41 d u o r _).trans (tr_89_125 d u o r _)
  | false =>
  rw [if_neg (show ¬ false = true by decide)]
  have e0 := e0.trans (show val (89, d + 7, 27, [some (.ref o), some (.ref r), some (.int (b01 nt)), none], [.ref 6, .ref o], w) = val (89, d + 7, 30, [some (.ref o), some (.ref r), some (.int (b01 nt)), none], [.int 0], w) from by
      refine (val_call (pc2 := 30) rfl rfl rfl rfl (rcvO hk (by decide)) (Nat.le_of_ble_eq_true rfl) (Nat.le_of_ble_eq_true rfl) rfl (c_twNo (d + 1) hS0 (j := 4) (by decide) h4) rfl).trans ?_
      rfl)
  have e0 := e0.trans (tr_89_30 d w o r _ _)
  rw [if_pos (show (0 : Int32) = 0 from rfl)] at e0
  cases h5 : isWd t k 5 with
  | true =>
    rw [if_pos rfl]
    refine ⟨fun q hq => ?_, fun e he => (by cases he)⟩
    cases hq
    obtain ⟨v, x1, x2, x3⟩ := c_twYes (d + 1) hS0 (j := 5) (by decide) h5
    have hS1 := hS.ch x2.tkf.ch x3
    obtain ⟨u, g1, g2, g3⟩ := c_require (d + 6) hS1.2.2.2 hl nt 3 0 0
    refine ⟨u, e0.trans ?_, (x2.tkf.ch (M := M)).cr.trans g2.cl, hS1.ru g2 g3⟩
    refine (val_call (pc2 := 50) rfl rfl rfl rfl (rcvO hk (by decide)) (Nat.le_of_ble_eq_true rfl) (Nat.le_of_ble_eq_true rfl) rfl x1 rfl).trans ?_
    refine (tr_89_50 d v o r _ _).trans ?_
    rw [if_neg (show ¬ (1 : Int32) = 0 by decide)]
    refine (val_call (pc2 := 61) rfl rfl rfl rfl (rcvO hS1.2.2.2.1 (by decide)) (Nat.le_of_ble_eq_true rfl) (Nat.le_of_ble_eq_true rfl) rfl g1 rfl).trans ?_
    exact (tr_89_61 d u o r _).trans (tr_89_125 d u o r _)
  | false =>
  rw [if_neg (show ¬ false = true by decide)]
  have e0 := e0.trans (show val (89, d + 7, 47, [some (.ref o), some (.ref r), some (.int (b01 nt)), none], [.ref 7, .ref o], w) = val (89, d + 7, 50, [some (.ref o), some (.ref r), some (.int (b01 nt)), none], [.int 0], w) from by
      refine (val_call (pc2 := 50) rfl rfl rfl rfl (rcvO hk (by decide)) (Nat.le_of_ble_eq_true rfl) (Nat.le_of_ble_eq_true rfl) rfl (c_twNo (d + 1) hS0 (j := 5) (by decide) h5) rfl).trans ?_
      rfl)
  have e0 := e0.trans (tr_89_50 d w o r _ _)
  rw [if_pos (show (0 : Int32) = 0 from rfl)] at e0
  cases h6 : isWd t k 6 with
  | true =>
    rw [if_pos rfl]
    refine ⟨fun q hq => ?_, fun e he => (by cases he)⟩
    cases hq
    obtain ⟨v, x1, x2, x3⟩ := c_twYes (d + 1) hS0 (j := 6) (by decide) h6
    have hS1 := hS.ch x2.tkf.ch x3
    obtain ⟨u, g1, g2, g3⟩ := c_require (d + 6) hS1.2.2.2 hl nt 4 0 0
    refine ⟨u, e0.trans ?_, (x2.tkf.ch (M := M)).cr.trans g2.cl, hS1.ru g2 g3⟩
    refine (val_call (pc2 := 70) rfl rfl rfl rfl (rcvO hk (by decide)) (Nat.le_of_ble_eq_true rfl) (Nat.le_of_ble_eq_true rfl) rfl x1 rfl).trans ?_
    refine (tr_89_70 d v o r _ _).trans ?_
    rw [if_neg (show ¬ (1 : Int32) = 0 by decide)]
    refine (val_call (pc2 := 81) rfl rfl rfl rfl (rcvO hS1.2.2.2.1 (by decide)) (Nat.le_of_ble_eq_true rfl) (Nat.le_of_ble_eq_true rfl) rfl g1 rfl).trans ?_
    exact (tr_89_81 d u o r _).trans (tr_89_125 d u o r _)
  | false =>
  rw [if_neg (show ¬ false = true by decide)]
  have e0 := e0.trans (show val (89, d + 7, 67, [some (.ref o), some (.ref r), some (.int (b01 nt)), none], [.ref 8, .ref o], w) = val (89, d + 7, 70, [some (.ref o), some (.ref r), some (.int (b01 nt)), none], [.int 0], w) from by
      refine (val_call (pc2 := 70) rfl rfl rfl rfl (rcvO hk (by decide)) (Nat.le_of_ble_eq_true rfl) (Nat.le_of_ble_eq_true rfl) rfl (c_twNo (d + 1) hS0 (j := 6) (by decide) h6) rfl).trans ?_
      rfl)
  have e0 := e0.trans (tr_89_70 d w o r _ _)
  rw [if_pos (show (0 : Int32) = 0 from rfl)] at e0
  cases h7 : isWd t k 7 with
  | true =>
    rw [if_pos rfl]
    obtain ⟨v, x1, x2, x3⟩ := c_twYes (d + 1) hS0 (j := 7) (by decide) h7
    have hS1 := hS.ch x2.tkf.ch x3
    have hk1 := x3.2.2.1.2.1
    obtain ⟨v1, a1, a2, a3, a4⟩ := c_within (d + 3) x3.1 x3.2.2.1 x3.2.2.2.1 x3.2.2.2.2.1 none31 x3.2.2.2.2.2.1 (a := 1) (b := 99) (by omega) (by omega)
    have hR1 := x3.2.2.1.tf a2
    have hW1 := a2.fixO (ftf_lo x3.2.2.1.1) x3.1
    have hin1 : TkIn t T (if InR (nxt t T k) 1 99 then nxt t T (nxt t T k) else nxt t T k) := by
      split
      · exact x3.2.2.2.2.1.nxt
      · exact x3.2.2.2.2.1
    have hb1 : 1 ≤ (if InR (nxt t T k) 1 99 then (nxt t T k).2.2.2 else 1) ∧ (if InR (nxt t T k) 1 99 then (nxt t T k).2.2.2 else 1) ≤ 99 := by
      by_cases h : InR (nxt t T k) 1 99
      · rw [if_pos h]; exact ⟨h.2.1, h.2.2⟩
      · rw [if_neg h]; omega
    generalize hx : (if InR (nxt t T k) 1 99 then (nxt t T k).2.2.2 else 1) = x at a1 hb1
    obtain ⟨v2, b1, b2, b3, b4⟩ := c_within (d + 3) hW1 hR1 a3 hin1 (F := if InR (nxt t T k) 1 99 then none else fo none (nxt t T k).2.1) (by
      split
      · exact none31
      · exact fo_31 none31 (x3.2.2.2.2.1.at31 x3.2.2.1)) a4 (a := 0) (b := x - 1) (by omega) (by omega)
    have hR2 := hR1.tf b2
    have hRu2 : RuL v2 r cs := (hS1.2.2.2.fr (a2.ch (M := M)) (fun a j h1 h2 _ => fch_off (Or.inl (by omega)) (Or.inl (by have := hS.2.2.1; omega)))).fr (b2.ch (M := M)) (fun a j h1 h2 _ => fch_off (Or.inl (by omega)) (Or.inl (by have := hS.2.2.1; omega)))
    generalize hy : (if InR (if InR (nxt t T k) 1 99 then nxt t T (nxt t T k) else nxt t T k) 0 (x - 1) then (if InR (nxt t T k) 1 99 then nxt t T (nxt t T k) else nxt t T k).2.2.2 else 0) = y at b1
    obtain ⟨u, g1, g2, g3⟩ := c_require (d + 6) hRu2 hl nt 5 x y
    have eall : val (89, d + 7, 6, [some (.ref o), some (.ref r), none, none], [.int (b01 nt)], w) = some (none, u) := by
      refine e0.trans ?_
      refine (val_call (pc2 := 90) rfl rfl rfl rfl (rcvO hk (by decide)) (Nat.le_of_ble_eq_true rfl) (Nat.le_of_ble_eq_true rfl) rfl x1 rfl).trans ?_
      refine (tr_89_90 d v o r _ _).trans ?_
      rw [if_neg (show ¬ (1 : Int32) = 0 by decide)]
      refine (val_call (pc2 := 101) rfl rfl rfl rfl (rcvO hk1 (by decide)) (Nat.le_of_ble_eq_true rfl) (Nat.le_of_ble_eq_true rfl) rfl a1 rfl).trans ?_
      refine (tr_89_101 d v1 o r _ _).trans ?_
      rw [show nI x - 1 = nI (x - 1) from n_sub (b := 1) hb1.1]
      refine (val_call (pc2 := 115) rfl rfl rfl rfl (rcvO hR1.2.1 (by decide)) (Nat.le_of_ble_eq_true rfl) (Nat.le_of_ble_eq_true rfl) rfl b1 rfl).trans ?_
      refine (val_call (pc2 := 118) rfl rfl rfl rfl (rcvO hRu2.1 (by decide)) (Nat.le_of_ble_eq_true rfl) (Nat.le_of_ble_eq_true rfl) rfl g1 rfl).trans ?_
      refine (tr_89_118 d u o r _ _).trans ?_
      exact val_r rfl
    have fA : Fr (FCd o M r) w u := (((x2.tkf.ch (M := M)).trans a2.ch).trans b2.ch).cr.trans g2.cl
    have hu1 : gI u o 1 = gI v2 o 1 := g2.i o 1 (fru_off (Or.inl hro))
    have hRu := hR2.ru g2 hro
    by_cases hI : InR (nxt t T k) 1 99
    · rw [if_pos hI]
      rw [if_pos hI] at hx b3 b4 hy
      rw [if_pos hI] at b4
      subst hx
      by_cases hI2 : InR (nxt t T (nxt t T k)) 0 ((nxt t T k).2.2.2 - 1)
      · rw [if_pos hI2]
        rw [if_pos hI2] at b3 b4 hy
        subst hy
        refine ⟨fun q hq => ?_, fun e he => (by cases he)⟩
        cases hq
        rw [if_pos hI] at a3 a4
        have hS2 := hS1.ch a2.ch (x3.stepF a2 a3 x3.2.2.2.2.1.nxt a4)
        exact ⟨u, eall, fA, (hS2.ch b2.ch (hS2.1.stepF b2 b3 x3.2.2.2.2.1.nxt.nxt b4)).ru g2 g3⟩
      · rw [if_neg hI2]
        rw [if_neg hI2] at b4
        refine ⟨fun q hq => (by cases hq), fun e he => ?_⟩
        cases he
        exact ⟨u, eall, fA, hu1.trans b4, hRu⟩
    · rw [if_neg hI]
      rw [if_neg hI, if_neg hI] at b4
      refine ⟨fun q hq => (by cases hq), fun e he => ?_⟩
      cases he
      refine ⟨u, eall, fA, hu1.trans (b4.trans ?_), hRu⟩
      split <;> rfl
  | false =>
    rw [if_neg (show ¬ false = true by decide)]
    refine ⟨fun q hq => (by cases hq), fun e he => ?_⟩
    cases he
    obtain ⟨v, x1, x2, x3, x4⟩ := c_ref (d + 6) hS0
    refine ⟨v, e0.trans ?_, x2.cr, x3, x4⟩
    refine (val_call (pc2 := 90) rfl rfl rfl rfl (rcvO hk (by decide)) (Nat.le_of_ble_eq_true rfl) (Nat.le_of_ble_eq_true rfl) rfl (c_twNo (d + 1) hS0 (j := 7) (by decide) h7) rfl).trans ?_
    refine (tr_89_90 d w o r _ _).trans ?_
    rw [if_pos (show (0 : Int32) = 0 from rfl)]
    refine (val_call (pc2 := 125) rfl rfl rfl rfl (rcvO hk (by decide)) (Nat.le_of_ble_eq_true rfl) (Nat.le_of_ble_eq_true rfl) rfl x1 rfl).trans ?_
    exact tr_89_125 d v o r _
theorem c_rcond (d : Nat) (hN : N ≤ 8) (hS : Sr w o M T N t k c r cs) (hl : cs.length < 8) :
    (∀ q, pCd N t T k = .ok q → ∃ v, val (89, d + 7, 0, [some (.ref o), some (.ref r), none, none], [], w) = some (none, v) ∧ Fr (FCd o M r) w v ∧ Sr v o M T N t q.2 c r (cs ++ [q.1])) ∧
    (∀ e, pCd N t T k = .error e → ∃ v, val (89, d + 7, 0, [some (.ref o), some (.ref r), none, none], [], w) = some (none, v) ∧ Fr (FCd o M r) w v ∧ gI v o 1 = nI e ∧ Rd v o M T N t) := by
  have hk := hS.1.2.2.1.2.1
  unfold pCd
  cases hn : isWd t k 1 with
  | true =>
    rw [if_pos rfl]
    obtain ⟨v, x1, x2, x3⟩ := c_twYes (d + 1) hS.1 (j := 1) (by decide) hn
    have e0 : val (89, d + 7, 0, [some (.ref o), some (.ref r), none, none], [], w) = val (89, d + 7, 6, [some (.ref o), some (.ref r), none, none], [.int (b01 true)], v) := by
      refine (tr_89 d w o r).trans ?_
      refine (val_call (pc2 := 6) rfl rfl rfl rfl (rcvO hk (by decide)) (Nat.le_of_ble_eq_true rfl) (Nat.le_of_ble_eq_true rfl) rfl x1 rfl).trans ?_
      rfl
    obtain ⟨y, z⟩ := c_cond1 d hN (hS.ch x2.tkf.ch x3) hl true
    refine ⟨fun q hq => ?_, fun e he => ?_⟩
    · obtain ⟨u, q1, q2, q3⟩ := y q hq
      exact ⟨u, e0.trans q1, (x2.tkf.ch (M := M)).cr.trans q2, q3⟩
    · obtain ⟨u, q1, q2, q3⟩ := z e he
      exact ⟨u, e0.trans q1, (x2.tkf.ch (M := M)).cr.trans q2, q3⟩
  | false =>
    rw [if_neg (show ¬ false = true by decide)]
    have e0 : val (89, d + 7, 0, [some (.ref o), some (.ref r), none, none], [], w) = val (89, d + 7, 6, [some (.ref o), some (.ref r), none, none], [.int (b01 false)], w) := by
      refine (tr_89 d w o r).trans ?_
      refine (val_call (pc2 := 6) rfl rfl rfl rfl (rcvO hk (by decide)) (Nat.le_of_ble_eq_true rfl) (Nat.le_of_ble_eq_true rfl) rfl (c_twNo (d + 1) hS.1 (j := 1) (by decide) hn) rfl).trans ?_
      rfl
    rw [e0]
    exact c_cond1 d hN hS hl false
end RCD
