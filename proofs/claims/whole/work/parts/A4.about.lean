/-! CALLS: about, change -/
theorem n_not_neg {a : Nat} (h : a < 2 ^ 31) : ¬ nI a < 0 := n_nlt (b := 0) (Nat.zero_le a) h
theorem m_lt {x : Int32} {mc : Nat} (hmc : mc ≤ 2000) (h0 : ¬ x < 0) (h1 : ¬ nI mc ≤ x) : ∃ m, m < mc ∧ x = nI m := by
  obtain ⟨m, hm, rfl⟩ := i_nat h0
  refine ⟨m, ?_, rfl⟩
  by_cases h : m < mc
  · exact h
  · exact absurd (n_le (show mc ≤ m by omega) hm) h1
theorem c_isMethodX (d : Nat) {w : Wd} (hW : Fix w) {mc : Nat} (hmc : mc ≤ 8) (h4 : gI w 64 4 = nI mc) {x : Int32} (h : x < 0 ∨ nI mc ≤ x) : val (12, d, 0, [some (.ref 64), some (.int x)], [], w) = some (some (.int 0), w) := by
  refine (tr_12 d w hW x).trans ?_
  rw [h4]
  by_cases h0 : x < 0
  · rw [if_pos h0]
  · rw [if_neg h0, if_pos (h.resolve_left h0)]
theorem c_isMethod (d : Nat) {w : Wd} (hW : Fix w) {mc m : Nat} (hmc : mc ≤ 8) (h4 : gI w 64 4 = nI mc) (hm : m < mc) : val (12, d, 0, [some (.ref 64), some (.int (nI m))], [], w) = some (some (.int 1), w) := by
  refine (tr_12 d w hW _).trans ?_
  rw [h4, if_neg (n_not_neg (by omega)), if_neg (n_nle hm (by omega))]
theorem a_about {N : Nat} {w : Wd} (hW : Fix w) (hM : secM w N) (d : Nat) (x y : Int32) : ∃ r, val (13, d + 1, 0, [some (.ref 64), some (.int x), some (.int y)], [], w) = some (some (.int r), w) ∧ val (198, d + 1, 0, [some (.ref 108), some (.int x), some (.int y)], [], w) = some (some (.int r), w) := by
  obtain ⟨mc, m1, m2, m3, m4⟩ := hM
  by_cases hx : x < 0 ∨ nI mc ≤ x
  · refine ⟨-1, (tr_13 d w x y).trans ?_, (tr_198 (d + 1) w hW x y (fun a b => by rw [m3] at b; exact absurd hx (fun h => h.elim a b)) (fun a b => by rw [m3] at b; exact absurd hx (fun h => h.elim a b))).trans ?_⟩
    · refine (val_call (pc2 := 5) rfl rfl rfl rfl (hW.rb _) (Nat.le_of_ble_eq_true rfl) (Nat.le_of_ble_eq_true rfl) rfl (c_isMethodX d hW m1 m2 hx) rfl).trans ?_
      refine (tr_13_5 d w hW x y _).trans ?_
      rw [if_neg (fun h => h rfl)]
    · rw [m3]
      by_cases h0 : x < 0
      · rw [if_pos h0]
      · rw [if_neg h0, if_pos (hx.resolve_left h0)]
  · obtain ⟨m, hm, rfl⟩ := m_lt (by omega) (fun h => hx (Or.inl h)) (fun h => hx (Or.inr h))
    obtain ⟨M, rs, c, g1, g2, g3, g4, g5, g6⟩ := m4 m hm
    have hi : inB (nI m) 9 = true := inB_nI (by omega) (by omega)
    have hm' : (nI m).toNatClampNeg = m := nI_clamp (by omega)
    have e2 := tr_198 (d + 1) w hW (nI m) y (by intros; exact hi) (by intros; exact hi)
    rw [if_neg (n_not_neg (by omega)), m3, if_neg (n_nle hm (by omega)), hm'] at e2
    have e0 : val (13, d + 1, 0, [some (.ref 64), some (.int (nI m)), some (.int y)], [], w) = val (13, d + 1, 5, [some (.ref 64), some (.int (nI m)), some (.int y)], [.int 1], w) := by
      refine (tr_13 d w (nI m) y).trans ?_
      refine (val_call (pc2 := 5) rfl rfl rfl rfl (hW.rb _) (Nat.le_of_ble_eq_true rfl) (Nat.le_of_ble_eq_true rfl) rfl (c_isMethod d hW m1 m2 hm) rfl).trans ?_
      rfl
    have e1 := e0.trans (tr_13_5 d w hW (nI m) y 1)
    rw [if_pos (by decide)] at e1
    have hk66 : wK w 66 = (25, 8) := hW.k 66 (by omega) (by omega)
    by_cases y0 : y = 0
    · subst y0
      rw [if_pos rfl] at e1
      rw [if_neg (by decide), if_pos (by decide), if_neg (fun h => h rfl)] at e2
      refine ⟨_, e1.trans ?_, e2⟩
      refine (val_aal rfl hk66 rfl (inB_nI (by omega) (by omega)) (by rw [hm']; exact g1)).trans ?_
      rw [tr_13_42 d w _ _ M 3 g2.2.2.1, g2.2.2.2.2.2.1, g3.1]
    · by_cases y1 : y = 1
      · subst y1
        rw [if_neg (by decide), if_pos rfl] at e1
        rw [if_neg (by decide), if_pos (by decide), if_pos (by decide)] at e2
        refine ⟨_, e1.trans ?_, e2⟩
        refine (val_aal rfl hk66 rfl (inB_nI (by omega) (by omega)) (by rw [hm']; exact g1)).trans ?_
        rw [tr_13_52 d w _ _ M 3 g2.2.2.1, g2.2.2.2.2.2.2.1, g4]
      · rw [if_neg y0, if_neg y1] at e1
        refine ⟨_, e1, e2.trans ?_⟩
        by_cases h0 : y < 0
        · rw [if_pos h0]
        · rw [if_neg h0, if_neg (fun h => ?_)]
          obtain ⟨Y, hY, rfl⟩ := i_nat h0
          have := (n_le_iff (b := 1) hY (by omega)).mp h
          rcases (show Y = 0 ∨ Y = 1 by omega) with rfl | rfl
          · exact y0 rfl
          · exact y1 rfl
/-- a rule's change on a row -/
theorem m_changed {N m q b : Nat} {u : Ru} {w : Wd} (h3 : 3 ≤ N) (hN : N ≤ 8) (hW : Fix w) (hn : gI w 108 0 = nI N) (hR : RuB w N m q u b) (hb : b ≤ 41 * m + 40) (hq : q < 180) {v : Int32} {f : Nat → Nat} (hf : IsNum N v f) {d : Nat} (hd : 121 ≤ d) : ∃ w', val (204, d + 3, 0, [some (.ref 108), some (.int (nI q)), some (.int v)], [], w) = some (some (.int (nI (dcN N (fun p => f (u.2 p))))), w') ∧ Fr WK w w' := by
  obtain ⟨h1, kn, e, h2, h4, h5, h6⟩ := hR
  obtain ⟨w1, e1, f1, l1⟩ := m_into h3 hN hf (d + 2) 126 (by decide) (by decide) hW (hW.k 126 (by decide) (by decide)) hn
  have hW1 := f1.fix rfl hW
  obtain ⟨d1, d2, d3, d4⟩ := h4
  obtain ⟨w2, e2, f2, l2⟩ := d4 w1 hW1 ((f1.i 108 0 rfl).trans hn) (Agr.fr f1 rfl _ _) f hf.1 l1 false (d + 2) (by omega)
  have hW2 := f2.fix rfl hW1
  have hq' : (nI q).toNatClampNeg = q := nI_clamp (by omega)
  refine ⟨w2, (tr_204 d w hW _ _).trans ?_, f1.trans f2⟩
  refine (val_call (pc2 := 9) rfl rfl rfl rfl (hW.rc _) (Nat.le_of_ble_eq_true rfl) (Nat.le_of_ble_eq_true rfl) rfl e1 rfl).trans ?_
  refine (tr_204_9 d w1 hW1 _ _ _ (inB_nI (by omega) (by omega))).trans ?_
  rw [hq', (f1.i 120 q rfl).trans h2]
  refine (val_call (pc2 := 25) rfl rfl rfl rfl (hW1.rc _) (Nat.le_of_ble_eq_true rfl) (Nat.le_of_ble_eq_true rfl) rfl e2 rfl).trans ?_
  refine (tr_204_25 d w2 hW2 _ _).trans ?_
  have e3 := m_asRow (f := fun p => f (u.2 p)) hN (d + 2) 126 hW2 (hW2.k 126 (by decide) (by decide)) ((f2.i 108 0 rfl).trans ((f1.i 108 0 rfl).trans hn)) l2
  refine (val_call (pc2 := 33) rfl rfl rfl rfl (hW2.rc _) (Nat.le_of_ble_eq_true rfl) (Nat.le_of_ble_eq_true rfl) rfl e3 rfl).trans ?_
  exact tr_204_33 d w2 _ _ _
theorem FrSC_WK : sbS WK [(109, none), (110, none), (111, none), (126, none)] = true := rfl
abbrev SW : List (Nat × Option Nat) := [(109, none), (110, none), (111, none), (126, none)]
theorem a_change {N : Nat} {w : Wd} (hW : Fix w) (hB : Bl w N) (hM : secM w N) {d : Nat} (hd : 121 ≤ d) (x y z : Int32) : ∃ r w2, val (14, d + 4, 0, [some (.ref 64), some (.int x), some (.int y), some (.int z), none], [], w) = some (some (.int r), w) ∧ val (205, d + 4, 0, [some (.ref 108), some (.int x), some (.int y), some (.int z)], [], w) = some (some (.int r), w2) ∧ Fr SW w w2 := by
  obtain ⟨h3, hN, hn, hmN⟩ := id hB
  obtain ⟨mc, m1, m2, m3, m4⟩ := hM
  have hO := okn h3 hN
  have cl : ∀ i, val (12, d + 3, 0, [some (.ref 64), some (.int x)], [], w) = some (some (.int i), w) → val (14, d + 4, 0, [some (.ref 64), some (.int x), some (.int y), some (.int z), none], [], w) = val (14, d + 4, 15, [some (.ref 64), some (.int x), some (.int y), some (.int z), some (.int (fn_134 (nI N) z))], [.int i], w) := fun i hi => by
    refine (tr_14 (d + 1) w hW x y z).trans ?_
    rw [hn]
    refine (val_call (pc2 := 8) rfl rfl rfl rfl rfl (Nat.le_of_ble_eq_true rfl) (Nat.le_of_ble_eq_true rfl) rfl (ev_134 (d + 2) w (nI N) z hO) rfl).trans ?_
    refine (tr_14_8 (d + 1) w _ _ _ _).trans ?_
    refine (val_call (pc2 := 15) rfl rfl rfl rfl (hW.rb _) (Nat.le_of_ble_eq_true rfl) (Nat.le_of_ble_eq_true rfl) rfl hi rfl).trans ?_
    rfl
  by_cases hx : x < 0 ∨ nI mc ≤ x
  · refine ⟨-1, w, (cl 0 (c_isMethodX (d + 3) hW m1 m2 hx)).trans ((tr_14_15 (d + 1) w hW _ _ _ _ _).trans (if_pos rfl)), ?_, Fr.refl _ _⟩
    refine (tr_205 d w hW x y z (fun a b => by rw [m3] at b; exact absurd hx (fun h => h.elim a b))).trans ?_
    rw [m3]
    by_cases h0 : x < 0
    · rw [if_pos h0]
    · rw [if_neg h0, if_pos (hx.resolve_left h0)]
  · obtain ⟨m, hm, rfl⟩ := m_lt (by omega) (fun h => hx (Or.inl h)) (fun h => hx (Or.inr h))
    obtain ⟨M, rs, c, g1, g2, g3, g4, g5, g6⟩ := m4 m hm
    have hi : inB (nI m) 9 = true := inB_nI (by omega) (by omega)
    have hm' : (nI m).toNatClampNeg = m := nI_clamp (by omega)
    have hrs := g2.2.2.2.2.2.2.2.1
    have e2 := tr_205 d w hW (nI m) y z (by intros; exact hi)
    rw [if_neg (n_not_neg (by omega)), m3, if_neg (n_nle hm (by omega)), hm', g3.1] at e2
    have e1 := (cl 1 (c_isMethod (d + 3) hW m1 m2 hm)).trans (tr_14_15 (d + 1) w hW _ _ _ _ _)
    rw [if_neg (by decide)] at e1
    have hk66 : wK w 66 = (25, 8) := hW.k 66 (by omega) (by omega)
    by_cases hy : y < 0 ∨ nI rs.length ≤ y
    · -- no such rule
      have e2' : val (205, d + 4, 0, [some (.ref 108), some (.int (nI m)), some (.int y), some (.int z)], [], w) = some (some (.int (-1)), w) := by
        refine e2.trans ?_
        by_cases h0 : y < 0
        · rw [if_pos h0]
        · rw [if_neg h0, if_pos (hy.resolve_left h0)]
      refine ⟨-1, w, e1.trans ?_, e2', Fr.refl _ _⟩
      by_cases hz : fn_134 (nI N) z = -1
      · rw [if_neg (fun h => h hz)]
      · rw [if_pos hz]
        by_cases h0 : y < 0
        · rw [if_pos h0]
        · rw [if_neg h0]
          refine (val_aal rfl hk66 rfl (inB_nI (by omega) (by omega)) (by rw [hm']; exact g1)).trans ?_
          refine (tr_14_37 (d + 1) w hW _ _ _ _ M y 3 g2.2.2.1).trans ?_
          rw [g2.2.2.2.2.2.1, if_neg (fun h => by
            obtain ⟨Y, hY, rfl⟩ := i_nat h0
            have a1 := (n_lt_iff hY (by omega)).mp h
            have a2 := (n_le_iff (by omega) hY).mp (hy.resolve_left h0)
            omega)]
    · obtain ⟨j, hj, rfl⟩ := m_lt (by omega) (fun h => hy (Or.inl h)) (fun h => hy (Or.inr h))
      rw [if_neg (n_not_neg (by omega)), if_neg (n_nle hj (by omega))] at e2
      by_cases hz : ∃ f, IsNum N z f
      · obtain ⟨f, hf⟩ := hz
        obtain ⟨w1, r1, f1⟩ := m_isRow h3 hN hf (d + 2) hW hmN
        have hW1 := f1.fix rfl hW
        have hR : RuB w1 N m (20 * m + j) (rs.getD j ru0) (41 * m + c) := (g3.fa f1.a rfl).2 j hj
        obtain ⟨w2, r2, f2⟩ := m_changed (d := d) h3 hN hW1 ((f1.i 108 0 rfl).trans hmN) hR (by omega) (by omega) hf hd
        have hu : IsRow N (rs.getD j ru0).2 := (g6 j hj).2.2
        refine ⟨nI (dcN N (fun p => f ((rs.getD j ru0).2 p))), w2, e1.trans ?_, e2.trans ?_, (f1.mono rfl).trans (f2.mono rfl)⟩
        · rw [from_yes hN hf, if_pos (neg_nn (pkN_lt hN hf.1.1)), if_neg (n_not_neg (by omega))]
          refine (val_aal rfl hk66 rfl (inB_nI (by omega) (by omega)) (by rw [hm']; exact g1)).trans ?_
          refine (tr_14_37 (d + 1) w hW _ _ _ _ M _ 3 g2.2.2.1).trans ?_
          rw [g2.2.2.2.2.2.1, if_pos (n_lt hj (by omega)), hn]
          refine (val_aal rfl hk66 rfl (inB_nI (by omega) (by omega)) (by rw [hm']; exact g1)).trans ?_
          obtain ⟨q1, q2⟩ := g2.2.2.2.2.2.2.2.2 j hj
          refine (tr_14_58 (d + 1) w _ _ _ _ M _ _ 3 g2.2.2.1 (M + 1) g2.2.2.2.2.1).trans ?_
          refine (val_aal rfl g2.2.2.2.1 rfl (inB_nI (by omega) (by omega)) (by rw [nI_clamp (by omega)]; exact q1)).trans ?_
          refine (tr_14_63 (d + 1) w _ _ _ _ _ _ _ _ q2.1.1).trans ?_
          rw [q2.2]
          refine (val_call (pc2 := 69) rfl rfl rfl rfl rfl (Nat.le_of_ble_eq_true rfl) (Nat.le_of_ble_eq_true rfl) rfl (ev_136 (d + 2) w (nI N) (nI (pkN N f)) (nI (pkN N (rs.getD j ru0).2)) hO) rfl).trans ?_
          rw [r_136 hN hf.1.1 hu.1]
          refine (val_call (pc2 := 72) rfl rfl rfl rfl (hW.rb _) (Nat.le_of_ble_eq_true rfl) (Nat.le_of_ble_eq_true rfl) rfl (c_numberOf hW hB (hf.1.comp hu).1 (d + 1)) rfl).trans ?_
          exact tr_14_72 (d + 1) w _ _ _ _ _
        · refine (val_call (pc2 := 31) rfl rfl rfl rfl (hW.rc _) (Nat.le_of_ble_eq_true rfl) (Nat.le_of_ble_eq_true rfl) rfl r1 rfl).trans ?_
          refine (tr_205_31 d w1 _ _ _ _).trans ?_
          rw [if_pos (by decide), show (20 : Int32) = nI 20 from rfl, n_mul, n_add]
          refine (val_call (pc2 := 47) rfl rfl rfl rfl (hW1.rc _) (Nat.le_of_ble_eq_true rfl) (Nat.le_of_ble_eq_true rfl) rfl r2 rfl).trans ?_
          exact tr_205_47 d w2 _ _ _ _
      · have hz' : ∀ f, ¬ IsNum N z f := fun f hf => hz ⟨f, hf⟩
        obtain ⟨w1, r1, f1⟩ := m_isRowX h3 hN hz' (d + 2) hW hmN
        refine ⟨-1, w1, e1.trans ?_, e2.trans ?_, f1.mono rfl⟩
        · rw [from_no hN (by omega) hz', if_neg (fun h => h rfl)]
        · refine (val_call (pc2 := 31) rfl rfl rfl rfl (hW.rc _) (Nat.le_of_ble_eq_true rfl) (Nat.le_of_ble_eq_true rfl) rfl r1 rfl).trans ?_
          refine (tr_205_31 d w1 _ _ _ _).trans ?_
          rw [if_neg (fun h => h rfl)]
