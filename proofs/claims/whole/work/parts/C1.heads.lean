/-! CALL: heads -/
abbrev FHm : List (Nat × Option Nat) := [(109, none), (110, none), (111, none), (130, none), (136, none), (108, some 41), (135, none)]
theorem m_heads0 (d : Nat) {w : Wd} (hW : Fix w) (l1 l2 : Int32) : ∃ w', val (223, d + 2, 33, [some (.ref 108), some (.int l1), some (.int l2), some (.int 0), none], [], w) = val (223, d + 2, 54, [some (.ref 108), some (.int l1), some (.int l2), some (.int l1), none], [], w') ∧ Fr [(130, none)] w w' ∧ ∀ k, k < 40320 → gI w' 130 k = 0 := by
  have hL := loopUp (c := fun k v => (223, d + 2, 33, [some (.ref 108), some (.int l1), some (.int l2), some (.int (nI k)), none], [], v)) (P := fun k v => Fr [(130, none)] w v ∧ ∀ i, i < k → gI v 130 i = 0) (R := fun r => ∃ w', r = val (223, d + 2, 54, [some (.ref 108), some (.int l1), some (.int l2), some (.int l1), none], [], w') ∧ Fr [(130, none)] w w' ∧ ∀ k, k < 40320 → gI w' 130 k = 0) (N := 40320) (fun v hv => ⟨v, (tr_223_33 d v (hv.1.fix rfl hW) _ _ _ (fun h => absurd (Int32.le_refl _) h)).trans (if_pos (Int32.le_refl _)), hv.1, hv.2⟩) (fun k v hk hv => Or.inr ⟨sI v 130 k 0, (tr_223_33 d v (hv.1.fix rfl hW) _ _ _ (fun _ => inB_nI hk (by decide))).trans (by
      rw [if_neg (show ¬ (40320 : Int32) ≤ nI k from n_nle (a := 40320) hk (by decide)), n_succ, nI_clamp (by omega)]), hv.1.sI 130 _ _ rfl, fun i hi => by
        by_cases e : i = k
        · rw [e, gI_same]
        · rw [gI_nk _ _ _ e]; exact hv.2 i (by omega)⟩) w ⟨Fr.refl _ _, fun i hi => absurd hi (Nat.not_lt_zero i)⟩
  exact hL
theorem a_heads {N : Nat} {w : Wd} (hW : Fix w) (hB : Bl w N) (hR : secR w N) (hH : secH w N) (d : Nat) (x y : Int32) : ∃ r w1 w2, val (25, d + 4, 0, [some (.ref 64), some (.int x), some (.int y)], [], w) = some (some (.int r), w1) ∧ val (223, d + 4, 0, [some (.ref 108), some (.int x), some (.int y), none, none], [], w1) = some (some (.int r), w2) ∧ Fr FFe w w1 ∧ Fr FHm w1 w2 ∧ secH w2 N := by
  obtain ⟨h3, hN, hn, hm⟩ := id hB
  have h0i : (0 : Int32).toInt = 0 := by decide
  have e1 := tr_25 d w hW x y
  rcases hR with hO | ⟨m, M, cl, s, hO⟩
  · have hoff : RunOff w := ⟨hO.1, hO.2.1⟩
    refine ⟨-1, w, w, e1.trans ?_, (tr_223 (d + 2) w x y).trans ?_, Fr.refl _ _, Fr.refl _ _, hH⟩
    · split
      · rfl
      · split
        · rfl
        · split
          · rfl
          · refine (val_call (pc2 := 30) rfl rfl rfl rfl (rcvO hW.k67 (by decide)) (Nat.le_of_ble_eq_true rfl) (Nat.le_of_ble_eq_true rfl) rfl (c_hasOff (d + 2) hW hoff x (y - x + 1)) rfl).trans ?_
            refine (tr_25_30 d w hW x y _).trans ?_
            rw [if_neg (fun h => h rfl)]
    · refine (val_call (pc2 := 5) rfl rfl rfl rfl (hW.rc _) (Nat.le_of_ble_eq_true rfl) (Nat.le_of_ble_eq_true rfl) rfl (m_isAtOff (d + 3) hW hoff x) rfl).trans ?_
      refine (tr_223_5 (d + 2) w x y _).trans ?_
      rw [if_pos rfl]
  · have hon := hO.on
    obtain ⟨hL, hM1, ⟨a1, a2, a3, a4, a5, a6, a7, a8⟩, ⟨b1, b2, b3, b4, b5, b6, b7⟩, s3⟩ := hO
    have hS := s3.1
    have atx := m_isAt (d + 3) hW hon x
    by_cases h0 : x < 0
    · rw [if_pos h0] at e1
      refine ⟨-1, w, w, e1, (tr_223 (d + 2) w x y).trans ?_, Fr.refl _ _, Fr.refl _ _, hH⟩
      rw [if_neg (by have := Int32.lt_iff_toInt_lt.mp h0; omega)] at atx
      refine (val_call (pc2 := 5) rfl rfl rfl rfl (hW.rc _) (Nat.le_of_ble_eq_true rfl) (Nat.le_of_ble_eq_true rfl) rfl atx rfl).trans ?_
      refine (tr_223_5 (d + 2) w x y _).trans ?_
      rw [if_pos rfl]
    obtain ⟨A, hA, rfl⟩ := i_nat h0
    rw [nI_toInt hA] at atx
    rw [if_neg h0] at e1
    -- what the reference says once the first row is there
    have r1 : ∀ i, val (214, d + 3, 0, [some (.ref 108), some (.int (nI A))], [], w) = some (some (.int i), w) → val (223, d + 4, 0, [some (.ref 108), some (.int (nI A)), some (.int y), none, none], [], w) = val (223, d + 4, 5, [some (.ref 108), some (.int (nI A)), some (.int y), none, none], [.int i], w) := fun i hi => by
      refine (tr_223 (d + 2) w (nI A) y).trans ?_
      refine (val_call (pc2 := 5) rfl rfl rfl rfl (hW.rc _) (Nat.le_of_ble_eq_true rfl) (Nat.le_of_ble_eq_true rfl) rfl hi rfl).trans ?_
      rfl
    have aty := m_isAt (d + 3) hW hon y
    have r2 : ∀ i, val (214, d + 3, 0, [some (.ref 108), some (.int y)], [], w) = some (some (.int i), w) → val (223, d + 4, 10, [some (.ref 108), some (.int (nI A)), some (.int y), none, none], [.int y, .ref 108], w) = val (223, d + 4, 13, [some (.ref 108), some (.int (nI A)), some (.int y), none, none], [.int i], w) := fun i hi => by
      refine (val_call (pc2 := 13) rfl rfl rfl rfl (hW.rc _) (Nat.le_of_ble_eq_true rfl) (Nat.le_of_ble_eq_true rfl) rfl hi rfl).trans ?_
      rfl
    have rno : A ≤ s.1 → ¬ (0 ≤ y.toInt ∧ y.toInt ≤ s.1) ∨ y < nI A ∨ ¬ y - nI A ≤ 59 → val (223, d + 4, 0, [some (.ref 108), some (.int (nI A)), some (.int y), none, none], [], w) = some (some (.int (-1)), w) := fun hAS hy => by
      rw [if_pos (by omega)] at atx
      refine (r1 1 atx).trans ((tr_223_5 (d + 2) w (nI A) y 1).trans ?_)
      rw [if_neg (by decide)]
      by_cases c : 0 ≤ y.toInt ∧ y.toInt ≤ s.1
      · rw [if_pos c] at aty
        refine (r2 1 aty).trans ((tr_223_13 (d + 2) w (nI A) y 1).trans ?_)
        rw [if_neg (by decide)]
        by_cases c2 : y < nI A
        · rw [if_pos c2]
        · rw [if_neg c2, if_neg ((hy.resolve_left (fun h => h c)).resolve_left c2)]
      · rw [if_neg c] at aty
        refine (r2 0 aty).trans ((tr_223_13 (d + 2) w (nI A) y 0).trans ?_)
        rw [if_pos rfl]
    have rnoA : ¬ A ≤ s.1 → val (223, d + 4, 0, [some (.ref 108), some (.int (nI A)), some (.int y), none, none], [], w) = some (some (.int (-1)), w) := fun hAS => by
      rw [if_neg (by omega)] at atx
      refine (r1 0 atx).trans ((tr_223_5 (d + 2) w (nI A) y 0).trans ?_)
      rw [if_pos rfl]
    have rno' : ¬ (0 ≤ y.toInt ∧ y.toInt ≤ s.1) ∨ y < nI A ∨ ¬ y - nI A ≤ 59 → val (223, d + 4, 0, [some (.ref 108), some (.int (nI A)), some (.int y), none, none], [], w) = some (some (.int (-1)), w) := fun h => by
      by_cases c : A ≤ s.1
      · exact rno c h
      · exact rnoA c
    by_cases h1 : y < nI A
    · rw [if_pos h1] at e1
      exact ⟨-1, w, w, e1, rno' (Or.inr (Or.inl h1)), Fr.refl _ _, Fr.refl _ _, hH⟩
    rw [if_neg h1] at e1
    have hy0 : ¬ y < 0 := fun h => h1 (by
      have q1 := Int32.lt_iff_toInt_lt.mp h
      exact Int32.lt_iff_toInt_lt.mpr (by rw [nI_toInt hA]; omega))
    obtain ⟨B, hBb, rfl⟩ := i_nat hy0
    have hAB : A ≤ B := by
      by_cases c : A ≤ B
      · exact c
      · exact absurd (n_lt (show B < A by omega) hA) h1
    have sBA : nI B - nI A = nI (B - A) := n_sub hAB
    rw [sBA] at e1 rno'
    by_cases h2 : (60 : Int32) ≤ nI (B - A)
    · rw [if_pos h2] at e1
      refine ⟨-1, w, w, e1, rno' (Or.inr (Or.inr (fun h => ?_))), Fr.refl _ _, Fr.refl _ _, hH⟩
      have q1 := (n_le_iff (a := 60) (by decide) (show B - A < 2 ^ 31 by omega)).mp h2
      have q2 := (n_le_iff (b := 59) (show B - A < 2 ^ 31 by omega) (by decide)).mp h
      omega
    have h59 : B - A ≤ 59 := by
      by_cases c : B - A ≤ 59
      · exact c
      · exact absurd (n_le (a := 60) (show 60 ≤ B - A by omega) (by omega)) h2
    rw [if_neg h2, n_succ] at e1
    have has := c_has (d + 2) hW hon (nI A) (c := B - A + 1) (by omega) (by omega)
    rw [nI_toInt hA] at has
    by_cases hBS : B ≤ s.1
    · rw [if_pos (by omega)] at has
      rw [if_pos (by omega)] at atx
      rw [nI_toInt hBb, if_pos (by omega)] at aty
      obtain ⟨w1, P, f0, f1, g1, g2, g3, g4⟩ := c_find (G := fun i => s.2.1 (A + i)) h3 hN hAB (show B ≤ 2000 by omega) h59 (fun i hi => s3.2.1 _ (by omega)) d hW (fun i hi => a5 _ (by omega))
      have hW1 := f1.fix rfl hW
      have hn1 := (f1.i 108 0 rfl).trans hm
      have on1 : RunOn w1 N s.1 s.2.1 := hon.fr f1 rfl
      have q1 : val (223, d + 4, 0, [some (.ref 108), some (.int (nI A)), some (.int (nI B)), none, none], [], w1) = val (223, d + 4, 33, [some (.ref 108), some (.int (nI A)), some (.int (nI B)), some (.int 0), none], [], w1) := by
        have atx1 := m_isAt (d + 3) hW1 on1 (nI A)
        rw [nI_toInt hA, if_pos (by omega)] at atx1
        have aty1 := m_isAt (d + 3) hW1 on1 (nI B)
        rw [nI_toInt hBb, if_pos (by omega)] at aty1
        refine (tr_223 (d + 2) w1 (nI A) (nI B)).trans ?_
        refine (val_call (pc2 := 5) rfl rfl rfl rfl (hW1.rc _) (Nat.le_of_ble_eq_true rfl) (Nat.le_of_ble_eq_true rfl) rfl atx1 rfl).trans ?_
        refine (tr_223_5 (d + 2) w1 (nI A) (nI B) 1).trans ?_
        rw [if_neg (by decide)]
        refine (val_call (pc2 := 13) rfl rfl rfl rfl (hW1.rc _) (Nat.le_of_ble_eq_true rfl) (Nat.le_of_ble_eq_true rfl) rfl aty1 rfl).trans ?_
        refine (tr_223_13 (d + 2) w1 (nI A) (nI B) 1).trans ?_
        rw [if_neg (by decide), if_neg h1, sBA, if_pos (show nI (B - A) ≤ 59 from n_le (b := 59) h59 (by decide))]
      obtain ⟨w2, q2, f2, z2⟩ := m_heads0 (d + 2) hW1 (nI A) (nI B)
      have hW2 := f2.fix rfl hW1
      have f12 : Fr [(80, some 1), (81, none), (82, none), (83, none), (130, none)] w w2 := (f1.mono rfl).trans (f2.mono rfl)
      obtain ⟨w3, q3, f3, z3⟩ := m_invs (G := fun i => s.2.1 (A + i)) h3 hN hAB (show B ≤ 2000 by omega) h59 (fun i hi => s3.2.1 _ (by omega)) (d + 2) (B - A + 1) 0 w2 (Nat.zero_add _) hW2 ((f2.i 108 0 rfl).trans hn1) (fun i hi => (f12.i 127 _ rfl).trans (b5 _ (by omega))) (fun i hi => absurd hi (Nat.not_lt_zero i))
      have hW3 := f3.fix rfl hW2
      have f13 : Fr [(80, some 1), (81, none), (82, none), (83, none), (130, none), (109, none), (110, none), (111, none), (136, none)] w w3 := (f12.mono rfl).trans (f3.mono rfl)
      obtain ⟨w4, Q, k4, q4, f4, z4, qm⟩ := m_seenX (G := fun i => s.2.1 (A + i)) h3 hN hAB (show B ≤ 2000 by omega) h59 (fun i hi => s3.2.1 _ (by omega)) (d + 2) (B - A + 1) 0 w3 (fun _ => false) none (Nat.zero_add _) hW3 ((f13.i 108 0 rfl).trans hm) (fun i hi => (f13.i 127 _ rfl).trans (b5 _ (by omega))) z3 (fun r hr => (f3.i 130 r rfl).trans (z2 r hr)) (fun r => ⟨fun h => (by cases h), fun h => by
        rcases h with ⟨x', y', h1, -⟩ | ⟨y', h1, -⟩
        · exact absurd h1 (Nat.not_lt_zero x')
        · exact absurd h1 (Nat.not_lt_zero y')⟩)
      have hW4 := f4.fix rfl hW3
      have ePQ : P = Q := by
        funext r
        refine Bool.eq_iff_iff.mpr ((g2 r).trans ((qm r).trans ?_).symm)
        constructor
        · rintro (⟨x', y', h1, h2, h4⟩ | ⟨y', h1, -⟩)
          · exact ⟨y', x', h2, by omega, h4⟩
          · exact absurd h1 (Nat.not_lt_zero y')
        · rintro ⟨y', x', h1, h2, h4⟩
          exact Or.inl ⟨x', y', by omega, h1, h4⟩
      subst ePQ
      have f5 : Fr [(108, some 41)] w4 (sI w4 108 41 0) := (Fr.refl _ w4).sI 108 41 _ rfl
      have f34 : Fr [(130, none), (109, none), (110, none), (111, none), (136, none)] w1 w4 := ((f2.mono rfl).trans (f3.mono rfl)).trans (f4.mono rfl)
      obtain ⟨w6, q6, f6, z6, z7⟩ := m_hgather h3 hN (d + 2) g3 (nI A) (nI B) k4 (fc N) 0 (sI w4 108 41 0) (Nat.zero_add _) (f5.fix rfl hW4) ((f5.i 108 0 rfl).trans ((f34.i 108 0 rfl).trans hn1)) (fun r hr => (f5.i 130 r rfl).trans (z4 r hr)) (gI_same _ _ _ _) (fun r hr => absurd hr (Nat.not_lt_zero r))
      have f16 : Fr FHm w1 w6 := ((f34.mono rfl).trans (f5.mono rfl)).trans (f6.mono rfl)
      refine ⟨nI (cn P (fc N)), w1, w6, e1.trans ?_, q1.trans (q2.trans (q3.trans (q4.trans q6))), f1, f16, P, g3, (f16.i 80 1 rfl).trans g1.1, z6, fun r hr hp => ⟨(f16.i 81 _ rfl).trans (g1.2 r hr hp), z7 r hr hp⟩⟩
      refine (val_call (pc2 := 30) rfl rfl rfl rfl (rcvO hW.k67 (by decide)) (Nat.le_of_ble_eq_true rfl) (Nat.le_of_ble_eq_true rfl) rfl has rfl).trans ?_
      refine (tr_25_30 d w hW _ _ _).trans ?_
      rw [if_pos (by decide), hn]
      refine (val_call (pc2 := 55) rfl rfl rfl rfl (rcvO hW.k80 (by decide)) (Nat.le_of_ble_eq_true rfl) (Nat.le_of_ble_eq_true rfl) rfl f0 rfl).trans ?_
      refine (tr_25_55 d w1 hW1 _ _).trans ?_
      rw [g1.1]
    · rw [if_neg (by omega)] at has
      refine ⟨-1, w, w, e1.trans ?_, rno' (Or.inl (by rw [nI_toInt hBb]; omega)), Fr.refl _ _, Fr.refl _ _, hH⟩
      refine (val_call (pc2 := 30) rfl rfl rfl rfl (rcvO hW.k67 (by decide)) (Nat.le_of_ble_eq_true rfl) (Nat.le_of_ble_eq_true rfl) rfl has rfl).trans ?_
      refine (tr_25_30 d w hW _ _ _).trans ?_
      rw [if_neg (fun h => h rfl)]
