/-! THE SHELF: item, copy -/
theorem a_item {N : Nat} {w : Wd} (hW : Fix w) (hB : Bl w N) (hS : secS w N) (d : Nat) (b s i : Int32) : ∃ r, val (47, d + 3, 0, [some (.ref 64), some (.int b), some (.int s), some (.int i), none, none], [], w) = some (some (.long r), w) ∧ val (256, d + 3, 0, [some (.ref 108), some (.int b), some (.int s), some (.int i), none, none], [], w) = some (some (.long r), w) := by
  obtain ⟨n3, n8, hn, hm⟩ := id hB
  rcases brd b with ⟨h1, h2⟩ | ⟨B, hb, rfl, h1, h2⟩
  · refine ⟨0, ?_, ?_⟩
    · refine (tr_47 d w hW b s i).trans ?_
      rw [if_pos h1]
    · refine (tr_256 (d + 2) w hW b s i (fun h => absurd h2 h) (fun h => absurd h2 h) (fun h => absurd h2 h) (fun h => absurd h2 h) (fun h => absurd h2 h) (fun h => absurd h2 h) (fun h => absurd h2 h)).trans ?_
      rw [if_pos h2]
  have hi : inB (nI B) 8 = true := inB_nI hb (by omega)
  have hc : (nI B).toNatClampNeg = B := nI_clamp (by omega)
  have b1 : ¬ fn_39 (nI B) = 0 := by rw [h1]; decide
  have b2 : ¬ fn_250 (nI B) = 0 := by rw [h2]; decide
  rcases srt s with ⟨s1, s2⟩ | ⟨T, hT, rfl, s1, s2, s3, s4⟩
  · refine ⟨0, ?_, ?_⟩
    · refine (tr_47 d w hW _ s i).trans ?_
      rw [if_neg b1, if_neg (fun h => h s1)]
    · rcases Decidable.em (s < 0) with h | h
      · refine (tr_256 (d + 2) w hW _ s i (fun _ h' => absurd h h') (fun _ h' => absurd h h') (fun _ h' => absurd h h') (fun _ h' => absurd h h') (fun _ h' => absurd h h') (fun _ h' => absurd h h') (fun _ h' => absurd h h')).trans ?_
        rw [if_neg b2, if_pos h]
      · have h4 : ¬ s ≤ 4 := by
          rcases s2 with s2 | s2
          · exact absurd s2 h
          · exact Int32.not_le.mpr s2
        refine (tr_256 (d + 2) w hW _ s i (fun _ _ h' => absurd h' h4) (fun _ _ h' => absurd h' h4) (fun _ _ h' => absurd h' h4) (fun _ _ h' => absurd h' h4) (fun _ _ h' => absurd h' h4) (fun _ _ h' => absurd h' h4) (fun _ _ h' => absurd h' h4)).trans ?_
        rw [if_neg b2, if_neg h, if_neg h4]
  have t1 : ¬ fn_40 (nI T) = 0 := by rw [s1]; decide
  rcases hS B hb with ⟨a1, a2⟩ | ⟨u, n, a1, a2, a3, a4, a5, a6, a7⟩
  · refine ⟨-4, ?_, ?_⟩
    · refine (tr_47 d w hW _ _ i).trans ?_
      rw [if_neg b1, if_pos t1]
      refine (val_call (pc2 := 24) rfl rfl rfl rfl (rcvO (hW.k 96 (by omega) (by omega)) (by decide)) (Nat.le_of_ble_eq_true rfl) (Nat.le_of_ble_eq_true rfl) rfl ((tr_162 (d + 2) w hW _ hi).trans (by rw [hc, a1, if_neg (fun h => h rfl)])) rfl).trans ?_
      refine (tr_47_24 d w hW _ _ _ _).trans ?_
      rw [if_neg (by decide)]
    · refine (tr_256 (d + 2) w hW _ _ i (fun _ _ _ => hi) (fun _ _ _ _ => hi) (fun _ _ _ h => absurd (by rw [hc]; exact a2) h) (fun _ _ _ h => absurd (by rw [hc]; exact a2) h) (fun _ _ _ _ _ => hi) (fun _ _ _ h => absurd (by rw [hc]; exact a2) h) (fun _ _ _ h => absurd (by rw [hc]; exact a2) h)).trans ?_
      rw [if_neg b2, if_neg s2, if_pos s4, hc, a2, if_neg (fun h => h rfl)]
  have u9 : ¬ nI u = -9 := n9 (by omega)
  have cl : val (47, d + 3, 0, [some (.ref 64), some (.int (nI B)), some (.int (nI T)), some (.int i), none, none], [], w) = val (47, d + 3, 40, [some (.ref 64), some (.int (nI B)), some (.int (nI T)), some (.int i), none, none], [.int (if u = T ∨ (u = 4 ∧ T = 3) then 1 else 0)], w) := by
    refine (tr_47 d w hW _ _ i).trans ?_
    rw [if_neg b1, if_pos t1]
    refine (val_call (pc2 := 24) rfl rfl rfl rfl (rcvO (hW.k 96 (by omega) (by omega)) (by decide)) (Nat.le_of_ble_eq_true rfl) (Nat.le_of_ble_eq_true rfl) rfl ((tr_162 (d + 2) w hW _ hi).trans (by rw [hc, a3, if_pos (neg_nn (by omega))])) rfl).trans ?_
    refine (tr_47_24 d w hW _ _ _ _).trans ?_
    rw [if_pos rfl]
    have e : val (167, d + 2, 0, [some (.ref 96), some (.int (nI B)), some (.int (nI T))], [], w) = some (some (.int (if u = T ∨ (u = 4 ∧ T = 3) then 1 else 0)), w) := by
      refine (tr_167 (d + 2) w hW _ _ hi (fun _ => hi)).trans ?_
      rw [hc, a3]
      by_cases e1 : u = T
      · rw [if_pos (by rw [e1]), if_pos (Or.inl e1)]
      · rw [if_neg (n_ne e1 (by omega) (by omega))]
        by_cases e2 : u = 4
        · subst e2
          rw [if_neg (fun h => h rfl)]
          by_cases e3 : T = 3
          · subst e3
            rw [if_neg (fun h => h rfl), if_pos (Or.inr ⟨rfl, rfl⟩)]
          · rw [if_pos (show ¬ nI T = 3 from n_ne (b := 3) e3 (by omega) (by omega)), if_neg (fun h => by rcases h with h | ⟨_, h⟩ <;> omega)]
        · rw [if_pos (show ¬ nI u = 4 from n_ne (b := 4) e2 (by omega) (by omega)), if_neg (fun h => by rcases h with h | ⟨h, _⟩ <;> omega)]
    refine (val_call (pc2 := 40) rfl rfl rfl rfl (rcvO (hW.k 96 (by omega) (by omega)) (by decide)) (Nat.le_of_ble_eq_true rfl) (Nat.le_of_ble_eq_true rfl) rfl e rfl).trans ?_
    rfl
  have hbad : ∀ k, k < n → inB (64 * nI B + nI k) 512 = true := fun k hk => by
    rw [show (64 : Int32) = nI 64 from rfl, n_mul, n_add]
    exact inB_nI (by omega) (by omega)
  have hin : ¬ i < 0 → i < gI w 146 ((nI B).toNatClampNeg) → inB (64 * nI B + i) 512 = true := fun h1 h2 => by
    obtain ⟨V, hV, rfl⟩ := i_nat h1
    rw [hc, a6] at h2
    exact hbad V ((n_lt_iff hV (by omega)).mp h2)
  have ml := tr_256 (d + 2) w hW (nI B) (nI T) i (fun _ _ _ => hi) (fun _ _ _ _ => hi) (fun _ _ _ _ _ _ => hi) (fun _ _ _ _ _ g1 g2 => hin g1 g2) (fun _ _ _ _ _ => hi) (fun _ _ _ _ _ _ _ _ => hi) (fun _ _ _ _ _ _ _ g1 g2 => hin g1 g2)
  rw [if_neg b2, if_neg s2, if_pos s4, hc, a4, a6, if_pos u9] at ml
  by_cases hr : u = T ∨ (u = 4 ∧ T = 3)
  rotate_left
  · refine ⟨-7, ?_, ?_⟩
    · refine cl.trans ((tr_47_40 d w hW _ _ _ _ (fun _ _ => hi)).trans ?_)
      rw [if_neg hr, if_neg (fun h => h rfl)]
    · refine ml.trans ?_
      rw [if_neg (n_ne (fun h => hr (Or.inl h)) (by omega) (by omega))]
      by_cases e2 : u = 4
      · subst e2
        rw [if_neg (fun h => h rfl), if_neg (show ¬ nI T = 3 from n_ne (b := 3) (fun h => hr (Or.inr ⟨rfl, h⟩)) (by omega) (by omega))]
      · rw [if_pos (show ¬ nI u = 4 from n_ne (b := 4) e2 (by omega) (by omega))]
  have ml2 : val (256, d + 3, 0, [some (.ref 108), some (.int (nI B)), some (.int (nI T)), some (.int i), none, none], [], w) = (if i < 0 then some (some (.long (-6)), w) else (if i < nI n then (if nI T ≤ 2 then some (some (.long (gL w 147 (64 * nI B + i).toNatClampNeg)), w) else (if ¬ cmpL (gL w 147 (64 * nI B + i).toNatClampNeg) 0 = 0 then some (some (.long (gL w 147 (64 * nI B + i).toNatClampNeg)), w) else some (some (.long (-4)), w))) else some (some (.long (-6)), w))) := by
    refine ml.trans ?_
    rcases hr with h | ⟨h, h'⟩
    · rw [if_pos (by rw [h])]
    · subst h
      subst h'
      rw [if_neg (by decide), if_neg (fun h => h rfl), if_pos (show nI 3 = 3 from rfl)]
  have cl2 := cl.trans (tr_47_40 d w hW _ _ i _ (fun _ _ => hi))
  rw [if_pos hr, if_pos (by decide), hc, a5] at cl2
  by_cases i0 : i < 0
  · refine ⟨-6, ?_, ?_⟩
    · rw [cl2, if_pos i0]
    · rw [ml2, if_pos i0]
  obtain ⟨k, hk, rfl⟩ := i_nat i0
  by_cases hkn : k < n
  rotate_left
  · refine ⟨-6, ?_, ?_⟩
    · rw [cl2, if_neg i0, if_neg (n_nlt (by omega) hk)]
    · rw [ml2, if_neg i0, if_neg (n_nlt (by omega) hk)]
  obtain ⟨i1, i2⟩ := hW.it hb
  have cl3 : val (47, d + 3, 0, [some (.ref 64), some (.int (nI B)), some (.int (nI T)), some (.int (nI k)), none, none], [], w) = val (47, d + 3, 77, [some (.ref 64), some (.int (nI B)), some (.int (nI T)), some (.int (nI k)), none, none], [.ref (100 + B)], w) := by
    rw [cl2, if_neg i0, if_pos (n_lt hkn (by omega))]
    exact val_aal rfl (hW.k 99 (by omega) (by omega)) rfl hi (by rw [hc]; exact i1)
  have cl4 := cl3.trans (tr_47_77 d w _ _ _ _ 64 i2 (inB_nI (by omega) (by omega)))
  rw [if_neg i0, if_pos (n_lt hkn (by omega)), show (64 : Int32) = nI 64 from rfl, n_mul, n_add, nI_clamp (n := 64 * B + k) (by omega)] at ml2
  rw [fn163 hT, nI_clamp (n := k) (by omega)] at cl4
  have it := a7 k hkn
  by_cases hT2 : T ≤ 2
  · have hu : u ≤ 2 := by omega
    refine ⟨gL w 147 (64 * B + k), ?_, ?_⟩
    · rw [cl4, if_pos hT2, if_neg (fun h => h rfl), it.1 hu]
    · rw [ml2, if_pos (show nI T ≤ 2 from n_le (b := 2) hT2 (by omega))]
  · rcases it.2 (by omega) with ⟨x0, y0⟩ | ⟨f, cc, g1, g2, g3, g4, g5, g6⟩
    · refine ⟨-4, ?_, ?_⟩
      · rw [cl4, if_neg hT2, if_pos (by decide), x0, if_neg (fun h => h (cmpL_self 0))]
      · rw [ml2, if_neg (show ¬ nI T ≤ 2 from n_nle (b := 2) (by omega) (by omega)), y0, if_neg (fun h => h (cmpL_self 0))]
    · have hp := pk_pos n3 n8 g1
      have hp2 := pkN_lt n8 g1.1
      have hd := dc_pos n3 n8 g1
      have hd2 := dcN_31 n8 g1
      refine ⟨lI (dcN N f), ?_, ?_⟩
      · rw [cl4, if_neg hT2, if_pos (by decide), g3, if_pos (fun h => lnL_0 hp hp2 g2 (cmpL_0.mp h)), fn165 hp2 g2]
        refine (val_call (pc2 := 113) rfl rfl rfl rfl (hW.rb _) (Nat.le_of_ble_eq_true rfl) (Nat.le_of_ble_eq_true rfl) rfl (c_numberOf hW hB g1.1 d) rfl).trans ?_
        refine (tr_47_113 d w _ _ _ _ _).trans ?_
        rw [l_ofI hd2]
      · rw [ml2, if_neg (show ¬ nI T ≤ 2 from n_nle (b := 2) (by omega) (by omega)), g4, if_pos (lI_0 hd (by omega))]
