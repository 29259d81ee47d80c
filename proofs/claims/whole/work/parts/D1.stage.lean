/-! CALL: stage -/
abbrev FAm : List (Nat × Option Nat) := [(108, some 11), (108, some 27), (108, some 29), (108, some 36), (108, some 41), (108, some 47), (108, some 49), (108, some 50), (108, some 51), (108, some 52), (108, some 54), (137, none), (138, none), (139, none), (145, none)]
theorem CA.fr {S : List (Nat × Option Nat)} {w v : Wd} {N : Nat} (h : CA w N) (hf : Fr S w v) (ht : dj S FAc = true) : CA v N := by
  obtain ⟨a1, a2, ⟨a3, a4, a5⟩, a6, ⟨a7, b1, b2, b3, b4, b5⟩, ⟨c1, c2, c3⟩, c4⟩ := h
  have o : ∀ a k, inS FAc a k = true → gI v a k = gI w a k := fun a k hi => hf.i a k (dj_off ht hi)
  refine ⟨(o 64 4 rfl).trans a1, (hf.r 67 0 (dj_off ht rfl)).trans a2, ⟨(o 76 5 rfl).trans a3, (o 76 3 rfl).trans a4, (o 76 4 rfl).trans a5.1, fun i hi => (o 77 i rfl).trans (a5.2.1 i hi), fun r hr => (o 78 r rfl).trans (a5.2.2 r hr)⟩, (o 80 1 rfl).trans a6, ⟨fun b b1 b8 => ?_, (o 84 6 rfl).trans b1, (o 84 7 rfl).trans b2, (o 84 8 rfl).trans b3, (o 84 9 rfl).trans b4, (o 84 10 rfl).trans b5⟩, ⟨(o 91 4 rfl).trans c1, (o 91 5 rfl).trans c2, (o 91 6 rfl).trans c3⟩, fun B hB => (o 97 B rfl).trans (c4 B hB)⟩
  rw [o 85 b rfl, o 86 b rfl, o 87 b rfl]
  exact a7 b b1 b8
/-- the reference as it begins -/
def MA (w : Wd) : Prop := gI w 108 11 = 0 ∧ gI w 108 27 = 0 ∧ gI w 108 36 = 0 ∧ gI w 108 41 = 0 ∧ (∀ b, 1 ≤ b → b ≤ 8 → gI w 137 b = 0 ∧ gI w 138 b = 10 ∧ gI w 139 b = 0) ∧ (gI w 108 49 = 0 ∧ gI w 108 50 = 0 ∧ gI w 108 51 = 0 ∧ gI w 108 52 = -9 ∧ gI w 108 47 = 0) ∧ gI w 108 54 = 0 ∧ ∀ B, B < 8 → gI w 145 B = -9
theorem m_anewS (d : Nat) {w : Wd} (hW : Fix w) : ∃ w', val (206, d, 94, [some (.ref 108), some (.int 0)], [], w) = some (none, w') ∧ Fr [(145, none)] w w' ∧ ∀ B, B < 8 → gI w' 145 B = -9 := by
  have hL := loopUp (c := fun k v => (206, d, 94, [some (.ref 108), some (.int (nI k))], [], v)) (P := fun k v => Fr [(145, none)] w v ∧ ∀ i, i < k → gI v 145 i = -9) (R := fun r => ∃ w', r = some (none, w') ∧ Fr [(145, none)] w w' ∧ ∀ k, k < 8 → gI w' 145 k = -9) (N := 8) (fun v hv => ⟨v, (tr_206_94 d v (hv.1.fix rfl hW) _ (fun h => absurd (Int32.le_refl _) h)).trans (if_pos (Int32.le_refl _)), hv.1, hv.2⟩) (fun k v hk hv => Or.inr ⟨sI v 145 k (-9), (tr_206_94 d v (hv.1.fix rfl hW) _ (fun _ => inB_nI hk (by decide))).trans (by
      rw [if_neg (show ¬ (8 : Int32) ≤ nI k from n_nle (a := 8) hk (by decide)), n_succ, nI_clamp (by omega)]), hv.1.sI 145 _ _ rfl, fun i hi => by
        by_cases e : i = k
        · rw [e, gI_same]
        · rw [gI_nk _ _ _ e]; exact hv.2 i (by omega)⟩) w ⟨Fr.refl _ _, fun i hi => absurd hi (Nat.not_lt_zero i)⟩
  exact hL
theorem m_anewB (d : Nat) : ∀ n k (w : Wd), k + n = 9 → 1 ≤ k → Fix w → (∀ b, 1 ≤ b → b < k → gI w 137 b = 0 ∧ gI w 138 b = 10 ∧ gI w 139 b = 0) → ∃ w', val (206, d, 27, [some (.ref 108), some (.int (nI k))], [], w) = some (none, w') ∧ Fr [(108, some 47), (108, some 49), (108, some 50), (108, some 51), (108, some 52), (108, some 54), (137, none), (138, none), (139, none), (145, none)] w w' ∧ (∀ b, 1 ≤ b → b ≤ 8 → gI w' 137 b = 0 ∧ gI w' 138 b = 10 ∧ gI w' 139 b = 0) ∧ (gI w' 108 49 = 0 ∧ gI w' 108 50 = 0 ∧ gI w' 108 51 = 0 ∧ gI w' 108 52 = -9 ∧ gI w' 108 47 = 0) ∧ gI w' 108 54 = 0 ∧ ∀ B, B < 8 → gI w' 145 B = -9 := by
  intro n
  induction n with
  | zero =>
    intro k w hk h1 hW h
    have e := tr_206_27 d w hW (nI k) (fun hh => absurd (n_le (a := 9) (show 9 ≤ k by omega) (by omega)) hh)
    rw [if_pos (show (9 : Int32) ≤ nI k from n_le (a := 9) (by omega) (by omega))] at e
    obtain ⟨w1, hw1⟩ : ∃ z, z = sI (sI (sI (sI (sI (sI w 108 49 0) 108 50 0) 108 51 0) 108 52 (-9)) 108 47 0) 108 54 0 := ⟨_, rfl⟩
    rw [← hw1] at e
    have f1 : Fr [(108, some 47), (108, some 49), (108, some 50), (108, some 51), (108, some 52), (108, some 54)] w w1 := by rw [hw1]; exact ((((((Fr.refl _ w).sI 108 49 _ rfl).sI 108 50 _ rfl).sI 108 51 _ rfl).sI 108 52 _ rfl).sI 108 47 _ rfl).sI 108 54 _ rfl
    obtain ⟨w2, e2, f2, g2⟩ := m_anewS d (f1.fix rfl hW)
    refine ⟨w2, e.trans e2, (f1.mono rfl).trans (f2.mono rfl), fun b b1 b8 => ?_, ⟨?_, ?_, ?_, ?_, ?_⟩, ?_, g2⟩
    · rw [f2.i 137 b rfl, f2.i 138 b rfl, f2.i 139 b rfl, f1.i 137 b rfl, f1.i 138 b rfl, f1.i 139 b rfl]
      exact h b b1 (by omega)
    · rw [f2.i 108 49 rfl, hw1, gI_nk _ _ _ (by decide), gI_nk _ _ _ (by decide), gI_nk _ _ _ (by decide), gI_nk _ _ _ (by decide), gI_nk _ _ _ (by decide), gI_same]
    · rw [f2.i 108 50 rfl, hw1, gI_nk _ _ _ (by decide), gI_nk _ _ _ (by decide), gI_nk _ _ _ (by decide), gI_nk _ _ _ (by decide), gI_same]
    · rw [f2.i 108 51 rfl, hw1, gI_nk _ _ _ (by decide), gI_nk _ _ _ (by decide), gI_nk _ _ _ (by decide), gI_same]
    · rw [f2.i 108 52 rfl, hw1, gI_nk _ _ _ (by decide), gI_nk _ _ _ (by decide), gI_same]
    · rw [f2.i 108 47 rfl, hw1, gI_nk _ _ _ (by decide), gI_same]
    · rw [f2.i 108 54 rfl, hw1, gI_same]
  | succ n ih =>
    intro k w hk h1 hW h
    have e := tr_206_27 d w hW (nI k) (fun _ => inB_nI (by omega) (by omega))
    rw [if_neg (show ¬ (9 : Int32) ≤ nI k from n_nle (a := 9) (by omega) (by omega)), nI_clamp (show k < 2 ^ 31 by omega), n_succ] at e
    obtain ⟨w1, hw1⟩ : ∃ z, z = sI (sI (sI w 137 k 0) 138 k 10) 139 k 0 := ⟨_, rfl⟩
    rw [← hw1] at e
    have f1 : Fr [(108, some 47), (108, some 49), (108, some 50), (108, some 51), (108, some 52), (108, some 54), (137, none), (138, none), (139, none), (145, none)] w w1 := by rw [hw1]; exact (((Fr.refl _ w).sI 137 _ _ rfl).sI 138 _ _ rfl).sI 139 _ _ rfl
    obtain ⟨w2, e3, f2, g⟩ := ih (k + 1) w1 (by omega) (by omega) (f1.fix rfl hW) (fun b b1 b2 => by
      rw [hw1]
      by_cases c : b = k
      · rw [c, gI_ne _ _ _ _ (by decide), gI_ne _ _ _ _ (by decide), gI_same, gI_ne _ _ _ _ (by decide), gI_same, gI_same]
        exact ⟨rfl, rfl, rfl⟩
      · rw [gI_ne _ _ _ _ (by decide), gI_ne _ _ _ _ (by decide), gI_nk _ _ _ c, gI_ne _ _ _ _ (by decide), gI_nk _ _ _ c, gI_ne _ _ _ _ (by decide), gI_nk _ _ _ c, gI_ne _ _ _ _ (by decide), gI_ne _ _ _ _ (by decide)]
        exact h b b1 (by omega))
    exact ⟨w2, e.trans e3, f1.trans f2, g⟩
theorem m_anew (d : Nat) {w : Wd} (hW : Fix w) : ∃ w', val (206, d, 0, [some (.ref 108), none], [], w) = some (none, w') ∧ Fr FAm w w' ∧ MA w' := by
  obtain ⟨w1, hw1⟩ : ∃ z, z = sI (sI (sI (sI (sI w 108 11 0) 108 27 0) 108 29 0) 108 36 0) 108 41 0 := ⟨_, rfl⟩
  have f1 : Fr [(108, some 11), (108, some 27), (108, some 29), (108, some 36), (108, some 41)] w w1 := by rw [hw1]; exact (((((Fr.refl _ w).sI 108 11 _ rfl).sI 108 27 _ rfl).sI 108 29 _ rfl).sI 108 36 _ rfl).sI 108 41 _ rfl
  obtain ⟨w2, e2, f2, g1, g2, g3, g4⟩ := m_anewB d 8 1 w1 rfl (Nat.le_refl 1) (f1.fix rfl hW) (fun b b1 b2 => by omega)
  refine ⟨w2, (tr_206 d w hW).trans ?_, (f1.mono rfl).trans (f2.mono rfl), ?_, ?_, ?_, ?_, g1, g2, g3, g4⟩
  · rw [← hw1]; exact e2
  · rw [f2.i 108 11 rfl, hw1, gI_nk _ _ _ (by decide), gI_nk _ _ _ (by decide), gI_nk _ _ _ (by decide), gI_nk _ _ _ (by decide), gI_same]
  · rw [f2.i 108 27 rfl, hw1, gI_nk _ _ _ (by decide), gI_nk _ _ _ (by decide), gI_nk _ _ _ (by decide), gI_same]
  · rw [f2.i 108 36 rfl, hw1, gI_nk _ _ _ (by decide), gI_same]
  · rw [f2.i 108 41 rfl, hw1, gI_same]
/-- all that begins anew -/
def SecN (w : Wd) (N : Nat) : Prop := Bl w N ∧ secM w N ∧ secR w N ∧ secG w N ∧ secH w N ∧ secB w 0 ∧ secRg w N ∧ secS w N ∧ NOK N 0 (fun _ => 0) (fun _ => 0) ∧ NC w 0 (fun _ => 0) (fun _ => 0) ∧ NM w 0 (fun _ => 0) (fun _ => 0) ∧ gI w 91 6 = 0
theorem sec_anew {w : Wd} {N : Nat} (h3 : 3 ≤ N) (hN : N ≤ 8) (hn : gI w 64 0 = nI N) (hm : gI w 108 0 = nI N) (h70 : gI w 70 0 = 0) (hc : CA w N) (ha : MA w) : SecN w N := by
  obtain ⟨a1, a2, ⟨a3, a4, a5⟩, a6, ⟨a7, b1, b2, b3, b4, b5⟩, ⟨c1, c2, c3⟩, c4⟩ := hc
  obtain ⟨d1, d2, d3, d4, d5, ⟨d6, d7, d8, d9, d10⟩, d11, d12⟩ := ha
  have z0 : ∀ m, cn (fun _ => false) m = 0 := fun m => cn_none m (fun _ _ => rfl)
  refine ⟨⟨h3, hN, hn, hm⟩, ⟨0, by omega, a1, d1, fun m hm => absurd hm (Nat.not_lt_zero m)⟩, Or.inl ⟨a2, d2, h70⟩, ⟨0, fun _ p => p, 0, fun _ p => p, fun _ => rfl, Nat.le_refl 0, ⟨by omega, d3, fun g hg => absurd hg (Nat.not_lt_zero g)⟩, a3, ⟨by omega, a4, fun g hg => absurd hg (Nat.not_lt_zero g)⟩, by rw [outG_0]; exact a5, fun g hg => absurd hg (Nat.not_lt_zero g), fun g hg => absurd hg (Nat.not_lt_zero g)⟩, ⟨fun _ => false, fun m => by rw [z0]; omega, by rw [z0]; exact a6, by rw [z0]; exact d4, fun r _ h => by cases h⟩, ⟨fun _ => 0, fun _ => 10, fun _ => 0, fun b => ⟨show 0 ≤ 4 by decide, show 10 ≤ 20 by decide⟩, fun b x1 x8 => a7 b x1 x8, fun b x1 x8 => d5 b x1 x8, fun b => Nat.zero_le _⟩, ?_, fun B hB => Or.inl ⟨c4 B hB, d12 B hB⟩, ⟨by omega, fun _ => show 0 < 2 ^ 64 by decide, fun i hi => absurd hi (Nat.not_lt_zero i)⟩, ⟨c1, fun i hi => absurd hi (Nat.not_lt_zero i), fun i hi => absurd hi (Nat.not_lt_zero i), c2, fun j hj => absurd hj (Nat.not_lt_zero j)⟩, ⟨d11, fun i hi => absurd hi (Nat.not_lt_zero i), fun i hi => absurd hi (Nat.not_lt_zero i)⟩, c3⟩
  exact ⟨0, by omega, b2, d6, b3.trans d7.symm, b4.trans d8.symm, b5.trans d9.symm, fun _ => rfl, fun _ => 0, fun _ p => p, b1, fun _ => Nat.zero_le _, fun i hi => absurd hi (Nat.not_lt_zero i)⟩
abbrev FSc : List (Nat × Option Nat) := [(64, some 0), (64, some 4), (67, some 0), (76, some 3), (76, some 4), (76, some 5), (77, none), (78, none), (80, some 1), (84, some 6), (84, some 7), (84, some 8), (84, some 9), (84, some 10), (85, none), (86, none), (87, none), (91, some 4), (91, some 5), (91, some 6), (97, none)]
abbrev FSm : List (Nat × Option Nat) := [(108, some 0), (108, some 11), (108, some 27), (108, some 29), (108, some 36), (108, some 41), (108, some 47), (108, some 49), (108, some 50), (108, some 51), (108, some 52), (108, some 54), (137, none), (138, none), (139, none), (145, none)]
theorem a_stage {w : Wd} {N : Nat} (hW : Fix w) (hB : Bl w N) (h70 : gI w 70 0 = 0) (d : Nat) (x : Int32) : ∃ r w1 w2, val (3, d + 6, 0, [some (.ref 64), some (.int x), none], [], w) = some (some (.int r), w1) ∧ val (207, d + 6, 0, [some (.ref 108), some (.int x), none], [], w1) = some (some (.int r), w2) ∧ Fr FSc w w1 ∧ Fr FSm w1 w2 ∧ ((w1 = w ∧ w2 = w) ∨ ∃ M, SecN w2 M) := by
  obtain ⟨h3, hN, hn, hm⟩ := hB
  have e1 := tr_3 d w hW x
  have e2 := fun v (hv : Fix v) => tr_207 (d + 5) v hv x
  by_cases h1 : x < 3
  · have e2 := e2 w hW
    rw [if_pos h1] at e1 e2
    exact ⟨-1, w, w, e1, e2, Fr.refl _ _, Fr.refl _ _, Or.inl ⟨rfl, rfl⟩⟩
  by_cases h2 : x ≤ 8
  · obtain ⟨M, hM, rfl⟩ := i_le (b := 8) (by decide) (fun h => h1 (Int32.lt_trans h (by decide))) h2
    have hM3 : 3 ≤ M := by
      by_cases c : 3 ≤ M
      · exact c
      · exact absurd (n_lt (b := 3) (show M < 3 by omega) (by decide)) h1
    rw [if_neg h1, if_pos h2, hn] at e1
    obtain ⟨wa, hwa⟩ : ∃ z, z = sI w 64 0 (nI M) := ⟨_, rfl⟩
    rw [← hwa] at e1
    have fa : Fr [(64, some 0)] w wa := by rw [hwa]; exact (Fr.refl _ w).sI 64 0 _ rfl
    have hWa := fa.fix rfl hW
    have hna : gI wa 64 0 = nI M := by rw [hwa, gI_same]
    obtain ⟨w1, r1, f1, c1⟩ := c_anew hM3 hM hWa hna d
    have hW1 := f1.fix rfl hWa
    have fa1 : Fr FSc w w1 := (fa.mono rfl).trans (f1.mono rfl)
    have e2 := e2 w1 hW1
    rw [if_neg h1, if_pos h2, fa1.i 108 0 rfl, hm] at e2
    obtain ⟨wb, hwb⟩ : ∃ z, z = sI w1 108 0 (nI M) := ⟨_, rfl⟩
    rw [← hwb] at e2
    have fb : Fr [(108, some 0)] w1 wb := by rw [hwb]; exact (Fr.refl _ w1).sI 108 0 _ rfl
    have hWb := fb.fix rfl hW1
    obtain ⟨w2, r2, f2, c2⟩ := m_anew (d + 5) hWb
    have f12 : Fr FSm w1 w2 := (fb.mono rfl).trans (f2.mono rfl)
    refine ⟨nI N, w1, w2, e1.trans ?_, e2.trans ?_, fa1, f12, Or.inr ⟨M, sec_anew hM3 hM ?_ ?_ ?_ (c1.fr f12 rfl) c2⟩⟩
    · refine (val_call (pc2 := 27) rfl rfl rfl rfl (hWa.rb _) (Nat.le_of_ble_eq_true rfl) (Nat.le_of_ble_eq_true rfl) rfl r1 rfl).trans ?_
      exact tr_3_27 d w1 _ _
    · refine (val_call (pc2 := 27) rfl rfl rfl rfl (hWb.rc _) (Nat.le_of_ble_eq_true rfl) (Nat.le_of_ble_eq_true rfl) rfl r2 rfl).trans ?_
      exact tr_207_27 (d + 5) w2 _ _
    · rw [f12.i 64 0 rfl, f1.i 64 0 rfl, hna]
    · rw [f2.i 108 0 rfl, hwb, gI_same]
    · rw [f12.i 70 0 rfl, fa1.i 70 0 rfl, h70]
  · have e2 := e2 w hW
    rw [if_neg h1, if_neg h2] at e1 e2
    exact ⟨-1, w, w, e1, e2, Fr.refl _ _, Fr.refl _ _, Or.inl ⟨rfl, rfl⟩⟩
