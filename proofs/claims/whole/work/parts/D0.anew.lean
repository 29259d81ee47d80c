/-! ALL ANEW: the class's beginAnew, the reference's anew -/
theorem svN {w : Wd} {a k : Nat} : sval w a k 3 .null = some (sR w a k none) := rfl
theorem Fix.k96 {w : Wd} (h : Fix w) : wK w 96 = (8, 3) := h.k 96 (by omega) (by omega)
abbrev FAs : List (Nat × Option Nat) := [(84, some 6), (84, some 7), (84, some 8), (84, some 9), (84, some 10), (85, none), (86, none), (87, none)]
section ANEW
variable {w : Wd}
theorem c_assembleL (d : Nat) : ∀ n k (w : Wd), k + n = 9 → 1 ≤ k → Fix w → (∀ b, 1 ≤ b → b < k → gI w 85 b = 0 ∧ gI w 86 b = 10 ∧ gI w 87 b = 0) → ∃ w', val (49, d + 1, 2, [some (.ref 84), some (.int (nI k))], [], w) = some (none, w') ∧ Fr FAs w w' ∧ (∀ b, 1 ≤ b → b ≤ 8 → gI w' 85 b = 0 ∧ gI w' 86 b = 10 ∧ gI w' 87 b = 0) ∧ gI w' 84 6 = 0 ∧ gI w' 84 7 = 0 ∧ gI w' 84 8 = 0 ∧ gI w' 84 9 = 0 ∧ gI w' 84 10 = -9 := by
  intro n
  induction n with
  | zero =>
    intro k w hk h1 hW h
    have e := tr_49_2 d w (nI k)
    rw [if_pos (show (8 : Int32) < nI k from n_lt (a := 8) (by omega) (by omega))] at e
    have e2 := tr_51 d w hW
    obtain ⟨w', hw'⟩ : ∃ z, z = sI (sI (sI (sI (sI w 84 6 0) 84 7 0) 84 8 0) 84 9 0) 84 10 (-9) := ⟨_, rfl⟩
    rw [← hw'] at e2
    have f : Fr [(84, some 6), (84, some 7), (84, some 8), (84, some 9), (84, some 10)] w w' := by rw [hw']; exact (((((Fr.refl _ w).sI 84 6 _ rfl).sI 84 7 _ rfl).sI 84 8 _ rfl).sI 84 9 _ rfl).sI 84 10 _ rfl
    refine ⟨w', e.trans ?_, f.mono rfl, fun b b1 b8 => ?_, ?_, ?_, ?_, ?_, ?_⟩
    · refine (val_call (pc2 := 26) rfl rfl rfl rfl (rcvO hW.k84 (by decide)) (Nat.le_of_ble_eq_true rfl) (Nat.le_of_ble_eq_true rfl) rfl e2 rfl).trans ?_
      exact tr_49_26 d w' _
    · rw [f.i 85 b rfl, f.i 86 b rfl, f.i 87 b rfl]
      exact h b b1 (by omega)
    · rw [hw', gI_nk _ _ _ (by decide), gI_nk _ _ _ (by decide), gI_nk _ _ _ (by decide), gI_nk _ _ _ (by decide), gI_same]
    · rw [hw', gI_nk _ _ _ (by decide), gI_nk _ _ _ (by decide), gI_nk _ _ _ (by decide), gI_same]
    · rw [hw', gI_nk _ _ _ (by decide), gI_nk _ _ _ (by decide), gI_same]
    · rw [hw', gI_nk _ _ _ (by decide), gI_same]
    · rw [hw', gI_same]
  | succ n ih =>
    intro k w hk h1 hW h
    have e := tr_49_2 d w (nI k)
    rw [if_neg (show ¬ (8 : Int32) < nI k from n_nlt (a := 8) (show k ≤ 8 by omega) (by decide))] at e
    have e2 := tr_50 d w hW (nI k) 0 10 (inB_nI (by omega) (by omega))
    rw [nI_clamp (show k < 2 ^ 31 by omega)] at e2
    obtain ⟨w1, hw1⟩ : ∃ z, z = sI (sI (sI w 85 k 0) 86 k 10) 87 k 0 := ⟨_, rfl⟩
    rw [← hw1] at e2
    have f1 : Fr FAs w w1 := by rw [hw1]; exact (((Fr.refl _ w).sI 85 _ _ rfl).sI 86 _ _ rfl).sI 87 _ _ rfl
    obtain ⟨w2, e3, f2, g⟩ := ih (k + 1) w1 (by omega) (by omega) (f1.fix rfl hW) (fun b b1 b2 => by
      rw [hw1]
      by_cases c : b = k
      · rw [c, gI_ne _ _ _ _ (by decide), gI_ne _ _ _ _ (by decide), gI_same, gI_ne _ _ _ _ (by decide), gI_same, gI_same]
        exact ⟨rfl, rfl, rfl⟩
      · rw [gI_ne _ _ _ _ (by decide), gI_ne _ _ _ _ (by decide), gI_nk _ _ _ c, gI_ne _ _ _ _ (by decide), gI_nk _ _ _ c, gI_ne _ _ _ _ (by decide), gI_nk _ _ _ c, gI_ne _ _ _ _ (by decide), gI_ne _ _ _ _ (by decide)]
        exact h b b1 (by omega))
    refine ⟨w2, e.trans ?_, f1.trans f2, g⟩
    refine (val_call (pc2 := 16) rfl rfl rfl rfl (rcvO hW.k84 (by decide)) (Nat.le_of_ble_eq_true rfl) (Nat.le_of_ble_eq_true rfl) rfl e2 rfl).trans ?_
    refine (tr_49_16 d w1 _).trans ?_
    rw [n_succ]
    exact e3
abbrev FAc : List (Nat × Option Nat) := [(64, some 4), (67, some 0), (76, some 3), (76, some 4), (76, some 5), (77, none), (78, none), (80, some 1), (84, some 6), (84, some 7), (84, some 8), (84, some 9), (84, some 10), (85, none), (86, none), (87, none), (91, some 4), (91, some 5), (91, some 6), (97, none)]
/-- the class as it begins -/
def CA (w : Wd) (N : Nat) : Prop := gI w 64 4 = 0 ∧ gR w 67 0 = none ∧ (gI w 76 5 = 0 ∧ gI w 76 3 = 0 ∧ CG w N gs0) ∧ gI w 80 1 = 0 ∧ ((∀ b, 1 ≤ b → b ≤ 8 → gI w 85 b = 0 ∧ gI w 86 b = 10 ∧ gI w 87 b = 0) ∧ gI w 84 6 = 0 ∧ gI w 84 7 = 0 ∧ gI w 84 8 = 0 ∧ gI w 84 9 = 0 ∧ gI w 84 10 = -9) ∧ (gI w 91 4 = 0 ∧ gI w 91 5 = 0 ∧ gI w 91 6 = 0) ∧ ∀ B, B < 8 → gI w 97 B = -1
theorem c_anew {N : Nat} (h3 : 3 ≤ N) (hN : N ≤ 8) (hW : Fix w) (hn : gI w 64 0 = nI N) (d : Nat) : ∃ w', val (2, d + 5, 0, [some (.ref 64)], [], w) = some (none, w') ∧ Fr FAc w w' ∧ CA w' N := by
  obtain ⟨wa, hwa⟩ : ∃ z, z = sI w 64 4 0 := ⟨_, rfl⟩
  have fa : Fr [(64, some 4)] w wa := by rw [hwa]; exact (Fr.refl _ w).sI 64 4 _ rfl
  have hWa := fa.fix rfl hW
  obtain ⟨wb, hwb⟩ : ∃ z, z = sR wa 67 0 none := ⟨_, rfl⟩
  have fb : Fr [(67, some 0)] wa wb := by rw [hwb]; exact (Fr.refl _ wa).sR 67 0 _ rfl
  have hWb := fb.fix rfl hWa
  have eb : val (153, d + 4, 0, [some (.ref 67)], [], wa) = some (none, wb) := by
    refine (tr_153 (d + 4) wa).trans ((val_pf (w2 := wb) rfl hWa.k67 (by rw [hwb]; exact svN)).trans ?_)
    exact tr_153_5 (d + 4) wb
  obtain ⟨wc, ec, fc', c1, c2, c3⟩ := c_dissolve h3 hN d hWb
  have hWc := fc'.fix rfl hWb
  obtain ⟨wd, hwd⟩ : ∃ z, z = sI wc 80 1 0 := ⟨_, rfl⟩
  have ed : val (67, d + 4, 0, [some (.ref 80)], [], wc) = some (none, wd) := by rw [hwd]; exact tr_67 (d + 4) wc hWc
  have fd : Fr [(80, some 1)] wc wd := by rw [hwd]; exact (Fr.refl _ wc).sI 80 1 _ rfl
  have hWd := fd.fix rfl hWc
  obtain ⟨we, ee, fe, e1, e2, e3, e4, e5, e6⟩ := c_assembleL (d + 3) 8 1 wd rfl (Nat.le_refl 1) hWd (fun b b1 b2 => by omega)
  have hWe := fe.fix rfl hWd
  obtain ⟨wf, hwf⟩ : ∃ z, z = sI (sI (sI we 91 4 0) 91 5 0) 91 6 0 := ⟨_, rfl⟩
  have ef : val (121, d + 4, 0, [some (.ref 91)], [], we) = some (none, wf) := by rw [hwf]; exact tr_121 (d + 4) we hWe
  have ff : Fr [(91, some 4), (91, some 5), (91, some 6)] we wf := by rw [hwf]; exact (((Fr.refl _ we).sI 91 4 _ rfl).sI 91 5 _ rfl).sI 91 6 _ rfl
  have hWf := ff.fix rfl hWe
  obtain ⟨wg, eg, fg, gg⟩ := r_fillI 97 8 (by decide) (-1) (d + 3) (hWf.k 97 (by decide) (by decide))
  have eg' : val (160, d + 4, 0, [some (.ref 96)], [], wf) = some (none, wg) := by
    refine (tr_160 (d + 3) wf hWf).trans ?_
    refine (val_call (pc2 := 8) rfl rfl rfl rfl rfl (Nat.le_of_ble_eq_true rfl) (Nat.le_of_ble_eq_true rfl) rfl eg rfl).trans ?_
    exact tr_160_8 (d + 3) wg
  have fbg : Fr [(67, some 0), (76, some 3), (76, some 4), (76, some 5), (77, none), (78, none), (80, some 1), (84, some 6), (84, some 7), (84, some 8), (84, some 9), (84, some 10), (85, none), (86, none), (87, none), (91, some 4), (91, some 5), (91, some 6), (97, none)] wa wg := (((((fb.mono rfl).trans (fc'.mono rfl)).trans (fd.mono rfl)).trans (fe.mono rfl)).trans (ff.mono rfl)).trans (fg.mono rfl)
  have fcg : Fr [(76, some 3), (76, some 4), (76, some 5), (77, none), (78, none), (80, some 1), (84, some 6), (84, some 7), (84, some 8), (84, some 9), (84, some 10), (85, none), (86, none), (87, none), (91, some 4), (91, some 5), (91, some 6), (97, none)] wb wg := ((((fc'.mono rfl).trans (fd.mono rfl)).trans (fe.mono rfl)).trans (ff.mono rfl)).trans (fg.mono rfl)
  have fdg : Fr [(80, some 1), (84, some 6), (84, some 7), (84, some 8), (84, some 9), (84, some 10), (85, none), (86, none), (87, none), (91, some 4), (91, some 5), (91, some 6), (97, none)] wc wg := (((fd.mono rfl).trans (fe.mono rfl)).trans (ff.mono rfl)).trans (fg.mono rfl)
  have feg : Fr [(84, some 6), (84, some 7), (84, some 8), (84, some 9), (84, some 10), (85, none), (86, none), (87, none), (91, some 4), (91, some 5), (91, some 6), (97, none)] wd wg := ((fe.mono rfl).trans (ff.mono rfl)).trans (fg.mono rfl)
  have ffg : Fr [(91, some 4), (91, some 5), (91, some 6), (97, none)] we wg := (ff.mono rfl).trans (fg.mono rfl)
  refine ⟨wg, (tr_2 d w hW).trans ?_, (fa.mono rfl).trans (fbg.mono rfl), ?_, ?_, ⟨?_, ?_, c3.fa fdg.a rfl⟩, ?_, ⟨fun b b1 b8 => ?_, ?_, ?_, ?_, ?_, ?_⟩, ⟨?_, ?_, ?_⟩, fun B hB => gg B hB⟩
  · rw [← hwa]
    refine (val_call (pc2 := 12) rfl rfl rfl rfl (rcvO hWa.k67 (by decide)) (Nat.le_of_ble_eq_true rfl) (Nat.le_of_ble_eq_true rfl) rfl eb rfl).trans ?_
    refine (tr_2_12 d wb hWb).trans ?_
    rw [fb.i 64 0 rfl, fa.i 64 0 rfl, hn]
    refine (val_call (pc2 := 23) rfl rfl rfl rfl (rcvO hWb.k76 (by decide)) (Nat.le_of_ble_eq_true rfl) (Nat.le_of_ble_eq_true rfl) rfl ec rfl).trans ?_
    refine (tr_2_23 d wc hWc).trans ?_
    refine (val_call (pc2 := 30) rfl rfl rfl rfl (rcvO hWc.k80 (by decide)) (Nat.le_of_ble_eq_true rfl) (Nat.le_of_ble_eq_true rfl) rfl ed rfl).trans ?_
    refine (tr_2_30 d wd hWd).trans ?_
    have ee' := (tr_49 (d + 3) wd).trans ee
    refine (val_call (pc2 := 37) rfl rfl rfl rfl (rcvO hWd.k84 (by decide)) (Nat.le_of_ble_eq_true rfl) (Nat.le_of_ble_eq_true rfl) rfl ee' rfl).trans ?_
    refine (tr_2_37 d we hWe).trans ?_
    refine (val_call (pc2 := 44) rfl rfl rfl rfl (rcvO hWe.k91 (by decide)) (Nat.le_of_ble_eq_true rfl) (Nat.le_of_ble_eq_true rfl) rfl ef rfl).trans ?_
    refine (tr_2_44 d wf hWf).trans ?_
    refine (val_call (pc2 := 51) rfl rfl rfl rfl (rcvO hWf.k96 (by decide)) (Nat.le_of_ble_eq_true rfl) (Nat.le_of_ble_eq_true rfl) rfl eg' rfl).trans ?_
    exact tr_2_51 d wg
  · rw [fbg.i 64 4 rfl, hwa, gI_same]
  · rw [fcg.r 67 0 rfl, hwb]; exact gR_same _ _ _ _
  · rw [fdg.i 76 5 rfl, c1]
  · rw [fdg.i 76 3 rfl, c2]
  · rw [feg.i 80 1 rfl, hwd, gI_same]
  · rw [ffg.i 85 b rfl, ffg.i 86 b rfl, ffg.i 87 b rfl]; exact e1 b b1 b8
  · rw [ffg.i 84 6 rfl, e2]
  · rw [ffg.i 84 7 rfl, e3]
  · rw [ffg.i 84 8 rfl, e4]
  · rw [ffg.i 84 9 rfl, e5]
  · rw [ffg.i 84 10 rfl, e6]
  · rw [fg.i 91 4 rfl, hwf, gI_nk _ _ _ (by decide), gI_nk _ _ _ (by decide), gI_same]
  · rw [fg.i 91 5 rfl, hwf, gI_nk _ _ _ (by decide), gI_same]
  · rw [fg.i 91 6 rfl, hwf, gI_same]
end ANEW
