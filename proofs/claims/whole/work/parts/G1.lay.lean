/-! THE LINE: lay and measureErrors of the class -/
theorem n_tri {K : Nat} (hK : K ≤ 300) : nI K * (nI K - 1) / 2 = nI (triK K) := by
  unfold triK
  rcases Nat.eq_zero_or_pos K with h | h
  · rw [h]; rfl
  · have hb : K * (K - 1) ≤ 300 * 300 := Nat.mul_le_mul hK (by omega)
    rw [pI_1 h, n_mul]
    exact n_div (b := 2) (by omega) (by decide)
theorem tri_lt {K : Nat} (hK : K ≤ 300) : triK K < 2 ^ 31 := by
  unfold triK
  have hb : K * (K - 1) ≤ 300 * 300 := Nat.mul_le_mul hK (by omega)
  omega
theorem sQ_lt : ∀ k, k ≤ 300 → sQr k ≤ 90000 * k
  | 0, _ => Nat.le_refl _
  | k + 1, h => by
    have h1 := sQ_lt k (by omega)
    have h2 : k * k ≤ 300 * 300 := Nat.mul_le_mul (by omega) (by omega)
    show sQr k + k * k ≤ _
    omega
theorem c_fi (d : Nat) (w : Wd) {n : Nat} (h : n < 2 ^ 31) : val (109, d + 2, 0, [some (.int (nI n))], [], w) = some (some (.long (lI (fI n))), w) := by
  have := c_fromInt d w (z := (n : Int)) (by omega) (by omega)
  rw [← i_n] at this
  exact this
section CLAY
variable {w : Wd} {N C : Nat} {T bl : Nat → Nat}
theorem lp_126 (d : Nat) (hW : Fix w) (hN : NOK N C T bl) (hc : NC w C T bl) {R : Option (Option Value × Wd)} (n : Nat) : ∀ (i : Nat) (l7 : Option Value), i + n = (nrd T C).1 → (∀ l7, val (126, d + 6, 82, [some (.ref 91), some (.long (lI (sSm (tm T C) (nrd T C).1))), none, some (.long (lI (sPr (tm T C) (nrd T C).1))), none, some (.int (nI (sQr (nrd T C).1))), some (.int (nI (nrd T C).1)), l7, none, none, none, none, none, none, none, none], [.int (nI (nrd T C).1)], w) = R) → val (126, d + 6, 23, [some (.ref 91), some (.long (lI (sSm (tm T C) i))), none, some (.long (lI (sPr (tm T C) i))), none, some (.int (nI (sQr i))), some (.int (nI i)), l7, none, none, none, none, none, none, none, none], [], w) = R := by
  obtain ⟨k1, -⟩ := nrd_ok T C
  have hC := hN.1
  have g5 : gI w 91 5 = nI (nrd T C).1 := hc.2.2.2.1
  have ht := tm_lt hN
  induction n with
  | zero =>
    intro i l7 hi hR
    have e : i = (nrd T C).1 := hi
    subst e
    refine (tr_126_23 d w hW _ _ _ _ _).trans ?_
    rw [if_pos (by rw [g5]; exact Int32.le_refl _), g5]
    exact hR l7
  | succ n ih =>
    intro i l7 hi hR
    refine (tr_126_23 d w hW _ _ _ _ _).trans ?_
    rw [if_neg (by rw [g5]; exact n_nle (by omega) (by omega))]
    refine (val_call (pc2 := 38) rfl rfl rfl rfl (rcvO hW.k91 (by decide)) (Nat.le_of_ble_eq_true rfl) (Nat.le_of_ble_eq_true rfl) rfl (c_time (d + 5) hW hN hc (i := i) (by omega)) rfl).trans ?_
    refine (tr_126_38 d w _ _ _ _ _ _).trans ?_
    refine (val_call (pc2 := 46) rfl rfl rfl rfl rfl (Nat.le_of_ble_eq_true rfl) (Nat.le_of_ble_eq_true rfl) rfl (c_addR (d + 2) w (rl_sSm ht i).1 (ht i)) rfl).trans ?_
    refine (tr_126_46 d w _ _ _ _ _ _).trans ?_
    refine (val_call (pc2 := 53) rfl rfl rfl rfl rfl (Nat.le_of_ble_eq_true rfl) (Nat.le_of_ble_eq_true rfl) rfl (c_fi (d + 3) w (n := i) (by omega)) rfl).trans ?_
    refine (tr_126_53 d w _ _ _ _ _ _ _).trans ?_
    refine (val_call (pc2 := 58) rfl rfl rfl rfl rfl (Nat.le_of_ble_eq_true rfl) (Nat.le_of_ble_eq_true rfl) rfl (c_mul (d + 3) w (fi_rl (z := (i : Int))).1 (ht i)) rfl).trans ?_
    refine (val_call (pc2 := 61) rfl rfl rfl rfl rfl (Nat.le_of_ble_eq_true rfl) (Nat.le_of_ble_eq_true rfl) rfl (c_addR (d + 2) w (rl_sPr ht i).1 (rl_mul (fi_rl (z := (i : Int))).1 (ht i)).1) rfl).trans ?_
    refine (tr_126_61 d w _ _ _ _ _ _).trans ?_
    rw [n_mul, n_add, n_succ]
    exact ih (i + 1) (some (.long (lI (tm T C i)))) (by omega) hR
end CLAY
section ERR
variable {N C : Nat} {T bl : Nat → Nat}
abbrev FEr : List (Nat × Option Nat) := [(91, some 9), (95, none)]
theorem lp_127 (d : Nat) (hN : NOK N C T bl) {m : Nat} (n : Nat) : ∀ (i : Nat) (w : Wd) (l6 l8 : Option Value), i + n = (nrd T C).1 → Fix w → NC w C T bl → gL w 91 7 = lI (gapV (nrd T C).1 (tm T C)) → gL w 91 8 = lI (leadV (nrd T C).1 (tm T C)) → gL w 91 9 = lI (greV (nrd T C).1 (tm T C) i) → (∀ j, j < i → gL w 95 j = lI (errV (nrd T C).1 (tm T C) j)) → ∃ w' l6' l8', val (127, d + 5, 10, [some (.ref 91), some (.long (lI m)), none, some (.long (lI (sqV (nrd T C).1 (tm T C) i))), none, some (.int (nI i)), l6, none, l8, none], [], w) = val (127, d + 5, 99, [some (.ref 91), some (.long (lI m)), none, some (.long (lI (sqV (nrd T C).1 (tm T C) (nrd T C).1))), none, some (.int (nI (nrd T C).1)), l6', none, l8', none], [.long (lI m), .long (lI (sqV (nrd T C).1 (tm T C) (nrd T C).1)), .ref 91], w') ∧ Fr FEr w w' ∧ gL w' 91 9 = lI (greV (nrd T C).1 (tm T C) (nrd T C).1) ∧ ∀ j, j < (nrd T C).1 → gL w' 95 j = lI (errV (nrd T C).1 (tm T C) j) := by
  obtain ⟨k1, -⟩ := nrd_ok T C
  have hC := hN.1
  have ht := tm_lt hN
  induction n with
  | zero =>
    intro i w l6 l8 hi hW hc g7 g8 g9 g95
    have e : i = (nrd T C).1 := hi
    subst e
    have g5 : gI w 91 5 = nI (nrd T C).1 := hc.2.2.2.1
    refine ⟨w, l6, l8, ?_, Fr.refl _ _, g9, g95⟩
    refine (tr_127_10 d w hW _ _ _ _ _).trans ?_
    rw [if_pos (by rw [g5]; exact Int32.le_refl _)]
  | succ n ih =>
    intro i w l6 l8 hi hW hc g7 g8 g9 g95
    have g5 : gI w 91 5 = nI (nrd T C).1 := hc.2.2.2.1
    have ic : (nI i).toNatClampNeg = i := nI_clamp (by omega)
    have hgl := (rl_gap (K := (nrd T C).1) ht).1
    have hfi := (fi_rl (z := (i : Int))).1
    have hpl := (rl_mul hgl hfi).1
    have hll := (rl_lead (K := (nrd T C).1) ht).1
    have hel := (rl_err (K := (nrd T C).1) ht i).1
    have e51 := tr_127_51 d w hW (lI m) (lI (sqV (nrd T C).1 (tm T C) i)) (nI i) (lI (fA (leadV (nrd T C).1 (tm T C)) (fM (gapV (nrd T C).1 (tm T C)) (fI i)))) (lI (errV (nrd T C).1 (tm T C) i)) l8 (inB_nI (by omega) (by omega))
    obtain ⟨w1, hw1⟩ : ∃ z, z = sL w 95 (nI i).toNatClampNeg (lI (errV (nrd T C).1 (tm T C) i)) := ⟨_, rfl⟩
    rw [← hw1] at e51
    have h9 : gL w1 91 9 = lI (greV (nrd T C).1 (tm T C) i) := by
      rw [hw1, gL_ne _ _ _ _ (by decide)]
      exact g9
    have hmx : fn_102 (gL w1 91 9) (fn_96 (lI (errV (nrd T C).1 (tm T C) i))) = lI (greV (nrd T C).1 (tm T C) (i + 1)) := by
      rw [h9, sz_and hel, r_greater (gre_ok i).1 (sz_lt _)]
      rfl
    rw [hmx] at e51
    obtain ⟨w2, hw2⟩ : ∃ z, z = sL w1 91 9 (lI (greV (nrd T C).1 (tm T C) (i + 1))) := ⟨_, rfl⟩
    rw [← hw2] at e51
    have f2 : Fr FEr w w2 := by
      rw [hw2, hw1]
      exact ((Fr.refl _ w).sL 95 _ _ rfl).sL 91 9 _ rfl
    have hW2 := f2.fix rfl hW
    obtain ⟨w', l6', l8', r1, r2, r3, r4⟩ := ih (i + 1) w2 (some (.long (lI (fA (leadV (nrd T C).1 (tm T C)) (fM (gapV (nrd T C).1 (tm T C)) (fI i)))))) (some (.long (lI (errV (nrd T C).1 (tm T C) i)))) (by omega) hW2 (hc.fa f2.a rfl) ((f2.l 91 7 rfl).trans g7) ((f2.l 91 8 rfl).trans g8) (by rw [hw2, gL_same]) (fun j hj => by
      rw [hw2, gL_ne _ _ _ _ (by decide), hw1, ic]
      by_cases c : j = i
      · rw [c, gL_same]
      · rw [gL_nk _ _ _ c]
        exact g95 j (by omega))
    refine ⟨w', l6', l8', ?_, f2.trans r2, r3, r4⟩
    refine (tr_127_10 d w hW _ _ _ _ _).trans ?_
    rw [if_neg (by rw [g5]; exact n_nle (by omega) (by omega)), g7, g8]
    refine (val_call (pc2 := 32) rfl rfl rfl rfl rfl (Nat.le_of_ble_eq_true rfl) (Nat.le_of_ble_eq_true rfl) rfl (c_fi (d + 2) w (n := i) (by omega)) rfl).trans ?_
    refine (val_call (pc2 := 35) rfl rfl rfl rfl rfl (Nat.le_of_ble_eq_true rfl) (Nat.le_of_ble_eq_true rfl) rfl (c_mul (d + 2) w hgl hfi) rfl).trans ?_
    refine (val_call (pc2 := 38) rfl rfl rfl rfl rfl (Nat.le_of_ble_eq_true rfl) (Nat.le_of_ble_eq_true rfl) rfl (c_addR (d + 1) w hll hpl) rfl).trans ?_
    refine (tr_127_38 d w _ _ _ _ _ _).trans ?_
    refine (val_call (pc2 := 46) rfl rfl rfl rfl (rcvO hW.k91 (by decide)) (Nat.le_of_ble_eq_true rfl) (Nat.le_of_ble_eq_true rfl) rfl (c_time (d + 4) hW hN hc (i := i) (by omega)) rfl).trans ?_
    refine (tr_127_46 d w _ _ _ _ _ _).trans ?_
    refine (val_call (pc2 := 51) rfl rfl rfl rfl rfl (Nat.le_of_ble_eq_true rfl) (Nat.le_of_ble_eq_true rfl) rfl (c_sub d w (ht i) (rl_on (K := (nrd T C).1) ht i).1) rfl).trans ?_
    refine e51.trans ?_
    refine (val_call (pc2 := 86) rfl rfl rfl rfl rfl (Nat.le_of_ble_eq_true rfl) (Nat.le_of_ble_eq_true rfl) rfl (c_mul (d + 2) w2 hel hel) rfl).trans ?_
    refine (val_call (pc2 := 89) rfl rfl rfl rfl rfl (Nat.le_of_ble_eq_true rfl) (Nat.le_of_ble_eq_true rfl) rfl (c_addR (d + 1) w2 (rl_sq (K := (nrd T C).1) ht i).1 (rl_mul hel hel).1) rfl).trans ?_
    refine (tr_127_89 d w2 _ _ _ _ _ _).trans ?_
    rw [n_succ]
    exact r1
theorem c_errors (d : Nat) (hN : NOK N C T bl) {w : Wd} (hW : Fix w) (hc : NC w C T bl) (g7 : gL w 91 7 = lI (gapV (nrd T C).1 (tm T C))) (g8 : gL w 91 8 = lI (leadV (nrd T C).1 (tm T C))) : ∃ w', val (127, d + 5, 0, [some (.ref 91), some (.long (lI (fI (nrd T C).1))), none, none, none, none, none, none, none, none], [], w) = some (none, w') ∧ Fr FLn w w' ∧ LD w' (nrd T C).1 (tm T C) := by
  have ht := tm_lt hN
  obtain ⟨w1, hw1⟩ : ∃ z, z = sL w 91 9 0 := ⟨_, rfl⟩
  have f1 : Fr FEr w w1 := by
    rw [hw1]
    exact (Fr.refl _ w).sL 91 9 _ rfl
  have hW1 := f1.fix rfl hW
  obtain ⟨w2, l6, l8, r1, r2, r3, r4⟩ := lp_127 d hN (m := fI (nrd T C).1) (nrd T C).1 0 w1 none none (by omega) hW1 (hc.fa f1.a rfl) ((f1.l 91 7 rfl).trans g7) ((f1.l 91 8 rfl).trans g8) (by rw [hw1, gL_same]; rfl) (fun j hj => absurd hj (Nat.not_lt_zero j))
  have f2 := f1.trans r2
  have hW2 := f2.fix rfl hW
  obtain ⟨v, hv, hv1, hv2⟩ := root_ex (rl_div (rl_sq (K := (nrd T C).1) ht (nrd T C).1).1 (fi_rl (z := ((nrd T C).1 : Int))).1)
  obtain ⟨w3, hw3⟩ : ∃ z, z = sL w2 91 10 (lI v) := ⟨_, rfl⟩
  have f3 : Fr FLn w w3 := by
    rw [hw3]
    exact (f2.mono rfl).sL 91 10 _ rfl
  refine ⟨w3, ?_, f3, ?_, ?_, ?_, ?_, v, ?_, hv, hv1, hv2⟩
  · refine (tr_127 d w hW _).trans ?_
    rw [← hw1]
    refine r1.trans ?_
    refine (val_call (pc2 := 102) rfl rfl rfl rfl rfl (Nat.le_of_ble_eq_true rfl) (Nat.le_of_ble_eq_true rfl) rfl (c_div (d + 2) w2 (rl_sq (K := (nrd T C).1) ht (nrd T C).1).1 (fi_rl (z := ((nrd T C).1 : Int))).1) rfl).trans ?_
    refine (val_call (pc2 := 105) rfl rfl rfl rfl rfl (Nat.le_of_ble_eq_true rfl) (Nat.le_of_ble_eq_true rfl) rfl (hv1 (d + 2) w2) rfl).trans ?_
    rw [hw3]
    exact tr_127_105 d w2 hW2 _ _ _ _ _ _
  · rw [hw3, gL_nk _ _ _ (by decide)]
    exact (f2.l 91 7 rfl).trans g7
  · rw [hw3, gL_nk _ _ _ (by decide)]
    exact (f2.l 91 8 rfl).trans g8
  · rw [hw3, gL_nk _ _ _ (by decide)]
    exact r3
  · intro i hi
    rw [hw3, gL_ne _ _ _ _ (by decide)]
    exact r4 i hi
  · rw [hw3, gL_same]
end ERR
theorem c_lay (d : Nat) {w : Wd} {N C : Nat} {T bl : Nat → Nat} (hW : Fix w) (hN : NOK N C T bl) (hc : NC w C T bl) (hl : LDs w C T) : ∃ w', val (126, d + 6, 0, [some (.ref 91), none, none, none, none, none, none, none, none, none, none, none, none, none, none, none], [], w) = some (none, w') ∧ Fr FLn w w' ∧ LD w' (nrd T C).1 (tm T C) := by
  have ht := tm_lt hN
  obtain ⟨k1, -⟩ := nrd_ok T C
  have hC := hN.1
  by_cases z : gI w 91 6 = 0
  · obtain ⟨w0, hw0⟩ : ∃ z, z = sI w 91 6 1 := ⟨_, rfl⟩
    have f0 : Fr FLn w w0 := by
      rw [hw0]
      exact (Fr.refl _ w).sI 91 6 _ rfl
    have hW0 := f0.fix rfl hW
    have hc0 := hc.fa f0.a rfl
    obtain ⟨K, hK⟩ : ∃ K, K = (nrd T C).1 := ⟨_, rfl⟩
    have hKl : K ≤ 300 := by omega
    obtain ⟨t, htE⟩ : ∃ t, t = tm T C := ⟨_, rfl⟩
    have hg := (rl_gap (K := K) ht).1
    have hlead := (rl_lead (K := K) ht).1
    have hs := (rl_sSm ht K).1
    have hp := (rl_sPr ht K).1
    have hm := (fi_rl (z := (K : Int))).1
    have ha := (fi_rl (z := (triK K : Int))).1
    have hb := (fi_rl (z := (sQr K : Int))).1
    obtain ⟨w1, hw1⟩ : ∃ z, z = sL w0 91 7 (lI (gapV K (tm T C))) := ⟨_, rfl⟩
    obtain ⟨w2, hw2⟩ : ∃ z, z = sL w1 91 8 (lI (leadV K (tm T C))) := ⟨_, rfl⟩
    have f1 : Fr FLn w w1 := by
      rw [hw1]
      exact f0.sL 91 7 _ rfl
    have f2 : Fr FLn w w2 := by
      rw [hw2]
      exact f1.sL 91 8 _ rfl
    have hW1 := f1.fix rfl hW
    have hW2 := f2.fix rfl hW
    have g7 : gL w1 91 7 = lI (gapV K (tm T C)) := by rw [hw1, gL_same]
    obtain ⟨w3, r1, r2, r3⟩ := c_errors d hN hW2 (hc.fa f2.a rfl) (by rw [hw2, gL_nk _ _ _ (by decide), g7, hK]) (by rw [hw2, gL_same, hK])
    refine ⟨w3, ?_, f2.trans r2, r3⟩
    refine (tr_126 d w hW).trans ?_
    rw [if_pos z, ← hw0]
    refine lp_126 d hW0 hN hc0 (nrd T C).1 0 none (by omega) (fun l7 => ?_)
    rw [← hK]
    rw [← hK] at r1
    have g5 : gI w0 91 5 = nI K := hK ▸ hc0.2.2.2.1
    refine (val_call (pc2 := 85) rfl rfl rfl rfl rfl (Nat.le_of_ble_eq_true rfl) (Nat.le_of_ble_eq_true rfl) rfl (c_fi (d + 3) w0 (n := K) (by omega)) rfl).trans ?_
    refine (tr_126_85 d w0 hW0 _ _ _ _ _ _).trans ?_
    rw [g5, n_tri hKl]
    refine (val_call (pc2 := 103) rfl rfl rfl rfl rfl (Nat.le_of_ble_eq_true rfl) (Nat.le_of_ble_eq_true rfl) rfl (c_fi (d + 3) w0 (n := triK K) (tri_lt hKl)) rfl).trans ?_
    refine (tr_126_103 d w0 _ _ _ _ _).trans ?_
    refine (val_call (pc2 := 110) rfl rfl rfl rfl rfl (Nat.le_of_ble_eq_true rfl) (Nat.le_of_ble_eq_true rfl) rfl (c_fi (d + 3) w0 (n := sQr K) (by have := sQ_lt K hKl; omega)) rfl).trans ?_
    refine (tr_126_110 d w0 _ _ _ _ _ _).trans ?_
    refine (val_call (pc2 := 118) rfl rfl rfl rfl rfl (Nat.le_of_ble_eq_true rfl) (Nat.le_of_ble_eq_true rfl) rfl (c_mul (d + 3) w0 hm hp) rfl).trans ?_
    refine (tr_126_118 d w0 _ _ _ _ _ _ _).trans ?_
    refine (val_call (pc2 := 124) rfl rfl rfl rfl rfl (Nat.le_of_ble_eq_true rfl) (Nat.le_of_ble_eq_true rfl) rfl (c_mul (d + 3) w0 ha hs) rfl).trans ?_
    refine (val_call (pc2 := 127) rfl rfl rfl rfl rfl (Nat.le_of_ble_eq_true rfl) (Nat.le_of_ble_eq_true rfl) rfl (c_sub (d + 1) w0 (rl_mul hm hp).1 (rl_mul ha hs).1) rfl).trans ?_
    refine (tr_126_127 d w0 _ _ _ _ _ _ _).trans ?_
    refine (val_call (pc2 := 136) rfl rfl rfl rfl rfl (Nat.le_of_ble_eq_true rfl) (Nat.le_of_ble_eq_true rfl) rfl (c_mul (d + 3) w0 hm hb) rfl).trans ?_
    refine (tr_126_136 d w0 _ _ _ _ _ _ _ _).trans ?_
    refine (val_call (pc2 := 143) rfl rfl rfl rfl rfl (Nat.le_of_ble_eq_true rfl) (Nat.le_of_ble_eq_true rfl) rfl (c_mul (d + 3) w0 ha ha) rfl).trans ?_
    refine (val_call (pc2 := 146) rfl rfl rfl rfl rfl (Nat.le_of_ble_eq_true rfl) (Nat.le_of_ble_eq_true rfl) rfl (c_sub (d + 1) w0 (rl_mul hm hb).1 (rl_mul ha ha).1) rfl).trans ?_
    refine (tr_126_146 d w0 _ _ _ _ _ _ _ _).trans ?_
    refine (val_call (pc2 := 156) rfl rfl rfl rfl rfl (Nat.le_of_ble_eq_true rfl) (Nat.le_of_ble_eq_true rfl) rfl (c_div (d + 3) w0 (rl_num (K := K) ht).1 (rl_den (K := K)).1) rfl).trans ?_
    refine (tr_126_156 d w0 hW0 _ _ _ _ _ _ _ _ _).trans ?_
    rw [show Jvm.FP.Core.div Jvm.FP.Core.b64 (fS (fM (fI K) (sPr (tm T C) K)) (fM (fI (triK K)) (sSm (tm T C) K))) (fS (fM (fI K) (fI (sQr K))) (fM (fI (triK K)) (fI (triK K)))) = gapV K (tm T C) from rfl, ← hw1, g7]
    refine (val_call (pc2 := 170) rfl rfl rfl rfl rfl (Nat.le_of_ble_eq_true rfl) (Nat.le_of_ble_eq_true rfl) rfl (c_mul (d + 3) w1 hg ha) rfl).trans ?_
    refine (val_call (pc2 := 173) rfl rfl rfl rfl rfl (Nat.le_of_ble_eq_true rfl) (Nat.le_of_ble_eq_true rfl) rfl (c_sub (d + 1) w1 hs (rl_mul hg ha).1) rfl).trans ?_
    refine (tr_126_173 d w1 _ _ _ _ _ _ _ _ _).trans ?_
    refine (val_call (pc2 := 178) rfl rfl rfl rfl rfl (Nat.le_of_ble_eq_true rfl) (Nat.le_of_ble_eq_true rfl) rfl (c_div (d + 3) w1 (rl_sub hs (rl_mul hg ha).1).1 hm) rfl).trans ?_
    refine (tr_126_178 d w1 hW1 _ _ _ _ _ _ _ _ _).trans ?_
    rw [show Jvm.FP.Core.div Jvm.FP.Core.b64 (fS (sSm (tm T C) K) (fM (gapV K (tm T C)) (fI (triK K)))) (fI K) = leadV K (tm T C) from rfl, ← hw2]
    refine (val_call (pc2 := 187) rfl rfl rfl rfl (rcvO hW2.k91 (by decide)) (Nat.le_of_ble_eq_true rfl) (Nat.le_of_ble_eq_true rfl) rfl r1 rfl).trans ?_
    exact tr_126_187 d w3 _ _ _ _ _ _ _ _
  · refine ⟨w, ?_, Fr.refl _ _, hl.resolve_left z⟩
    refine (tr_126 d w hW).trans ?_
    rw [if_neg z]
