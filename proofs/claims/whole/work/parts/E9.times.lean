/-! DOUBLES: missingBits, rounded, fromInt, multiply of the class -/
theorem pow_step {x j J : Nat} (h : j < J) : x * 2 ^ j * 2 ≤ x * 2 ^ J := by
  obtain ⟨k, hk⟩ : ∃ k, J = j + 1 + k := ⟨J - (j + 1), by omega⟩
  rw [hk, Nat.pow_add, Nat.pow_succ, ← Nat.mul_assoc, ← Nat.mul_assoc]
  exact Nat.le_mul_of_pos_right _ (Nat.two_pow_pos k)
theorem log_ex {x K : Nat} (h0 : 0 < x) (h : x < 2 ^ (K + 1)) : ∃ J, J ≤ K ∧ 2 ^ K ≤ x * 2 ^ J ∧ x * 2 ^ J < 2 ^ (K + 1) := by
  have h1 := Nat.log2_self_le (show x ≠ 0 by omega)
  have h2 := @Nat.lt_log2_self x
  have hL : x.log2 ≤ K := by
    by_cases c : x.log2 ≤ K
    · exact c
    · have := Nat.pow_le_pow_right (n := 2) (by decide) (show K + 1 ≤ x.log2 by omega)
      omega
  refine ⟨K - x.log2, by omega, ?_, ?_⟩
  · have := Nat.mul_le_mul_right (2 ^ (K - x.log2)) h1
    rwa [← Nat.pow_add, show x.log2 + (K - x.log2) = K by omega] at this
  · have := Nat.mul_lt_mul_of_pos_right h2 (Nat.two_pow_pos (K - x.log2))
    rwa [← Nat.pow_add, show x.log2 + 1 + (K - x.log2) = K + 1 by omega] at this
theorem lp_106 (d : Nat) (w : Wd) {x J : Nat} (h1 : 2 ^ 52 ≤ x * 2 ^ J) (h2 : x * 2 ^ J < 2 ^ 53) (hJ : J ≤ 52) (n : Nat) : ∀ j, J = j + n → val (106, d, 2, [some (.long (lI x)), none, some (.int (nI j))], [], w) = some (some (.int (nI J)), w) := by
  induction n with
  | zero =>
    intro j hj
    have e : J = j := hj
    subst e
    refine (tr_106_2 d w _ _).trans ?_
    by_cases c : (52 : Int32) ≤ nI J
    · rw [if_pos c]
    · rw [if_neg c, l_shld (by omega)]
      have hc : 0 ≤ cmpL (lI (x * 2 ^ J)) 4503599627370496 := cmpL_ge.mpr (fun h => by
        have := (l_lt_iff (b := 2 ^ 52) (by omega) (by decide)).mp h
        omega)
      rw [if_pos hc]
  | succ n ih =>
    intro j hj
    have hs := @pow_step x j J (by omega)
    refine (tr_106_2 d w _ _).trans ?_
    have c : ¬ (52 : Int32) ≤ nI j := n_nle (a := 52) (by omega) (by decide)
    have hc : ¬ 0 ≤ cmpL (lI (x * 2 ^ j)) 4503599627370496 := fun h => (cmpL_ge.mp h) ((l_lt_iff (b := 2 ^ 52) (by omega) (by decide)).mpr (by omega))
    rw [if_neg c, l_shld (by omega), if_neg hc, n_succ]
    exact ih (j + 1) (by omega)
theorem c_missing (d : Nat) (w : Wd) {x : Nat} (h0 : 0 < x) (h : x < 2 ^ 53) : ∃ J, J ≤ 52 ∧ 2 ^ 52 ≤ x * 2 ^ J ∧ x * 2 ^ J < 2 ^ 53 ∧ val (106, d, 0, [some (.long (lI x)), none, none], [], w) = some (some (.int (nI J)), w) := by
  obtain ⟨J, j1, j2, j3⟩ := log_ex (K := 52) h0 h
  exact ⟨J, j1, j2, j3, (tr_106 d w _).trans (lp_106 d w j2 j3 j1 J 0 (by omega))⟩
theorem lp_108 (d : Nat) (w : Wd) {s : Bool} {X J : Nat} {E : Int} (x2 : Int32) (h1 : 2 ^ 62 ≤ X * 2 ^ J) (h2 : X * 2 ^ J < 2 ^ 63) (hJ : J ≤ 62) (hE1 : -10000 ≤ E) (hE2 : E ≤ 10000) (n : Nat) : ∀ j, J = j + n → val (108, d + 1, 16, [some (.long (lI (s.toNat * 2 ^ 63))), none, some (.int x2), some (.long (lI X)), none, some (.long (lI (X * 2 ^ j))), none, some (.int (iI (E + 1085 - j))), some (.int (nI j)), none, none, none], [], w) = some (some (.long (lI (Jvm.FP.Core.encode Jvm.FP.Core.b64 (Jvm.FP.Core.roundRatio Jvm.FP.Core.b64 s X 1 E)))), w) := by
  induction n with
  | zero =>
    intro j hj
    have e : J = j := hj
    subst e
    have ht := tl108_eq (fun x => (some (some (.long x), w) : Option (Option Value × Wd))) (s := s) h1 h2 hJ hE1 hE2
    refine (tr_108_16 d w _ _ _ _ _ _).trans ?_
    by_cases c : (62 : Int32) ≤ nI J
    · rw [if_pos c]
      exact ht
    · have hc : 0 ≤ cmpL (lI (X * 2 ^ J)) 4611686018427387904 := cmpL_ge.mpr (fun h => by
        have := (l_lt_iff (b := 2 ^ 62) (by omega) (by decide)).mp h
        omega)
      rw [if_neg c, if_pos hc]
      exact ht
  | succ n ih =>
    intro j hj
    have hs := @pow_step X j J (by omega)
    refine (tr_108_16 d w _ _ _ _ _ _).trans ?_
    have c : ¬ (62 : Int32) ≤ nI j := n_nle (a := 62) (by omega) (by decide)
    have hc : ¬ 0 ≤ cmpL (lI (X * 2 ^ j)) 4611686018427387904 := fun h => (cmpL_ge.mp h) ((l_lt_iff (b := 2 ^ 62) (by omega) (by decide)).mpr (by omega))
    have e1 : shlL (lI (X * 2 ^ j)) 1 = lI (X * 2 ^ (j + 1)) := (l_shld (k := 1) (by decide)).trans (by rw [Nat.pow_one, Nat.pow_succ, Nat.mul_assoc])
    have e2 : iI (E + 1085 - j) + (-1) = iI (E + 1085 - (j + 1 : Nat)) := by
      rw [show (-1 : Int32) = iI (-1) from rfl, i_add]
      congr 1
      omega
    rw [if_neg c, if_neg hc, e1, e2, n_succ]
    exact ih (j + 1) (by omega)
theorem c_rounded (d : Nat) (w : Wd) {s : Bool} {X : Nat} {E : Int} (h0 : 0 < X) (h : X < 2 ^ 63) (hE1 : -10000 ≤ E) (hE2 : E ≤ 10000) : val (108, d + 1, 0, [some (.long (lI (s.toNat * 2 ^ 63))), none, some (.int (iI E)), some (.long (lI X)), none, none, none, none, none, none, none, none], [], w) = some (some (.long (lI (Jvm.FP.Core.encode Jvm.FP.Core.b64 (Jvm.FP.Core.roundRatio Jvm.FP.Core.b64 s X 1 E)))), w) := by
  obtain ⟨J, j1, j2, j3⟩ := log_ex (K := 62) h0 h
  have ht := lp_108 d w (s := s) (iI E) j2 j3 j1 hE1 hE2 J 0 (by omega)
  rw [Nat.pow_zero, Nat.mul_one] at ht
  have e : iI E + 62 + 1023 = iI (E + 1085 - (0 : Nat)) := by
    rw [show (62 : Int32) = iI 62 from rfl, show (1023 : Int32) = iI 1023 from rfl, i_add, i_add]
    congr 1
    omega
  refine (tr_108 d w _ _ _).trans ?_
  rw [e]
  exact ht
theorem c_fromInt (d : Nat) (w : Wd) {z : Int} (h1 : -2147483648 ≤ z) (h2 : z < 2147483648) : val (109, d + 2, 0, [some (.int (iI z))], [], w) = some (some (.long (lI (Jvm.FP.Core.fromInt Jvm.FP.Core.b64 z))), w) := by
  refine (tr_109 d w _).trans ?_
  by_cases c : z = 0
  · rw [if_neg (fun h => h (by rw [c]; rfl)), c]
    rfl
  · have hc : ¬ iI z = 0 := fun h => c ((i_inj (b := 0) h1 h2 (by omega) (by omega)).mp h)
    rw [if_pos hc]
    have hz : (iI z).toInt64.toInt = z := by
      rw [Int32.toInt_toInt64, i_toInt h1 h2]
    have hab : (if 0 < (iI z).toInt64 then (iI z).toInt64 else -(iI z).toInt64) = lI z.natAbs := by
      apply Int64.toInt_inj.mp
      rw [l_toInt (by omega)]
      by_cases g : 0 < z
      · rw [if_pos (Int64.lt_iff_toInt_lt.mpr (by rw [hz]; exact g)), hz]
        omega
      · rw [if_neg (fun h => g (by have := Int64.lt_iff_toInt_lt.mp h; rw [hz] at this; exact this)), Int64.toInt_neg, hz]
        rw [Int.bmod_eq_of_le (by omega) (by omega)]
        omega
    have e30 : shlL (lI z.natAbs) 30 = lI (z.natAbs * 2 ^ 30) := l_shld (k := 30) (by decide)
    have hr : Jvm.FP.Core.fromInt Jvm.FP.Core.b64 z = Jvm.FP.Core.encode Jvm.FP.Core.b64 (Jvm.FP.Core.roundRatio Jvm.FP.Core.b64 (decide (z < 0)) (z.natAbs * 2 ^ 30) 1 (-30)) := by
      have := enc_shift (s := decide (z < 0)) (n := z.natAbs) (d := 1) (by omega) (by decide) 30 0 (e := 0) (e' := -30) (by omega)
      rw [Nat.pow_zero, Nat.mul_one] at this
      rw [this]
      rfl
    rw [hab, e30, hr]
    have hX0 : 0 < z.natAbs * 2 ^ 30 := by omega
    have hX1 : z.natAbs * 2 ^ 30 < 2 ^ 63 := by omega
    by_cases g : 0 ≤ z
    · have hg : (0 : Int32) ≤ iI z := (iz_le (a := 0) (by omega) (by omega) h1 h2).mpr g
      rw [if_pos hg, decide_eq_false (by omega)]
      refine (val_call (pc2 := 30) rfl rfl rfl rfl rfl (Nat.le_of_ble_eq_true rfl) (Nat.le_of_ble_eq_true rfl) rfl (c_rounded d w (s := false) (E := -30) hX0 hX1 (by omega) (by omega)) rfl).trans ?_
      exact tr_109_30 d w _ _
    · have hg : ¬ (0 : Int32) ≤ iI z := fun h => g ((iz_le (a := 0) (by omega) (by omega) h1 h2).mp h)
      rw [if_neg hg, decide_eq_true (by omega)]
      refine (val_call (pc2 := 30) rfl rfl rfl rfl rfl (Nat.le_of_ble_eq_true rfl) (Nat.le_of_ble_eq_true rfl) rfl (c_rounded d w (s := true) (E := -30) hX0 hX1 (by omega) (by omega)) rfl).trans ?_
      exact tr_109_30 d w _ _
theorem enc_nan : Jvm.FP.Core.encode Jvm.FP.Core.b64 .nan = 9221120237041090560 := by decide
theorem enc_zero (s : Bool) (q : Int) : Jvm.FP.Core.encode Jvm.FP.Core.b64 (Jvm.FP.Core.round Jvm.FP.Core.b64 (.fin s 0 q)) = s.toNat * 2 ^ 63 := by
  cases s <;> rfl
theorem c_mul (d : Nat) (w : Wd) {a b : Nat} (ha : a < 2 ^ 64) (hb : b < 2 ^ 64) : val (113, d + 2, 0, [some (.long (lI a)), none, some (.long (lI b)), none, none, none, none, none, none, none, none, none, none], [], w) = some (some (.long (lI (Jvm.FP.Core.mul Jvm.FP.Core.b64 a b))), w) := by
  refine (tr_113 d w _ _).trans ?_
  rw [r_isNaN ha, r_isNaN hb, r_98 ha, r_98 hb, r_99 ha, r_99 hb, sg_xor ha hb]
  unfold Jvm.FP.Core.mul
  have i1 : ((1 : Int32) = 0) = False := by decide
  have hi0 : ¬ INF = 0 := by decide
  by_cases na : INF < szB a
  · rw [dec_nan ha na]
    simp only [na, if_true, i1, not_false_eq_true]
    rfl
  · by_cases nb : INF < szB b
    · rw [dec_nan hb nb]
      simp only [na, nb, if_true, if_false, i1, not_true_eq_false]
      cases Jvm.FP.Core.decode Jvm.FP.Core.b64 a <;> rfl
    · have sz0 : ∀ {n : Nat}, szB n < INF → (szB n = 0 ↔ cfB (szB n) = 0) := fun {n} h => (cf_0 (sz_lt n)).symm
      by_cases ia : szB a = INF
      · rw [dec_inf ha ia]
        by_cases ib : szB b = INF
        · rw [dec_inf hb ib]
          simp only [na, nb, ia, ib, hi0, if_true, if_false, i1, not_true_eq_false, not_false_eq_true, Nat.lt_irrefl]
          rw [show (9218868437227405312 : Int64) = lI INF from rfl, l_or_hi (by decide), ← enc_inf]
          rfl
        · have fb : szB b < INF := by omega
          rw [dec_fin hb fb]
          by_cases zb : szB b = 0
          · have hi1 : ¬ (0 : Nat) = INF := by decide
            simp only [na, nb, ia, zb, hi0, hi1, if_true, if_false, i1, not_true_eq_false, not_false_eq_true, Nat.lt_irrefl, Nat.not_lt_zero]
            rfl
          · have zb2 : ¬ cfB (szB b) = 0 := fun h => zb ((sz0 fb).mpr h)
            simp only [na, nb, ia, ib, zb, hi0, if_true, if_false, i1, not_true_eq_false, not_false_eq_true, Nat.lt_irrefl]
            rw [show (9218868437227405312 : Int64) = lI INF from rfl, l_or_hi (by decide), ← enc_inf]
            unfold Jvm.FP.Core.exactProduct
            dsimp only
            rw [if_neg zb2]
            rfl
      · have fa : szB a < INF := by omega
        rw [dec_fin ha fa]
        by_cases ib : szB b = INF
        · rw [dec_inf hb ib]
          by_cases za : szB a = 0
          · have hi1 : ¬ (0 : Nat) = INF := by decide
            simp only [na, nb, ib, za, hi0, hi1, if_true, if_false, i1, not_true_eq_false, not_false_eq_true, Nat.lt_irrefl, Nat.not_lt_zero]
            rfl
          · have za2 : ¬ cfB (szB a) = 0 := fun h => za ((sz0 fa).mpr h)
            simp only [na, nb, ia, ib, za, hi0, if_true, if_false, i1, not_true_eq_false, not_false_eq_true, Nat.lt_irrefl]
            rw [show (9218868437227405312 : Int64) = lI INF from rfl, l_or_hi (by decide), ← enc_inf]
            unfold Jvm.FP.Core.exactProduct
            dsimp only
            rw [if_neg za2]
            rfl
        · have fb : szB b < INF := by omega
          rw [dec_fin hb fb]
          unfold Jvm.FP.Core.exactProduct
          dsimp only
          by_cases za : szB a = 0
          · have hz := (sz0 fa).mp za
            have hi1 : ¬ (0 : Nat) = INF := by decide
            rw [hz, Nat.zero_mul, enc_zero]
            simp only [na, nb, ia, ib, za, hi0, hi1, if_true, if_false, i1, not_true_eq_false, not_false_eq_true, Nat.lt_irrefl, Nat.not_lt_zero]
          · by_cases zb : szB b = 0
            · have hz := (sz0 fb).mp zb
              have hi1 : ¬ (0 : Nat) = INF := by decide
              rw [hz, Nat.mul_zero, enc_zero]
              simp only [na, nb, ia, ib, za, zb, hi0, hi1, if_true, if_false, i1, not_true_eq_false, not_false_eq_true, Nat.lt_irrefl, Nat.not_lt_zero]
            · simp only [na, nb, ia, ib, za, zb, hi0, if_true, if_false, i1, not_true_eq_false, not_false_eq_true, Nat.lt_irrefl, Nat.not_lt_zero]
              have x0 : 0 < cfB (szB a) := Nat.pos_of_ne_zero (fun h => za ((sz0 fa).mpr h))
              have y0 : 0 < cfB (szB b) := Nat.pos_of_ne_zero (fun h => zb ((sz0 fb).mpr h))
              obtain ⟨J, j1, j2, j3, jv⟩ := c_missing (d + 1) w x0 cf_lt
              obtain ⟨K, k1, k2, k3, kv⟩ := c_missing (d + 1) w y0 cf_lt
              rw [r_104 ha fa, r_104 hb fb]
              refine (val_call (pc2 := 102) rfl rfl rfl rfl rfl (Nat.le_of_ble_eq_true rfl) (Nat.le_of_ble_eq_true rfl) rfl jv rfl).trans ?_
              refine (tr_113_102 d w _ _ _ _ _ _).trans ?_
              refine (val_call (pc2 := 109) rfl rfl rfl rfl rfl (Nat.le_of_ble_eq_true rfl) (Nat.le_of_ble_eq_true rfl) rfl kv rfl).trans ?_
              refine (tr_113_109 d w _ _ _ _ _ _ _).trans ?_
              rw [i_105 ha, i_105 hb, l_shld (by omega), l_shld (by omega), r_114 j3 k3]
              have ea := ef_lt fa
              have eb := ef_lt fb
              obtain ⟨ex, hex⟩ : ∃ ex : Int, ex = (efB (szB a) : Int) - 1074 := ⟨_, rfl⟩
              obtain ⟨ey, hey⟩ : ∃ ey : Int, ey = (efB (szB b) : Int) - 1074 := ⟨_, rfl⟩
              rw [← hex, ← hey]
              have e1 : iI ex - nI J + iI ey - nI K + 44 = iI (ex + ey - J - K + 44) := by
                rw [i_n, i_n, i_sub, i_add, i_sub, show (44 : Int32) = iI 44 from rfl, i_add]
                congr 1
                omega
              rw [e1]
              obtain ⟨x, hx⟩ : ∃ x, x = cfB (szB a) := ⟨_, rfl⟩
              obtain ⟨y, hy⟩ : ∃ y, y = cfB (szB b) := ⟨_, rfl⟩
              rw [← hx, ← hy]
              rw [← hx] at j2 j3 x0
              rw [← hy] at k2 k3 y0
              obtain ⟨P, hP⟩ : ∃ P, P = x * 2 ^ J * (y * 2 ^ K) := ⟨_, rfl⟩
              have p1 : 2 ^ 52 * 2 ^ 52 ≤ P := hP ▸ Nat.mul_le_mul j2 k2
              have p2 : P < 2 ^ 53 * 2 ^ 53 := hP ▸ mul_bd j3 k3
              have hPe : P = x * y * 2 ^ (J + K) := by
                rw [hP, Nat.pow_add, Nat.mul_assoc, Nat.mul_assoc, Nat.mul_left_comm (2 ^ J) y]
              rw [← hP]
              have hl : Jvm.FP.Core.leading P (2 ^ 44) ≥ 60 := by
                obtain ⟨l, e, l1, l2⟩ := lead_pos (num := P) (den := 2 ^ 44) (by decide) (by omega)
                rw [e]
                by_cases g : 60 ≤ l
                · omega
                · have := Nat.pow_le_pow_right (n := 2) (by decide) (show l + 1 ≤ 60 by omega)
                  have h3 := Nat.mul_le_mul_left (2 ^ 44) this
                  omega
              have r1 := enc_stk (s := (sgB a != sgB b)) (n := P) (d := 2 ^ 44) (by decide) (by omega) (e := ex + ey - J - K + 44) (by
                unfold qnt
                omega)
              have r2 := enc_shift (s := (sgB a != sgB b)) (n := x * y) (d := 1) (Nat.mul_pos x0 y0) (by decide) (J + K) 44 (e := ex + ey) (e' := ex + ey - J - K + 44) (by omega)
              rw [Nat.one_mul, ← hPe] at r2
              have s0 : 0 < stk P (2 ^ 44) := by
                rw [stk_eq]
                split <;> omega
              have s1 : stk P (2 ^ 44) < 2 ^ 63 := by
                rw [stk_eq]
                split <;> omega
              refine (val_call (pc2 := 151) rfl rfl rfl rfl rfl (Nat.le_of_ble_eq_true rfl) (Nat.le_of_ble_eq_true rfl) rfl (c_rounded d w (s := (sgB a != sgB b)) (E := ex + ey - J - K + 44) s0 s1 (by omega) (by omega)) rfl).trans ?_
              refine (tr_113_151 d w _ _ _ _ _ _ _ _ _).trans ?_
              rw [r1, r2]
              rfl
