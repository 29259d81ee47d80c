/-! DOUBLES: the class divides as the machine does -/
theorem div_more {N Y : Nat} (hY : 0 < Y) : N * 1024 / Y = N / Y * 1024 + N % Y * 1024 / Y ∧ N * 1024 % Y = N % Y * 1024 % Y := by
  have h := Nat.div_add_mod N Y
  have e : N * 1024 = N % Y * 1024 + Y * (N / Y * 1024) := by
    rw [← Nat.mul_assoc]
    omega
  constructor
  · rw [e, Nat.add_mul_div_left _ _ hY, Nat.add_comm]
  · rw [e, Nat.add_mul_mod_self_left]
theorem enc_z (s : Bool) : Jvm.FP.Core.encode Jvm.FP.Core.b64 (.fin s 0 (Jvm.FP.Core.Fmt.qmin Jvm.FP.Core.b64)) = s.toNat * 2 ^ 63 := by
  rw [fp_qmin, enc_fin (by decide) (by decide) (Or.inl rfl), show (-1074 + 1074 : Int).toNat = 0 from rfl, Nat.zero_mul]
  exact Nat.add_zero _
theorem lp_116 (d : Nat) (w : Wd) (l0 : Int64) {X Y : Nat} (hY : 0 < Y) (hY2 : Y < 2 ^ 53) (n : Nat) : ∀ i, 6 = i + n → val (116, d, 21, [some (.long l0), none, some (.long (lI Y)), none, some (.long (lI (X * 1024 ^ i / Y))), none, some (.long (lI (X * 1024 ^ i % Y))), none, some (.int (nI i))], [], w) = some (some (.long (lI (stk (X * 1024 ^ 6) Y))), w) := by
  have hYn : ¬ lI Y = 0 := fun h => by
    have := (l_inj (b := 0) (by omega) (by decide)).mp h
    omega
  induction n with
  | zero =>
    intro i hi
    have e : i = 6 := by omega
    subst e
    refine (tr_116_21 d w _ _ _ _ _ (fun _ => hYn)).trans ?_
    have hr : X * 1024 ^ 6 % Y < Y := Nat.mod_lt _ hY
    rw [if_pos (show (6 : Int32) ≤ nI 6 by decide)]
    have hc : cmpL (lI (X * 1024 ^ 6 % Y)) 0 = 0 ↔ X * 1024 ^ 6 % Y = 0 := by
      rw [cmpL_0]
      exact l_inj (b := 0) (by omega) (by decide)
    unfold stk
    by_cases c : X * 1024 ^ 6 % Y = 0
    · rw [if_neg (fun h => h (hc.mpr c)), if_pos c, show Int32.toInt64 0 = lI 0 from rfl, l_or]
    · rw [if_pos (fun h => c (hc.mp h)), if_neg c, show Int32.toInt64 1 = lI 1 from rfl, l_or]
  | succ n ih =>
    intro i hi
    refine (tr_116_21 d w _ _ _ _ _ (fun _ => hYn)).trans ?_
    have c : ¬ (6 : Int32) ≤ nI i := n_nle (a := 6) (by omega) (by decide)
    have hr : X * 1024 ^ i % Y < Y := Nat.mod_lt _ hY
    obtain ⟨d1, d2⟩ := div_more (N := X * 1024 ^ i) hY
    have hp : X * 1024 ^ (i + 1) = X * 1024 ^ i * 1024 := by rw [Nat.pow_succ, Nat.mul_assoc]
    have e1 : shlL (lI (X * 1024 ^ i / Y)) 10 = lI (X * 1024 ^ i / Y * 2 ^ 10) := l_shld (k := 10) (by decide)
    have e2 : shlL (lI (X * 1024 ^ i % Y)) 10 = lI (X * 1024 ^ i % Y * 2 ^ 10) := l_shld (k := 10) (by decide)
    have hq : X * 1024 ^ i % Y * 2 ^ 10 / Y < 2 ^ 10 := (Nat.div_lt_iff_lt_mul hY).mpr (by omega)
    rw [if_neg c, e1, e2, l_rem (by omega) (by omega), l_div (by omega) (by omega), l_or, or_sh hq, n_succ]
    have t1 : X * 1024 ^ i / Y * 2 ^ 10 + X * 1024 ^ i % Y * 2 ^ 10 / Y = X * 1024 ^ (i + 1) / Y := by rw [hp, d1]
    have t2 : X * 1024 ^ i % Y * 2 ^ 10 % Y = X * 1024 ^ (i + 1) % Y := by rw [hp, d2]
    rw [t1, t2]
    exact ih (i + 1) (by omega)
theorem c_quotient (d : Nat) (w : Wd) {X Y : Nat} (hX : X < 2 ^ 53) (hY : 0 < Y) (hY2 : Y < 2 ^ 53) : val (116, d, 0, [some (.long (lI X)), none, some (.long (lI Y)), none, none, none, none, none, none], [], w) = some (some (.long (lI (stk (X * 2 ^ 60) Y))), w) := by
  have hYn : ¬ lI Y = 0 := fun h => by
    have := (l_inj (b := 0) (by omega) (by decide)).mp h
    omega
  have hc : 0 < cmpL (lI Y) 0 := cmpL_gt.mpr ((l_lt_iff (a := 0) (by decide) (by omega)).mpr hY)
  refine (tr_116 d w _ _ (fun _ => hYn)).trans ?_
  rw [if_pos hc, l_rem (by omega) (by omega), l_div (by omega) (by omega)]
  have := lp_116 d w (lI X) (X := X) hY hY2 6 0 rfl
  rw [Nat.pow_zero, Nat.mul_one] at this
  exact this
theorem c_div (d : Nat) (w : Wd) {a b : Nat} (ha : a < 2 ^ 64) (hb : b < 2 ^ 64) : val (115, d + 2, 0, [some (.long (lI a)), none, some (.long (lI b)), none, none, none, none, none, none, none, none, none, none], [], w) = some (some (.long (lI (Jvm.FP.Core.div Jvm.FP.Core.b64 a b))), w) := by
  refine (tr_115 d w _ _).trans ?_
  rw [r_isNaN ha, r_isNaN hb, r_98 ha, r_98 hb, r_99 ha, r_99 hb, sg_xor ha hb]
  unfold Jvm.FP.Core.div
  have i1 : ((1 : Int32) = 0) = False := by decide
  have hi0 : ¬ INF = 0 := by decide
  have hi1 : ¬ (0 : Nat) = INF := by decide
  by_cases na : INF < szB a
  · rw [dec_nan ha na]
    simp only [na, if_true, i1, not_false_eq_true]
    rfl
  · by_cases nb : INF < szB b
    · rw [dec_nan hb nb]
      simp only [na, nb, if_true, if_false, i1, not_true_eq_false]
      cases Jvm.FP.Core.decode Jvm.FP.Core.b64 a <;> rfl
    · have sz0 : ∀ {n : Nat}, szB n < INF → (szB n = 0 ↔ cfB (szB n) = 0) := fun {n} h => (cf_0 (sz_lt n)).symm
      by_cases ia : szB a = INF
      · rw [dec_inf ha ia]
        by_cases ib : szB b = INF
        · rw [dec_inf hb ib]
          simp only [na, nb, ia, ib, hi0, if_true, if_false, i1, not_true_eq_false, not_false_eq_true, Nat.lt_irrefl]
          rfl
        · have fb : szB b < INF := by omega
          rw [dec_fin hb fb]
          simp only [na, nb, ia, ib, hi0, if_true, if_false, i1, not_true_eq_false, not_false_eq_true, Nat.lt_irrefl]
          rw [show (9218868437227405312 : Int64) = lI INF from rfl, l_or_hi (by decide), ← enc_inf]
          rfl
      · have fa : szB a < INF := by omega
        rw [dec_fin ha fa]
        by_cases ib : szB b = INF
        · rw [dec_inf hb ib]
          simp only [na, nb, ia, ib, hi0, if_true, if_false, i1, not_true_eq_false, not_false_eq_true, Nat.lt_irrefl]
          unfold Jvm.FP.Core.quotient
          dsimp only
          rw [enc_z]
        · have fb : szB b < INF := by omega
          rw [dec_fin hb fb]
          unfold Jvm.FP.Core.quotient
          dsimp only
          by_cases zb : szB b = 0
          · have hz := (sz0 fb).mp zb
            rw [if_pos hz]
            by_cases za : szB a = 0
            · have hz2 := (sz0 fa).mp za
              rw [if_pos hz2]
              simp only [na, nb, ia, ib, za, zb, hi0, hi1, if_true, if_false, i1, not_true_eq_false, not_false_eq_true, Nat.lt_irrefl, Nat.not_lt_zero]
              rfl
            · have za2 : ¬ cfB (szB a) = 0 := fun h => za ((sz0 fa).mpr h)
              rw [if_neg za2]
              simp only [na, nb, ia, ib, za, zb, hi0, hi1, if_true, if_false, i1, not_true_eq_false, not_false_eq_true, Nat.lt_irrefl, Nat.not_lt_zero]
              rw [show (9218868437227405312 : Int64) = lI INF from rfl, l_or_hi (by decide), ← enc_inf]
          · have zb2 : ¬ cfB (szB b) = 0 := fun h => zb ((sz0 fb).mpr h)
            rw [if_neg zb2]
            by_cases za : szB a = 0
            · have hz2 := (sz0 fa).mp za
              rw [hz2]
              simp only [na, nb, ia, ib, za, zb, hi0, hi1, if_true, if_false, i1, not_true_eq_false, not_false_eq_true, Nat.lt_irrefl, Nat.not_lt_zero]
              unfold Jvm.FP.Core.roundRatio
              rw [if_pos rfl, enc_z]
            · simp only [na, nb, ia, ib, za, zb, hi0, if_true, if_false, i1, not_true_eq_false, not_false_eq_true, Nat.lt_irrefl, Nat.not_lt_zero]
              have x0 : 0 < cfB (szB a) := Nat.pos_of_ne_zero (fun h => za ((sz0 fa).mpr h))
              have y0 : 0 < cfB (szB b) := Nat.pos_of_ne_zero (fun h => zb ((sz0 fb).mpr h))
              obtain ⟨J, j1, j2, j3, jv⟩ := c_missing (d + 1) w x0 cf_lt
              obtain ⟨K, k1, k2, k3, kv⟩ := c_missing (d + 1) w y0 cf_lt
              rw [r_104 ha fa, r_104 hb fb]
              refine (val_call (pc2 := 118) rfl rfl rfl rfl rfl (Nat.le_of_ble_eq_true rfl) (Nat.le_of_ble_eq_true rfl) rfl jv rfl).trans ?_
              refine (tr_115_118 d w _ _ _ _ _ _).trans ?_
              refine (val_call (pc2 := 125) rfl rfl rfl rfl rfl (Nat.le_of_ble_eq_true rfl) (Nat.le_of_ble_eq_true rfl) rfl kv rfl).trans ?_
              refine (tr_115_125 d w _ _ _ _ _ _ _).trans ?_
              rw [i_105 ha, i_105 hb, l_shld (by omega), l_shld (by omega)]
              have ea := ef_lt fa
              have eb := ef_lt fb
              obtain ⟨ex, hex⟩ : ∃ ex : Int, ex = (efB (szB a) : Int) - 1074 := ⟨_, rfl⟩
              obtain ⟨ey, hey⟩ : ∃ ey : Int, ey = (efB (szB b) : Int) - 1074 := ⟨_, rfl⟩
              rw [← hex, ← hey]
              have e1 : iI ex - nI J - iI ey + nI K - 60 = iI (ex - J - ey + K - 60) := by
                rw [i_n, i_n, i_sub, i_sub, i_add, show (60 : Int32) = iI 60 from rfl, i_sub]
              rw [e1]
              obtain ⟨x, hx⟩ : ∃ x, x = cfB (szB a) := ⟨_, rfl⟩
              obtain ⟨y, hy⟩ : ∃ y, y = cfB (szB b) := ⟨_, rfl⟩
              rw [← hx, ← hy]
              rw [← hx] at j2 j3 x0
              rw [← hy] at k2 k3 y0
              have hx60 : x * 2 ^ J * 2 ^ 60 = x * 2 ^ (J + 60) := by rw [Nat.pow_add, Nat.mul_assoc]
              have hl : Jvm.FP.Core.leading (x * 2 ^ J * 2 ^ 60) (y * 2 ^ K) ≥ 59 := by
                obtain ⟨l, e, l1, l2⟩ := lead_pos (num := x * 2 ^ J * 2 ^ 60) (den := y * 2 ^ K) (by omega) (by omega)
                rw [e]
                by_cases g : 59 ≤ l
                · omega
                · have := Nat.pow_le_pow_right (n := 2) (by decide) (show l + 1 ≤ 59 by omega)
                  have h3 := Nat.mul_le_mul_left (y * 2 ^ K) this
                  omega
              have r1 := enc_stk (s := (sgB a != sgB b)) (n := x * 2 ^ J * 2 ^ 60) (d := y * 2 ^ K) (by omega) (by omega) (e := ex - J - ey + K - 60) (by
                unfold qnt
                omega)
              have r2 := enc_shift (s := (sgB a != sgB b)) (n := x) (d := y) x0 y0 (J + 60) K (e := ex - ey) (e' := ex - J - ey + K - 60) (by omega)
              rw [← hx60] at r2
              have hdl : x * 2 ^ J * 2 ^ 60 / (y * 2 ^ K) < 2 ^ 62 := (Nat.div_lt_iff_lt_mul (by omega)).mpr (by omega)
              have hdg : 1 ≤ x * 2 ^ J * 2 ^ 60 / (y * 2 ^ K) := (Nat.le_div_iff_mul_le (by omega)).mpr (by omega)
              have s0 : 0 < stk (x * 2 ^ J * 2 ^ 60) (y * 2 ^ K) := by
                rw [stk_eq]
                split <;> omega
              have s1 : stk (x * 2 ^ J * 2 ^ 60) (y * 2 ^ K) < 2 ^ 63 := by
                rw [stk_eq]
                split <;> omega
              refine (val_call (pc2 := 164) rfl rfl rfl rfl rfl (Nat.le_of_ble_eq_true rfl) (Nat.le_of_ble_eq_true rfl) rfl (c_quotient (d + 1) w j3 (by omega) k3) rfl).trans ?_
              refine (val_call (pc2 := 167) rfl rfl rfl rfl rfl (Nat.le_of_ble_eq_true rfl) (Nat.le_of_ble_eq_true rfl) rfl (c_rounded d w (s := (sgB a != sgB b)) (E := ex - J - ey + K - 60) s0 s1 (by omega) (by omega)) rfl).trans ?_
              refine (tr_115_167 d w _ _ _ _ _ _ _ _ _).trans ?_
              rw [r1, r2]
