/-! DOUBLES: the class adds and subtracts as the machine does -/
abbrev jI (z : Int) : Int64 := Int64.ofInt z
theorem j_n (n : Nat) : lI n = jI n := by
  apply Int64.toBitVec_inj.mp
  exact (BitVec.ofInt_natCast 64 n).symm
theorem j_add (a b : Int) : jI a + jI b = jI (a + b) := (Int64.ofInt_add a b).symm
theorem j_neg (a : Int) : -(jI a) = jI (-a) := (Int64.ofInt_neg a).symm
theorem j_toInt {a : Int} (h : a.natAbs < 2 ^ 63) : (jI a).toInt = a := Int64.toInt_ofInt_of_le (by omega) (by omega)
theorem j_abs {z : Int} (h : z.natAbs < 2 ^ 63) : (if 0 < jI z then jI z else -(jI z)) = lI z.natAbs := by
  apply Int64.toInt_inj.mp
  rw [l_toInt h]
  by_cases g : 0 < z
  · rw [if_pos (Int64.lt_iff_toInt_lt.mpr (by rw [j_toInt h]; exact g)), j_toInt h]
    omega
  · rw [if_neg (fun h2 => g (by have := Int64.lt_iff_toInt_lt.mp h2; rw [j_toInt h] at this; exact this)), j_neg, j_toInt (by omega)]
    omega
theorem j_lt0 {z : Int} (h : z.natAbs < 2 ^ 63) : jI z < 0 ↔ z < 0 := by
  rw [Int64.lt_iff_toInt_lt, j_toInt h]
  exact Iff.rfl
theorem l_sign {a : Nat} (ha : a < 2 ^ 64) : lI a &&& (-9223372036854775808) = lI ((sgB a).toNat * 2 ^ 63) := by
  have h := sg_xor ha (show 0 < 2 ^ 64 by decide)
  rw [l_xor, Nat.xor_zero, show sgB 0 = false from rfl] at h
  rw [h]
  cases sgB a <;> rfl
theorem j_sign {z : Int} (h : z.natAbs < 2 ^ 63) : jI z &&& (-9223372036854775808) = lI ((decide (z < 0)).toNat * 2 ^ 63) := by
  obtain ⟨m, m1, m2⟩ := l_ex (jI z)
  rw [m2, l_sign m1]
  have : sgB m = decide (z < 0) := by
    have h1 := j_lt0 h
    rw [m2, l_neg_iff m1] at h1
    unfold sgB
    exact decide_eq_decide.mpr h1
  rw [this]
theorem j_0 {z : Int} (h : z.natAbs < 2 ^ 63) : jI z = 0 ↔ z = 0 := by
  rw [← Int64.toInt_inj, j_toInt h]
  exact Iff.rfl
theorem c_aligned (d : Nat) (w : Wd) {a : Nat} (ha : a < 2 ^ 64) (fa : szB a < INF) {E : Int} (h1 : -1074 ≤ E) (h2 : E ≤ 2000) : val (111, d + 2, 0, [some (.long (lI a)), none, some (.int (iI E)), none, none], [], w) = some (some (.long (jI (Jvm.FP.Core.signed (sgB a) (stk (cfB (szB a) * 2 ^ 9) (2 ^ (E - ((efB (szB a) : Int) - 1074)).toNat))))), w) := by
  have ea := ef_lt fa
  have hc : cfB (szB a) < 2 ^ 53 := cf_lt
  have e9 : shlL (lI (cfB (szB a))) 9 = lI (cfB (szB a) * 2 ^ 9) := l_shld (k := 9) (by decide)
  refine (tr_111 d w _ _).trans ?_
  rw [r_104 ha fa, i_105 ha, e9, i_sub, r_107z (by omega) (by omega) (by omega)]
  by_cases c : 2 ^ 63 ≤ a
  · have hs : sgB a = true := decide_eq_true c
    have hc : ¬ 0 ≤ cmpL (lI a) 0 := fun h => (cmpL_ge.mp h) ((l_neg_iff ha).mpr c)
    rw [if_neg hc, hs, j_n, j_neg]
    rfl
  · have hs : sgB a = false := decide_eq_false c
    have hc : 0 ≤ cmpL (lI a) 0 := cmpL_ge.mpr (fun h => c ((l_neg_iff ha).mp h))
    rw [if_pos hc, hs, j_n]
    rfl
theorem c_addR (d : Nat) (w : Wd) {a b : Nat} (ha : a < 2 ^ 64) (hb : b < 2 ^ 64) : val (110, d + 3, 0, [some (.long (lI a)), none, some (.long (lI b)), none, none, none, none], [], w) = some (some (.long (lI (Jvm.FP.Core.add Jvm.FP.Core.b64 a b))), w) := by
  refine (tr_110 d w _ _).trans ?_
  rw [r_isNaN ha, r_isNaN hb, r_98 ha, r_98 hb]
  unfold Jvm.FP.Core.add
  have i1 : ((1 : Int32) = 0) = False := by decide
  have gE : ∀ {x y : Nat}, x < 2 ^ 64 → y < 2 ^ 64 → (cmpL (lI x) (lI y) = 0 ↔ x = y) := fun hx hy => cmpL_0.trans (l_inj hx hy)
  by_cases na : INF < szB a
  · rw [dec_nan ha na]
    simp only [na, if_true, i1, not_false_eq_true]
    rfl
  · by_cases nb : INF < szB b
    · rw [dec_nan hb nb]
      simp only [na, nb, if_true, if_false, i1, not_true_eq_false]
      cases Jvm.FP.Core.decode Jvm.FP.Core.b64 a <;> rfl
    · by_cases ia : szB a = INF
      · rw [dec_inf ha ia]
        by_cases ib : szB b = INF
        · rw [dec_inf hb ib]
          by_cases e : a = b
          · have hst : sgB a = sgB b := by rw [e]
            simp only [na, nb, ia, ib, if_true, if_false, i1, not_true_eq_false, (gE ha hb).mpr e, Nat.lt_irrefl]
            show _ = some (some (Value.long (lI (Jvm.FP.Core.encode Jvm.FP.Core.b64 (Jvm.FP.Core.round Jvm.FP.Core.b64 (if sgB a = sgB b then .inf (sgB a) else .nan))))), w)
            rw [if_pos hst]
            show _ = some (some (Value.long (lI (Jvm.FP.Core.encode Jvm.FP.Core.b64 (.inf (sgB a))))), w)
            rw [enc_inf, ← ia, ← sg_eq ha]
          · have hst : ¬ sgB a = sgB b := fun h => e (by rw [sg_eq ha, sg_eq hb, ia, ib, h])
            have hc : ¬ cmpL (lI a) (lI b) = 0 := fun h => e ((gE ha hb).mp h)
            simp only [na, nb, ia, ib, if_true, if_false, i1, not_true_eq_false, hc, Nat.lt_irrefl]
            show _ = some (some (Value.long (lI (Jvm.FP.Core.encode Jvm.FP.Core.b64 (Jvm.FP.Core.round Jvm.FP.Core.b64 (if sgB a = sgB b then .inf (sgB a) else .nan))))), w)
            rw [if_neg hst]
            rfl
        · have fb : szB b < INF := by omega
          rw [dec_fin hb fb]
          simp only [na, nb, ia, ib, if_true, if_false, i1, not_true_eq_false, Nat.lt_irrefl]
          show _ = some (some (Value.long (lI (Jvm.FP.Core.encode Jvm.FP.Core.b64 (.inf (sgB a))))), w)
          rw [enc_inf, ← ia, ← sg_eq ha]
      · have fa : szB a < INF := by omega
        rw [dec_fin ha fa]
        by_cases ib : szB b = INF
        · rw [dec_inf hb ib]
          simp only [na, nb, ia, ib, if_true, if_false, i1, not_true_eq_false, Nat.lt_irrefl]
          show _ = some (some (Value.long (lI (Jvm.FP.Core.encode Jvm.FP.Core.b64 (.inf (sgB b))))), w)
          rw [enc_inf, ← ib, ← sg_eq hb]
        · have fb : szB b < INF := by omega
          rw [dec_fin hb fb]
          simp only [na, nb, ia, ib, if_true, if_false, i1, not_true_eq_false, Nat.lt_irrefl]
          have hS : (-9223372036854775808 : Int64) = lI (2 ^ 63) := rfl
          by_cases both : a = 2 ^ 63 ∧ b = 2 ^ 63
          · rw [both.1, both.2, if_neg (fun h => h ((gE (by decide) (by decide)).mpr rfl)), if_neg (fun h => h ((gE (by decide) (by decide)).mpr rfl))]
            rfl
          · have ea := ef_lt fa
            have eb := ef_lt fb
            obtain ⟨E, hE⟩ : ∃ E : Int, E = max ((efB (szB a) : Int) - 1074) ((efB (szB b) : Int) - 1074) := ⟨_, rfl⟩
            have hm : (if fn_105 (lI a) < fn_105 (lI b) then fn_105 (lI b) else fn_105 (lI a)) = iI E := by
              rw [i_105 ha, i_105 hb]
              have hlt := @iz_lt ((efB (szB a) : Int) - 1074) ((efB (szB b) : Int) - 1074) (by omega) (by omega) (by omega) (by omega)
              by_cases c : (efB (szB a) : Int) - 1074 < (efB (szB b) : Int) - 1074
              · rw [if_pos (hlt.mpr c), hE, Int.max_eq_right (by omega)]
              · rw [if_neg (fun h => c (hlt.mp h)), hE, Int.max_eq_left (by omega)]
            rw [hm]
            refine (show _ = val (110, d + 3, 91, [some (.long (lI a)), none, some (.long (lI b)), none, some (.int (iI E)), none, none], [.int (iI E), .long (lI a)], w) from ?_).trans ?_
            · by_cases c : a = 2 ^ 63
              · have hq1 : cmpL (lI a) (-9223372036854775808) = 0 := (gE (y := 2 ^ 63) ha (by decide)).mpr c
                have hq2 : ¬ cmpL (lI b) (-9223372036854775808) = 0 := fun h => both ⟨c, (gE (y := 2 ^ 63) hb (by decide)).mp h⟩
                rw [if_neg (fun h => h hq1), if_pos hq2]
              · have hq1 : ¬ cmpL (lI a) (-9223372036854775808) = 0 := fun h => c ((gE (y := 2 ^ 63) ha (by decide)).mp h)
                rw [if_pos hq1]
            refine (val_call (pc2 := 94) rfl rfl rfl rfl rfl (Nat.le_of_ble_eq_true rfl) (Nat.le_of_ble_eq_true rfl) rfl (c_aligned d w ha fa (E := E) (by omega) (by omega)) rfl).trans ?_
            refine (tr_110_94 (l4 := iI E) d w _ _ _).trans ?_
            refine (val_call (pc2 := 100) rfl rfl rfl rfl rfl (Nat.le_of_ble_eq_true rfl) (Nat.le_of_ble_eq_true rfl) rfl (c_aligned d w hb fb (E := E) (by omega) (by omega)) rfl).trans ?_
            refine (tr_110_100 (l4 := iI E) d w _ _ _ _).trans ?_
            obtain ⟨D1, hD1⟩ : ∃ D1, D1 = (E - ((efB (szB a) : Int) - 1074)).toNat := ⟨_, rfl⟩
            obtain ⟨D2, hD2⟩ : ∃ D2, D2 = (E - ((efB (szB b) : Int) - 1074)).toNat := ⟨_, rfl⟩
            rw [← hD1, ← hD2, j_add]
            have hbig : ∀ {m : Nat}, 0 < efB m → 2 ^ 52 ≤ cfB m := by
              intro m h
              unfold efB at h
              unfold cfB
              rw [if_neg (by omega)]
              omega
            obtain ⟨g0, g1, g2, g3⟩ := add_both (s := sgB a) (t := sgB b) (c1 := cfB (szB a)) (c2 := cfB (szB b)) (D1 := D1) (D2 := D2) cf_lt cf_lt (by omega) (by
              by_cases c : D1 ≤ 9
              · exact Or.inl c
              · exact Or.inr (hbig (by omega))) (by
              by_cases c : D2 ≤ 9
              · exact Or.inl c
              · exact Or.inr (hbig (by omega)))
            have hV : Jvm.FP.Core.sumUnits (sgB a) (cfB (szB a)) ((efB (szB a) : Int) - 1074) (sgB b) (cfB (szB b)) ((efB (szB b) : Int) - 1074) (min ((efB (szB a) : Int) - 1074) ((efB (szB b) : Int) - 1074)) = Jvm.FP.Core.signed (sgB a) (cfB (szB a) * 2 ^ D2) + Jvm.FP.Core.signed (sgB b) (cfB (szB b) * 2 ^ D1) := by
              unfold Jvm.FP.Core.sumUnits Jvm.FP.Core.inUnits
              rw [show (((efB (szB a) : Int) - 1074) - min ((efB (szB a) : Int) - 1074) ((efB (szB b) : Int) - 1074)).toNat = D2 by omega, show (((efB (szB b) : Int) - 1074) - min ((efB (szB a) : Int) - 1074) ((efB (szB b) : Int) - 1074)).toNat = D1 by omega]
            unfold Jvm.FP.Core.exactSum
            dsimp only
            rw [hV]
            have hzz : Jvm.FP.Core.signed (sgB a) (cfB (szB a) * 2 ^ D2) + Jvm.FP.Core.signed (sgB b) (cfB (szB b) * 2 ^ D1) = 0 → (sgB a && sgB b) = false := by
              intro h0
              cases sa : sgB a
              · rfl
              · cases sb : sgB b
                · rfl
                · rw [sa, sb] at h0
                  have q1 : cfB (szB a) * 2 ^ D2 = 0 ∧ cfB (szB b) * 2 ^ D1 = 0 := by
                    unfold Jvm.FP.Core.signed at h0
                    simp only [if_true] at h0
                    omega
                  have p1 : szB a = 0 := (cf_0 (sz_lt a)).mp ((Nat.mul_eq_zero.mp q1.1).resolve_right (Nat.ne_of_gt (Nat.two_pow_pos _)))
                  have p2 : szB b = 0 := (cf_0 (sz_lt b)).mp ((Nat.mul_eq_zero.mp q1.2).resolve_right (Nat.ne_of_gt (Nat.two_pow_pos _)))
                  exact absurd ⟨by rw [sg_eq ha, p1, sa]; rfl, by rw [sg_eq hb, p2, sb]; rfl⟩ both
            have hex : E - (D1 + D2 : Nat) = min ((efB (szB a) : Int) - 1074) ((efB (szB b) : Int) - 1074) := by omega
            generalize Jvm.FP.Core.signed (sgB a) (cfB (szB a) * 2 ^ D2) + Jvm.FP.Core.signed (sgB b) (cfB (szB b) * 2 ^ D1) = V at *
            generalize Jvm.FP.Core.signed (sgB a) (stk (cfB (szB a) * 2 ^ 9) (2 ^ D1)) + Jvm.FP.Core.signed (sgB b) (stk (cfB (szB b) * 2 ^ 9) (2 ^ D2)) = S at *
            unfold Jvm.FP.Core.sumSign
            by_cases hv : V = 0
            · have hs := g0.mpr hv
              rw [if_neg (fun h => h (cmpL_0.mpr ((j_0 g2).mpr hs))), if_pos hv, hv, hzz hv]
              refine (tr_110_133 (l4 := iI E) d w _ _ _ _).trans ?_
              rfl
            · have hs : ¬ S = 0 := fun h => hv (g0.mp h)
              have hc : ¬ cmpL (jI S) 0 = 0 := fun h => hs ((j_0 g2).mp (cmpL_0.mp h))
              rw [if_pos hc, if_neg hv, j_abs g2, j_sign g2, show (9 : Int32) = iI 9 from rfl, i_sub]
              refine (val_call (pc2 := 133) rfl rfl rfl rfl rfl (Nat.le_of_ble_eq_true rfl) (Nat.le_of_ble_eq_true rfl) rfl (c_rounded (d + 1) w (s := decide (S < 0)) (E := E - 9) (X := S.natAbs) (by omega) g2 (by omega) (by omega)) rfl).trans ?_
              refine (tr_110_133 (l4 := iI E) d w _ _ _ _).trans ?_
              rw [g3 hv]
              have e1 : decide (S < 0) = decide (V < 0) := decide_eq_decide.mpr g1
              rw [e1, show E - 9 + 9 - (D1 + D2 : Nat) = min ((efB (szB a) : Int) - 1074) ((efB (szB b) : Int) - 1074) by omega]
              rfl
theorem dec_neg {b : Nat} (hb : b < 2 ^ 64) : Jvm.FP.Core.decode Jvm.FP.Core.b64 (b ^^^ 2 ^ 63) = Jvm.FP.Core.negate (Jvm.FP.Core.decode Jvm.FP.Core.b64 b) := by
  have hx : b ^^^ 2 ^ 63 = (!sgB b).toNat * 2 ^ 63 + szB b := by
    have h0 := sz_lt b
    have h1 : ∀ s : Bool, s.toNat * 2 ^ 63 + szB b = s.toNat * 2 ^ 63 ^^^ szB b := by
      intro s
      rw [Nat.mul_comm]
      refine Nat.eq_of_testBit_eq (fun i => ?_)
      rw [Nat.testBit_two_pow_mul_add _ h0, Nat.testBit_xor, Nat.testBit_two_pow_mul]
      by_cases c : i < 63
      · rw [if_pos c, decide_eq_false (by omega)]
        cases (szB b).testBit i <;> rfl
      · rw [if_neg c, decide_eq_true (by omega), Nat.testBit_lt_two_pow (Nat.lt_of_lt_of_le h0 (Nat.pow_le_pow_right (by decide) (by omega)))]
        cases s.toNat.testBit (i - 63) <;> rfl
    rw [h1]
    conv => lhs; rw [sg_eq hb, h1]
    rw [Nat.xor_assoc, Nat.xor_comm (szB b), ← Nat.xor_assoc]
    cases sgB b <;> rfl
  have h0 := sz_lt b
  have hl : b ^^^ 2 ^ 63 < 2 ^ 64 := by
    rw [hx]
    cases sgB b <;> simp only [Bool.not_true, Bool.not_false, Bool.toNat_true, Bool.toNat_false] <;> omega
  have hsz : szB (b ^^^ 2 ^ 63) = szB b := by
    have h2 : ∀ x, szB x = x % 2 ^ 63 := fun _ => rfl
    rw [h2, hx]
    cases sgB b <;> simp only [Bool.not_true, Bool.not_false, Bool.toNat_true, Bool.toNat_false] <;> omega
  have hsg : sgB (b ^^^ 2 ^ 63) = !sgB b := by
    rw [hx]
    unfold sgB
    generalize decide (2 ^ 63 ≤ b) = s
    cases s
    · exact decide_eq_true (by simp only [Bool.not_false, Bool.toNat_true]; omega)
    · exact decide_eq_false (by simp only [Bool.not_true, Bool.toNat_false]; omega)
  by_cases c : szB b < INF
  · rw [dec_fin hl (by rw [hsz]; exact c), dec_fin hb c, hsz, hsg]
    rfl
  · by_cases c2 : szB b = INF
    · rw [dec_inf hl (by rw [hsz]; exact c2), dec_inf hb c2, hsg]
      rfl
    · rw [dec_nan hl (by rw [hsz]; omega), dec_nan hb (by omega)]
      rfl
theorem xor_lt {b : Nat} (hb : b < 2 ^ 64) : b ^^^ 2 ^ 63 < 2 ^ 64 := Nat.xor_lt_two_pow hb (by decide)
theorem c_sub (d : Nat) (w : Wd) {a b : Nat} (ha : a < 2 ^ 64) (hb : b < 2 ^ 64) : val (112, d + 4, 0, [some (.long (lI a)), none, some (.long (lI b)), none], [], w) = some (some (.long (lI (Jvm.FP.Core.sub Jvm.FP.Core.b64 a b))), w) := by
  refine (tr_112 d w _ _).trans ?_
  rw [show (-9223372036854775808 : Int64) = lI (2 ^ 63) from rfl, l_xor]
  refine (val_call (pc2 := 9) rfl rfl rfl rfl rfl (Nat.le_of_ble_eq_true rfl) (Nat.le_of_ble_eq_true rfl) rfl (c_addR d w ha (xor_lt hb)) rfl).trans ?_
  refine (tr_112_9 d w _ _ _).trans ?_
  unfold Jvm.FP.Core.add Jvm.FP.Core.sub
  rw [dec_neg hb]
