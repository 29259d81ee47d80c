/-! DOUBLES: both programs' nearest whole number -/
theorem l_m1 : (-1 : Int64) = lI (2 ^ 64 - 1) := rfl
theorem and_high {u k : Nat} (hu : u < 2 ^ 64) (hk : k < 64) : lI u &&& (lI (2 ^ k - 1) ^^^ (-1)) = lI (u / 2 ^ k * 2 ^ k) := by
  rw [l_m1, l_xor, l_and]
  congr 1
  refine Nat.eq_of_testBit_eq (fun i => ?_)
  rw [Nat.testBit_and, Nat.testBit_xor, Nat.testBit_two_pow_sub_one, Nat.testBit_two_pow_sub_one, Nat.mul_comm, Nat.testBit_two_pow_mul, Nat.testBit_div_two_pow]
  by_cases c : i < k
  · rw [decide_eq_true c, decide_eq_true (show i < 64 by omega), decide_eq_false (show ¬ k ≤ i by omega)]
    cases u.testBit i <;> rfl
  · rw [decide_eq_false c, decide_eq_true (show k ≤ i by omega), show i - k + k = i by omega]
    by_cases c2 : i < 64
    · rw [decide_eq_true c2]
      cases u.testBit i <;> rfl
    · rw [decide_eq_false c2, Nat.testBit_lt_two_pow (Nat.lt_of_lt_of_le hu (Nat.pow_le_pow_right (by decide) (by omega)))]
      rfl
theorem and_but {u k : Nat} (hu : u < 2 ^ 64) (hk : k < 63) (h0 : u % 2 ^ k = 0) : lI u &&& (lI (2 ^ k) ^^^ (-1)) = lI (u / 2 ^ (k + 1) * 2 ^ (k + 1)) := by
  rw [l_m1, l_xor, l_and]
  congr 1
  refine Nat.eq_of_testBit_eq (fun i => ?_)
  rw [Nat.testBit_and, Nat.testBit_xor, Nat.testBit_two_pow, Nat.testBit_two_pow_sub_one, Nat.mul_comm, Nat.testBit_two_pow_mul, Nat.testBit_div_two_pow]
  by_cases c : i < k
  · have h1 := Nat.testBit_mod_two_pow u k i
    rw [h0, Nat.zero_testBit, decide_eq_true c, Bool.true_and] at h1
    rw [← h1, decide_eq_false (show ¬ k + 1 ≤ i by omega)]
    rfl
  · by_cases c2 : i = k
    · rw [decide_eq_true (show k = i by omega), decide_eq_true (show i < 64 by omega), decide_eq_false (show ¬ k + 1 ≤ i by omega)]
      cases u.testBit i <;> rfl
    · rw [decide_eq_false (show ¬ k = i by omega), decide_eq_true (show k + 1 ≤ i by omega), show i - (k + 1) + (k + 1) = i by omega]
      by_cases c3 : i < 64
      · rw [decide_eq_true c3]
        cases u.testBit i <;> rfl
      · rw [decide_eq_false c3, Nat.testBit_lt_two_pow (Nat.lt_of_lt_of_le hu (Nat.pow_le_pow_right (by decide) (by omega)))]
        rfl
theorem near_small {c k : Nat} (h : 2 * c < 2 ^ k) : Jvm.FP.Core.nearest c (2 ^ k) = 0 := by
  unfold Jvm.FP.Core.nearest
  have h1 : c / 2 ^ k = 0 := Nat.div_eq_of_lt (by omega)
  have h2 : c % 2 ^ k = c := Nat.mod_eq_of_lt (by omega)
  rw [h1, h2, if_pos h]
theorem fi_0 : Jvm.FP.Core.fromInt Jvm.FP.Core.b64 ((0 : Nat) : Int) = 0 := by decide
theorem fi_1 : Jvm.FP.Core.fromInt Jvm.FP.Core.b64 ((1 : Nat) : Int) = 1023 * 2 ^ 52 := by decide
theorem near_of {c k Q r : Nat} (h : c = Q * 2 ^ k + r) (hr : r < 2 ^ k) : Jvm.FP.Core.nearest c (2 ^ k) = if 2 * r < 2 ^ k then Q else if 2 ^ k < 2 * r then Q + 1 else Q + Q % 2 := by
  have h1 : c / 2 ^ k = Q := by
    rw [h, Nat.add_comm, Nat.add_mul_div_right _ _ (by omega), Nat.div_eq_of_lt hr, Nat.zero_add]
  have h2 : c % 2 ^ k = r := by
    rw [h, Nat.add_comm, Nat.add_mul_mod_self_right, Nat.mod_eq_of_lt hr]
  unfold Jvm.FP.Core.nearest
  rw [h1, h2]
/-- the class's sum with a half, cut -/
theorem cut_half {T c k : Nat} (hk : 1 ≤ k) (hT : T % 2 = 0) : ((T * 2 ^ k + c + 2 ^ (k - 1)) % 2 ^ k = 0 → (T * 2 ^ k + c + 2 ^ (k - 1)) / 2 ^ (k + 1) * 2 ^ (k + 1) = T * 2 ^ k + Jvm.FP.Core.nearest c (2 ^ k) * 2 ^ k) ∧ (¬ (T * 2 ^ k + c + 2 ^ (k - 1)) % 2 ^ k = 0 → (T * 2 ^ k + c + 2 ^ (k - 1)) / 2 ^ k * 2 ^ k = T * 2 ^ k + Jvm.FP.Core.nearest c (2 ^ k) * 2 ^ k) := by
  obtain ⟨H, hH⟩ : ∃ H, H = 2 ^ (k - 1) := ⟨_, rfl⟩
  have hP : 2 ^ k = H * 2 := by rw [hH, ← Nat.pow_succ, Nat.succ_eq_add_one, Nat.sub_add_cancel hk]
  have hP2 : 2 ^ (k + 1) = 2 ^ k * 2 := Nat.pow_succ _ _
  have hH0 : 0 < H := hH ▸ Nat.two_pow_pos _
  have hc := Nat.div_add_mod c (2 ^ k)
  have hr : c % 2 ^ k < 2 ^ k := Nat.mod_lt _ (Nat.two_pow_pos k)
  obtain ⟨Q, hQ⟩ : ∃ Q, Q = c / 2 ^ k := ⟨_, rfl⟩
  obtain ⟨r, hre⟩ : ∃ r, r = c % 2 ^ k := ⟨_, rfl⟩
  rw [← hQ, ← hre, Nat.mul_comm] at hc
  rw [← hre] at hr
  rw [near_of hc.symm hr, ← hH, hP2]
  clear hP2 hH hQ hre
  generalize 2 ^ k = P at *
  have hsum : T * P + c + H = (T + Q) * P + (r + H) := by
    rw [Nat.add_mul]
    omega
  rw [hsum]
  by_cases c1 : 2 * r < P
  · have hm : ((T + Q) * P + (r + H)) % P = r + H := by
      rw [Nat.add_comm, Nat.add_mul_mod_self_right, Nat.mod_eq_of_lt (by omega)]
    have hd : ((T + Q) * P + (r + H)) / P = T + Q := by
      rw [Nat.add_comm, Nat.add_mul_div_right _ _ (by omega), Nat.div_eq_of_lt (by omega), Nat.zero_add]
    rw [hm, hd, if_pos c1, ← Nat.add_mul]
    exact ⟨fun h => by omega, fun _ => rfl⟩
  · rw [if_neg c1]
    have hs2 : (T + Q) * P + (r + H) = (T + Q + 1) * P + (r - H) := by
      rw [Nat.add_mul _ 1]
      omega
    have hm : ((T + Q) * P + (r + H)) % P = r - H := by
      rw [hs2, Nat.add_comm, Nat.add_mul_mod_self_right, Nat.mod_eq_of_lt (by omega)]
    have hd : ((T + Q) * P + (r + H)) / P = T + Q + 1 := by
      rw [hs2, Nat.add_comm, Nat.add_mul_div_right _ _ (by omega), Nat.div_eq_of_lt (by omega), Nat.zero_add]
    rw [hm, hd]
    by_cases c2 : P < 2 * r
    · rw [if_pos c2, ← Nat.add_mul]
      exact ⟨fun h => by omega, fun _ => by rw [Nat.add_assoc]⟩
    · rw [if_neg c2]
      refine ⟨fun _ => ?_, fun h => by omega⟩
      rw [← Nat.div_div_eq_div_mul, hd, Nat.mul_comm P 2, ← Nat.mul_assoc, ← Nat.add_mul]
      congr 1
      omega
theorem c_whole (d : Nat) (w : Wd) {a : Nat} (ha : a < 2 ^ 64) : val (119, d + 2, 0, [some (.long (lI a)), none, none, none, none, none, none], [], w) = some (some (.long (lI (evB a))), w) := by
  have hi : INF = 2047 * 2 ^ 52 := rfl
  refine (tr_119 d w _).trans ?_
  rw [r_isNaN ha, r_103 ha]
  have hsl := sz_lt a
  obtain ⟨F, hF⟩ : ∃ F, F = szB a / 2 ^ 52 := ⟨_, rfl⟩
  have hFl : F < 2048 := by omega
  rw [← hF]
  unfold evB
  by_cases na : INF < szB a
  · rw [if_pos na, if_neg (by decide), if_pos na]
    rfl
  · rw [if_neg na, if_pos rfl, if_neg na]
    by_cases f1 : F < 1075
    · have g1 : nI F < 1075 := n_lt (b := 1075) f1 (by decide)
      rw [if_pos g1, if_pos (show szB a < 1075 * 2 ^ 52 by omega)]
      have hfi : szB a < INF := by omega
      have hsig : lI a &&& (-9223372036854775808) = lI ((sgB a).toNat * 2 ^ 63) := l_sign ha
      rw [hsig]
      by_cases f2 : 1022 ≤ F
      · have g2 : (1022 : Int32) ≤ nI F := n_le (a := 1022) f2 (by omega)
        rw [if_pos g2]
        have hcf : cfB (szB a) = 2 ^ 52 + szB a % 2 ^ 52 := by
          unfold cfB
          rw [if_neg (by omega)]
        have hef : efB (szB a) = F - 1 := by
          unfold efB
          omega
        by_cases f3 : F = 1022
        · have g3 : nI F = 1022 := by rw [f3]; rfl
          rw [if_neg (fun h => h g3), hcf, hef, f3, show 1074 - (1022 - 1) = 53 from rfl]
          have hfr : lI a &&& 4503599627370495 = lI (szB a % 2 ^ 52) := by
            have h1 : szB a = a % 2 ^ 63 := rfl
            rw [show (4503599627370495 : Int64) = lI (2 ^ 52 - 1) from rfl, l_mask (by decide)]
            congr 1
            omega
          rw [hfr]
          have hc0 : cmpL (lI (szB a % 2 ^ 52)) 0 = 0 ↔ szB a % 2 ^ 52 = 0 := by
            rw [cmpL_0]
            exact l_inj (b := 0) (by omega) (by decide)
          by_cases z : szB a % 2 ^ 52 = 0
          · rw [if_neg (fun h => h (hc0.mpr z)), z, show Jvm.FP.Core.nearest (2 ^ 52 + 0) (2 ^ 53) = 0 by decide, fi_0, Nat.add_zero]
          · have hn1 : Jvm.FP.Core.nearest (2 ^ 52 + szB a % 2 ^ 52) (2 ^ 53) = 1 := by
              have hm : szB a % 2 ^ 52 < 2 ^ 52 := Nat.mod_lt _ (by decide)
              rw [near_of (k := 53) (Q := 0) (r := 2 ^ 52 + szB a % 2 ^ 52) (by omega) (by omega), if_neg (by omega), if_pos (by omega)]
            rw [if_pos (fun h => z (hc0.mp h)), hn1, fi_1, show (4607182418800017408 : Int64) = lI (1023 * 2 ^ 52) from rfl, l_or_hi (by decide)]
        · have g3 : ¬ nI F = 1022 := n_ne (b := 1022) f3 (by omega) (by decide)
          rw [if_pos g3]
          obtain ⟨k, hk⟩ : ∃ k, k = 1075 - F := ⟨_, rfl⟩
          have eF : (1075 : Int32) - nI F = nI k := by rw [hk]; exact n_sub (a := 1075) (by omega)
          have eone : shlL 1 (nI k) = lI (2 ^ k) := by
            have := l_shld (x := 1) (k := k) (by omega)
            rw [Nat.one_mul] at this
            exact this
          have hp1 : 1 ≤ 2 ^ k := Nat.two_pow_pos k
          have hp2 : 2 ^ k ≤ 2 ^ 52 := Nat.pow_le_pow_right (by decide) (by omega)
          have ehalf : ushL (lI (2 ^ k)) 1 = lI (2 ^ (k - 1)) := by
            have := l_ushd (x := 2 ^ k) (k := 1) (by omega) (by decide)
            refine this.trans ?_
            congr 1
            rw [show 2 ^ k = 2 ^ (k - 1) * 2 by rw [← Nat.pow_succ, Nat.succ_eq_add_one, Nat.sub_add_cancel (by omega)]]
            omega
          have emask : lI (2 ^ k) - 1 = lI (2 ^ k - 1) := l_sub (b := 1) hp1
          rw [eF, eone, ehalf, emask, l_add, l_mask (by omega)]
          have hp3 : 2 ^ (k - 1) ≤ 2 ^ 52 := Nat.pow_le_pow_right (by decide) (by omega)
          have hu : a + 2 ^ (k - 1) < 2 ^ 64 := by
            have := sg_eq ha
            cases hs : sgB a <;> rw [hs] at this <;> simp only [Bool.toNat_true, Bool.toNat_false] at this <;> omega
          rw [and_high hu (by omega)]
          obtain ⟨c, hc⟩ : ∃ c, c = cfB (szB a) := ⟨_, rfl⟩
          rw [← hc] at hcf
          have hcl : c < 2 ^ 53 := by
            have : szB a % 2 ^ 52 < 2 ^ 52 := Nat.mod_lt _ (by decide)
            omega
          obtain ⟨T, hT⟩ : ∃ T, T = ((sgB a).toNat * 2 ^ 11 + (F - 1)) * 2 ^ (52 - k) := ⟨_, rfl⟩
          have hTk : T * 2 ^ k = (sgB a).toNat * 2 ^ 63 + (F - 1) * 2 ^ 52 := by
            rw [hT, Nat.mul_assoc, ← Nat.pow_add, show 52 - k + k = 52 by omega, Nat.add_mul, Nat.mul_assoc]
          have hT2 : T % 2 = 0 := by
            by_cases c52 : k = 52
            · have : F = 1023 := by omega
              rw [hT, c52, this]
              cases sgB a <;> rfl
            · rw [hT, show 52 - k = 51 - k + 1 by omega, show 2 ^ (51 - k + 1) = 2 ^ (51 - k) * 2 from Nat.pow_succ _ _, ← Nat.mul_assoc]
              exact Nat.mul_mod_left _ _
          have hae : a + 2 ^ (k - 1) = T * 2 ^ k + c + 2 ^ (k - 1) := by
            rw [hTk]
            have := sg_eq ha
            omega
          obtain ⟨h1, h2⟩ := cut_half (T := T) (c := c) (k := k) (by omega) hT2
          have hN : Jvm.FP.Core.fromInt Jvm.FP.Core.b64 ((Jvm.FP.Core.nearest c (2 ^ k) : Nat) : Int) = (1074 - k) * 2 ^ 52 + Jvm.FP.Core.nearest c (2 ^ k) * 2 ^ k := by
            have e52 : 2 ^ (52 - k) * 2 ^ k = 2 ^ 52 := by rw [← Nat.pow_add, show 52 - k + k = 52 by omega]
            have e53 : 2 ^ (53 - k) * 2 ^ k = 2 ^ 53 := by rw [← Nat.pow_add, show 53 - k + k = 53 by omega]
            have l1 := near_ge (n := c) (d := 2 ^ k) (k := 2 ^ (52 - k)) hp1 (by omega)
            have l2 := near_le (n := c) (d := 2 ^ k) (m := 2 ^ (53 - k)) hp1 (by omega)
            refine fi_bits ?_ ?_ (by omega) (by omega)
            · rw [← e52]
              exact Nat.mul_le_mul_right _ l1
            · rw [← e53]
              exact Nat.mul_le_mul_right _ l2
          rw [hef, show 1074 - (F - 1) = k by omega, ← hc, hN, hae]
          rw [hae] at hu
          have hend : (sgB a).toNat * 2 ^ 63 + ((1074 - k) * 2 ^ 52 + Jvm.FP.Core.nearest c (2 ^ k) * 2 ^ k) = T * 2 ^ k + Jvm.FP.Core.nearest c (2 ^ k) * 2 ^ k := by
            rw [hTk, show 1074 - k = F - 1 by omega, Nat.add_assoc]
          rw [hend]
          have hc0 : cmpL (lI ((T * 2 ^ k + c + 2 ^ (k - 1)) % 2 ^ k)) 0 = 0 ↔ (T * 2 ^ k + c + 2 ^ (k - 1)) % 2 ^ k = 0 := by
            rw [cmpL_0]
            have : (T * 2 ^ k + c + 2 ^ (k - 1)) % 2 ^ k < 2 ^ k := Nat.mod_lt _ (Nat.two_pow_pos k)
            exact l_inj (b := 0) (by omega) (by decide)
          by_cases z : (T * 2 ^ k + c + 2 ^ (k - 1)) % 2 ^ k = 0
          · rw [if_neg (fun h => h (hc0.mpr z)), and_but hu (by omega) z, h1 z]
          · rw [if_pos (fun h => z (hc0.mp h)), h2 z]
      · have g2 : ¬ (1022 : Int32) ≤ nI F := n_nle (a := 1022) (by omega) (by decide)
        rw [if_neg g2]
        have hcl : cfB (szB a) < 2 ^ 53 := cf_lt
        have hef : efB (szB a) ≤ 1020 := by unfold efB; omega
        have hp : 2 ^ 54 ≤ 2 ^ (1074 - efB (szB a)) := Nat.pow_le_pow_right (by decide) (by omega)
        rw [near_small (by omega), fi_0, Nat.add_zero]
    · have g1 : ¬ nI F < 1075 := n_nlt (b := 1075) (by omega) (by omega)
      rw [if_neg g1, if_neg (show ¬ szB a < 1075 * 2 ^ 52 by omega)]
theorem u_neg {a : Nat} (ha : a < 2 ^ 64) : FP.dneg (UInt64.ofNat a) = UInt64.ofNat (a ^^^ 2 ^ 63) := by
  apply UInt64.toNat_inj.mp
  show (UInt64.ofNat a ^^^ 0x8000000000000000).toNat = _
  rw [UInt64.toNat_xor, u_lt ha, u_lt (xor_lt ha)]
  rfl
theorem u_d2l {x : Nat} (hx : x < 1075 * 2 ^ 52) : FP.d2l (UInt64.ofNat x) = lI (cfB x / 2 ^ (1074 - efB x)) := by
  have szx : szB x = x := Nat.mod_eq_of_lt (by omega)
  have sgx : sgB x = false := decide_eq_false (by omega)
  have hi : INF = 2047 * 2 ^ 52 := rfl
  show Jvm.FP.Core.toL (Jvm.FP.Core.decode Jvm.FP.Core.b64 (UInt64.ofNat x).toNat) = _
  rw [u_lt (by omega), dec_fin (by omega) (by rw [szx]; omega), szx, sgx]
  have he : efB x ≤ 1073 := by unfold efB; omega
  have hc : cfB x < 2 ^ 53 := cf_lt
  unfold Jvm.FP.Core.toL Jvm.FP.Core.toInt Jvm.FP.Core.truncate Jvm.FP.Core.signed
  dsimp only
  rw [show (((efB x : Int) - 1074)).toNat = 0 by omega, show (-((efB x : Int) - 1074)).toNat = 1074 - efB x by omega, Nat.pow_zero, Nat.mul_one]
  have hd : cfB x / 2 ^ (1074 - efB x) ≤ cfB x := Nat.div_le_self _ _
  rw [j_n]
  simp only [Bool.false_eq_true, if_false]
  generalize cfB x / 2 ^ (1074 - efB x) = W at *
  rw [Int.min_eq_right (by omega), Int.max_eq_right (by omega)]
theorem u_l2d {W : Nat} (hW : W < 2 ^ 63) : FP.l2d (lI W) = UInt64.ofNat (Jvm.FP.Core.fromInt Jvm.FP.Core.b64 (W : Int)) := by
  show UInt64.ofNat (Jvm.FP.Core.fromInt Jvm.FP.Core.b64 (lI W).toInt) = _
  rw [l_toInt hW]
theorem sub_half {x : Nat} (hx : x < 1075 * 2 ^ 52) : ∃ m, FP.dsub (UInt64.ofNat x) (FP.l2d (FP.d2l (UInt64.ofNat x))) = UInt64.ofNat m ∧ Num m ∧ (HALFB < m ↔ 2 ^ (1074 - efB x) < 2 * (cfB x % 2 ^ (1074 - efB x))) ∧ (m = HALFB ↔ 2 * (cfB x % 2 ^ (1074 - efB x)) = 2 ^ (1074 - efB x)) ∧ sgB m = false ∧ szB m = m := by
  have hi : INF = 2047 * 2 ^ 52 := rfl
  have he : efB x ≤ 1073 := by unfold efB; omega
  have hc : cfB x < 2 ^ 53 := cf_lt
  have hd : cfB x / 2 ^ (1074 - efB x) ≤ cfB x := Nat.div_le_self _ _
  obtain ⟨m, m1, m2, m3⟩ := sub_whole (x := x) (by omega) (k := 1074 - efB x) (by omega)
  obtain ⟨h1, h2⟩ := half_lt m3 (by omega)
  refine ⟨m, ?_, ⟨by omega, ?_⟩, h1, h2, decide_eq_false (by omega), Nat.mod_eq_of_lt (by omega)⟩
  · rw [u_d2l hx, u_l2d (by omega), u_sub (by omega) (by
      have := (fi_mg (N := cfB x / 2 ^ (1074 - efB x)) (by omega)).1
      omega), m1]
  · show m % 2 ^ 63 ≤ INF
    omega
theorem core_247 {α : Type} (f : Int64 → α) {x : Nat} (hx : x < 1075 * 2 ^ 52) : (if 0 < (Op.cmpValue (FP.dcmp (FP.dsub (UInt64.ofNat x) (FP.l2d (FP.d2l (UInt64.ofNat x)))) 4602678819172646912) .l) then f (FP.d2l (UInt64.ofNat x) + 1) else (if ¬ (Op.cmpValue (FP.dcmp (FP.dsub (UInt64.ofNat x) (FP.l2d (FP.d2l (UInt64.ofNat x)))) 4602678819172646912) .l) = 0 then f (FP.d2l (UInt64.ofNat x) + 0) else (if ¬ (cmpL ((FP.d2l (UInt64.ofNat x)) - (FP.d2l (UInt64.ofNat x)) / 2 * 2) 1) = 0 then f (FP.d2l (UInt64.ofNat x) + 0) else f (FP.d2l (UInt64.ofNat x) + 1)))) = f (lI (Jvm.FP.Core.nearest (cfB x) (2 ^ (1074 - efB x)))) := by
  obtain ⟨m, m1, m2, m3, m4, m5, m6⟩ := sub_half hx
  have hc : cfB x < 2 ^ 53 := cf_lt
  have hd : cfB x / 2 ^ (1074 - efB x) ≤ cfB x := Nat.div_le_self _ _
  have nh : Num HALFB := ⟨by decide, by decide⟩
  have lh : lvB HALFB = (HALFB : Int) := by decide
  have lm : lvB m = (m : Int) := by rw [lv_pos m5, m6]
  have g1 := cmp_gt (k := .l) m2 nh
  have g2 := cmp_eq (k := .l) m2 nh
  rw [lh, lm] at g1 g2
  rw [m1, u_d2l hx, near_whole, show (4602678819172646912 : UInt64) = UInt64.ofNat HALFB from rfl]
  have e1 : lI (cfB x / 2 ^ (1074 - efB x)) + 1 = lI (cfB x / 2 ^ (1074 - efB x) + 1) := l_add _ 1
  have e0 : lI (cfB x / 2 ^ (1074 - efB x)) + 0 = lI (cfB x / 2 ^ (1074 - efB x)) := l_add _ 0
  have e2 : lI (cfB x / 2 ^ (1074 - efB x)) - lI (cfB x / 2 ^ (1074 - efB x)) / 2 * 2 = lI (cfB x / 2 ^ (1074 - efB x) % 2) := l_rem (b := 2) (by omega) (by decide)
  rw [e0, e1, e2]
  generalize cfB x / 2 ^ (1074 - efB x) = W at *
  generalize cfB x % 2 ^ (1074 - efB x) = r at *
  generalize 2 ^ (1074 - efB x) = P at *
  have g3 : cmpL (lI (W % 2)) 1 = 0 ↔ W % 2 = 1 := by
    rw [cmpL_0]
    exact l_inj (b := 1) (by omega) (by decide)
  by_cases c1 : HALFB < m
  · rw [if_pos (g1.mpr (by omega)), if_pos (Or.inl (m3.mp c1))]
  · have n1 : ¬ P < 2 * r := fun h => c1 (m3.mpr h)
    rw [if_neg (fun h => c1 (by have := g1.mp h; omega))]
    by_cases c2 : m = HALFB
    · rw [if_neg (fun h => h (g2.mpr (by rw [c2])))]
      by_cases c3 : W % 2 = 1
      · rw [if_neg (fun h => h (g3.mpr c3)), if_pos (Or.inr ⟨m4.mp c2, c3⟩)]
      · rw [if_pos (fun h => c3 (g3.mp h)), if_neg (fun h => h.elim n1 (fun h => c3 h.2))]
    · rw [if_pos (fun h => c2 (by have := g2.mp h; omega)), if_neg (fun h => h.elim n1 (fun h => c2 (m4.mpr h.1)))]
theorem m_even (d : Nat) (w : Wd) {a : Nat} (ha : a < 2 ^ 64) (hcn : szB a ≤ INF ∨ a = NANB) : val (247, d, 0, [some (.double (UInt64.ofNat a)), none, none, none, none, none, none, none], [], w) = some (some (.double (UInt64.ofNat (evB a))), w) := by
  have hi : INF = 2047 * 2 ^ 52 := rfl
  have hneg : sgB a = true → FP.dneg (UInt64.ofNat a) = UInt64.ofNat (szB a) := by
    intro h
    rw [u_neg ha, xor_hi ha, h]
    congr 1
    simp only [Bool.not_true, Bool.toNat_false]
    omega
  have n0 : Num 0 := ⟨by decide, by decide⟩
  have n1 : Num (1075 * 2 ^ 52) := ⟨by decide, by decide⟩
  have n2 : Num (2 ^ 63 + 1075 * 2 ^ 52) := ⟨by decide, by decide⟩
  have l0 : lvB 0 = 0 := by decide
  have l1 : lvB (1075 * 2 ^ 52) = ((1075 * 2 ^ 52 : Nat) : Int) := by decide
  have l2 : lvB (2 ^ 63 + 1075 * 2 ^ 52) = -((1075 * 2 ^ 52 : Nat) : Int) := by decide
  have hl : (lvB a = szB a ∧ sgB a = false) ∨ (lvB a = -(szB a : Int) ∧ sgB a = true) := by
    cases s : sgB a
    · exact Or.inl ⟨lv_pos s, rfl⟩
    · exact Or.inr ⟨lv_neg s, rfl⟩
  by_cases na : szB a ≤ INF
  · have Na : Num a := ⟨ha, na⟩
    have g1 := cmp_ge (k := .l) Na n1
    have g2 := cmp_le (k := .g) Na n2
    have g3 := cmp_eq (k := .l) Na n0
    have g4 := cmp_ge (k := .g) Na n0
    rw [l1] at g1
    rw [l2] at g2
    rw [l0] at g3 g4
    have hbig : szB a < 1075 * 2 ^ 52 ∨ ¬ szB a < 1075 * 2 ^ 52 := by omega
    have hsz : szB a % 2 ^ 63 = szB a := Nat.mod_eq_of_lt (sz_lt a)
    have hnn : ∀ {x : Nat}, x < 1075 * 2 ^ 52 → nN (FP.dsub (UInt64.ofNat x) (FP.l2d (FP.d2l (UInt64.ofNat x)))) = true := by
      intro x hx
      obtain ⟨m, m1, m2, -⟩ := sub_half hx
      rw [m1]
      exact nN_num m2
    refine (tr_247 d w _ (fun _ p1 p2 p3 p4 => ?_) (fun _ p1 p2 p3 p4 => ?_)).trans ?_
    · have q1 : ¬ ((1075 * 2 ^ 52 : Nat) : Int) ≤ lvB a := fun h => p1 (g1.mpr h)
      have q4 := g4.mp p4
      have e : a = szB a := by
        have := sg_eq ha
        rcases hl with h | h
        · rw [h.2] at this
          simp only [Bool.toNat_false] at this
          omega
        · exact absurd (g3.mpr (by omega)) p3
      rw [e]
      exact hnn (by omega)
    · have q2 : ¬ lvB a ≤ -((1075 * 2 ^ 52 : Nat) : Int) := fun h => p2 (g2.mpr h)
      have q4 : ¬ 0 ≤ lvB a := fun h => p4 (g4.mpr h)
      have hs : sgB a = true := by
        rcases hl with h | h
        · omega
        · exact h.2
      rw [hneg hs]
      exact hnn (by omega)
    · rw [if_neg (fun h => h ((m_same ha).mpr na))]
      unfold evB
      rw [if_neg (show ¬ INF < szB a by omega)]
      by_cases c : szB a < 1075 * 2 ^ 52
      · rw [if_pos c]
        have q1 : ¬ 0 ≤ Op.cmpValue (FP.dcmp (UInt64.ofNat a) 4841369599423283200) .l := fun h => by
          have := g1.mp h
          omega
        have q2 : ¬ Op.cmpValue (FP.dcmp (UInt64.ofNat a) 14064741636278059008) .g ≤ 0 := fun h => by
          have := g2.mp h
          omega
        rw [if_neg q1, if_neg q2]
        by_cases z : szB a = 0
        · have q3 : Op.cmpValue (FP.dcmp (UInt64.ofNat a) 0) .l = 0 := g3.mpr (by omega)
          rw [if_neg (fun h => h q3), z, show cfB 0 = 0 from rfl, near_small (by rw [Nat.mul_zero]; exact Nat.two_pow_pos _), fi_0]
          have := sg_eq ha
          rw [z] at this
          rw [← this]
        · have q3 : ¬ Op.cmpValue (FP.dcmp (UInt64.ofNat a) 0) .l = 0 := fun h => by
            have := g3.mp h
            omega
          rw [if_pos q3]
          have hNl : Jvm.FP.Core.nearest (cfB (szB a)) (2 ^ (1074 - efB (szB a))) < 2 ^ 53 := by
            have he : efB (szB a) < 1074 := by unfold efB; omega
            have h2 : 2 ^ 1 ≤ 2 ^ (1074 - efB (szB a)) := Nat.pow_le_pow_right (by decide) (by omega)
            have := near_le (n := cfB (szB a)) (d := 2 ^ (1074 - efB (szB a))) (m := 2 ^ 52) (by omega) (by
              have : cfB (szB a) < 2 ^ 53 := cf_lt
              have := Nat.mul_le_mul_left (2 ^ 52) h2
              omega)
            omega
          have hfm := (fi_mg hNl).1
          rcases hl with h | h
          · have q4 : 0 ≤ Op.cmpValue (FP.dcmp (UInt64.ofNat a) 0) .g := g4.mpr (by omega)
            have e : a = szB a := by
              have := sg_eq ha
              rw [h.2] at this
              simp only [Bool.toNat_false] at this
              omega
            rw [if_pos q4]
            have hcore := core_247 (fun L => if 0 ≤ Op.cmpValue (FP.dcmp (UInt64.ofNat a) 0) .g then (some (some (Value.double (FP.l2d L)), w) : Option (Option Value × Wd)) else some (some (Value.double (FP.dneg (FP.l2d L))), w)) c
            rw [← e] at hcore
            refine hcore.trans ?_
            rw [if_pos q4, u_l2d (by rw [e]; omega), h.2, ← e, show false.toNat * 2 ^ 63 = 0 from rfl, Nat.zero_add]
          · have q4 : ¬ 0 ≤ Op.cmpValue (FP.dcmp (UInt64.ofNat a) 0) .g := fun h2 => by
              have := g4.mp h2
              omega
            rw [if_neg q4, hneg h.2]
            have hcore := core_247 (fun L => if 0 ≤ Op.cmpValue (FP.dcmp (UInt64.ofNat a) 0) .g then (some (some (Value.double (FP.l2d L)), w) : Option (Option Value × Wd)) else some (some (Value.double (FP.dneg (FP.l2d L))), w)) c
            refine hcore.trans ?_
            rw [if_neg q4, u_l2d (by omega), u_neg (by omega), xor_hi (by omega), h.2]
            generalize Jvm.FP.Core.fromInt Jvm.FP.Core.b64 ((Jvm.FP.Core.nearest (cfB (szB a)) (2 ^ (1074 - efB (szB a))) : Nat) : Int) = y at *
            rw [show szB y = y from Nat.mod_eq_of_lt (by omega), show sgB y = false from decide_eq_false (by omega), Bool.not_false]
      · rw [if_neg c]
        rcases hl with h | h
        · exact if_pos (g1.mpr (by omega))
        · refine (if_neg (fun h2 => ?_)).trans (if_pos (g2.mpr (by omega)))
          have := g1.mp h2
          omega
  · have e := hcn.resolve_left na
    refine (tr_247 d w _ (fun p => absurd (fun h => na ((m_same ha).mp h)) p) (fun p => absurd (fun h => na ((m_same ha).mp h)) p)).trans ?_
    rw [if_pos (fun h => na ((m_same ha).mp h))]
    unfold evB
    rw [if_pos (show INF < szB a by omega), e]
