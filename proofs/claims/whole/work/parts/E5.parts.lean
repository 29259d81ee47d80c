/-! DOUBLES: the class's parts of a number's bits -/
theorem sz_52 {n : Nat} (hn : n < 2 ^ 64) : n / 2 ^ 52 % 2048 = szB n / 2 ^ 52 := by
  have h1 : szB n = n % 2 ^ 63 := rfl
  rw [h1]; omega
theorem r_103 {n : Nat} (hn : n < 2 ^ 64) : fn_103 (lI n) = nI (szB n / 2 ^ 52) := by
  unfold fn_103
  rw [show (52 : Int32) = nI 52 from rfl, l_ush hn (by decide), l_toI, show (2047 : Int32) = nI 2047 from rfl, n_and, show (2047 : Nat) = 2 ^ 11 - 1 from rfl, Nat.and_two_pow_sub_one_eq_mod, Nat.shiftRight_eq_div_pow, ← sz_52 hn]
theorem or_52 {x : Nat} (hx : x < 2 ^ 52) : x ||| 2 ^ 52 = 2 ^ 52 + x := by
  rw [Nat.or_comm]
  exact (Nat.two_pow_add_eq_or_of_lt hx 1 ▸ (by rw [Nat.mul_one]))
theorem r_104 {n : Nat} (hn : n < 2 ^ 64) (hf : szB n < INF) : fn_104 (lI n) = lI (cfB (szB n)) := by
  have h1 : szB n = n % 2 ^ 63 := rfl
  have hT : n % 2 ^ 52 = szB n % 2 ^ 52 := by rw [h1]; omega
  have hE : szB n / 2 ^ 52 < 2 ^ 31 := by
    have := sz_lt n
    omega
  have hx : szB n % 2 ^ 52 < 2 ^ 52 := Nat.mod_lt _ (by decide)
  unfold fn_104 cfB
  rw [r_103 hn, show (4503599627370495 : Int64) = lI 4503599627370495 from rfl, show (4503599627370496 : Int64) = lI (2 ^ 52) from rfl, l_and, show (4503599627370495 : Nat) = 2 ^ 52 - 1 from rfl, Nat.and_two_pow_sub_one_eq_mod, l_or, hT, or_52 hx]
  by_cases c : szB n / 2 ^ 52 = 0
  · rw [if_pos c, if_neg (fun h => h (by rw [c]; rfl))]
  · rw [if_neg c, if_pos (n_ne0 c hE)]
theorem r_105 {n : Nat} (hn : n < 2 ^ 64) : fn_105 (lI n) = nI (efB (szB n)) + (-1074) := by
  have hE : szB n / 2 ^ 52 < 2 ^ 31 := by
    have := sz_lt n
    omega
  unfold fn_105 efB
  rw [r_103 hn]
  by_cases c : szB n / 2 ^ 52 = 0
  · rw [c, if_pos (show nI 0 < 1 by decide)]
    rfl
  · rw [if_neg (show ¬ nI (szB n / 2 ^ 52) < 1 from n_nlt (b := 1) (by omega) hE), pI_1 (by omega)]
theorem lI_z {y : Nat} : lI y = 0 ↔ y % 2 ^ 64 = 0 := by
  have e : lI y = lI (y % 2 ^ 64) := by
    apply Int64.toBitVec_inj.mp
    rw [l_bv, l_bv]
    apply BitVec.eq_of_toNat_eq
    rw [BitVec.toNat_ofNat, BitVec.toNat_ofNat, Nat.mod_mod]
  rw [e]
  exact l_inj (b := 0) (Nat.mod_lt _ (by decide)) (by decide)
theorem r_107 {x k : Nat} (hx : x < 2 ^ 64) (h1 : 1 ≤ k) (h2 : k ≤ 62) : fn_107 (lI x) (nI k) = lI (stk x (2 ^ k)) := by
  unfold fn_107 stk
  have e1 : (64 : Int32) - nI k = nI (64 - k) := n_sub (a := 64) (by omega)
  have h3 : x <<< (64 - k) % 2 ^ 64 = 0 ↔ x % 2 ^ k = 0 := by
    rw [Nat.shiftLeft_eq, show 2 ^ 64 = 2 ^ k * 2 ^ (64 - k) by rw [← Nat.pow_add, show k + (64 - k) = 64 by omega], Nat.mul_mod_mul_right]
    constructor
    · intro h
      exact (Nat.mul_eq_zero.mp h).resolve_right (Nat.ne_of_gt (Nat.two_pow_pos _))
    · intro h
      rw [h, Nat.zero_mul]
  rw [if_pos (show (0 : Int32) < nI k from n_lt (a := 0) h1 (by omega)), if_pos (show nI k ≤ 62 from n_le (b := 62) h2 (by decide)), e1, l_shl (show 64 - k < 64 by omega), l_ush hx (show k < 64 by omega), Nat.shiftRight_eq_div_pow, show Int32.toInt64 1 = lI 1 from rfl, show Int32.toInt64 0 = lI 0 from rfl, l_or, l_or]
  by_cases c : x % 2 ^ k = 0
  · rw [if_neg (fun h => h (cmpL_0.mpr (lI_z.mpr (h3.mpr c)))), if_pos c]
  · rw [if_pos (fun h => c (h3.mp (lI_z.mp (cmpL_0.mp h)))), if_neg c]
