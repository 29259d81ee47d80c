/-! DOUBLES: the class's parts of a number's bits -/
theorem sz_52 {n : Nat} (hn : n < 2 ^ 64) : n / 2 ^ 52 % 2048 = szB n / 2 ^ 52 := by
  have h1 : szB n = n % 2 ^ 63 := rfl
  rw [h1]; omega
theorem r_103 {n : Nat} (hn : n < 2 ^ 64) : fn_103 (lI n) = nI (szB n / 2 ^ 52) := by
  unfold fn_103
  rw [show (52 : Int32) = nI 52 from rfl, l_ush hn (by decide), l_toI, show (2047 : Int32) = nI 2047 from rfl, n_and, show (2047 : Nat) = 2 ^ 11 - 1 from rfl, Nat.and_two_pow_sub_one_eq_mod, Nat.shiftRight_eq_div_pow, ← sz_52 hn]
