/-! DOUBLES: the class's high product, infinity, zero -/
theorem l_mask {x k : Nat} (hk : k < 64) : lI x &&& lI (2 ^ k - 1) = lI (x % 2 ^ k) := by
  rw [l_and, Nat.and_two_pow_sub_one_eq_mod]
theorem l_ushd {x k : Nat} (hx : x < 2 ^ 64) (hk : k < 64) : ushL (lI x) (nI k) = lI (x / 2 ^ k) := by
  rw [l_ush hx hk, Nat.shiftRight_eq_div_pow]
theorem l_shld {x k : Nat} (hk : k < 64) : shlL (lI x) (nI k) = lI (x * 2 ^ k) := by
  rw [l_shl hk, Nat.shiftLeft_eq]
theorem or_0 {a b : Nat} : a ||| b = 0 ↔ a = 0 ∧ b = 0 := Nat.or_eq_zero_iff
theorem or_sh {a b k : Nat} (hb : b < 2 ^ k) : a * 2 ^ k ||| b = a * 2 ^ k + b := by
  rw [Nat.mul_comm]
  exact (Nat.two_pow_add_eq_or_of_lt hb a).symm
theorem mul_bd {a b A B : Nat} (h1 : a < A) (h2 : b < B) : a * b < A * B := Nat.mul_lt_mul'' h1 h2
theorem r_114 {x y : Nat} (hx : x < 2 ^ 53) (hy : y < 2 ^ 53) : fn_114 (lI x) (lI y) = lI (stk (x * y) (2 ^ 44)) := by
  have a1 : ushL (lI x) 27 = lI (x / 2 ^ 27) := l_ushd (k := 27) (by omega) (by decide)
  have b1 : ushL (lI y) 27 = lI (y / 2 ^ 27) := l_ushd (k := 27) (by omega) (by decide)
  have a2 : lI x &&& 134217727 = lI (x % 2 ^ 27) := l_mask (k := 27) (by decide)
  have b2 : lI y &&& 134217727 = lI (y % 2 ^ 27) := l_mask (k := 27) (by decide)
  unfold fn_114
  rw [a1, a2, b1, b2]
  have hxe : x = x / 2 ^ 27 * 2 ^ 27 + x % 2 ^ 27 := by omega
  have hye : y = y / 2 ^ 27 * 2 ^ 27 + y % 2 ^ 27 := by omega
  have x1 : x / 2 ^ 27 < 2 ^ 26 := by omega
  have y1 : y / 2 ^ 27 < 2 ^ 26 := by omega
  have x2 : x % 2 ^ 27 < 2 ^ 27 := Nat.mod_lt _ (by decide)
  have y2 : y % 2 ^ 27 < 2 ^ 27 := Nat.mod_lt _ (by decide)
  have hP : x * y = x / 2 ^ 27 * (y / 2 ^ 27) * 2 ^ 54 + (x / 2 ^ 27 * (y % 2 ^ 27) + x % 2 ^ 27 * (y / 2 ^ 27)) * 2 ^ 27 + x % 2 ^ 27 * (y % 2 ^ 27) := by
    generalize x / 2 ^ 27 = xh at *
    generalize x % 2 ^ 27 = xl at *
    generalize y / 2 ^ 27 = yh at *
    generalize y % 2 ^ 27 = yl at *
    rw [hxe, hye, Nat.add_mul, Nat.mul_add, Nat.mul_add, Nat.mul_assoc xh, Nat.mul_left_comm (2 ^ 27) yh, ← Nat.mul_assoc xh, show (2 ^ 27 : Nat) * 2 ^ 27 = 2 ^ 54 from rfl, Nat.mul_right_comm xh (2 ^ 27) yl, ← Nat.mul_assoc xl, Nat.add_mul]
    omega
  have m1 := mul_bd x1 y1
  have m2 := mul_bd x1 y2
  have m3 := mul_bd x2 y1
  have m4 := mul_bd x2 y2
  rw [hP, l_mul, l_mul, l_mul, l_mul]
  generalize x / 2 ^ 27 * (y / 2 ^ 27) = hh at *
  generalize x / 2 ^ 27 * (y % 2 ^ 27) = u1 at *
  generalize x % 2 ^ 27 * (y / 2 ^ 27) = u2 at *
  generalize x % 2 ^ 27 * (y % 2 ^ 27) = ll at *
  have c1 : ushL (lI ll) 27 = lI (ll / 2 ^ 27) := l_ushd (k := 27) (by omega) (by decide)
  have c2 : lI ll &&& 134217727 = lI (ll % 2 ^ 27) := l_mask (k := 27) (by decide)
  rw [c1, c2, l_add, l_add]
  obtain ⟨mid, hmid⟩ : ∃ mid, mid = u1 + u2 + ll / 2 ^ 27 := ⟨_, rfl⟩
  rw [← hmid]
  have d1 : ushL (lI mid) 27 = lI (mid / 2 ^ 27) := l_ushd (k := 27) (by omega) (by decide)
  have d2 : lI mid &&& 134217727 = lI (mid % 2 ^ 27) := l_mask (k := 27) (by decide)
  have d3 : lI mid &&& 131071 = lI (mid % 2 ^ 17) := l_mask (k := 17) (by decide)
  have d4 : ushL (lI (mid % 2 ^ 27)) 17 = lI (mid % 2 ^ 27 / 2 ^ 17) := l_ushd (k := 17) (by omega) (by decide)
  rw [d1, d2, d3, d4, l_or, l_add]
  have d5 : shlL (lI (hh + mid / 2 ^ 27)) 10 = lI ((hh + mid / 2 ^ 27) * 2 ^ 10) := l_shld (k := 10) (by decide)
  rw [d5, l_or, or_sh (by omega), show Int32.toInt64 1 = lI 1 from rfl, show Int32.toInt64 0 = lI 0 from rfl, l_or, l_or]
  have e1 : (hh * 2 ^ 54 + (u1 + u2) * 2 ^ 27 + ll) / 2 ^ 44 = (hh + mid / 2 ^ 27) * 2 ^ 10 + mid % 2 ^ 27 / 2 ^ 17 := by omega
  have e2 : (hh * 2 ^ 54 + (u1 + u2) * 2 ^ 27 + ll) % 2 ^ 44 = 0 ↔ mid % 2 ^ 17 = 0 ∧ ll % 2 ^ 27 = 0 := by omega
  unfold stk
  rw [e1]
  have hb : (mid % 2 ^ 17 ||| ll % 2 ^ 27) < 2 ^ 64 := Nat.or_lt_two_pow (by omega) (by omega)
  have g : cmpL (lI (mid % 2 ^ 17 ||| ll % 2 ^ 27)) 0 = 0 ↔ mid % 2 ^ 17 = 0 ∧ ll % 2 ^ 27 = 0 := by
    rw [cmpL_0, ← or_0]
    exact l_inj (b := 0) hb (by decide)
  by_cases c : mid % 2 ^ 17 = 0 ∧ ll % 2 ^ 27 = 0
  · rw [if_neg (fun h => h (g.mpr c)), if_pos (e2.mpr c)]
  · rw [if_pos (fun h => c (g.mp h)), if_neg (fun h => c (e2.mp h))]
theorem r_98 {a : Nat} (ha : a < 2 ^ 64) : fn_98 (lI a) = if szB a = INF then 1 else 0 := by
  unfold fn_98
  rw [sz_and ha]
  have g : cmpL (lI (szB a)) 9218868437227405312 = 0 ↔ szB a = INF := by
    rw [cmpL_0]
    exact l_inj (b := INF) (by have := sz_lt a; omega) (by decide)
  by_cases c : szB a = INF
  · rw [if_neg (fun h => h (g.mpr c)), if_pos c]
  · rw [if_pos (fun h => c (g.mp h)), if_neg c]
theorem r_99 {a : Nat} (ha : a < 2 ^ 64) : fn_99 (lI a) = if szB a = 0 then 1 else 0 := by
  unfold fn_99
  rw [sz_and ha]
  have g : cmpL (lI (szB a)) 0 = 0 ↔ szB a = 0 := by
    rw [cmpL_0]
    exact l_inj (b := 0) (by have := sz_lt a; omega) (by decide)
  by_cases c : szB a = 0
  · rw [if_neg (fun h => h (g.mpr c)), if_pos c]
  · rw [if_pos (fun h => c (g.mp h)), if_neg c]
theorem i_105 {n : Nat} (hn : n < 2 ^ 64) : fn_105 (lI n) = iI ((efB (szB n) : Int) - 1074) := by
  rw [r_105 hn, i_n, show (-1074 : Int32) = iI (-1074) from rfl, i_add]
  rfl
theorem cf_lt {m : Nat} : cfB m < 2 ^ 53 := by
  unfold cfB
  split <;> omega
theorem cf_0 {m : Nat} (hm : m < 2 ^ 63) : cfB m = 0 ↔ m = 0 := by
  unfold cfB
  split <;> omega
theorem ef_lt {m : Nat} (h : m < INF) : efB m ≤ 2045 := by
  have hi : INF = 2047 * 2 ^ 52 := rfl
  unfold efB
  omega
theorem sg_eq {n : Nat} (hn : n < 2 ^ 64) : n = (sgB n).toNat * 2 ^ 63 + szB n := by
  have h1 : szB n = n % 2 ^ 63 := rfl
  unfold sgB
  by_cases c : 2 ^ 63 ≤ n
  · rw [decide_eq_true c, h1]
    show n = 1 * 2 ^ 63 + _
    omega
  · rw [decide_eq_false c, h1]
    show n = 0 * 2 ^ 63 + _
    omega
/-- the sign of a product -/
theorem sg_xor {a b : Nat} (ha : a < 2 ^ 64) (hb : b < 2 ^ 64) : (lI a ^^^ lI b) &&& (-9223372036854775808) = lI ((sgB a != sgB b).toNat * 2 ^ 63) := by
  rw [l_xor, show (-9223372036854775808 : Int64) = lI (2 ^ 63) from rfl, l_and]
  congr 1
  refine Nat.eq_of_testBit_eq (fun i => ?_)
  have hx : ∀ {n : Nat}, n < 2 ^ 64 → n.testBit 63 = sgB n := by
    intro n hn
    rw [Nat.testBit_eq_decide_div_mod_eq]
    unfold sgB
    congr 1
    apply propext
    omega
  rw [Nat.testBit_and, Nat.testBit_xor, Nat.testBit_two_pow]
  by_cases c : 63 = i
  · subst c
    rw [hx ha, hx hb, decide_eq_true rfl, Bool.and_true]
    cases sgB a <;> cases sgB b <;> decide
  · rw [decide_eq_false c, Bool.and_false]
    cases (sgB a != sgB b)
    · rw [show false.toNat * 2 ^ 63 = 0 from rfl, Nat.zero_testBit]
    · rw [show true.toNat * 2 ^ 63 = 2 ^ 63 from rfl, Nat.testBit_two_pow, decide_eq_false c]
