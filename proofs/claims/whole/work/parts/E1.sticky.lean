/-! DOUBLES: the nearest whole number, and the bit that remembers -/
theorem near_le {n d m : Nat} (hd : 0 < d) (h : n ≤ m * d) : Jvm.FP.Core.nearest n d ≤ m := by
  unfold Jvm.FP.Core.nearest
  have h1 : n / d ≤ m := Nat.div_le_of_le_mul (by rw [Nat.mul_comm]; exact h)
  have h2 := Nat.div_add_mod n d
  by_cases c : n / d = m
  · have h3 : n % d = 0 := by
      rw [c, Nat.mul_comm] at h2
      omega
    rw [h3, if_pos (by omega)]
    exact h1
  · split
    · exact h1
    · split
      · omega
      · have : n / d % 2 < 2 := Nat.mod_lt _ (by decide)
        omega
theorem near_ge {n d k : Nat} (hd : 0 < d) (h : k * d ≤ n) : k ≤ Jvm.FP.Core.nearest n d := by
  have h1 : k ≤ n / d := (Nat.le_div_iff_mul_le hd).mpr h
  unfold Jvm.FP.Core.nearest
  split
  · exact h1
  · split
    · omega
    · omega
/-- the whole part, its lowest bit remembering what fell out -/
def stk (n d : Nat) : Nat := n / d ||| (if n % d = 0 then 0 else 1)
theorem or_one (y : Nat) : y ||| 1 = y / 2 * 2 + 1 := by
  refine Nat.eq_of_testBit_eq (fun i => ?_)
  rw [Nat.testBit_or]
  cases i with
  | zero =>
    rw [Nat.testBit_zero, Nat.testBit_zero, Nat.testBit_zero]
    have : (y / 2 * 2 + 1) % 2 = 1 := by omega
    rw [this]
    simp
  | succ i =>
    rw [Nat.testBit_succ, Nat.testBit_succ, Nat.testBit_succ]
    have : (y / 2 * 2 + 1) / 2 = y / 2 := by omega
    rw [this, show 1 / 2 = 0 from rfl, Nat.zero_testBit, Bool.or_false]
theorem stk_eq (n d : Nat) : stk n d = if n % d = 0 then n / d else n / d / 2 * 2 + 1 := by
  unfold stk
  split
  · rw [Nat.or_zero]
  · exact or_one _
/-- rounding forgets nothing that the lowest bit remembers -/
theorem near_stk {n d k : Nat} (hd : 0 < d) : Jvm.FP.Core.nearest (stk n d) (2 ^ (k + 2)) = Jvm.FP.Core.nearest n (d * 2 ^ (k + 2)) := by
  have hp : 2 ^ (k + 2) = 4 * 2 ^ k := by rw [Nat.pow_add, Nat.mul_comm]
  obtain ⟨P, hP⟩ : ∃ P, P = 2 ^ k := ⟨_, rfl⟩
  have hP0 : 0 < P := by rw [hP]; exact Nat.two_pow_pos k
  rw [hp, ← hP]
  obtain ⟨Y, hY⟩ : ∃ Y, Y = n / d := ⟨_, rfl⟩
  obtain ⟨r, hr⟩ : ∃ r, r = n % d := ⟨_, rfl⟩
  have hrd : r < d := by rw [hr]; exact Nat.mod_lt _ hd
  have hn : n = d * Y + r := by rw [hY, hr]; exact (Nat.div_add_mod n d).symm
  obtain ⟨A, hA⟩ : ∃ A, A = Y / (4 * P) := ⟨_, rfl⟩
  obtain ⟨y, hy⟩ : ∃ y, y = Y % (4 * P) := ⟨_, rfl⟩
  have hy4 : y < 4 * P := by rw [hy]; exact Nat.mod_lt _ (by omega)
  have hYA : Y = 4 * P * A + y := by rw [hA, hy]; exact (Nat.div_add_mod Y (4 * P)).symm
  -- the exact number's whole part and rest
  have hn2 : n = d * (4 * P) * A + (d * y + r) := by
    rw [hn, hYA, Nat.mul_add, ← Nat.mul_assoc d (4 * P) A, Nat.add_assoc]
  have hlt : d * y + r < d * (4 * P) := by
    have : d * y + d ≤ d * (4 * P) := by
      rw [← Nat.mul_succ]
      exact Nat.mul_le_mul_left d hy4
    omega
  have hdP : 0 < d * (4 * P) := Nat.mul_pos hd (by omega)
  have q1 : n / (d * (4 * P)) = A := by
    rw [hn2, Nat.mul_add_div hdP, Nat.div_eq_of_lt hlt, Nat.add_zero]
  have m1 : n % (d * (4 * P)) = d * y + r := by
    rw [hn2, Nat.mul_add_mod, Nat.mod_eq_of_lt hlt]
  -- the remembered one's
  obtain ⟨y', hy'⟩ : ∃ y', y' = if r = 0 then y else y / 2 * 2 + 1 := ⟨_, rfl⟩
  have hy'4 : y' < 4 * P := by
    rw [hy']
    split
    · exact hy4
    · omega
  have hst : stk n d = 4 * P * A + y' := by
    rw [stk_eq, ← hY, ← hr, hy', hYA]
    split
    · rfl
    · have e : 4 * P * A = 2 * (2 * P * A) := by
        rw [← Nat.mul_assoc, ← Nat.mul_assoc]
      rw [e]
      omega
  have q2 : stk n d / (4 * P) = A := by
    rw [hst, Nat.mul_add_div (by omega), Nat.div_eq_of_lt hy'4, Nat.add_zero]
  have m2 : stk n d % (4 * P) = y' := by
    rw [hst, Nat.mul_add_mod, Nat.mod_eq_of_lt hy'4]
  unfold Jvm.FP.Core.nearest
  rw [q1, m1, q2, m2]
  -- below, at and above the middle
  have eh : d * (4 * P) = 2 * (d * (2 * P)) := by
    rw [show 4 * P = 2 * (2 * P) by omega, ← Nat.mul_assoc, Nat.mul_comm d 2, Nat.mul_assoc]
  rw [eh]
  rcases Nat.lt_trichotomy y (2 * P) with c | c | c
  · have b1 : d * y + d ≤ d * (2 * P) := by
      rw [← Nat.mul_succ]
      exact Nat.mul_le_mul_left d c
    have b2 : y' < 2 * P := by
      rw [hy']
      split <;> omega
    rw [if_pos (show 2 * y' < 4 * P by omega), if_pos (show 2 * (d * y + r) < 2 * (d * (2 * P)) by omega)]
  · rw [c]
    by_cases r0 : r = 0
    · have b2 : y' = 2 * P := by rw [hy', if_pos r0, c]
      rw [b2, r0, if_neg (show ¬ 2 * (2 * P) < 4 * P by omega), if_neg (show ¬ 4 * P < 2 * (2 * P) by omega), if_neg (show ¬ 2 * (d * (2 * P) + 0) < 2 * (d * (2 * P)) by omega), if_neg (show ¬ 2 * (d * (2 * P)) < 2 * (d * (2 * P) + 0) by omega)]
    · have b2 : y' = 2 * P + 1 := by rw [hy', if_neg r0, c]; omega
      rw [b2, if_neg (show ¬ 2 * (2 * P + 1) < 4 * P by omega), if_pos (show 4 * P < 2 * (2 * P + 1) by omega), if_neg (show ¬ 2 * (d * (2 * P) + r) < 2 * (d * (2 * P)) by omega), if_pos (show 2 * (d * (2 * P)) < 2 * (d * (2 * P) + r) by omega)]
  · have b1 : d * (2 * P) + d ≤ d * y := by
      rw [← Nat.mul_succ]
      exact Nat.mul_le_mul_left d c
    have b2 : 2 * P < y' := by
      rw [hy']
      split <;> omega
    rw [if_neg (show ¬ 2 * y' < 4 * P by omega), if_pos (show 4 * P < 2 * y' by omega), if_neg (show ¬ 2 * (d * y + r) < 2 * (d * (2 * P)) by omega), if_pos (show 2 * (d * (2 * P)) < 2 * (d * y + r) by omega)]
