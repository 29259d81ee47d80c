/-! DOUBLES: the leading digit -/
theorem lead_aux {num den a b : Nat} (n1 : 2 ^ a ≤ num) (n2 : num < 2 ^ (a + 1)) (d1 : 2 ^ b ≤ den) (d2 : den < 2 ^ (b + 1)) (k : Int) (hk : k = (a : Int) - b) : num * 2 ^ (-(k + 1)).toNat < den * 2 ^ (k + 1).toNat ∧ den * 2 ^ (k - 1).toNat ≤ num * 2 ^ (-(k - 1)).toNat := by
  constructor
  · by_cases c : b ≤ a
    · rw [show (-(k + 1)).toNat = 0 by omega, show (k + 1).toNat = a + 1 - b by omega, Nat.pow_zero, Nat.mul_one]
      have e : 2 ^ b * 2 ^ (a + 1 - b) = 2 ^ (a + 1) := by rw [← Nat.pow_add, show b + (a + 1 - b) = a + 1 by omega]
      have := Nat.mul_le_mul_right (2 ^ (a + 1 - b)) d1
      omega
    · rw [show (-(k + 1)).toNat = b - a - 1 by omega, show (k + 1).toNat = 0 by omega, Nat.pow_zero, Nat.mul_one]
      have e : 2 ^ (a + 1) * 2 ^ (b - a - 1) = 2 ^ b := by rw [← Nat.pow_add, show a + 1 + (b - a - 1) = b by omega]
      have := Nat.mul_lt_mul_of_pos_right n2 (Nat.two_pow_pos (b - a - 1))
      omega
  · by_cases c : b < a
    · rw [show (-(k - 1)).toNat = 0 by omega, show (k - 1).toNat = a - b - 1 by omega, Nat.pow_zero, Nat.mul_one]
      have e : 2 ^ (b + 1) * 2 ^ (a - b - 1) = 2 ^ a := by rw [← Nat.pow_add, show b + 1 + (a - b - 1) = a by omega]
      have := Nat.mul_lt_mul_of_pos_right d2 (Nat.two_pow_pos (a - b - 1))
      omega
    · rw [show (-(k - 1)).toNat = b - a + 1 by omega, show (k - 1).toNat = 0 by omega, Nat.pow_zero, Nat.mul_one]
      have e : 2 ^ a * 2 ^ (b - a + 1) = 2 ^ (b + 1) := by rw [← Nat.pow_add, show a + (b - a + 1) = b + 1 by omega]
      have := Nat.mul_le_mul_right (2 ^ (b - a + 1)) n1
      omega
theorem lead_ok {num den : Nat} (hn : 0 < num) (hd : 0 < den) : den * 2 ^ (Jvm.FP.Core.leading num den).toNat ≤ num * 2 ^ (-(Jvm.FP.Core.leading num den)).toNat ∧ num * 2 ^ (-(Jvm.FP.Core.leading num den + 1)).toNat < den * 2 ^ (Jvm.FP.Core.leading num den + 1).toNat := by
  have n1 : 2 ^ num.log2 ≤ num := Nat.log2_self_le (by omega)
  have n2 : num < 2 ^ (num.log2 + 1) := Nat.lt_log2_self
  have d1 : 2 ^ den.log2 ≤ den := Nat.log2_self_le (by omega)
  have d2 : den < 2 ^ (den.log2 + 1) := Nat.lt_log2_self
  obtain ⟨k, hk⟩ : ∃ k : Int, k = (num.log2 : Int) - (den.log2 : Int) := ⟨_, rfl⟩
  obtain ⟨p1, p2⟩ := lead_aux n1 n2 d1 d2 k hk
  unfold Jvm.FP.Core.leading
  dsimp only
  rw [← hk]
  by_cases c : den * 2 ^ k.toNat ≤ num * 2 ^ (-k).toNat
  · rw [if_pos c]
    exact ⟨c, p1⟩
  · rw [if_neg c]
    refine ⟨p2, ?_⟩
    rw [show k - 1 + 1 = k by omega]
    omega
