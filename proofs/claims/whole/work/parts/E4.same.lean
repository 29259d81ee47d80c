/-! DOUBLES: the remembering number rounds as the ratio does -/
theorem lead_uniq {num den a : Nat} (hn : 0 < num) (hd : 0 < den) (h1 : den * 2 ^ a ≤ num) (h2 : num < den * 2 ^ (a + 1)) : Jvm.FP.Core.leading num den = a := by
  obtain ⟨p1, p2⟩ := lead_ok hn hd
  generalize Jvm.FP.Core.leading num den = L at p1 p2
  rcases Int.lt_trichotomy L a with c | c | c
  · have h3 : (L + 1).toNat ≤ a := by omega
    have h4 := Nat.mul_le_mul_left den (Nat.pow_le_pow_right (n := 2) (by decide) h3)
    have h5 : num * 1 ≤ num * 2 ^ (-(L + 1)).toNat := Nat.mul_le_mul_left num (Nat.two_pow_pos _)
    omega
  · exact c
  · have h3 : a + 1 ≤ L.toNat := by omega
    have h4 := Nat.mul_le_mul_left den (Nat.pow_le_pow_right (n := 2) (by decide) h3)
    rw [show (-L).toNat = 0 by omega, Nat.pow_zero, Nat.mul_one] at p1
    omega
theorem lead_pos {num den : Nat} (hd : 0 < den) (h : den ≤ num) : ∃ a : Nat, Jvm.FP.Core.leading num den = a ∧ den * 2 ^ a ≤ num ∧ num < den * 2 ^ (a + 1) := by
  have hn : 0 < num := by omega
  have hq : 0 < num / den := Nat.div_pos h hd
  have q1 : 2 ^ (num / den).log2 ≤ num / den := Nat.log2_self_le (by omega)
  have q2 : num / den < 2 ^ ((num / den).log2 + 1) := Nat.lt_log2_self
  have h1 : den * 2 ^ (num / den).log2 ≤ num := by
    rw [Nat.mul_comm]
    exact (Nat.le_div_iff_mul_le hd).mp q1
  have h2 : num < den * 2 ^ ((num / den).log2 + 1) := by
    rw [Nat.mul_comm]
    exact (Nat.div_lt_iff_lt_mul hd).mp q2
  exact ⟨_, lead_uniq hn hd h1 h2, h1, h2⟩
theorem lead_stk {n d : Nat} (hd : 0 < d) (h : d ≤ n) : Jvm.FP.Core.leading (stk n d) 1 = Jvm.FP.Core.leading n d := by
  obtain ⟨a, e, h1, h2⟩ := lead_pos hd h
  have q1 : 2 ^ a ≤ n / d := (Nat.le_div_iff_mul_le hd).mpr (by rw [Nat.mul_comm]; exact h1)
  have q2 : n / d < 2 ^ (a + 1) := (Nat.div_lt_iff_lt_mul hd).mpr (by rw [Nat.mul_comm]; exact h2)
  have hp : 2 ^ (a + 1) = 2 * 2 ^ a := by rw [Nat.pow_succ, Nat.mul_comm]
  have hp0 : 0 < 2 ^ a := Nat.two_pow_pos a
  rw [e]
  refine lead_uniq ?_ (by decide) ?_ ?_
  · rw [stk_eq]; split <;> omega
  · rw [stk_eq]; split <;> omega
  · rw [stk_eq]; split <;> omega
/-- so the class may round the whole part, if two digits or more fall off it -/
theorem enc_stk {s : Bool} {n d : Nat} (hd : 0 < d) (h : d ≤ n) {e : Int} (hq : e + 2 ≤ qnt n d e) : Jvm.FP.Core.encode Jvm.FP.Core.b64 (Jvm.FP.Core.roundRatio Jvm.FP.Core.b64 s (stk n d) 1 e) = Jvm.FP.Core.encode Jvm.FP.Core.b64 (Jvm.FP.Core.roundRatio Jvm.FP.Core.b64 s n d e) := by
  have hs : 0 < stk n d := by
    have : 0 < n / d := Nat.div_pos h hd
    rw [stk_eq]; split <;> omega
  have hqe : qnt (stk n d) 1 e = qnt n d e := by
    unfold qnt
    rw [lead_stk hd h]
  rw [enc_ratio hs (by decide) e, enc_ratio (by omega) hd e, hqe]
  obtain ⟨k, hk⟩ : ∃ k : Nat, (qnt n d e - e).toNat = k + 2 := ⟨(qnt n d e - e).toNat - 2, by omega⟩
  rw [show (e - qnt n d e).toNat = 0 by omega, hk, Nat.pow_zero, Nat.mul_one, Nat.mul_one, Nat.one_mul, near_stk hd]
