/-! DOUBLES: the bits of a rounded ratio -/
theorem sc_lt {m n : Nat} {x : Int} (h : m * 2 ^ (-x).toNat < n * 2 ^ x.toNat) (p : Nat) (hp : 0 ≤ (p : Int) + x) : m * 2 ^ p < n * 2 ^ ((p : Int) + x).toNat := by
  obtain ⟨j, hj⟩ : ∃ j, p = (-x).toNat + j := ⟨p - (-x).toNat, by omega⟩
  have e : ((p : Int) + x).toNat = x.toNat + j := by omega
  rw [e, hj, Nat.pow_add, Nat.pow_add, ← Nat.mul_assoc, ← Nat.mul_assoc]
  exact Nat.mul_lt_mul_of_pos_right h (Nat.two_pow_pos j)
theorem sc_le {m n : Nat} {x : Int} (h : n * 2 ^ x.toNat ≤ m * 2 ^ (-x).toNat) (p : Nat) (hp : 0 ≤ (p : Int) + x) : n * 2 ^ ((p : Int) + x).toNat ≤ m * 2 ^ p := by
  obtain ⟨j, hj⟩ : ∃ j, p = (-x).toNat + j := ⟨p - (-x).toNat, by omega⟩
  have e : ((p : Int) + x).toNat = x.toNat + j := by omega
  rw [e, hj, Nat.pow_add, Nat.pow_add, ← Nat.mul_assoc, ← Nat.mul_assoc]
  exact Nat.mul_le_mul_right _ h
/-- the last digit's exponent -/
def qnt (num den : Nat) (e : Int) : Int := max (-1074) (Jvm.FP.Core.leading num den + e - 52)
theorem ratio_hi {num den : Nat} (hn : 0 < num) (hd : 0 < den) {e q : Int} (hq : Jvm.FP.Core.leading num den + e - 52 ≤ q) : num * 2 ^ (e - q).toNat ≤ 2 ^ 53 * (den * 2 ^ (q - e).toNat) := by
  obtain ⟨-, h⟩ := lead_ok hn hd
  generalize Jvm.FP.Core.leading num den = a at h hq
  obtain ⟨j, hj⟩ : ∃ j : Nat, j = (-(a + 1)).toNat := ⟨_, rfl⟩
  have h1 := sc_lt h ((e - q).toNat + j) (by omega)
  have h2 : ((((e - q).toNat + j : Nat) : Int) + (a + 1)).toNat ≤ 53 + (q - e).toNat + j := by omega
  have h3 := Nat.mul_le_mul_left den (Nat.pow_le_pow_right (n := 2) (by decide) h2)
  have h4 : num * 2 ^ (e - q).toNat * 2 ^ j ≤ 2 ^ 53 * (den * 2 ^ (q - e).toNat) * 2 ^ j := by
    have e1 : num * 2 ^ ((e - q).toNat + j) = num * 2 ^ (e - q).toNat * 2 ^ j := by rw [Nat.pow_add, ← Nat.mul_assoc]
    have e2 : den * 2 ^ (53 + (q - e).toNat + j) = 2 ^ 53 * (den * 2 ^ (q - e).toNat) * 2 ^ j := by
      rw [Nat.pow_add, Nat.pow_add, ← Nat.mul_assoc, ← Nat.mul_assoc, Nat.mul_comm den (2 ^ 53), Nat.mul_assoc (2 ^ 53)]
    omega
  exact Nat.le_of_mul_le_mul_right h4 (Nat.two_pow_pos j)
theorem ratio_lo {num den : Nat} (hn : 0 < num) (hd : 0 < den) {e q : Int} (hq : q ≤ Jvm.FP.Core.leading num den + e - 52) : 2 ^ 52 * (den * 2 ^ (q - e).toNat) ≤ num * 2 ^ (e - q).toNat := by
  obtain ⟨h, -⟩ := lead_ok hn hd
  generalize Jvm.FP.Core.leading num den = a at h hq
  obtain ⟨j, hj⟩ : ∃ j : Nat, j = (-a).toNat := ⟨_, rfl⟩
  have h1 := sc_le h ((e - q).toNat + j) (by omega)
  have h2 : 52 + (q - e).toNat + j ≤ ((((e - q).toNat + j : Nat) : Int) + a).toNat := by omega
  have h3 := Nat.mul_le_mul_left den (Nat.pow_le_pow_right (n := 2) (by decide) h2)
  have h4 : 2 ^ 52 * (den * 2 ^ (q - e).toNat) * 2 ^ j ≤ num * 2 ^ (e - q).toNat * 2 ^ j := by
    have e1 : num * 2 ^ ((e - q).toNat + j) = num * 2 ^ (e - q).toNat * 2 ^ j := by rw [Nat.pow_add, ← Nat.mul_assoc]
    have e2 : den * 2 ^ (52 + (q - e).toNat + j) = 2 ^ 52 * (den * 2 ^ (q - e).toNat) * 2 ^ j := by
      rw [Nat.pow_add, Nat.pow_add, ← Nat.mul_assoc, ← Nat.mul_assoc, Nat.mul_comm den (2 ^ 52), Nat.mul_assoc (2 ^ 52)]
    omega
  exact Nat.le_of_mul_le_mul_right h4 (Nat.two_pow_pos j)
theorem enc_ratio {s : Bool} {num den : Nat} (hn : 0 < num) (hd : 0 < den) (e : Int) : Jvm.FP.Core.encode Jvm.FP.Core.b64 (Jvm.FP.Core.roundRatio Jvm.FP.Core.b64 s num den e) = s.toNat * 2 ^ 63 + min INF ((qnt num den e + 1074).toNat * 2 ^ 52 + Jvm.FP.Core.nearest (num * 2 ^ (e - qnt num den e).toNat) (den * 2 ^ (qnt num den e - e).toNat)) := by
  have hq : Jvm.FP.Core.quantum Jvm.FP.Core.b64 num den e = qnt num den e := by
    unfold Jvm.FP.Core.quantum qnt
    rw [fp_qmin]
    rfl
  unfold Jvm.FP.Core.roundRatio Jvm.FP.Core.roundAt
  rw [if_neg (by omega), hq]
  unfold Jvm.FP.Core.unitsNum Jvm.FP.Core.unitsDen
  have hden : 0 < den * 2 ^ (qnt num den e - e).toNat := Nat.mul_pos hd (Nat.two_pow_pos _)
  refine enc_settle (Int.le_max_left _ _) (near_le hden (ratio_hi hn hd (Int.le_max_right _ _))) ?_
  by_cases c : Jvm.FP.Core.leading num den + e - 52 ≤ -1074
  · exact Or.inl (Int.max_eq_left c)
  · exact Or.inr (near_ge hden (ratio_lo hn hd (by
      have : qnt num den e = Jvm.FP.Core.leading num den + e - 52 := Int.max_eq_right (by omega)
      rw [this]
      exact Int.le_refl _)))
