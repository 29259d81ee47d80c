/-! DOUBLES: a ratio and its exponent may be written otherwise -/
theorem div_lt_sc (n d k : Nat) (hd : 0 < d) (hk : 0 < k) : n * k / (d * k) = n / d ∧ n * k % (d * k) = n % d * k := by
  refine ⟨Nat.mul_div_mul_right n d hk, Nat.mul_mod_mul_right k n d⟩
theorem near_mul {n d k : Nat} (hd : 0 < d) (hk : 0 < k) : Jvm.FP.Core.nearest (n * k) (d * k) = Jvm.FP.Core.nearest n d := by
  unfold Jvm.FP.Core.nearest
  obtain ⟨e1, e2⟩ := div_lt_sc n d k hd hk
  rw [e1, e2]
  have h1 : 2 * (n % d * k) < d * k ↔ 2 * (n % d) < d := by
    rw [← Nat.mul_assoc]
    exact Nat.mul_lt_mul_right hk
  have h2 : d * k < 2 * (n % d * k) ↔ d < 2 * (n % d) := by
    rw [← Nat.mul_assoc]
    exact Nat.mul_lt_mul_right hk
  simp only [h1, h2]
theorem near_sc {n d i j i2 j2 : Nat} (hd : 0 < d) (h : i + j2 = i2 + j) : Jvm.FP.Core.nearest (n * 2 ^ i) (d * 2 ^ j) = Jvm.FP.Core.nearest (n * 2 ^ i2) (d * 2 ^ j2) := by
  have p := fun x => Nat.two_pow_pos x
  have a1 : Jvm.FP.Core.nearest (n * 2 ^ i * 2 ^ j2) (d * 2 ^ j * 2 ^ j2) = Jvm.FP.Core.nearest (n * 2 ^ i) (d * 2 ^ j) := near_mul (Nat.mul_pos hd (p _)) (p _)
  have a2 : Jvm.FP.Core.nearest (n * 2 ^ i2 * 2 ^ j) (d * 2 ^ j2 * 2 ^ j) = Jvm.FP.Core.nearest (n * 2 ^ i2) (d * 2 ^ j2) := near_mul (Nat.mul_pos hd (p _)) (p _)
  rw [← a1, ← a2, Nat.mul_assoc, Nat.mul_assoc, Nat.mul_assoc, Nat.mul_assoc, ← Nat.pow_add, ← Nat.pow_add, ← Nat.pow_add, ← Nat.pow_add, h, Nat.add_comm j2 j]
theorem sc_iff {m n : Nat} {x : Int} (p : Nat) (hp : 0 ≤ (p : Int) + x) : n * 2 ^ x.toNat ≤ m * 2 ^ (-x).toNat ↔ n * 2 ^ ((p : Int) + x).toNat ≤ m * 2 ^ p := by
  constructor
  · exact fun h => sc_le h p hp
  · intro h
    by_cases c : n * 2 ^ x.toNat ≤ m * 2 ^ (-x).toNat
    · exact c
    · have := sc_lt (Nat.lt_of_not_le c) p hp
      omega
theorem log_sh {n : Nat} (hn : 0 < n) (a : Nat) : (n * 2 ^ a).log2 = n.log2 + a := by
  have h1 := Nat.log2_self_le (show n ≠ 0 by omega)
  have h2 := @Nat.lt_log2_self n
  have hp : 0 < 2 ^ a := Nat.two_pow_pos a
  refine (Nat.log2_eq_iff (Nat.ne_of_gt (Nat.mul_pos hn hp))).mpr ⟨?_, ?_⟩
  · rw [Nat.pow_add]
    exact Nat.mul_le_mul_right _ h1
  · rw [show n.log2 + a + 1 = n.log2 + 1 + a by omega, Nat.pow_add]
    exact Nat.mul_lt_mul_of_pos_right h2 hp
theorem lead_sh {n d : Nat} (hn : 0 < n) (hd : 0 < d) (a b : Nat) : Jvm.FP.Core.leading (n * 2 ^ a) (d * 2 ^ b) = Jvm.FP.Core.leading n d + a - b := by
  unfold Jvm.FP.Core.leading
  rw [log_sh hn, log_sh hd]
  dsimp only
  obtain ⟨k, hk⟩ : ∃ k : Int, k = (n.log2 : Int) - (d.log2 : Int) := ⟨_, rfl⟩
  have hk2 : ((n.log2 + a : Nat) : Int) - ((d.log2 + b : Nat) : Int) = k + a - b := by omega
  rw [hk2, ← hk]
  obtain ⟨p, hp⟩ : ∃ p : Nat, p = a + b + k.natAbs := ⟨_, rfl⟩
  have i1 := @sc_iff n d k (p + a) (by omega)
  have i2 := @sc_iff (n * 2 ^ a) (d * 2 ^ b) (k + a - b) p (by omega)
  have e1 : d * 2 ^ b * 2 ^ ((p : Int) + (k + a - b)).toNat = d * 2 ^ (((p + a : Nat) : Int) + k).toNat := by
    rw [Nat.mul_assoc, ← Nat.pow_add, show b + ((p : Int) + (k + a - b)).toNat = (((p + a : Nat) : Int) + k).toNat by omega]
  have e2 : n * 2 ^ a * 2 ^ p = n * 2 ^ (p + a) := by
    rw [Nat.mul_assoc, ← Nat.pow_add, Nat.add_comm a p]
  rw [e1, e2] at i2
  by_cases c : d * 2 ^ k.toNat ≤ n * 2 ^ (-k).toNat
  · rw [if_pos c, if_pos (i2.mpr (i1.mp c))]
  · rw [if_neg c, if_neg (fun h => c (i1.mpr (i2.mp h)))]
    omega
theorem enc_shift {s : Bool} {n d : Nat} (hn : 0 < n) (hd : 0 < d) (a b : Nat) {e e' : Int} (h : e' = e - a + b) : Jvm.FP.Core.encode Jvm.FP.Core.b64 (Jvm.FP.Core.roundRatio Jvm.FP.Core.b64 s (n * 2 ^ a) (d * 2 ^ b) e') = Jvm.FP.Core.encode Jvm.FP.Core.b64 (Jvm.FP.Core.roundRatio Jvm.FP.Core.b64 s n d e) := by
  have hp := fun x => Nat.two_pow_pos x
  have hq : qnt (n * 2 ^ a) (d * 2 ^ b) e' = qnt n d e := by
    unfold qnt
    rw [lead_sh hn hd, h]
    congr 1
    omega
  rw [enc_ratio (Nat.mul_pos hn (hp a)) (Nat.mul_pos hd (hp b)), enc_ratio hn hd, hq]
  obtain ⟨q, hq2⟩ : ∃ q, q = qnt n d e := ⟨_, rfl⟩
  rw [← hq2, Nat.mul_assoc, Nat.mul_assoc, ← Nat.pow_add, ← Nat.pow_add, near_sc (i2 := (e - q).toNat) (j2 := (q - e).toNat) hd (by omega)]
/-- a number that fits stays -/
theorem enc_exact {s : Bool} {c : Nat} {q : Int} (hc0 : 0 < c) (hq : -1074 ≤ q) (hc : c < 2 ^ 53) (hn : q = -1074 ∨ 2 ^ 52 ≤ c) : Jvm.FP.Core.encode Jvm.FP.Core.b64 (Jvm.FP.Core.roundRatio Jvm.FP.Core.b64 s c 1 q) = s.toNat * 2 ^ 63 + min INF ((q + 1074).toNat * 2 ^ 52 + c) := by
  have h1 : qnt c 1 q = q := by
    unfold qnt
    obtain ⟨a, e, l1, l2⟩ := lead_pos (num := c) (den := 1) (by decide) hc0
    rw [e]
    have ha : a < 53 := by
      by_cases g : a < 53
      · exact g
      · have := Nat.pow_le_pow_right (n := 2) (by decide) (show 53 ≤ a by omega)
        omega
    rcases hn with h | h
    · rw [h]
      omega
    · have ha2 : 52 ≤ a := by
        by_cases g : 52 ≤ a
        · exact g
        · have := Nat.pow_le_pow_right (n := 2) (by decide) (show a + 1 ≤ 52 by omega)
          omega
      omega
  rw [enc_ratio hc0 (by decide), h1, show (q - q).toNat = 0 by omega, Nat.pow_zero, Nat.mul_one, Nat.mul_one]
  congr 3
  unfold Jvm.FP.Core.nearest
  rw [Nat.mod_one, Nat.div_one]
  rfl
