/-! DOUBLES: the bits of a rounded number -/
theorem fp_tails : Jvm.FP.Core.Fmt.tails Jvm.FP.Core.b64 = 2 ^ 52 := by decide
theorem fp_exps : Jvm.FP.Core.Fmt.exps Jvm.FP.Core.b64 = 2048 := by decide
theorem fp_qmin : Jvm.FP.Core.Fmt.qmin Jvm.FP.Core.b64 = -1074 := by decide
theorem fp_qmax : Jvm.FP.Core.Fmt.qmax Jvm.FP.Core.b64 = 971 := by decide
theorem enc_fin {s : Bool} {c : Nat} {q : Int} (hq : -1074 ≤ q) (hc : c < 2 ^ 53) (hn : q = -1074 ∨ 2 ^ 52 ≤ c) : Jvm.FP.Core.encode Jvm.FP.Core.b64 (.fin s c q) = s.toNat * 2 ^ 63 + ((q + 1074).toNat * 2 ^ 52 + c) := by
  unfold Jvm.FP.Core.encode Jvm.FP.Core.assemble
  dsimp only
  rw [fp_tails, fp_exps, fp_qmin]
  by_cases h : c < 2 ^ 52
  · rw [if_pos h]
    have : (q + 1074).toNat = 0 := by omega
    rw [this]
    omega
  · rw [if_neg h]
    have : (q - -1074).toNat = (q + 1074).toNat := by omega
    rw [this]
    omega
theorem enc_inf {s : Bool} : Jvm.FP.Core.encode Jvm.FP.Core.b64 (.inf s) = s.toNat * 2 ^ 63 + INF := by
  cases s <;> decide
theorem enc_settle {s : Bool} {c : Nat} {q : Int} (hq : -1074 ≤ q) (hc : c ≤ 2 ^ 53) (hn : q = -1074 ∨ 2 ^ 52 ≤ c) : Jvm.FP.Core.encode Jvm.FP.Core.b64 (Jvm.FP.Core.settle Jvm.FP.Core.b64 s c q) = s.toNat * 2 ^ 63 + min INF ((q + 1074).toNat * 2 ^ 52 + c) := by
  have h2 : INF = 2047 * 2 ^ 52 := rfl
  unfold Jvm.FP.Core.settle Jvm.FP.Core.bound
  rw [fp_tails, fp_qmax]
  by_cases h : c < 2 ^ 53
  · rw [if_pos (show c < 2 ^ Jvm.FP.Core.b64.p from h)]
    by_cases h3 : q ≤ 971
    · rw [if_pos h3, enc_fin hq h hn, Nat.min_eq_right (by omega)]
    · rw [if_neg h3, enc_inf, Nat.min_eq_left (by omega)]
  · rw [if_neg (show ¬ c < 2 ^ Jvm.FP.Core.b64.p from h)]
    by_cases h3 : q + 1 ≤ 971
    · rw [if_pos h3, enc_fin (by omega) (by decide) (Or.inr (Nat.le_refl _)), Nat.min_eq_right (by omega)]
      omega
    · rw [if_neg h3, enc_inf, Nat.min_eq_left (by omega)]
