/-! DOUBLES: a sum of aligned numbers rounds as the exact sum -/
theorem stk_of {N Q P r : Nat} (h : N = Q * P + r) (hr : r < P) : stk N P = if r = 0 then Q else Q / 2 * 2 + 1 := by
  have h1 : N / P = Q := by
    rw [h, Nat.add_comm, Nat.add_mul_div_right _ _ (by omega), Nat.div_eq_of_lt hr, Nat.zero_add]
  have h2 : N % P = r := by
    rw [h, Nat.add_comm, Nat.add_mul_mod_self_right, Nat.mod_eq_of_lt hr]
  rw [stk_eq, h1, h2]
theorem sgn_mul (s : Bool) (c k : Nat) : Jvm.FP.Core.signed s (c * k) = Jvm.FP.Core.signed s c * k := by
  unfold Jvm.FP.Core.signed
  cases s
  · rfl
  · show -((c * k : Nat) : Int) = -(c : Int) * k
    rw [Int.natCast_mul, Int.neg_mul]
/-- what aligned numbers have of the exact sum -/
def AddOK (S V : Int) (D : Nat) : Prop := (S = 0 ↔ V = 0) ∧ (S < 0 ↔ V < 0) ∧ S.natAbs < 2 ^ 63 ∧ (V ≠ 0 → ∀ (g : Bool) (E : Int), Jvm.FP.Core.encode Jvm.FP.Core.b64 (Jvm.FP.Core.roundRatio Jvm.FP.Core.b64 g S.natAbs 1 E) = Jvm.FP.Core.encode Jvm.FP.Core.b64 (Jvm.FP.Core.roundRatio Jvm.FP.Core.b64 g V.natAbs 1 (E + 9 - D)))
theorem add_big {S V : Int} {v D : Nat} (hS : S.natAbs = stk (v * 2 ^ 9) (2 ^ D)) (hV : V.natAbs = v) (h0 : S < 0 ↔ V < 0) (h1 : 2 ^ 51 * 2 ^ D ≤ v) (h2 : S.natAbs < 2 ^ 63) (h3 : S ≠ 0) : AddOK S V D := by
  have hp : 0 < 2 ^ D := Nat.two_pow_pos D
  have hv : 0 < v := by omega
  refine ⟨⟨fun h => absurd h h3, fun h => by omega⟩, h0, h2, fun _ g E => ?_⟩
  rw [hS, hV]
  have hl : Jvm.FP.Core.leading (v * 2 ^ 9) (2 ^ D) ≥ 60 := by
    obtain ⟨l, e, l1, l2⟩ := lead_pos (num := v * 2 ^ 9) (den := 2 ^ D) hp (by omega)
    rw [e]
    by_cases c : 60 ≤ l
    · omega
    · have h5 := Nat.pow_le_pow_right (n := 2) (by decide) (show l + 1 ≤ 60 by omega)
      have h6 := Nat.mul_le_mul_left (2 ^ D) h5
      omega
  rw [enc_stk hp (by omega) (by unfold qnt; omega)]
  have := enc_shift (s := g) (n := v) (d := 1) hv (by decide) 9 D (e := E + 9 - D) (e' := E) (by omega)
  rw [Nat.one_mul] at this
  exact this
theorem add_one {s t : Bool} {c1 c2 D : Nat} (h1 : c1 < 2 ^ 53) (h2 : c2 < 2 ^ 53) (hD : D ≤ 9 ∨ 2 ^ 52 ≤ c2) : AddOK (Jvm.FP.Core.signed s (stk (c1 * 2 ^ 9) (2 ^ D)) + Jvm.FP.Core.signed t (c2 * 2 ^ 9)) (Jvm.FP.Core.signed s c1 + Jvm.FP.Core.signed t (c2 * 2 ^ D)) D := by
  by_cases c : D ≤ 9
  · obtain ⟨k, hk⟩ : ∃ k, 9 = D + k := ⟨9 - D, by omega⟩
    have e1 : stk (c1 * 2 ^ 9) (2 ^ D) = c1 * 2 ^ k := by
      rw [stk_of (Q := c1 * 2 ^ k) (r := 0) (by rw [hk, Nat.pow_add, Nat.mul_assoc, Nat.mul_comm (2 ^ D), Nat.add_zero]) (Nat.two_pow_pos D), if_pos rfl]
    have e2 : c2 * 2 ^ 9 = c2 * 2 ^ D * 2 ^ k := by
      rw [hk, Nat.pow_add, Nat.mul_assoc]
    obtain ⟨V, hV⟩ : ∃ V, V = Jvm.FP.Core.signed s c1 + Jvm.FP.Core.signed t (c2 * 2 ^ D) := ⟨_, rfl⟩
    have hS : Jvm.FP.Core.signed s (stk (c1 * 2 ^ 9) (2 ^ D)) + Jvm.FP.Core.signed t (c2 * 2 ^ 9) = V * ((2 ^ k : Nat) : Int) := by
      rw [e1, e2, sgn_mul, sgn_mul t (c2 * 2 ^ D), ← Int.add_mul, hV]
    have hb : (Jvm.FP.Core.signed s (stk (c1 * 2 ^ 9) (2 ^ D)) + Jvm.FP.Core.signed t (c2 * 2 ^ 9)).natAbs < 2 ^ 63 := by
      have : c1 * 2 ^ k ≤ c1 * 2 ^ 9 := Nat.mul_le_mul_left _ (Nat.pow_le_pow_right (by decide) (by omega))
      rw [e1]
      unfold Jvm.FP.Core.signed
      cases s <;> cases t <;> simp only [if_true, Bool.false_eq_true, if_false] <;> omega
    have hp : 0 < ((2 ^ k : Nat) : Int) := by
      have := Nat.two_pow_pos k
      omega
    refine ⟨?_, ?_, hb, ?_⟩
    · rw [hS, ← hV]
      constructor
      · intro h
        rcases Int.mul_eq_zero.mp h with h | h
        · exact h
        · omega
      · intro h
        rw [h, Int.zero_mul]
    · rw [hS, ← hV]
      constructor
      · intro h
        by_cases g : V < 0
        · exact g
        · have := Int.mul_nonneg (show 0 ≤ V by omega) (Int.le_of_lt hp)
          omega
      · intro h
        exact Int.mul_neg_of_neg_of_pos h hp
    · intro hn g E
      rw [hS, ← hV, Int.natAbs_mul, Int.natAbs_natCast]
      have := enc_shift (s := g) (n := V.natAbs) (d := 1) (by omega) (by decide) k 0 (e := E + 9 - D) (e' := E) (by omega)
      rw [Nat.pow_zero, Nat.mul_one] at this
      exact this
  · have hc2 : 2 ^ 52 ≤ c2 := hD.resolve_left c
    obtain ⟨P, hP⟩ : ∃ P, P = 2 ^ D := ⟨_, rfl⟩
    have hP10 : 2 ^ 10 ≤ P := hP ▸ Nat.pow_le_pow_right (by decide) (by omega)
    have hq := Nat.div_add_mod (c1 * 2 ^ 9) P
    have hr : c1 * 2 ^ 9 % P < P := Nat.mod_lt _ (by omega)
    have hql : c1 * 2 ^ 9 / P < 2 ^ 52 := (Nat.div_lt_iff_lt_mul (by omega)).mpr (by omega)
    rw [← hP]
    have hA : stk (c1 * 2 ^ 9) P = if c1 * 2 ^ 9 % P = 0 then c1 * 2 ^ 9 / P else c1 * 2 ^ 9 / P / 2 * 2 + 1 := stk_eq _ _
    rw [hA]
    generalize c1 * 2 ^ 9 / P = q at *
    generalize c1 * 2 ^ 9 % P = r at *
    have hW : 2 ^ 52 * P ≤ c2 * P := Nat.mul_le_mul_right P hc2
    obtain ⟨W, hWe⟩ : ∃ W, W = c2 * P := ⟨_, rfl⟩
    have hB : c2 * 2 ^ 9 * P = W * 2 ^ 9 := by rw [hWe, Nat.mul_right_comm]
    rw [← hWe] at hW ⊢
    obtain ⟨A, hAe⟩ : ∃ A, A = if r = 0 then q else q / 2 * 2 + 1 := ⟨_, rfl⟩
    have hAl : A ≤ 2 ^ 52 := by
      rw [hAe]; split <;> omega
    rw [← hAe]
    by_cases st : s = t
    · subst st
      refine add_big (v := c1 + W) ?_ ?_ ?_ (by rw [← hP]; omega) ?_ ?_
      · rw [← hP, stk_of (N := (c1 + W) * 2 ^ 9) (Q := q + c2 * 2 ^ 9) (r := r) (by rw [Nat.add_mul, Nat.add_mul, hB, Nat.mul_comm q P]; omega) hr]
        have : (Jvm.FP.Core.signed s A + Jvm.FP.Core.signed s (c2 * 2 ^ 9)).natAbs = A + c2 * 2 ^ 9 := by
          unfold Jvm.FP.Core.signed
          cases s <;> simp only [if_true, Bool.false_eq_true, if_false] <;> omega
        rw [this, hAe]
        split <;> omega
      · unfold Jvm.FP.Core.signed
        cases s <;> simp only [if_true, Bool.false_eq_true, if_false] <;> omega
      · unfold Jvm.FP.Core.signed
        cases s <;> simp only [if_true, Bool.false_eq_true, if_false] <;> omega
      · unfold Jvm.FP.Core.signed
        cases s <;> simp only [if_true, Bool.false_eq_true, if_false] <;> omega
      · unfold Jvm.FP.Core.signed
        cases s <;> simp only [if_true, Bool.false_eq_true, if_false] <;> omega
    · refine add_big (v := W - c1) ?_ ?_ ?_ (by rw [← hP]; omega) ?_ ?_
      · have hN : (Jvm.FP.Core.signed s A + Jvm.FP.Core.signed t (c2 * 2 ^ 9)).natAbs = c2 * 2 ^ 9 - A := by
          unfold Jvm.FP.Core.signed
          cases s <;> cases t <;> simp only [if_true, Bool.false_eq_true, if_false] <;> first | exact absurd rfl st | omega
        rw [← hP, hN, hAe]
        have hsub : (W - c1) * 2 ^ 9 = W * 2 ^ 9 - c1 * 2 ^ 9 := Nat.sub_mul _ _ _
        have hqP : q * P = P * q := Nat.mul_comm _ _
        by_cases r0 : r = 0
        · rw [if_pos r0, stk_of (N := (W - c1) * 2 ^ 9) (Q := c2 * 2 ^ 9 - q) (r := 0) (by rw [hsub, Nat.sub_mul, hB]; omega) (by omega), if_pos rfl]
        · rw [if_neg r0, stk_of (N := (W - c1) * 2 ^ 9) (Q := c2 * 2 ^ 9 - q - 1) (r := P - r) (by rw [hsub, Nat.sub_mul, Nat.sub_mul, hB]; omega) (by omega), if_neg (by omega)]
          omega
      · unfold Jvm.FP.Core.signed
        cases s <;> cases t <;> simp only [if_true, Bool.false_eq_true, if_false] <;> first | exact absurd rfl st | omega
      · unfold Jvm.FP.Core.signed
        cases s <;> cases t <;> simp only [if_true, Bool.false_eq_true, if_false] <;> first | exact absurd rfl st | omega
      · unfold Jvm.FP.Core.signed
        cases s <;> cases t <;> simp only [if_true, Bool.false_eq_true, if_false] <;> first | exact absurd rfl st | omega
      · unfold Jvm.FP.Core.signed
        cases s <;> cases t <;> simp only [if_true, Bool.false_eq_true, if_false] <;> first | exact absurd rfl st | omega
theorem add_both {s t : Bool} {c1 c2 D1 D2 : Nat} (h1 : c1 < 2 ^ 53) (h2 : c2 < 2 ^ 53) (h0 : D1 = 0 ∨ D2 = 0) (hD1 : D1 ≤ 9 ∨ 2 ^ 52 ≤ c2) (hD2 : D2 ≤ 9 ∨ 2 ^ 52 ≤ c1) : AddOK (Jvm.FP.Core.signed s (stk (c1 * 2 ^ 9) (2 ^ D1)) + Jvm.FP.Core.signed t (stk (c2 * 2 ^ 9) (2 ^ D2))) (Jvm.FP.Core.signed s (c1 * 2 ^ D2) + Jvm.FP.Core.signed t (c2 * 2 ^ D1)) (D1 + D2) := by
  rcases h0 with h | h
  · subst h
    rw [Nat.pow_zero, stk_1, Nat.mul_one, Nat.zero_add, Int.add_comm, Int.add_comm (Jvm.FP.Core.signed s (c1 * 2 ^ D2))]
    exact add_one h2 h1 hD2
  · subst h
    rw [Nat.pow_zero, stk_1, Nat.mul_one, Nat.add_zero]
    exact add_one h1 h2 hD1
