/-! DOUBLES: their order is that of their bits -/
theorem dc_E (n : Nat) : Jvm.FP.Core.fieldE Jvm.FP.Core.b64 n = n / 2 ^ 52 % 2048 := rfl
theorem dc_T (n : Nat) : Jvm.FP.Core.fieldT Jvm.FP.Core.b64 n = n % 2 ^ 52 := rfl
theorem dc_S (n : Nat) : Jvm.FP.Core.fieldS Jvm.FP.Core.b64 n = (n / 2 ^ 52 / 2048 % 2 == 1) := rfl
/-- sign and size of bits -/
def sgB (n : Nat) : Bool := decide (2 ^ 63 ≤ n)
def szB (n : Nat) : Nat := n % 2 ^ 63
def INF : Nat := 2047 * 2 ^ 52
/-- a size's significand and how far it goes left -/
def cfB (m : Nat) : Nat := if m / 2 ^ 52 = 0 then m % 2 ^ 52 else 2 ^ 52 + m % 2 ^ 52
def efB (m : Nat) : Nat := m / 2 ^ 52 - 1
theorem dc_x : Jvm.FP.Core.b64.exps - 1 = 2047 := by decide
theorem dec_fin {n : Nat} (hn : n < 2 ^ 64) (h : szB n < INF) : Jvm.FP.Core.decode Jvm.FP.Core.b64 n = .fin (sgB n) (cfB (szB n)) ((efB (szB n) : Int) - 1074) := by
  have h1 : szB n = n % 2 ^ 63 := rfl
  have hE : n / 2 ^ 52 % 2048 = szB n / 2 ^ 52 := by rw [h1]; omega
  have hT : n % 2 ^ 52 = szB n % 2 ^ 52 := by rw [h1]; omega
  have hS : (n / 2 ^ 52 / 2048 % 2 == 1) = sgB n := by
    unfold sgB
    by_cases c : 2 ^ 63 ≤ n
    · rw [decide_eq_true c]
      have : n / 2 ^ 52 / 2048 % 2 = 1 := by omega
      rw [this]; rfl
    · rw [decide_eq_false c]
      have : n / 2 ^ 52 / 2048 % 2 = 0 := by omega
      rw [this]; rfl
  have hb : szB n / 2 ^ 52 < 2047 := by
    have : INF = 2047 * 2 ^ 52 := rfl
    omega
  unfold Jvm.FP.Core.decode
  rw [dc_E, dc_T, dc_S, hE, hT, hS]
  unfold cfB efB
  rw [dc_x, if_neg (show ¬ szB n / 2 ^ 52 = 2047 by omega)]
  by_cases c : szB n / 2 ^ 52 = 0
  · rw [if_pos c, if_pos c, c]
    rfl
  · rw [if_neg c, if_neg c]
    have e : Jvm.FP.Core.Fmt.qmin Jvm.FP.Core.b64 = -1074 := by decide
    rw [e]
    have : (-1074 : Int) + ((szB n / 2 ^ 52 : Nat) - 1) = ((szB n / 2 ^ 52 - 1 : Nat) : Int) - 1074 := by omega
    rw [this]
    rfl
theorem dec_inf {n : Nat} (hn : n < 2 ^ 64) (h : szB n = INF) : Jvm.FP.Core.decode Jvm.FP.Core.b64 n = .inf (sgB n) := by
  have h1 : szB n = n % 2 ^ 63 := rfl
  have h2 : INF = 2047 * 2 ^ 52 := rfl
  have hE : n / 2 ^ 52 % 2048 = 2047 := by omega
  have hT : n % 2 ^ 52 = 0 := by omega
  have hS : (n / 2 ^ 52 / 2048 % 2 == 1) = sgB n := by
    unfold sgB
    by_cases c : 2 ^ 63 ≤ n
    · rw [decide_eq_true c]
      have : n / 2 ^ 52 / 2048 % 2 = 1 := by omega
      rw [this]; rfl
    · rw [decide_eq_false c]
      have : n / 2 ^ 52 / 2048 % 2 = 0 := by omega
      rw [this]; rfl
  unfold Jvm.FP.Core.decode
  rw [dc_E, dc_T, dc_S, hE, hT, hS]
  rfl
theorem dec_nan {n : Nat} (hn : n < 2 ^ 64) (h : INF < szB n) : Jvm.FP.Core.decode Jvm.FP.Core.b64 n = .nan := by
  have h1 : szB n = n % 2 ^ 63 := rfl
  have h2 : INF = 2047 * 2 ^ 52 := rfl
  have hE : n / 2 ^ 52 % 2048 = 2047 := by omega
  have hT : ¬ n % 2 ^ 52 = 0 := by omega
  unfold Jvm.FP.Core.decode
  rw [dc_E, dc_T, dc_S, hE, dc_x, if_pos rfl, if_neg hT]
/-- the magnitude in the least units -/
def mgB (m : Nat) : Nat := cfB m * 2 ^ efB m
theorem mg_lt {a b : Nat} (h : a < b) : mgB a < mgB b := by
  have key : ∀ m, mgB m < mgB (m + 1) := fun m => by
    unfold mgB cfB efB
    by_cases c : m % 2 ^ 52 = 2 ^ 52 - 1
    · have e1 : (m + 1) / 2 ^ 52 = m / 2 ^ 52 + 1 := by omega
      have e2 : (m + 1) % 2 ^ 52 = 0 := by omega
      rw [e1, e2, c, if_neg (show ¬ m / 2 ^ 52 + 1 = 0 by omega), Nat.add_sub_cancel]
      by_cases z : m / 2 ^ 52 = 0
      · rw [if_pos z, z]; decide
      · rw [if_neg z]
        have : 2 ^ (m / 2 ^ 52) = 2 * 2 ^ (m / 2 ^ 52 - 1) := by
          obtain ⟨z, hz⟩ : ∃ z, m / 2 ^ 52 = z + 1 := ⟨m / 2 ^ 52 - 1, by omega⟩
          rw [hz, Nat.add_sub_cancel, Nat.pow_succ, Nat.mul_comm]
        rw [this]
        have hp : 0 < 2 ^ (m / 2 ^ 52 - 1) := Nat.two_pow_pos _
        generalize 2 ^ (m / 2 ^ 52 - 1) = z at hp ⊢
        have : (2 ^ 52 + 0) * (2 * z) = (2 ^ 52 + 2 ^ 52) * z := by rw [Nat.add_zero, ← Nat.mul_assoc]
        rw [this]
        exact Nat.mul_lt_mul_of_pos_right (by decide) hp
    · have e1 : (m + 1) / 2 ^ 52 = m / 2 ^ 52 := by omega
      have e2 : (m + 1) % 2 ^ 52 = m % 2 ^ 52 + 1 := by omega
      rw [e1, e2]
      refine Nat.mul_lt_mul_of_pos_right ?_ (Nat.two_pow_pos _)
      split <;> omega
  obtain ⟨k, rfl⟩ : ∃ k, b = a + 1 + k := ⟨b - (a + 1), by omega⟩
  clear h
  induction k with
  | zero => exact key a
  | succ k ih => exact Nat.lt_trans ih (key _)
theorem mg_0 : mgB 0 = 0 := by
  unfold mgB cfB
  rw [if_pos (by decide)]
  exact Nat.zero_mul _
/-- the bits as a whole number that rises with the doubles -/
def lvB (n : Nat) : Int := Jvm.FP.Core.signed (sgB n) (szB n)
theorem cmp_mono {s t : Bool} {a b : Nat} {f : Nat → Nat} (h0 : f 0 = 0) (hf : ∀ a b, a < b → f a < f b) : compare (Jvm.FP.Core.signed s (f a)) (Jvm.FP.Core.signed t (f b)) = compare (Jvm.FP.Core.signed s a) (Jvm.FP.Core.signed t b) := by
  have hp : ∀ x, 0 < x → 0 < f x := fun x hx => by have := hf 0 x hx; omega
  have e : ∀ {x y u v : Int}, ((x < y ↔ u < v) ∧ (x = y ↔ u = v)) → compare x y = compare u v := fun {x y u v} h => by
    show compareOfLessAndEq x y = compareOfLessAndEq u v
    unfold compareOfLessAndEq
    by_cases c1 : x < y
    · rw [if_pos c1, if_pos (h.1.mp c1)]
    · rw [if_neg c1, if_neg (fun hh => c1 (h.1.mpr hh))]
      by_cases c2 : x = y
      · rw [if_pos c2, if_pos (h.2.mp c2)]
      · rw [if_neg c2, if_neg (fun hh => c2 (h.2.mpr hh))]
  refine e ?_
  have ha : a = 0 ∨ 0 < f a ∧ 0 < a := by
    by_cases c : a = 0
    · exact Or.inl c
    · exact Or.inr ⟨hp a (by omega), by omega⟩
  have hb : b = 0 ∨ 0 < f b ∧ 0 < b := by
    by_cases c : b = 0
    · exact Or.inl c
    · exact Or.inr ⟨hp b (by omega), by omega⟩
  have h1 := hf a b
  have h2 := hf b a
  have h3 : a = b → f a = f b := fun h => by rw [h]
  unfold Jvm.FP.Core.signed
  have za : a = 0 → f a = 0 := fun h => by rw [h, h0]
  have zb : b = 0 → f b = 0 := fun h => by rw [h, h0]
  cases s <;> cases t <;> simp only [if_true, if_false, Bool.false_eq_true] <;> omega
theorem dcmp_fin {a b : Nat} (ha : a < 2 ^ 64) (hb : b < 2 ^ 64) (fa : szB a < INF) (fb : szB b < INF) : Jvm.FP.Core.cmp Jvm.FP.Core.b64 a b = some (compare (lvB a) (lvB b)) := by
  unfold Jvm.FP.Core.cmp
  rw [dec_fin ha fa, dec_fin hb fb]
  show some (compare (Jvm.FP.Core.signed _ (Jvm.FP.Core.inUnits _ _ _)) (Jvm.FP.Core.signed _ (Jvm.FP.Core.inUnits _ _ _))) = _
  congr 1
  obtain ⟨k, hk⟩ : ∃ k : Nat, min ((efB (szB a) : Int) - 1074) ((efB (szB b) : Int) - 1074) = (k : Int) - 1074 := by
    by_cases c : efB (szB a) ≤ efB (szB b)
    · exact ⟨efB (szB a), Int.min_eq_left (by omega)⟩
    · exact ⟨efB (szB b), Int.min_eq_right (by omega)⟩
  have hka : k ≤ efB (szB a) := by
    have := Int.min_le_left ((efB (szB a) : Int) - 1074) ((efB (szB b) : Int) - 1074)
    omega
  have hkb : k ≤ efB (szB b) := by
    have := Int.min_le_right ((efB (szB a) : Int) - 1074) ((efB (szB b) : Int) - 1074)
    omega
  rw [hk]
  have iu : ∀ m, k ≤ efB m → Jvm.FP.Core.inUnits (cfB m) ((efB m : Int) - 1074) ((k : Int) - 1074) * 2 ^ k = mgB m := fun m hm => by
    unfold Jvm.FP.Core.inUnits mgB
    rw [show ((efB m : Int) - 1074 - ((k : Int) - 1074)).toNat = efB m - k by omega, Nat.mul_assoc, ← Nat.pow_add, show efB m - k + k = efB m by omega]
  have h1 := cmp_mono (s := sgB a) (t := sgB b) (a := szB a) (b := szB b) mg_0 (fun _ _ h => mg_lt h)
  rw [← iu _ hka, ← iu _ hkb] at h1
  have h2 := cmp_mono (s := sgB a) (t := sgB b) (a := Jvm.FP.Core.inUnits (cfB (szB a)) ((efB (szB a) : Int) - 1074) ((k : Int) - 1074)) (b := Jvm.FP.Core.inUnits (cfB (szB b)) ((efB (szB b) : Int) - 1074) ((k : Int) - 1074)) (f := fun x => x * 2 ^ k) (Nat.zero_mul _) (fun _ _ h => Nat.mul_lt_mul_of_pos_right h (Nat.two_pow_pos k))
  exact h2.symm.trans h1
