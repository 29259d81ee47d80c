/-! DOUBLES: the nearest whole number -/
theorem dec_bits {c : Nat} {q : Int} (hq : -1074 ≤ q) (hq2 : q ≤ 971) (hc : c < 2 ^ 53) (hn : q = -1074 ∨ 2 ^ 52 ≤ c) : (q + 1074).toNat * 2 ^ 52 + c < INF ∧ cfB ((q + 1074).toNat * 2 ^ 52 + c) = c ∧ efB ((q + 1074).toNat * 2 ^ 52 + c) = (q + 1074).toNat := by
  have hi : INF = 2047 * 2 ^ 52 := rfl
  unfold cfB efB
  rcases hn with h | h
  · rw [h, show (-1074 + 1074 : Int).toNat = 0 from rfl]
    refine ⟨by omega, ?_, by omega⟩
    split <;> omega
  · refine ⟨by omega, ?_, by omega⟩
    rw [if_neg (by omega)]
    omega
/-- the size of a rounded number that needs no rounding -/
theorem mg_exact {s : Bool} {n : Nat} {e : Int} (hn : n < 2 ^ 53) (he : -1074 ≤ e) (he2 : e ≤ 900) : ∃ m, Jvm.FP.Core.encode Jvm.FP.Core.b64 (Jvm.FP.Core.roundRatio Jvm.FP.Core.b64 s n 1 e) = s.toNat * 2 ^ 63 + m ∧ m < INF ∧ mgB m = n * 2 ^ (e + 1074).toNat := by
  rcases Nat.eq_zero_or_pos n with h0 | h0
  · subst h0
    refine ⟨0, ?_, by decide, by rw [Nat.zero_mul]; exact mg_0⟩
    unfold Jvm.FP.Core.roundRatio
    rw [if_pos rfl, fp_qmin, enc_fin (by decide) (by decide) (Or.inl rfl)]
    rfl
  · have h1 := Nat.log2_self_le (show n ≠ 0 by omega)
    have h2 := @Nat.lt_log2_self n
    have hL : n.log2 ≤ 52 := by
      by_cases c : n.log2 ≤ 52
      · exact c
      · have := Nat.pow_le_pow_right (n := 2) (by decide) (show 53 ≤ n.log2 by omega)
        omega
    obtain ⟨j, hj⟩ : ∃ j, j = min (52 - n.log2) (e + 1074).toNat := ⟨_, rfl⟩
    have hc : n * 2 ^ j < 2 ^ 53 := by
      have a1 := Nat.mul_lt_mul_of_pos_right h2 (Nat.two_pow_pos j)
      rw [← Nat.pow_add] at a1
      have a2 := Nat.pow_le_pow_right (n := 2) (by decide) (show n.log2 + 1 + j ≤ 53 by omega)
      omega
    have hnm : e - j = -1074 ∨ 2 ^ 52 ≤ n * 2 ^ j := by
      by_cases c : j = (e + 1074).toNat
      · left; omega
      · right
        have a1 := Nat.mul_le_mul_right (2 ^ j) h1
        rw [← Nat.pow_add, show n.log2 + j = 52 by omega] at a1
        exact a1
    have hpos : 0 < n * 2 ^ j := Nat.mul_pos h0 (Nat.two_pow_pos j)
    obtain ⟨b1, b2, b3⟩ := dec_bits (c := n * 2 ^ j) (q := e - j) (by omega) (by omega) hc hnm
    refine ⟨(e - j + 1074).toNat * 2 ^ 52 + n * 2 ^ j, ?_, b1, ?_⟩
    · have := enc_shift (s := s) (n := n) (d := 1) h0 (by decide) j 0 (e := e) (e' := e - j) (by omega)
      rw [Nat.pow_zero, Nat.mul_one] at this
      rw [← this, enc_exact hpos (by omega) hc hnm, Nat.min_eq_right (by omega)]
    · unfold mgB
      rw [b2, b3, Nat.mul_assoc, ← Nat.pow_add, show j + (e - j + 1074).toNat = (e + 1074).toNat by omega]
theorem mg_lt_iff {a b : Nat} : a < b ↔ mgB a < mgB b := by
  constructor
  · exact fun h => mg_lt h
  · intro h
    rcases Nat.lt_trichotomy a b with c | c | c
    · exact c
    · rw [c] at h; omega
    · have := mg_lt c; omega
theorem mg_inj {a b : Nat} : a = b ↔ mgB a = mgB b := by
  constructor
  · intro h; rw [h]
  · intro h
    rcases Nat.lt_trichotomy a b with c | c | c
    · have := mg_lt c; omega
    · exact c
    · have := mg_lt c; omega
theorem fi_nat (N : Nat) : Jvm.FP.Core.fromInt Jvm.FP.Core.b64 (N : Int) = Jvm.FP.Core.encode Jvm.FP.Core.b64 (Jvm.FP.Core.roundRatio Jvm.FP.Core.b64 false N 1 0) := by
  show Jvm.FP.Core.encode Jvm.FP.Core.b64 (Jvm.FP.Core.roundRatio Jvm.FP.Core.b64 (decide ((N : Int) < 0)) (N : Int).natAbs 1 0) = _
  rw [decide_eq_false (by omega), Int.natAbs_natCast]
theorem fi_mg {N : Nat} (h : N < 2 ^ 53) : Jvm.FP.Core.fromInt Jvm.FP.Core.b64 (N : Int) < INF ∧ mgB (Jvm.FP.Core.fromInt Jvm.FP.Core.b64 (N : Int)) = N * 2 ^ 1074 := by
  obtain ⟨m, m1, m2, m3⟩ := mg_exact (s := false) (n := N) (e := 0) h (by omega) (by omega)
  rw [fi_nat, m1, show false.toNat * 2 ^ 63 + m = m by simp only [Bool.toNat_false]; omega]
  exact ⟨m2, m3⟩
/-- what is left over a whole part -/
theorem sub_whole {x : Nat} (hx : x < INF) {k : Nat} (hk : efB x + k = 1074) : ∃ m, Jvm.FP.Core.sub Jvm.FP.Core.b64 x (Jvm.FP.Core.fromInt Jvm.FP.Core.b64 ((cfB x / 2 ^ k : Nat) : Int)) = m ∧ m < INF ∧ mgB m = cfB x % 2 ^ k * 2 ^ (1074 - k) := by
  have hi : INF = 2047 * 2 ^ 52 := rfl
  have hE1 : -1074 ≤ -(k : Int) := by omega
  have hE2 : -(k : Int) ≤ 900 := by omega
  have hE3 : (-(k : Int) + 1074).toNat = 1074 - k := by omega
  have hE4 : ((-1074 : Int)) = -(k : Int) - (1074 - k : Nat) + (0 : Nat) := by omega
  have hc : cfB x < 2 ^ 53 := cf_lt
  have hW : cfB x / 2 ^ k < 2 ^ 53 := Nat.lt_of_le_of_lt (Nat.div_le_self _ _) hc
  obtain ⟨W, hWe⟩ : ∃ W, W = cfB x / 2 ^ k := ⟨_, rfl⟩
  rw [← hWe] at hW ⊢
  obtain ⟨y1, y2⟩ := fi_mg hW
  obtain ⟨y, hy⟩ : ∃ y, y = Jvm.FP.Core.fromInt Jvm.FP.Core.b64 (W : Int) := ⟨_, rfl⟩
  rw [← hy] at y1 y2 ⊢
  have szx : szB x = x := Nat.mod_eq_of_lt (by omega)
  have szy : szB y = y := Nat.mod_eq_of_lt (by omega)
  have sgx : sgB x = false := decide_eq_false (by omega)
  have sgy : sgB y = false := decide_eq_false (by omega)
  unfold Jvm.FP.Core.sub
  rw [dec_fin (by omega) (by rw [szx]; exact hx), dec_fin (by omega) (by rw [szy]; exact y1), szx, szy, sgx, sgy]
  unfold Jvm.FP.Core.negate Jvm.FP.Core.exactSum
  dsimp only
  obtain ⟨m, hm⟩ : ∃ m, m = min ((efB x : Int) - 1074) ((efB y : Int) - 1074) := ⟨_, rfl⟩
  rw [← hm]
  obtain ⟨u, hu⟩ : ∃ u, u = (m + 1074).toNat := ⟨_, rfl⟩
  have hmod := Nat.div_add_mod (cfB x) (2 ^ k)
  rw [← hWe] at hmod
  obtain ⟨r, hr⟩ : ∃ r, r = cfB x % 2 ^ k := ⟨_, rfl⟩
  rw [← hr] at hmod ⊢
  have hrl : r < 2 ^ 53 := by
    have : r ≤ cfB x := by rw [hr]; exact Nat.mod_le _ _
    omega
  have hv : Jvm.FP.Core.sumUnits false (cfB x) ((efB x : Int) - 1074) (!false) (cfB y) ((efB y : Int) - 1074) m = ((cfB x * 2 ^ (efB x - u) : Nat) : Int) - ((cfB y * 2 ^ (efB y - u) : Nat) : Int) := by
    unfold Jvm.FP.Core.sumUnits Jvm.FP.Core.inUnits Jvm.FP.Core.signed
    rw [show ((efB x : Int) - 1074 - m).toNat = efB x - u by omega, show ((efB y : Int) - 1074 - m).toNat = efB y - u by omega]
    simp only [Bool.not_false, if_true, Bool.false_eq_true, if_false]
    omega
  have q1 : cfB x * 2 ^ (efB x - u) * 2 ^ u = W * 2 ^ 1074 + r * 2 ^ (1074 - k) := by
    rw [Nat.mul_assoc, ← Nat.pow_add, show efB x - u + u = efB x by omega, ← hmod, show 1074 = k + efB x by omega, show k + efB x - k = efB x by omega, Nat.add_mul, Nat.pow_add 2 k, Nat.mul_comm (2 ^ k) W, Nat.mul_assoc W]
  have q2 : cfB y * 2 ^ (efB y - u) * 2 ^ u = W * 2 ^ 1074 := by
    rw [Nat.mul_assoc, ← Nat.pow_add, show efB y - u + u = efB y by omega]
    exact y2
  obtain ⟨A, hA⟩ : ∃ A, A = cfB x * 2 ^ (efB x - u) := ⟨_, rfl⟩
  obtain ⟨B, hB⟩ : ∃ B, B = cfB y * 2 ^ (efB y - u) := ⟨_, rfl⟩
  rw [hv, ← hA, ← hB]
  rw [← hA] at q1
  rw [← hB] at q2
  have hpu : 0 < 2 ^ u := Nat.two_pow_pos u
  have hAB : B ≤ A := by
    by_cases c : B ≤ A
    · exact c
    · have := Nat.mul_lt_mul_of_pos_right (Nat.lt_of_not_le c) hpu
      rw [q1, q2] at this
      exact absurd this (Nat.not_lt_of_le (Nat.le_add_right _ _))
  obtain ⟨V, hV⟩ : ∃ V, A = B + V := ⟨A - B, by clear q1 q2; omega⟩
  have qV : V * 2 ^ u = r * 2 ^ (1074 - k) := by
    rw [hV, Nat.add_mul, q2] at q1
    generalize W * 2 ^ 1074 = Z at q1
    omega
  have hvv : (A : Int) - (B : Int) = V := by omega
  rw [hvv]
  have hss : Jvm.FP.Core.sumSign false (!false) (V : Int) = false := by
    unfold Jvm.FP.Core.sumSign
    split
    · rfl
    · exact decide_eq_false (by omega)
  rw [hss, Int.natAbs_natCast]
  obtain ⟨b, b1, b2, b3⟩ := mg_exact (s := false) (n := r) (e := -(k : Int)) hrl hE1 hE2
  rw [hE3] at b3
  rw [show false.toNat * 2 ^ 63 + b = b by rw [show false.toNat = 0 from rfl, Nat.zero_mul, Nat.zero_add]] at b1
  refine ⟨b, ?_, b2, b3⟩
  rw [← b1]
  show Jvm.FP.Core.encode Jvm.FP.Core.b64 (Jvm.FP.Core.roundRatio Jvm.FP.Core.b64 false V 1 m) = _
  rcases Nat.eq_zero_or_pos V with h0 | h0
  · have hr0 : r = 0 := by
      rw [h0, Nat.zero_mul] at qV
      exact (Nat.mul_eq_zero.mp qV.symm).resolve_right (Nat.ne_of_gt (Nat.two_pow_pos _))
    rw [h0, hr0]
    rfl
  · have hr0 : 0 < r := by
      rcases Nat.eq_zero_or_pos r with h | h
      · rw [h, Nat.zero_mul] at qV
        have := Nat.mul_pos h0 hpu
        omega
      · exact h
    have s1 := enc_shift (s := false) (n := V) (d := 1) h0 (by decide) u 0 (e := m) (e' := -1074) (by clear q2 qV; omega)
    have s2 := enc_shift (s := false) (n := r) (d := 1) hr0 (by decide) (1074 - k) 0 (e := -(k : Int)) (e' := -1074) hE4
    rw [← s1, ← s2, qV]
def HALFB : Nat := 1022 * 2 ^ 52
theorem half_mg : mgB HALFB = 2 ^ 1073 := by
  unfold mgB
  rw [show efB HALFB = 1021 from rfl, show cfB HALFB = 2 ^ 52 from rfl, ← Nat.pow_add]
theorem half_lt {m r k : Nat} (h : mgB m = r * 2 ^ (1074 - k)) (hk : k ≤ 1074) : (HALFB < m ↔ 2 ^ k < 2 * r) ∧ (m = HALFB ↔ 2 * r = 2 ^ k) := by
  rw [mg_lt_iff, mg_inj (a := m), half_mg, h]
  have hp : 0 < 2 ^ k := Nat.two_pow_pos k
  obtain ⟨P, hP⟩ : ∃ P, P = 2 ^ 1073 := ⟨_, rfl⟩
  have hP0 : 0 < P := hP ▸ Nat.two_pow_pos 1073
  have e1 : r * 2 ^ (1074 - k) * 2 ^ k = 2 * r * P := by
    rw [Nat.mul_assoc, ← Nat.pow_add, show 1074 - k + k = 1073 + 1 by omega, Nat.pow_succ, ← hP, Nat.mul_comm P 2, ← Nat.mul_assoc, Nat.mul_comm r 2]
  rw [← hP]
  have e2 : P * 2 ^ k = 2 ^ k * P := Nat.mul_comm _ _
  constructor
  · rw [← Nat.mul_lt_mul_right (a := 2 ^ k) hp, e1, e2]
    exact Nat.mul_lt_mul_right hP0
  · constructor
    · intro h2
      have : r * 2 ^ (1074 - k) * 2 ^ k = P * 2 ^ k := by rw [h2]
      rw [e1, e2] at this
      exact Nat.eq_of_mul_eq_mul_right hP0 this
    · intro h2
      have : r * 2 ^ (1074 - k) * 2 ^ k = P * 2 ^ k := by rw [e1, e2, h2]
      exact Nat.eq_of_mul_eq_mul_right hp this
theorem near_whole {c k : Nat} : Jvm.FP.Core.nearest c (2 ^ k) = if 2 ^ k < 2 * (c % 2 ^ k) ∨ (2 * (c % 2 ^ k) = 2 ^ k ∧ c / 2 ^ k % 2 = 1) then c / 2 ^ k + 1 else c / 2 ^ k := by
  unfold Jvm.FP.Core.nearest
  by_cases h1 : 2 * (c % 2 ^ k) < 2 ^ k
  · rw [if_pos h1, if_neg (by omega)]
  · rw [if_neg h1]
    by_cases h2 : 2 ^ k < 2 * (c % 2 ^ k)
    · rw [if_pos h2, if_pos (Or.inl h2)]
    · rw [if_neg h2]
      by_cases h3 : c / 2 ^ k % 2 = 1
      · rw [if_pos (Or.inr ⟨by omega, h3⟩), h3]
      · rw [if_neg (by omega)]
        omega
/-- the nearest whole number's bits -/
def evB (a : Nat) : Nat := if INF < szB a then NANB else if szB a < 1075 * 2 ^ 52 then (sgB a).toNat * 2 ^ 63 + Jvm.FP.Core.fromInt Jvm.FP.Core.b64 ((Jvm.FP.Core.nearest (cfB (szB a)) (2 ^ (1074 - efB (szB a))) : Nat) : Int) else a
theorem evB_lt {a : Nat} (ha : a < 2 ^ 64) : evB a < 2 ^ 64 := by
  have hi : INF = 2047 * 2 ^ 52 := rfl
  unfold evB
  by_cases c1 : INF < szB a
  · rw [if_pos c1]; decide
  · rw [if_neg c1]
    by_cases c2 : szB a < 1075 * 2 ^ 52
    · rw [if_pos c2]
      have hn : Jvm.FP.Core.nearest (cfB (szB a)) (2 ^ (1074 - efB (szB a))) < 2 ^ 53 := by
        have he : efB (szB a) < 1074 := by unfold efB; omega
        have h2 : 2 ^ 1 ≤ 2 ^ (1074 - efB (szB a)) := Nat.pow_le_pow_right (by decide) (by omega)
        have := near_le (n := cfB (szB a)) (d := 2 ^ (1074 - efB (szB a))) (m := 2 ^ 52) (by omega) (by
          have : cfB (szB a) < 2 ^ 53 := cf_lt
          have := Nat.mul_le_mul_left (2 ^ 52) h2
          omega)
        omega
      have := (fi_mg hn).1
      cases sgB a <;> simp only [Bool.toNat_true, Bool.toNat_false] <;> omega
    · rw [if_neg c2]; exact ha
/-- bits of a whole number, from a significand -/
theorem fi_bits {N k : Nat} (h1 : 2 ^ 52 ≤ N * 2 ^ k) (h2 : N * 2 ^ k ≤ 2 ^ 53) (hk : k ≤ 52) (hk1 : 1 ≤ k) : Jvm.FP.Core.fromInt Jvm.FP.Core.b64 (N : Int) = (1074 - k) * 2 ^ 52 + N * 2 ^ k := by
  have hi : INF = 2047 * 2 ^ 52 := rfl
  have hN : 0 < N := by
    rcases Nat.eq_zero_or_pos N with h | h
    · rw [h, Nat.zero_mul] at h1; omega
    · exact h
  rw [fi_nat]
  have hz : ∀ x, false.toNat * 2 ^ 63 + x = x := fun x => by simp only [Bool.toNat_false]; omega
  by_cases c : N * 2 ^ k < 2 ^ 53
  · have := enc_shift (s := false) (n := N) (d := 1) hN (by decide) k 0 (e := 0) (e' := -(k : Int)) (by omega)
    rw [Nat.pow_zero, Nat.mul_one] at this
    rw [← this, enc_exact (by omega) (by omega) c (Or.inr h1), hz, Nat.min_eq_right (by omega)]
    congr 2
    omega
  · have e : N * 2 ^ k = 2 ^ 53 := by omega
    have e2 : N * 2 ^ (k - 1) = 2 ^ 52 := by
      have : N * 2 ^ k = N * 2 ^ (k - 1) * 2 := by rw [Nat.mul_assoc, ← Nat.pow_succ, Nat.succ_eq_add_one, Nat.sub_add_cancel hk1]
      omega
    have := enc_shift (s := false) (n := N) (d := 1) hN (by decide) (k - 1) 0 (e := 0) (e' := -((k - 1 : Nat) : Int)) (by omega)
    rw [Nat.pow_zero, Nat.mul_one] at this
    rw [← this, e2, enc_exact (by decide) (by omega) (by decide) (Or.inr (Nat.le_refl _)), hz, Nat.min_eq_right (by omega), e]
    omega
