/-! DOUBLES: the root -/
theorem i_mod (z : Int) : iI z = nI (z % 4294967296).toNat := by
  apply Int32.toBitVec_inj.mp
  apply BitVec.eq_of_toNat_eq
  show (BitVec.ofInt 32 z).toNat = (BitVec.ofNat 32 _).toNat
  rw [BitVec.toNat_ofInt, BitVec.toNat_ofNat]
  omega
theorem j_mod (z : Int) : jI z = lI (z % 18446744073709551616).toNat := by
  apply Int64.toBitVec_inj.mp
  apply BitVec.eq_of_toNat_eq
  show (BitVec.ofInt 64 z).toNat = (BitVec.ofNat 64 _).toNat
  rw [BitVec.toNat_ofInt, BitVec.toNat_ofNat]
  omega
theorem i_par (z : Int) : iI z &&& 1 = 0 ↔ z % 2 = 0 := by
  rw [i_mod, show (1 : Int32) = nI 1 from rfl, n_and, Nat.and_one_is_mod]
  have h : nI ((z % 4294967296).toNat % 2) = 0 ↔ (z % 4294967296).toNat % 2 = 0 := n_inj (b := 0) (by omega) (by decide)
  rw [h]
  omega
theorem i_half {z : Int} (h1 : -1000000 ≤ z) (h2 : z ≤ 1000000) (h : z % 2 = 0) : iI z / 2 = iI (z / 2) := by
  apply Int32.toInt_inj.mp
  rw [Int32.toInt_div, i_toInt (by omega) (by omega), i_toInt (by omega) (by omega), show (2 : Int32).toInt = 2 by decide]
  obtain ⟨k, hk⟩ : ∃ k, z = k * 2 := ⟨z / 2, by omega⟩
  rw [hk, Int.mul_tdiv_cancel _ (by decide), Int.mul_ediv_cancel _ (by decide)]
  exact Int.bmod_eq_of_le (by omega) (by omega)
theorem i_sar {z : Int} (h1 : -1000000 ≤ z) (h2 : z ≤ 1000000) : iI z >>> (1 &&& 31) = iI (z / 2) := by
  have h3 : (1 : Int32) &&& 31 = 1 := by decide
  rw [h3]
  apply Int32.toInt_inj.mp
  rw [i_toInt (by omega) (by omega)]
  show (iI z >>> 1).toBitVec.toInt = _
  rw [Int32.toBitVec_shiftRight, show (1 : Int32).toBitVec.smod 32 = 1#32 by decide, BitVec.sshiftRight_eq', show (1#32).toNat = 1 by decide, BitVec.toInt_sshiftRight]
  show (iI z).toInt >>> 1 = _
  rw [i_toInt (by omega) (by omega), Int.shiftRight_eq_div_pow]
  rfl
theorem cmpL_lt {x y : Int64} : cmpL x y < 0 ↔ x < y := by
  have h := @cmpL_ge x y
  constructor
  · intro h2
    by_cases c : x < y
    · exact c
    · exact absurd (Int32.lt_of_lt_of_le h2 (h.mpr c)) (Int32.lt_irrefl)
  · intro h2
    by_cases c : 0 ≤ cmpL x y
    · exact absurd h2 (h.mp c)
    · exact Int32.not_le.mp c
theorem sq_lt {a b : Nat} (h : a * a < b * b) : a < b := by
  by_cases c : a < b
  · exact c
  · exact absurd h (Nat.not_lt_of_le (Nat.mul_le_mul (Nat.le_of_not_lt c) (Nat.le_of_not_lt c)))
theorem sq_exp (a b : Nat) : (a + b) * (a + b) = a * a + 2 * (a * b) + b * b := by
  rw [Nat.add_mul, Nat.mul_add, Nat.mul_add, Nat.mul_comm b a]
  omega
/-- the leading digits, two at a time -/
def topD (x i : Nat) : Nat := if i ≤ 27 then x / 2 ^ (54 - 2 * i) else x * 4 ^ (i - 27)
theorem top_lo {x i : Nat} (h : i < 27) : topD x (i + 1) = 4 * topD x i + x / 2 ^ (52 - 2 * i) % 4 := by
  unfold topD
  rw [if_pos (by omega), if_pos (by omega), show 54 - 2 * (i + 1) = 52 - 2 * i by omega, show 54 - 2 * i = 52 - 2 * i + 2 by omega, Nat.pow_add, ← Nat.div_div_eq_div_mul]
  omega
theorem top_hi {x i : Nat} (h : 27 ≤ i) : topD x (i + 1) = 4 * topD x i := by
  unfold topD
  rw [if_neg (by omega)]
  by_cases c : i ≤ 27
  · have e : i = 27 := by omega
    subst e
    rw [if_pos (by omega)]
    show x * 4 ^ 1 = 4 * (x / 2 ^ 0)
    rw [Nat.pow_zero, Nat.div_one]
    omega
  · rw [if_neg c, show i + 1 - 27 = i - 27 + 1 by omega, Nat.pow_succ, ← Nat.mul_assoc]
    omega
theorem root_step {r t D : Nat} : (2 * r) * (2 * r) + (4 * t + D) = 4 * (r * r + t) + D ∧ (4 * r + 1 ≤ 4 * t + D → (2 * r + 1) * (2 * r + 1) + (4 * t + D - (4 * r + 1)) = 4 * (r * r + t) + D) := by
  have e1 : (2 * r) * (2 * r) = 4 * (r * r) := by
    rw [Nat.mul_assoc, Nat.mul_left_comm r 2, ← Nat.mul_assoc]
  constructor
  · omega
  · intro h
    rw [sq_exp, e1]
    omega
theorem lp_118 (d : Nat) (w : Wd) {x : Nat} (hx : x < 2 ^ 54) (n : Nat) : ∀ (i r t : Nat) (l7 l9 : Option Value), 56 = i + n → r * r + t = topD x i → t ≤ 2 * r → r < 2 ^ i → ∃ R T, R * R + T = x * 2 ^ 58 ∧ T ≤ 2 * R ∧ val (118, d, 8, [some (.long (lI x)), none, some (.long (lI r)), none, some (.long (lI t)), none, some (.int (nI i)), l7, none, l9, none], [], w) = some (some (.long (lI (2 * R + if T = 0 then 0 else 1))), w) := by
  induction n with
  | zero =>
    intro i r t l7 l9 hi h1 h2 h3
    have e : i = 56 := by omega
    subst e
    have ht : topD x 56 = x * 2 ^ 58 := rfl
    refine ⟨r, t, by rw [h1, ht], h2, ?_⟩
    have g : cmpL (lI t) 0 = 0 ↔ t = 0 := by
      rw [cmpL_0]
      exact l_inj (b := 0) (by omega) (by decide)
    have s1 : shlL (lI r) 1 = lI (r * 2 ^ 1) := l_shld (k := 1) (by decide)
    refine (tr_118_8 d w _ _ _ _ _ _).trans ?_
    rw [if_pos (show (56 : Int32) ≤ nI 56 by decide), s1, show Int32.toInt64 1 = lI 1 from rfl, show Int32.toInt64 0 = lI 0 from rfl, l_or, l_or, or_sh (by decide), or_sh (by decide)]
    by_cases c : t = 0
    · rw [if_neg (fun h => h (g.mpr c)), if_pos c, Nat.mul_comm]
    · rw [if_pos (fun h => c (g.mp h)), if_neg c, Nat.mul_comm]
  | succ n ih =>
    intro i r t l7 l9 hi h1 h2 h3
    have hr : r < 2 ^ 55 := Nat.lt_of_lt_of_le h3 (Nat.pow_le_pow_right (by decide) (by omega))
    have hp : 2 ^ (i + 1) = 2 * 2 ^ i := by rw [Nat.pow_succ, Nat.mul_comm]
    have c56 : ¬ (56 : Int32) ≤ nI i := n_nle (a := 56) (by omega) (by decide)
    have s1 : shlL (lI r) 1 = lI (r * 2 ^ 1) := l_shld (k := 1) (by decide)
    have s2 : shlL (lI r) 2 = lI (r * 2 ^ 2) := l_shld (k := 2) (by decide)
    have s3 : shlL (lI t) 2 = lI (t * 2 ^ 2) := l_shld (k := 2) (by decide)
    have o1 : lI (r * 2 ^ 2) ||| 1 = lI (4 * r + 1) := by
      rw [show (1 : Int64) = lI 1 from rfl, l_or, or_sh (by decide)]
      congr 1
      omega
    have o2 : lI (r * 2 ^ 1) ||| 1 = lI (2 * r + 1) := by
      rw [show (1 : Int64) = lI 1 from rfl, l_or, or_sh (by decide)]
      congr 1
      omega
    have e2 : lI (r * 2 ^ 1) = lI (2 * r) := by rw [Nat.pow_one, Nat.mul_comm]
    have main : ∀ D, D < 4 → topD x (i + 1) = 4 * topD x i + D → (4 * t + D < 4 * r + 1 → ∀ (l7 l9 : Option Value), ∃ R T, R * R + T = x * 2 ^ 58 ∧ T ≤ 2 * R ∧ val (118, d, 8, [some (.long (lI x)), none, some (.long (lI (2 * r))), none, some (.long (lI (4 * t + D))), none, some (.int (nI (i + 1))), l7, none, l9, none], [], w) = some (some (.long (lI (2 * R + if T = 0 then 0 else 1))), w)) ∧ (4 * r + 1 ≤ 4 * t + D → ∀ (l7 l9 : Option Value), ∃ R T, R * R + T = x * 2 ^ 58 ∧ T ≤ 2 * R ∧ val (118, d, 8, [some (.long (lI x)), none, some (.long (lI (2 * r + 1))), none, some (.long (lI (4 * t + D - (4 * r + 1)))), none, some (.int (nI (i + 1))), l7, none, l9, none], [], w) = some (some (.long (lI (2 * R + if T = 0 then 0 else 1))), w)) := by
      intro D hD hT
      obtain ⟨q1, q2⟩ := @root_step r t D
      refine ⟨fun hlt l7 l9 => ih (i + 1) _ _ l7 l9 (by omega) (by rw [q1, hT, h1]) (by omega) (by omega), fun hge l7 l9 => ih (i + 1) _ _ l7 l9 (by omega) (by rw [q2 hge, hT, h1]) (by omega) (by omega)⟩
    have br := tr_118_8 d w (lI x) (lI r) (lI t) (nI i) l7 l9
    rw [if_neg c56, s1, s2, s3, o1, o2, e2, n_succ] at br
    by_cases c27 : i < 27
    · have hc27 : ¬ (27 : Int32) ≤ nI i := n_nle (a := 27) c27 (by decide)
      obtain ⟨D, hD⟩ : ∃ D, D = x / 2 ^ (52 - 2 * i) % 4 := ⟨_, rfl⟩
      have hDl : D < 4 := by omega
      have eD : ushL (lI x) (52 - 2 * nI i) &&& 3 = lI D := by
        rw [show (2 : Int32) * nI i = nI (2 * i) from n_mul 2 i, show (52 : Int32) - nI (2 * i) = nI (52 - 2 * i) from n_sub (a := 52) (by omega), l_ushd (by omega) (by omega), show (3 : Int64) = lI (2 ^ 2 - 1) from rfl, l_mask (by decide), hD]
      have o3 : lI (t * 2 ^ 2) ||| lI D = lI (4 * t + D) := by
        rw [l_or, or_sh (by omega)]
        congr 1
        omega
      obtain ⟨m1, m2⟩ := main D hDl (by rw [top_lo c27, hD])
      rw [if_neg hc27, eD, o3] at br
      have gl : cmpL (lI (4 * t + D)) (lI (4 * r + 1)) < 0 ↔ 4 * t + D < 4 * r + 1 := by
        rw [cmpL_lt]
        exact l_lt_iff (by omega) (by omega)
      by_cases c : 4 * t + D < 4 * r + 1
      · rw [if_pos (gl.mpr c)] at br
        obtain ⟨R, T, r1, r2, r3⟩ := m1 c (some (.long (lI D))) (some (.long (lI (4 * r + 1))))
        exact ⟨R, T, r1, r2, br.trans r3⟩
      · rw [if_neg (fun h => c (gl.mp h)), l_sub (by omega)] at br
        obtain ⟨R, T, r1, r2, r3⟩ := m2 (by omega) (some (.long (lI D))) (some (.long (lI (4 * r + 1))))
        exact ⟨R, T, r1, r2, br.trans r3⟩
    · have hc27 : (27 : Int32) ≤ nI i := n_le (a := 27) (by omega) (by omega)
      have o3 : lI (t * 2 ^ 2) ||| 0 = lI (4 * t + 0) := by
        rw [show (0 : Int64) = lI 0 from rfl, l_or, or_sh (by decide)]
        congr 1
        omega
      obtain ⟨m1, m2⟩ := main 0 (by decide) (by rw [top_hi (by omega)]; rfl)
      rw [if_pos hc27, o3] at br
      have gl : cmpL (lI (4 * t + 0)) (lI (4 * r + 1)) < 0 ↔ 4 * t + 0 < 4 * r + 1 := by
        rw [cmpL_lt]
        exact l_lt_iff (by omega) (by omega)
      by_cases c : 4 * t + 0 < 4 * r + 1
      · rw [if_pos (gl.mpr c)] at br
        obtain ⟨R, T, r1, r2, r3⟩ := m1 c (some (.long 0)) (some (.long (lI (4 * r + 1))))
        exact ⟨R, T, r1, r2, br.trans r3⟩
      · rw [if_neg (fun h => c (gl.mp h)), l_sub (by omega)] at br
        obtain ⟨R, T, r1, r2, r3⟩ := m2 (by omega) (some (.long 0)) (some (.long (lI (4 * r + 1))))
        exact ⟨R, T, r1, r2, br.trans r3⟩
theorem c_longRoot (d : Nat) (w : Wd) {x : Nat} (hx : x < 2 ^ 54) : ∃ R T, R * R + T = x * 2 ^ 58 ∧ T ≤ 2 * R ∧ val (118, d, 0, [some (.long (lI x)), none, none, none, none, none, none, none, none, none, none], [], w) = some (some (.long (lI (2 * R + if T = 0 then 0 else 1))), w) := by
  obtain ⟨R, T, r1, r2, r3⟩ := lp_118 d w hx 56 0 0 0 none none rfl (by
    unfold topD
    rw [if_pos (by omega)]
    show 0 = x / 2 ^ 54
    omega) (by omega) (by decide)
  exact ⟨R, T, r1, r2, (tr_118 d w _).trans r3⟩
/-- the two programs' roots round alike -/
theorem root_near {R T Q x : Nat} (h1 : R * R + T = x * 2 ^ 58) (h2 : T ≤ 2 * R) (h3 : Q * Q ≤ x * 2 ^ 54) (h4 : x * 2 ^ 54 < (Q + 1) * (Q + 1)) : Jvm.FP.Core.nearest (2 * R + if T = 0 then 0 else 1) 16 = (Q + if Q * Q = x * 2 ^ 54 then 0 else Q % 2) / 2 := by
  have hR : x * 2 ^ 58 < (R + 1) * (R + 1) := by
    rw [sq_exp, Nat.mul_one, ← h1]
    clear h1 h3 h4
    omega
  have e16 : ∀ a : Nat, (4 * a) * (4 * a) = 16 * (a * a) := fun a => by
    rw [Nat.mul_assoc, Nat.mul_left_comm a 4, ← Nat.mul_assoc]
  have b1 : 4 * Q < R + 1 := sq_lt (by rw [e16]; omega)
  have b2 : R < 4 * (Q + 1) := sq_lt (by rw [e16]; omega)
  have hQ : R / 4 = Q := by omega
  obtain ⟨r0, hr0⟩ : ∃ r0, R = 4 * Q + r0 := ⟨R - 4 * Q, by omega⟩
  have hr4 : r0 < 4 := by omega
  have hex : r0 = 0 → T = 0 → Q * Q = x * 2 ^ 54 := by
    intro a b
    rw [a, Nat.add_zero] at hr0
    rw [b, hr0, e16] at h1
    omega
  have hodd : Q % 2 = 1 → ¬ Q * Q = x * 2 ^ 54 := by
    intro a b
    have : Q * Q % 2 = 1 := by rw [Nat.mul_mod, a]
    omega
  obtain ⟨st, hst⟩ : ∃ st, st = if T = 0 then 0 else 1 := ⟨_, rfl⟩
  have hst1 : st ≤ 1 := by rw [hst]; split <;> omega
  have hst0 : st = 0 → T = 0 := by
    intro h
    rw [hst] at h
    by_cases c : T = 0
    · exact c
    · rw [if_neg c] at h; omega
  rw [← hst]
  unfold Jvm.FP.Core.nearest
  by_cases c : Q % 2 = 1
  · rw [if_neg (hodd c), c]
    have hne : ¬ (r0 = 0 ∧ st = 0) := fun h => hodd c (hex h.1 (hst0 h.2))
    rw [if_neg (by omega), if_pos (by omega)]
    omega
  · have : (if Q * Q = x * 2 ^ 54 then 0 else Q % 2) = 0 := by
      split <;> omega
    rw [this, if_pos (by omega)]
    omega
theorem ref_step {X q m r : Nat} (h1 : 2 * X = 2 * (q * q) + m * (2 * r)) (h0 : 0 < r) : (m < 2 * q + r → 2 * X = 2 * (q * q) + (2 * m) * r ∧ X < (q + r) * (q + r)) ∧ (2 * q + r ≤ m → 2 * X = 2 * ((q + r) * (q + r)) + (2 * (m - (2 * q + r))) * r) := by
  have e1 : m * (2 * r) = 2 * (m * r) := Nat.mul_left_comm m 2 r
  have e2 : (2 * m) * r = 2 * (m * r) := Nat.mul_assoc 2 m r
  have e3 : (2 * q + r) * r = 2 * (q * r) + r * r := by rw [Nat.add_mul, Nat.mul_assoc]
  rw [e1] at h1
  constructor
  · intro h
    have h5 := Nat.mul_lt_mul_of_pos_right h h0
    rw [e3] at h5
    refine ⟨by omega, ?_⟩
    rw [sq_exp]
    omega
  · intro h
    have h5 := Nat.mul_le_mul_right r h
    rw [e3] at h5
    have e4 : (2 * (m - (2 * q + r))) * r = 2 * (m * r - (2 * (q * r) + r * r)) := by
      rw [Nat.mul_assoc, Nat.sub_mul, e3]
    rw [e4, sq_exp]
    omega
theorem ref_bound {X q m U : Nat} (h1 : 2 * X = 2 * (q * q) + m * U) (h2 : X < (q + U) * (q + U)) : m < 4 * q + 2 * U := by
  by_cases c : m < 4 * q + 2 * U
  · exact c
  · have h3 := Nat.mul_le_mul_right U (Nat.le_of_not_lt c)
    have e : (4 * q + 2 * U) * U = 4 * (q * U) + 2 * (U * U) := by rw [Nat.add_mul, Nat.mul_assoc, Nat.mul_assoc]
    rw [e] at h3
    rw [sq_exp] at h2
    omega
/-- the bits of the root -/
def rtV (x : Nat) (E : Int) (Q : Nat) : Nat := (E + 1022).toNat * 2 ^ 52 + (Q + if Q * Q = x * 2 ^ 54 then 0 else Q % 2) / 2
theorem rt_end {x Q : Nat} {E : Int} {k : Nat} (hE1 : -700 ≤ E) (hE2 : E ≤ 700) (hk : k < 2 ^ 60) (hQ : k / 2 = (Q + if Q * Q = x * 2 ^ 54 then 0 else Q % 2) / 2) : (shrL (lI k) 1 + 4602678819172646912) + shlL (Int32.toInt64 (iI E)) 52 = lI (rtV x E Q) := by
  have e1 : shrL (lI k) 1 = lI (k / 2 ^ 1) := (l_shr (k := 1) (by omega) (by decide)).trans (by rw [Nat.shiftRight_eq_div_pow])
  have e2 : Int32.toInt64 (iI E) = jI E := by
    apply Int64.toInt_inj.mp
    rw [Int32.toInt_toInt64, i_toInt (by omega) (by omega), j_toInt (by omega)]
  have e3 : shlL (jI E) 52 = jI (E * 2 ^ 52) := by
    rw [j_mod E, show (52 : Int32) = nI 52 from rfl, l_shld (by decide), j_n]
    rw [j_mod (E * 2 ^ 52), j_mod]
    congr 1
    omega
  rw [e1, e2, e3, show (4602678819172646912 : Int64) = lI (1022 * 2 ^ 52) from rfl, l_add, j_n, j_add, j_n]
  congr 1
  unfold rtV
  rw [Nat.pow_one, hQ]
  omega
theorem lp_246 (d : Nat) (w : Wd) (l0 : UInt64) (l2 : Int64) {x : Nat} {E : Int} (hE1 : -600 ≤ E) (hE2 : E ≤ 600) (n : Nat) : ∀ (i m q : Nat) (l13 : Option Value), 54 = i + n → 2 * (x * 2 ^ 54) = 2 * (q * q) + m * 2 ^ (54 - i) → x * 2 ^ 54 < (q + 2 ^ (54 - i)) * (q + 2 ^ (54 - i)) → q + 2 ^ (54 - i) ≤ 2 ^ 54 → ∃ Q, Q * Q ≤ x * 2 ^ 54 ∧ x * 2 ^ 54 < (Q + 1) * (Q + 1) ∧ Q < 2 ^ 54 ∧ val (246, d + 2, 132, [some (.double l0), none, some (.long l2), none, some (.int (iI E)), some (.long (lI m)), none, some (.long (lI q)), none, some (.long (lI (2 * q))), none, some (.long (lI (2 ^ (54 - i) / 2))), none, l13, none], [], w) = some (some (.double (UInt64.ofNat (rtV x E Q))), w) := by
  have hrt : ∀ Q, Q < 2 ^ 54 → Num (rtV x E Q) := by
    intro Q hQ
    have hi : INF = 2047 * 2 ^ 52 := rfl
    have : rtV x E Q ≤ 1622 * 2 ^ 52 + 2 ^ 54 := by
      unfold rtV
      split <;> omega
    refine ⟨by omega, ?_⟩
    show rtV x E Q % 2 ^ 63 ≤ INF
    omega
  induction n with
  | zero =>
    intro i m q l13 hi h1 h2 h3
    have e : i = 54 := by omega
    subst e
    rw [show 54 - 54 = 0 from rfl, Nat.pow_zero] at h1 h2 h3
    rw [Nat.mul_one] at h1
    refine ⟨q, by omega, h2, by omega, ?_⟩
    have hmb : m < 4 * q + 2 * 1 := ref_bound (U := 1) (by rw [Nat.mul_one]; exact h1) h2
    refine (tr_246_132 d w _ _ _ _ _ _ _ _).trans ?_
    have g : cmpL (lI m) 0 = 0 ↔ m = 0 := by
      rw [cmpL_0]
      exact l_inj (b := 0) (by omega) (by decide)
    rw [if_pos (show cmpL (lI (2 ^ (54 - 54) / 2)) 0 = 0 from cmpL_0.mpr rfl)]
    have hlast : ∀ (k : Nat) (ls : List (Option Value)), k < 2 ^ 60 → k / 2 = (q + if q * q = x * 2 ^ 54 then 0 else q % 2) / 2 → val (246, d + 2, 221, ls, [.long ((shrL (lI k) 1 + 4602678819172646912) + shlL (Int32.toInt64 (iI E)) 52)], w) = val (246, d + 2, 224, ls, [.double (UInt64.ofNat (rtV x E q))], w) := by
      intro k ls hk hkq
      rw [rt_end (by omega) (by omega) hk hkq]
      exact (val_l2d (d := d + 1) rfl (sgn_num (hrt q (by omega)).1 (hrt q (by omega)).2) (by decide)).trans (by rw [lI_u])
    by_cases c : m = 0
    · rw [if_pos (g.mpr c)]
      refine (hlast q _ (by omega) (by rw [if_pos (by omega)]; rfl)).trans ?_
      exact tr_246_224 (l4 := iI E) d w _ _ _ _ _ _ _ _
    · rw [if_neg (fun h => c (g.mp h))]
      have e1 : lI q + (lI q &&& 1) = lI (q + q % 2) := by
        rw [show (1 : Int64) = lI 1 from rfl, l_and, Nat.and_one_is_mod, l_add]
      rw [e1]
      refine (hlast (q + q % 2) _ (by omega) (by rw [if_neg (by omega)])).trans ?_
      exact tr_246_224 (l4 := iI E) d w _ _ _ _ _ _ _ _
  | succ n ih =>
    intro i m q l13 hi h1 h2 h3
    obtain ⟨r, hr⟩ : ∃ r, r = 2 ^ (54 - (i + 1)) := ⟨_, rfl⟩
    have hU : 2 ^ (54 - i) = 2 * r := by
      rw [hr, show 54 - i = 54 - (i + 1) + 1 by omega, Nat.pow_succ, Nat.mul_comm]
    have hr0 : 0 < r := hr ▸ Nat.two_pow_pos _
    rw [hU] at h1 h2 h3
    have hmb := ref_bound h1 h2
    obtain ⟨s1, s2⟩ := ref_step h1 hr0
    have hrr : 2 * r / 2 = r := by omega
    rw [hU, hrr]
    have br := tr_246_132 d w l0 l2 (iI E) (lI m) (lI q) (lI (2 * q)) (lI r) l13
    have g0 : ¬ cmpL (lI r) 0 = 0 := fun h => by
      have := (l_inj (b := 0) (by omega) (by decide)).mp (cmpL_0.mp h)
      omega
    have g1 : 0 < cmpL (lI (2 * q + r)) (lI m) ↔ m < 2 * q + r := by
      rw [cmpL_gt]
      exact l_lt_iff (by omega) (by omega)
    have e1 : shlL (lI m) 1 = lI (2 * m) := (l_shld (k := 1) (by decide)).trans (by rw [Nat.pow_one, Nat.mul_comm])
    have e2 : shrL (lI r) 1 = lI (r / 2) := (l_shr (k := 1) (by omega) (by decide)).trans (by rw [Nat.shiftRight_eq_div_pow, Nat.pow_one])
    rw [if_neg g0, l_add, e1, e2] at br
    by_cases c : m < 2 * q + r
    · rw [if_pos (g1.mpr c)] at br
      obtain ⟨t1, t2⟩ := s1 c
      obtain ⟨Q, q1, q2, q3, q4⟩ := ih (i + 1) (2 * m) q (some (.long (lI (2 * q + r)))) (by omega) (by rw [← hr]; exact t1) (by rw [← hr]; exact t2) (by rw [← hr]; omega)
      rw [← hr] at q4
      exact ⟨Q, q1, q2, q3, br.trans q4⟩
    · have t1 := s2 (by omega)
      have e3 : shlL (lI m - lI (2 * q + r)) 1 = lI (2 * (m - (2 * q + r))) := by
        rw [l_sub (by omega)]
        exact (l_shld (k := 1) (by decide)).trans (by rw [Nat.pow_one, Nat.mul_comm])
      rw [if_neg (fun h => c (g1.mp h)), e3, l_add, l_add, show 2 * q + r + r = 2 * (q + r) by omega] at br
      obtain ⟨Q, q1, q2, q3, q4⟩ := ih (i + 1) (2 * (m - (2 * q + r))) (q + r) (some (.long (lI (2 * q + r)))) (by omega) (by rw [← hr]; exact t1) (by rw [← hr, Nat.add_assoc, show r + r = 2 * r by omega]; exact h2) (by rw [← hr]; omega)
      rw [← hr] at q4
      exact ⟨Q, q1, q2, q3, br.trans q4⟩
theorem m_rootMain (d : Nat) (w : Wd) (l0 : UInt64) (l2 : Int64) {x : Nat} {E : Int} (hx1 : 2 ^ 52 ≤ x) (hx2 : x < 2 ^ 54) (hE1 : -600 ≤ E) (hE2 : E ≤ 600) : ∃ Q, Q * Q ≤ x * 2 ^ 54 ∧ x * 2 ^ 54 < (Q + 1) * (Q + 1) ∧ Q < 2 ^ 54 ∧ val (246, d + 2, 132, [some (.double l0), none, some (.long l2), none, some (.int (iI E)), some (.long (lI (2 * x))), none, some (.long 0), none, some (.long 0), none, some (.long 9007199254740992), none, none, none], [], w) = some (some (.double (UInt64.ofNat (rtV x E Q))), w) :=
  lp_246 d w l0 l2 hE1 hE2 54 0 (2 * x) 0 none rfl (by
    show 2 * (x * 2 ^ 54) = 2 * (0 * 0) + 2 * x * 2 ^ 54
    omega) (by
    show x * 2 ^ 54 < (0 + 2 ^ 54) * (0 + 2 ^ 54)
    omega) (by decide)
