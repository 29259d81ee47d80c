/-! DOUBLES: the reference's guarded operations -/
def Num (x : Nat) : Prop := x < 2 ^ 64 ∧ szB x ≤ INF
theorem num_hi {s : Bool} {m : Nat} (h : m ≤ INF) : Num (s.toNat * 2 ^ 63 + m) := by
  have hi : INF = 2047 * 2 ^ 52 := rfl
  have h2 : ∀ x, szB x = x % 2 ^ 63 := fun _ => rfl
  unfold Num
  rw [h2]
  cases s <;> simp only [Bool.toNat_true, Bool.toNat_false] <;> omega
theorem num_inf (s : Bool) : Num (Jvm.FP.Core.encode Jvm.FP.Core.b64 (.inf s)) := by
  rw [enc_inf]
  exact num_hi (Nat.le_refl _)
theorem num_rr (s : Bool) (n : Nat) {d : Nat} (hd : 0 < d) (e : Int) : Num (Jvm.FP.Core.encode Jvm.FP.Core.b64 (Jvm.FP.Core.roundRatio Jvm.FP.Core.b64 s n d e)) := by
  rcases Nat.eq_zero_or_pos n with h | h
  · subst h
    unfold Jvm.FP.Core.roundRatio
    rw [if_pos rfl, fp_qmin, enc_fin (by decide) (by decide) (Or.inl rfl)]
    exact num_hi (by decide)
  · rw [enc_ratio h hd]
    exact num_hi (Nat.min_le_left _ _)
def NANB : Nat := 9221120237041090560
theorem nan_lt : NANB < 2 ^ 64 := by decide
theorem nan_sz : INF < szB NANB := by decide
/-- the sums that are no numbers -/
def AddBad (a b : Nat) : Prop := INF < szB a ∨ INF < szB b ∨ (szB a = INF ∧ szB b = INF ∧ a ≠ b)
theorem dec_ne_nan {n : Nat} : ∀ x : Jvm.FP.Core.Datum, Jvm.FP.Core.exactSum x .nan = .nan ∧ Jvm.FP.Core.exactProduct x .nan = .nan ∧ Jvm.FP.Core.quotient Jvm.FP.Core.b64 x .nan = .nan ∧ n = n := by
  intro x
  cases x <;> exact ⟨rfl, rfl, rfl, rfl⟩
theorem add_bad {a b : Nat} (ha : a < 2 ^ 64) (hb : b < 2 ^ 64) (h : AddBad a b) : Jvm.FP.Core.add Jvm.FP.Core.b64 a b = NANB := by
  unfold Jvm.FP.Core.add
  rcases h with h | h | ⟨h1, h2, h3⟩
  · rw [dec_nan ha h]
    exact enc_nan
  · rw [dec_nan hb h, (dec_ne_nan (n := 0) _).1]
    exact enc_nan
  · rw [dec_inf ha h1, dec_inf hb h2]
    have hst : ¬ sgB a = sgB b := fun h => h3 (by rw [sg_eq ha, sg_eq hb, h1, h2, h])
    unfold Jvm.FP.Core.exactSum
    dsimp only
    rw [if_neg hst]
    exact enc_nan
theorem add_num {a b : Nat} (ha : a < 2 ^ 64) (hb : b < 2 ^ 64) (h : ¬ AddBad a b) : Num (Jvm.FP.Core.add Jvm.FP.Core.b64 a b) := by
  have h1 : szB a ≤ INF := by
    by_cases c : szB a ≤ INF
    · exact c
    · exact absurd (Or.inl (by omega)) h
  have h2 : szB b ≤ INF := by
    by_cases c : szB b ≤ INF
    · exact c
    · exact absurd (Or.inr (Or.inl (by omega))) h
  unfold Jvm.FP.Core.add
  by_cases ia : szB a = INF
  · rw [dec_inf ha ia]
    by_cases ib : szB b = INF
    · rw [dec_inf hb ib]
      have hab : a = b := by
        by_cases c : a = b
        · exact c
        · exact absurd (Or.inr (Or.inr ⟨ia, ib, c⟩)) h
      unfold Jvm.FP.Core.exactSum
      dsimp only
      rw [if_pos (by rw [hab])]
      exact num_inf _
    · rw [dec_fin hb (by omega)]
      exact num_inf _
  · rw [dec_fin ha (by omega)]
    by_cases ib : szB b = INF
    · rw [dec_inf hb ib]
      exact num_inf _
    · rw [dec_fin hb (by omega)]
      exact num_rr _ _ (by decide) _
theorem sub_add {a b : Nat} (hb : b < 2 ^ 64) : Jvm.FP.Core.sub Jvm.FP.Core.b64 a b = Jvm.FP.Core.add Jvm.FP.Core.b64 a (b ^^^ 2 ^ 63) := by
  unfold Jvm.FP.Core.add Jvm.FP.Core.sub
  rw [dec_neg hb]
theorem xor_hi {b : Nat} (hb : b < 2 ^ 64) : b ^^^ 2 ^ 63 = (!sgB b).toNat * 2 ^ 63 + szB b := by
  have h0 := sz_lt b
  have h1 : ∀ s : Bool, s.toNat * 2 ^ 63 + szB b = s.toNat * 2 ^ 63 ^^^ szB b := by
    intro s
    rw [Nat.mul_comm]
    refine Nat.eq_of_testBit_eq (fun i => ?_)
    rw [Nat.testBit_two_pow_mul_add _ h0, Nat.testBit_xor, Nat.testBit_two_pow_mul]
    by_cases c : i < 63
    · rw [if_pos c, decide_eq_false (by omega)]
      cases (szB b).testBit i <;> rfl
    · rw [if_neg c, decide_eq_true (by omega), Nat.testBit_lt_two_pow (Nat.lt_of_lt_of_le h0 (Nat.pow_le_pow_right (by decide) (by omega)))]
      cases s.toNat.testBit (i - 63) <;> rfl
  rw [h1]
  conv => lhs; rw [sg_eq hb, h1]
  rw [Nat.xor_assoc, Nat.xor_comm (szB b), ← Nat.xor_assoc]
  cases sgB b <;> rfl
theorem hi_parts {s : Bool} {m : Nat} (h : m < 2 ^ 63) : szB (s.toNat * 2 ^ 63 + m) = m ∧ sgB (s.toNat * 2 ^ 63 + m) = s ∧ s.toNat * 2 ^ 63 + m < 2 ^ 64 := by
  have h2 : ∀ x, szB x = x % 2 ^ 63 := fun _ => rfl
  rw [h2]
  unfold sgB
  cases s
  · exact ⟨by simp only [Bool.toNat_false]; omega, decide_eq_false (by simp only [Bool.toNat_false]; omega), by simp only [Bool.toNat_false]; omega⟩
  · exact ⟨by simp only [Bool.toNat_true]; omega, decide_eq_true (by simp only [Bool.toNat_true]; omega), by simp only [Bool.toNat_true]; omega⟩
theorem xor_sz {b : Nat} (hb : b < 2 ^ 64) : szB (b ^^^ 2 ^ 63) = szB b ∧ sgB (b ^^^ 2 ^ 63) = !sgB b := by
  rw [xor_hi hb]
  have := hi_parts (s := !sgB b) (sz_lt b)
  exact ⟨this.1, this.2.1⟩
theorem sg_ext {a b : Nat} (ha : a < 2 ^ 64) (hb : b < 2 ^ 64) (h1 : szB a = szB b) (h2 : sgB a = sgB b) : a = b := by
  rw [sg_eq ha, sg_eq hb, h1, h2]
/-- the differences that are no numbers -/
def SubBad (a b : Nat) : Prop := INF < szB a ∨ INF < szB b ∨ (szB a = INF ∧ szB b = INF ∧ a = b)
theorem sub_bad_iff {a b : Nat} (ha : a < 2 ^ 64) (hb : b < 2 ^ 64) : AddBad a (b ^^^ 2 ^ 63) ↔ SubBad a b := by
  obtain ⟨e1, e2⟩ := xor_sz hb
  unfold AddBad SubBad
  rw [e1]
  have e3 : szB a = INF → szB b = INF → (a ≠ b ^^^ 2 ^ 63 ↔ a = b) := by
    intro ia ib
    constructor
    · intro h
      refine sg_ext ha hb (ia.trans ib.symm) ?_
      have h5 : sgB a ≠ !sgB b := fun h6 => h (sg_ext ha (xor_lt hb) (by rw [ia, e1, ib]) (by rw [h6, e2]))
      generalize sgB a = x at h5
      generalize sgB b = y at h5
      revert h5
      revert x y
      decide
    · intro h h2
      have h5 := congrArg sgB h2
      rw [e2, h] at h5
      generalize sgB b = y at h5
      revert h5
      revert y
      decide
  constructor
  · rintro (h | h | ⟨h1, h2, h3⟩)
    · exact Or.inl h
    · exact Or.inr (Or.inl h)
    · exact Or.inr (Or.inr ⟨h1, h2, (e3 h1 h2).mp h3⟩)
  · rintro (h | h | ⟨h1, h2, h3⟩)
    · exact Or.inl h
    · exact Or.inr (Or.inl h)
    · exact Or.inr (Or.inr ⟨h1, h2, (e3 h1 h2).mpr h3⟩)
theorem sub_bad {a b : Nat} (ha : a < 2 ^ 64) (hb : b < 2 ^ 64) (h : SubBad a b) : Jvm.FP.Core.sub Jvm.FP.Core.b64 a b = NANB := by
  rw [sub_add hb]
  exact add_bad ha (xor_lt hb) ((sub_bad_iff ha hb).mpr h)
theorem sub_num {a b : Nat} (ha : a < 2 ^ 64) (hb : b < 2 ^ 64) (h : ¬ SubBad a b) : Num (Jvm.FP.Core.sub Jvm.FP.Core.b64 a b) := by
  rw [sub_add hb]
  exact add_num ha (xor_lt hb) (fun g => h ((sub_bad_iff ha hb).mp g))
/-- the products that are no numbers -/
def MulBad (a b : Nat) : Prop := INF < szB a ∨ INF < szB b ∨ (szB a = INF ∧ szB b = 0) ∨ (szB b = INF ∧ szB a = 0)
theorem mul_bad {a b : Nat} (ha : a < 2 ^ 64) (hb : b < 2 ^ 64) (h : MulBad a b) : Jvm.FP.Core.mul Jvm.FP.Core.b64 a b = NANB := by
  unfold Jvm.FP.Core.mul
  rcases h with h | h | ⟨h1, h2⟩ | ⟨h1, h2⟩
  · rw [dec_nan ha h]
    exact enc_nan
  · rw [dec_nan hb h, (dec_ne_nan (n := 0) _).2.1]
    exact enc_nan
  · rw [dec_inf ha h1, dec_fin hb (by rw [h2]; decide), h2]
    exact enc_nan
  · rw [dec_inf hb h1, dec_fin ha (by rw [h2]; decide), h2]
    exact enc_nan
theorem mul_num {a b : Nat} (ha : a < 2 ^ 64) (hb : b < 2 ^ 64) (h : ¬ MulBad a b) : Num (Jvm.FP.Core.mul Jvm.FP.Core.b64 a b) := by
  have h1 : szB a ≤ INF := by
    by_cases c : szB a ≤ INF
    · exact c
    · exact absurd (Or.inl (by omega)) h
  have h2 : szB b ≤ INF := by
    by_cases c : szB b ≤ INF
    · exact c
    · exact absurd (Or.inr (Or.inl (by omega))) h
  unfold Jvm.FP.Core.mul
  by_cases ia : szB a = INF
  · rw [dec_inf ha ia]
    by_cases ib : szB b = INF
    · rw [dec_inf hb ib]
      exact num_inf _
    · rw [dec_fin hb (by omega)]
      unfold Jvm.FP.Core.exactProduct
      dsimp only
      rw [if_neg (fun g => h (Or.inr (Or.inr (Or.inl ⟨ia, (cf_0 (sz_lt b)).mp g⟩))))]
      exact num_inf _
  · rw [dec_fin ha (by omega)]
    by_cases ib : szB b = INF
    · rw [dec_inf hb ib]
      unfold Jvm.FP.Core.exactProduct
      dsimp only
      rw [if_neg (fun g => h (Or.inr (Or.inr (Or.inr ⟨ib, (cf_0 (sz_lt a)).mp g⟩))))]
      exact num_inf _
    · rw [dec_fin hb (by omega)]
      exact num_rr _ _ (by decide) _
/-- the quotients that are no numbers -/
def DivBad (a b : Nat) : Prop := INF < szB a ∨ INF < szB b ∨ (szB a = INF ∧ szB b = INF) ∨ (szB a = 0 ∧ szB b = 0)
theorem div_bad {a b : Nat} (ha : a < 2 ^ 64) (hb : b < 2 ^ 64) (h : DivBad a b) : Jvm.FP.Core.div Jvm.FP.Core.b64 a b = NANB := by
  unfold Jvm.FP.Core.div
  rcases h with h | h | ⟨h1, h2⟩ | ⟨h1, h2⟩
  · rw [dec_nan ha h]
    exact enc_nan
  · rw [dec_nan hb h, (dec_ne_nan (n := 0) _).2.2.1]
    exact enc_nan
  · rw [dec_inf ha h1, dec_inf hb h2]
    exact enc_nan
  · rw [dec_fin ha (by rw [h1]; decide), dec_fin hb (by rw [h2]; decide), h1, h2]
    exact enc_nan
theorem div_num {a b : Nat} (ha : a < 2 ^ 64) (hb : b < 2 ^ 64) (h : ¬ DivBad a b) : Num (Jvm.FP.Core.div Jvm.FP.Core.b64 a b) := by
  have h1 : szB a ≤ INF := by
    by_cases c : szB a ≤ INF
    · exact c
    · exact absurd (Or.inl (by omega)) h
  have h2 : szB b ≤ INF := by
    by_cases c : szB b ≤ INF
    · exact c
    · exact absurd (Or.inr (Or.inl (by omega))) h
  unfold Jvm.FP.Core.div
  by_cases ia : szB a = INF
  · rw [dec_inf ha ia]
    by_cases ib : szB b = INF
    · exact absurd (Or.inr (Or.inr (Or.inl ⟨ia, ib⟩))) h
    · rw [dec_fin hb (by omega)]
      exact num_inf _
  · rw [dec_fin ha (by omega)]
    by_cases ib : szB b = INF
    · rw [dec_inf hb ib]
      unfold Jvm.FP.Core.quotient
      dsimp only
      have := num_hi (s := (sgB a != sgB b)) (m := 0) (by decide)
      rw [fp_qmin, enc_fin (by decide) (by decide) (Or.inl rfl)]
      exact this
    · rw [dec_fin hb (by omega)]
      unfold Jvm.FP.Core.quotient
      dsimp only
      by_cases zb : cfB (szB b) = 0
      · rw [if_pos zb]
        by_cases za : cfB (szB a) = 0
        · exact absurd (Or.inr (Or.inr (Or.inr ⟨(cf_0 (sz_lt a)).mp za, (cf_0 (sz_lt b)).mp zb⟩))) h
        · rw [if_neg za]
          exact num_inf _
      · rw [if_neg zb]
        exact num_rr _ _ (Nat.pos_of_ne_zero zb) _
/-! as machine words -/
theorem u_lt {a : Nat} (ha : a < 2 ^ 64) : (UInt64.ofNat a).toNat = a := UInt64.toNat_ofNat_of_lt' ha
theorem u_add {a b : Nat} (ha : a < 2 ^ 64) (hb : b < 2 ^ 64) : FP.dadd (UInt64.ofNat a) (UInt64.ofNat b) = UInt64.ofNat (Jvm.FP.Core.add Jvm.FP.Core.b64 a b) := by
  show UInt64.ofNat (Jvm.FP.Core.add Jvm.FP.Core.b64 (UInt64.ofNat a).toNat (UInt64.ofNat b).toNat) = _
  rw [u_lt ha, u_lt hb]
theorem u_sub {a b : Nat} (ha : a < 2 ^ 64) (hb : b < 2 ^ 64) : FP.dsub (UInt64.ofNat a) (UInt64.ofNat b) = UInt64.ofNat (Jvm.FP.Core.sub Jvm.FP.Core.b64 a b) := by
  show UInt64.ofNat (Jvm.FP.Core.sub Jvm.FP.Core.b64 (UInt64.ofNat a).toNat (UInt64.ofNat b).toNat) = _
  rw [u_lt ha, u_lt hb]
theorem u_mul {a b : Nat} (ha : a < 2 ^ 64) (hb : b < 2 ^ 64) : FP.dmul (UInt64.ofNat a) (UInt64.ofNat b) = UInt64.ofNat (Jvm.FP.Core.mul Jvm.FP.Core.b64 a b) := by
  show UInt64.ofNat (Jvm.FP.Core.mul Jvm.FP.Core.b64 (UInt64.ofNat a).toNat (UInt64.ofNat b).toNat) = _
  rw [u_lt ha, u_lt hb]
theorem u_div {a b : Nat} (ha : a < 2 ^ 64) (hb : b < 2 ^ 64) : FP.ddiv (UInt64.ofNat a) (UInt64.ofNat b) = UInt64.ofNat (Jvm.FP.Core.div Jvm.FP.Core.b64 a b) := by
  show UInt64.ofNat (Jvm.FP.Core.div Jvm.FP.Core.b64 (UInt64.ofNat a).toNat (UInt64.ofNat b).toNat) = _
  rw [u_lt ha, u_lt hb]
theorem nN_num {a : Nat} (h : Num a) : nN (UInt64.ofNat a) = true := by
  have h2 : INF = 9218868437227405312 := rfl
  unfold nN
  refine decide_eq_true (UInt64.le_iff_toNat_le.mpr ?_)
  rw [u_sz h.1]
  have e : (0x7ff0000000000000 : UInt64).toNat = 9218868437227405312 := by decide
  have := h.2
  omega
section CMP
variable {a b : Nat} {k : CmpOp}
theorem dcv (ha : Num a) (hb : Num b) : Op.cmpValue (FP.dcmp (UInt64.ofNat a) (UInt64.ofNat b)) k = if lvB a < lvB b then -1 else if lvB a = lvB b then 0 else 1 := by
  rw [ucmp a b ha.1 hb.1, dcmp_num ha.1 hb.1 ha.2 hb.2]
  have e : compare (lvB a) (lvB b) = compareOfLessAndEq (lvB a) (lvB b) := rfl
  rw [e]
  unfold compareOfLessAndEq
  split
  · rfl
  · split <;> rfl
theorem cmp_eq (ha : Num a) (hb : Num b) : Op.cmpValue (FP.dcmp (UInt64.ofNat a) (UInt64.ofNat b)) k = 0 ↔ lvB a = lvB b := by
  rw [dcv ha hb]
  split
  · exact ⟨fun h => absurd h (by decide), fun h => by omega⟩
  · split
    · exact ⟨fun _ => by assumption, fun _ => rfl⟩
    · exact ⟨fun h => absurd h (by decide), fun h => by omega⟩
theorem cmp_gt (ha : Num a) (hb : Num b) : 0 < Op.cmpValue (FP.dcmp (UInt64.ofNat a) (UInt64.ofNat b)) k ↔ lvB b < lvB a := by
  rw [dcv ha hb]
  split
  · exact ⟨fun h => absurd h (by decide), fun h => by omega⟩
  · split
    · exact ⟨fun h => absurd h (by decide), fun h => by omega⟩
    · exact ⟨fun _ => by omega, fun _ => by decide⟩
theorem cmp_ge (ha : Num a) (hb : Num b) : 0 ≤ Op.cmpValue (FP.dcmp (UInt64.ofNat a) (UInt64.ofNat b)) k ↔ lvB b ≤ lvB a := by
  rw [dcv ha hb]
  split
  · exact ⟨fun h => absurd h (by decide), fun h => by omega⟩
  · split
    · exact ⟨fun _ => by omega, fun _ => by decide⟩
    · exact ⟨fun _ => by omega, fun _ => by decide⟩
theorem cmp_le (ha : Num a) (hb : Num b) : Op.cmpValue (FP.dcmp (UInt64.ofNat a) (UInt64.ofNat b)) k ≤ 0 ↔ lvB a ≤ lvB b := by
  rw [dcv ha hb]
  split
  · exact ⟨fun _ => by omega, fun _ => by decide⟩
  · split
    · exact ⟨fun _ => by omega, fun _ => by decide⟩
    · exact ⟨fun h => absurd h (by decide), fun h => by omega⟩
end CMP
theorem lv_0 {a : Nat} : lvB a = 0 ↔ szB a = 0 := by
  unfold lvB Jvm.FP.Core.signed
  cases sgB a <;> simp only [if_true, Bool.false_eq_true, if_false] <;> omega
theorem lv_pos {a : Nat} (h : sgB a = false) : lvB a = szB a := by
  unfold lvB Jvm.FP.Core.signed
  rw [h]
  rfl
theorem lv_neg {a : Nat} (h : sgB a = true) : lvB a = -(szB a : Int) := by
  unfold lvB Jvm.FP.Core.signed
  rw [h]
  rfl
theorem lv_inj {a b : Nat} (ha : a < 2 ^ 64) (hb : b < 2 ^ 64) (h0 : szB a ≠ 0) (h : lvB a = lvB b) : a = b := by
  have h1 : szB a = szB b ∧ sgB a = sgB b := by
    unfold lvB Jvm.FP.Core.signed at h
    cases sa : sgB a <;> cases sb : sgB b <;> rw [sa, sb] at h <;> simp only [if_true, Bool.false_eq_true, if_false] at h
    · exact ⟨by omega, rfl⟩
    · omega
    · omega
    · exact ⟨by omega, rfl⟩
  exact sg_ext ha hb h1.1 h1.2
theorem m_endless (d : Nat) (w : Wd) {a : Nat} (ha : Num a) : val (239, d, 0, [some (.double (UInt64.ofNat a)), none], [], w) = some (some (.int (if szB a = INF then 1 else 0)), w) := by
  refine (tr_239 d w _).trans ?_
  have hi : INF = 9218868437227405312 := rfl
  have n1 : Num 9218868437227405311 := ⟨by decide, by decide⟩
  have n2 : Num 18442240474082181119 := ⟨by decide, by decide⟩
  have v1 : lvB 9218868437227405311 = 9218868437227405311 := by decide
  have v2 : lvB 18442240474082181119 = -9218868437227405311 := by decide
  have g1 := cmp_gt (k := .l) ha n1
  have g2 := cmp_ge (k := .g) ha n2
  rw [v1] at g1
  rw [v2] at g2
  have hs := ha.2
  have hl : (lvB a = szB a ∧ sgB a = false) ∨ (lvB a = -(szB a : Int) ∧ sgB a = true) := by
    cases s : sgB a
    · exact Or.inl ⟨lv_pos s, rfl⟩
    · exact Or.inr ⟨lv_neg s, rfl⟩
  by_cases c : szB a = INF
  · rw [if_pos c]
    by_cases c1 : (9218868437227405311 : Int) < lvB a
    · exact if_pos (g1.mpr c1)
    · refine (if_neg (fun h => c1 (g1.mp h))).trans (if_neg (fun h => ?_))
      have := g2.mp h
      omega
  · rw [if_neg c]
    refine (if_neg (fun h => ?_)).trans (if_pos (g2.mpr ?_))
    · have := g1.mp h
      omega
    · omega
theorem same_num {a : Nat} (ha : Num a) : ¬ ¬ (Op.cmpValue (FP.dcmp (UInt64.ofNat a) (UInt64.ofNat a)) .l) = 0 := fun h => h ((m_same ha.1).mpr ha.2)
theorem m_plus (d : Nat) (w : Wd) {a b : Nat} (ha : a < 2 ^ 64) (hb : b < 2 ^ 64) : val (240, d + 2, 0, [some (.double (UInt64.ofNat a)), none, some (.double (UInt64.ofNat b)), none], [], w) = some (some (.double (UInt64.ofNat (Jvm.FP.Core.add Jvm.FP.Core.b64 a b))), w) := by
  have hend : AddBad a b → val (240, d + 2, 32, [some (.double (UInt64.ofNat a)), none, some (.double (UInt64.ofNat b)), none], [], w) = some (some (.double (UInt64.ofNat (Jvm.FP.Core.add Jvm.FP.Core.b64 a b))), w) := by
    intro h
    rw [add_bad ha hb h]
    refine (val_call (pc2 := 35) rfl rfl rfl rfl rfl (Nat.le_of_ble_eq_true rfl) (Nat.le_of_ble_eq_true rfl) rfl (m_noReal d w) rfl).trans ?_
    exact tr_240_35 d w _ _ _
  refine (tr_240 d w _ _).trans ?_
  by_cases na : szB a ≤ INF
  · rw [if_neg (fun h => h ((m_same ha).mpr na))]
    by_cases nb : szB b ≤ INF
    · rw [if_neg (fun h => h ((m_same hb).mpr nb))]
      have Na : Num a := ⟨ha, na⟩
      have Nb : Num b := ⟨hb, nb⟩
      have hn : ¬ AddBad a b → nN (FP.dadd (UInt64.ofNat a) (UInt64.ofNat b)) = true := fun h => by
        rw [u_add ha hb]
        exact nN_num (add_num ha hb h)
      refine (val_call (pc2 := 16) rfl rfl rfl rfl rfl (Nat.le_of_ble_eq_true rfl) (Nat.le_of_ble_eq_true rfl) rfl (m_endless (d + 1) w Na) rfl).trans ?_
      by_cases ia : szB a = INF
      · rw [if_pos ia]
        refine (tr_240_16 d w _ _ _ (fun h => absurd h (by decide))).trans ?_
        rw [if_neg (by decide)]
        refine (val_call (pc2 := 23) rfl rfl rfl rfl rfl (Nat.le_of_ble_eq_true rfl) (Nat.le_of_ble_eq_true rfl) rfl (m_endless (d + 1) w Nb) rfl).trans ?_
        by_cases ib : szB b = INF
        · rw [if_pos ib]
          by_cases e : a = b
          · have hnb : ¬ AddBad a b := by
              rintro (h | h | h)
              · omega
              · omega
              · exact h.2.2 e
            refine (tr_240_23 d w _ _ _ (fun h => absurd h (by decide)) (fun _ _ => hn hnb)).trans ?_
            rw [if_neg (by decide), if_pos ((cmp_eq Na Nb).mpr (by rw [e])), u_add ha hb]
          · have hbd : AddBad a b := Or.inr (Or.inr ⟨ia, ib, e⟩)
            have hne : ¬ lvB a = lvB b := fun h => e (lv_inj ha hb (by rw [ia]; decide) h)
            refine (tr_240_23 d w _ _ _ (fun h => absurd h (by decide)) (fun _ h => absurd ((cmp_eq Na Nb).mp h) hne)).trans ?_
            rw [if_neg (by decide), if_neg (fun h => hne ((cmp_eq Na Nb).mp h))]
            exact hend hbd
        · rw [if_neg ib]
          have hnb : ¬ AddBad a b := by
            rintro (h | h | h)
            · omega
            · omega
            · exact ib h.2.1
          refine (tr_240_23 d w _ _ _ (fun _ => hn hnb) (fun h _ => absurd rfl h)).trans ?_
          rw [if_pos rfl, u_add ha hb]
      · rw [if_neg ia]
        have hnb : ¬ AddBad a b := by
          rintro (h | h | h)
          · omega
          · omega
          · exact ia h.1
        refine (tr_240_16 d w _ _ _ (fun _ => hn hnb)).trans ?_
        rw [if_pos rfl, u_add ha hb]
    · rw [if_pos (fun h => nb ((m_same hb).mp h))]
      exact hend (Or.inr (Or.inl (by omega)))
  · rw [if_pos (fun h => na ((m_same ha).mp h))]
    exact hend (Or.inl (by omega))
theorem m_less2 (d : Nat) (w : Wd) {a b : Nat} (ha : a < 2 ^ 64) (hb : b < 2 ^ 64) : val (241, d + 2, 0, [some (.double (UInt64.ofNat a)), none, some (.double (UInt64.ofNat b)), none], [], w) = some (some (.double (UInt64.ofNat (Jvm.FP.Core.sub Jvm.FP.Core.b64 a b))), w) := by
  have hend : SubBad a b → val (241, d + 2, 32, [some (.double (UInt64.ofNat a)), none, some (.double (UInt64.ofNat b)), none], [], w) = some (some (.double (UInt64.ofNat (Jvm.FP.Core.sub Jvm.FP.Core.b64 a b))), w) := by
    intro h
    rw [sub_bad ha hb h]
    refine (val_call (pc2 := 35) rfl rfl rfl rfl rfl (Nat.le_of_ble_eq_true rfl) (Nat.le_of_ble_eq_true rfl) rfl (m_noReal d w) rfl).trans ?_
    exact tr_241_35 d w _ _ _
  refine (tr_241 d w _ _).trans ?_
  by_cases na : szB a ≤ INF
  · rw [if_neg (fun h => h ((m_same ha).mpr na))]
    by_cases nb : szB b ≤ INF
    · rw [if_neg (fun h => h ((m_same hb).mpr nb))]
      have Na : Num a := ⟨ha, na⟩
      have Nb : Num b := ⟨hb, nb⟩
      have hn : ¬ SubBad a b → nN (FP.dsub (UInt64.ofNat a) (UInt64.ofNat b)) = true := fun h => by
        rw [u_sub ha hb]
        exact nN_num (sub_num ha hb h)
      refine (val_call (pc2 := 16) rfl rfl rfl rfl rfl (Nat.le_of_ble_eq_true rfl) (Nat.le_of_ble_eq_true rfl) rfl (m_endless (d + 1) w Na) rfl).trans ?_
      by_cases ia : szB a = INF
      · rw [if_pos ia]
        refine (tr_241_16 d w _ _ _ (fun h => absurd h (by decide))).trans ?_
        rw [if_neg (by decide)]
        refine (val_call (pc2 := 23) rfl rfl rfl rfl rfl (Nat.le_of_ble_eq_true rfl) (Nat.le_of_ble_eq_true rfl) rfl (m_endless (d + 1) w Nb) rfl).trans ?_
        by_cases ib : szB b = INF
        · rw [if_pos ib]
          by_cases e : a = b
          · have hbd : SubBad a b := Or.inr (Or.inr ⟨ia, ib, e⟩)
            have he : Op.cmpValue (FP.dcmp (UInt64.ofNat a) (UInt64.ofNat b)) .l = 0 := (cmp_eq Na Nb).mpr (by rw [e])
            refine (tr_241_23 d w _ _ _ (fun h => absurd h (by decide)) (fun _ h => absurd he h)).trans ?_
            rw [if_neg (by decide), if_neg (fun h => h he)]
            exact hend hbd
          · have hnb : ¬ SubBad a b := by
              rintro (h | h | h)
              · omega
              · omega
              · exact e h.2.2
            have hne : ¬ lvB a = lvB b := fun h => e (lv_inj ha hb (by rw [ia]; decide) h)
            refine (tr_241_23 d w _ _ _ (fun h => absurd h (by decide)) (fun _ _ => hn hnb)).trans ?_
            rw [if_neg (by decide), if_pos (fun h => hne ((cmp_eq Na Nb).mp h)), u_sub ha hb]
        · rw [if_neg ib]
          have hnb : ¬ SubBad a b := by
            rintro (h | h | h)
            · omega
            · omega
            · exact ib h.2.1
          refine (tr_241_23 d w _ _ _ (fun _ => hn hnb) (fun h _ => absurd rfl h)).trans ?_
          rw [if_pos rfl, u_sub ha hb]
      · rw [if_neg ia]
        have hnb : ¬ SubBad a b := by
          rintro (h | h | h)
          · omega
          · omega
          · exact ia h.1
        refine (tr_241_16 d w _ _ _ (fun _ => hn hnb)).trans ?_
        rw [if_pos rfl, u_sub ha hb]
    · rw [if_pos (fun h => nb ((m_same hb).mp h))]
      exact hend (Or.inr (Or.inl (by omega)))
  · rw [if_pos (fun h => na ((m_same ha).mp h))]
    exact hend (Or.inl (by omega))
theorem m_timesR (d : Nat) (w : Wd) {a b : Nat} (ha : a < 2 ^ 64) (hb : b < 2 ^ 64) : val (242, d + 2, 0, [some (.double (UInt64.ofNat a)), none, some (.double (UInt64.ofNat b)), none], [], w) = some (some (.double (UInt64.ofNat (Jvm.FP.Core.mul Jvm.FP.Core.b64 a b))), w) := by
  have hend : MulBad a b → val (242, d + 2, 38, [some (.double (UInt64.ofNat a)), none, some (.double (UInt64.ofNat b)), none], [], w) = some (some (.double (UInt64.ofNat (Jvm.FP.Core.mul Jvm.FP.Core.b64 a b))), w) := by
    intro h
    rw [mul_bad ha hb h]
    refine (val_call (pc2 := 41) rfl rfl rfl rfl rfl (Nat.le_of_ble_eq_true rfl) (Nat.le_of_ble_eq_true rfl) rfl (m_noReal d w) rfl).trans ?_
    exact tr_242_41 d w _ _ _
  refine (tr_242 d w _ _).trans ?_
  have n0 : Num 0 := ⟨by decide, by decide⟩
  have z0 : ∀ {x : Nat}, Num x → (Op.cmpValue (FP.dcmp (UInt64.ofNat x) 0) .l = 0 ↔ szB x = 0) := fun {x} hx => (cmp_eq (b := 0) hx n0).trans (by
    rw [show lvB 0 = 0 by decide]
    exact lv_0)
  by_cases na : szB a ≤ INF
  · rw [if_neg (fun h => h ((m_same ha).mpr na))]
    by_cases nb : szB b ≤ INF
    · rw [if_neg (fun h => h ((m_same hb).mpr nb))]
      have Na : Num a := ⟨ha, na⟩
      have Nb : Num b := ⟨hb, nb⟩
      have hn : ¬ MulBad a b → nN (FP.dmul (UInt64.ofNat a) (UInt64.ofNat b)) = true := fun h => by
        rw [u_mul ha hb]
        exact nN_num (mul_num ha hb h)
      have h26 : ¬ (szB a = INF ∧ szB b = 0) → val (242, d + 2, 26, [some (.double (UInt64.ofNat a)), none, some (.double (UInt64.ofNat b)), none], [.double (UInt64.ofNat b)], w) = some (some (.double (UInt64.ofNat (Jvm.FP.Core.mul Jvm.FP.Core.b64 a b))), w) := by
        intro h1
        refine (val_call (pc2 := 29) rfl rfl rfl rfl rfl (Nat.le_of_ble_eq_true rfl) (Nat.le_of_ble_eq_true rfl) rfl (m_endless (d + 1) w Nb) rfl).trans ?_
        by_cases ib : szB b = INF
        · rw [if_pos ib]
          by_cases za : szB a = 0
          · refine (tr_242_29 d w _ _ _ (fun h => absurd h (by decide)) (fun _ h => absurd ((z0 Na).mpr za) h)).trans ?_
            rw [if_neg (by decide), if_neg (fun h => h ((z0 Na).mpr za))]
            exact hend (Or.inr (Or.inr (Or.inr ⟨ib, za⟩)))
          · have hnb : ¬ MulBad a b := by
              rintro (h | h | h | h)
              · omega
              · omega
              · exact h1 h
              · exact za h.2
            refine (tr_242_29 d w _ _ _ (fun h => absurd h (by decide)) (fun _ _ => hn hnb)).trans ?_
            rw [if_neg (by decide), if_pos (fun h => za ((z0 Na).mp h)), u_mul ha hb]
        · rw [if_neg ib]
          have hnb : ¬ MulBad a b := by
            rintro (h | h | h | h)
            · omega
            · omega
            · exact h1 h
            · exact ib h.1
          refine (tr_242_29 d w _ _ _ (fun _ => hn hnb) (fun h _ => absurd rfl h)).trans ?_
          rw [if_pos rfl, u_mul ha hb]
      refine (val_call (pc2 := 16) rfl rfl rfl rfl rfl (Nat.le_of_ble_eq_true rfl) (Nat.le_of_ble_eq_true rfl) rfl (m_endless (d + 1) w Na) rfl).trans ?_
      refine (tr_242_16 d w _ _ _).trans ?_
      by_cases ia : szB a = INF
      · rw [if_pos ia, if_neg (by decide)]
        by_cases zb : szB b = 0
        · rw [if_pos ((z0 Nb).mpr zb)]
          exact hend (Or.inr (Or.inr (Or.inl ⟨ia, zb⟩)))
        · rw [if_neg (fun h => zb ((z0 Nb).mp h))]
          exact h26 (fun h => zb h.2)
      · rw [if_neg ia, if_pos rfl]
        exact h26 (fun h => ia h.1)
    · rw [if_pos (fun h => nb ((m_same hb).mp h))]
      exact hend (Or.inr (Or.inl (by omega)))
  · rw [if_pos (fun h => na ((m_same ha).mp h))]
    exact hend (Or.inl (by omega))
theorem m_over (d : Nat) (w : Wd) {a b : Nat} (ha : a < 2 ^ 64) (hb : b < 2 ^ 64) : val (243, d + 2, 0, [some (.double (UInt64.ofNat a)), none, some (.double (UInt64.ofNat b)), none], [], w) = some (some (.double (UInt64.ofNat (Jvm.FP.Core.div Jvm.FP.Core.b64 a b))), w) := by
  have hend : DivBad a b → val (243, d + 2, 38, [some (.double (UInt64.ofNat a)), none, some (.double (UInt64.ofNat b)), none], [], w) = some (some (.double (UInt64.ofNat (Jvm.FP.Core.div Jvm.FP.Core.b64 a b))), w) := by
    intro h
    rw [div_bad ha hb h]
    refine (val_call (pc2 := 41) rfl rfl rfl rfl rfl (Nat.le_of_ble_eq_true rfl) (Nat.le_of_ble_eq_true rfl) rfl (m_noReal d w) rfl).trans ?_
    exact tr_243_41 d w _ _ _
  refine (tr_243 d w _ _).trans ?_
  have n0 : Num 0 := ⟨by decide, by decide⟩
  have z0 : ∀ {x : Nat}, Num x → (Op.cmpValue (FP.dcmp (UInt64.ofNat x) 0) .l = 0 ↔ szB x = 0) := fun {x} hx => (cmp_eq (b := 0) hx n0).trans (by
    rw [show lvB 0 = 0 by decide]
    exact lv_0)
  by_cases na : szB a ≤ INF
  · rw [if_neg (fun h => h ((m_same ha).mpr na))]
    by_cases nb : szB b ≤ INF
    · rw [if_neg (fun h => h ((m_same hb).mpr nb))]
      have Na : Num a := ⟨ha, na⟩
      have Nb : Num b := ⟨hb, nb⟩
      have hn : ¬ DivBad a b → nN (FP.ddiv (UInt64.ofNat a) (UInt64.ofNat b)) = true := fun h => by
        rw [u_div ha hb]
        exact nN_num (div_num ha hb h)
      have hz : ∀ {P : Prop}, ¬ (szB a = INF ∧ szB b = INF) → (szB a = 0 ∧ szB b = 0 → P) → (¬ (szB a = 0 ∧ szB b = 0) → ¬ DivBad a b) := by
        intro P h1 _ h2
        rintro (h | h | h | h)
        · omega
        · omega
        · exact h1 h
        · exact h2 h
      refine (val_call (pc2 := 16) rfl rfl rfl rfl rfl (Nat.le_of_ble_eq_true rfl) (Nat.le_of_ble_eq_true rfl) rfl (m_endless (d + 1) w Na) rfl).trans ?_
      by_cases ia : szB a = INF
      · rw [if_pos ia]
        refine (tr_243_16 d w _ _ _ (fun h => absurd h (by decide)) (fun h => absurd h (by decide))).trans ?_
        rw [if_neg (by decide)]
        refine (val_call (pc2 := 23) rfl rfl rfl rfl rfl (Nat.le_of_ble_eq_true rfl) (Nat.le_of_ble_eq_true rfl) rfl (m_endless (d + 1) w Nb) rfl).trans ?_
        by_cases ib : szB b = INF
        · rw [if_pos ib]
          refine (tr_243_23 d w _ _ _ (fun h => absurd (show ¬ (1 : Int32) = 0 by decide) h) (fun h => absurd (show ¬ (1 : Int32) = 0 by decide) h)).trans ?_
          rw [if_pos (by decide)]
          exact hend (Or.inr (Or.inr (Or.inl ⟨ia, ib⟩)))
        · rw [if_neg ib]
          have hza : ¬ szB a = 0 := by
            rw [ia]
            decide
          have hnb : ¬ DivBad a b := hz (P := True) (fun h => ib h.2) (fun _ => trivial) (fun h => hza h.1)
          refine (tr_243_23 d w _ _ _ (fun _ _ => hn hnb) (fun _ _ _ => hn hnb)).trans ?_
          rw [if_neg (fun h => h rfl), if_pos (fun h => hza ((z0 Na).mp h)), u_div ha hb]
      · rw [if_neg ia]
        have h1 : ¬ (szB a = INF ∧ szB b = INF) := fun h => ia h.1
        by_cases za : szB a = 0
        · by_cases zb : szB b = 0
          · refine (tr_243_16 d w _ _ _ (fun _ h => absurd ((z0 Na).mpr za) h) (fun _ _ h => absurd ((z0 Nb).mpr zb) h)).trans ?_
            rw [if_pos rfl, if_neg (fun h => h ((z0 Na).mpr za)), if_neg (fun h => h ((z0 Nb).mpr zb))]
            exact hend (Or.inr (Or.inr (Or.inr ⟨za, zb⟩)))
          · have hnb : ¬ DivBad a b := hz (P := True) h1 (fun _ => trivial) (fun h => zb h.2)
            refine (tr_243_16 d w _ _ _ (fun _ _ => hn hnb) (fun _ _ _ => hn hnb)).trans ?_
            rw [if_pos rfl, if_neg (fun h => h ((z0 Na).mpr za)), if_pos (fun h => zb ((z0 Nb).mp h)), u_div ha hb]
        · have hnb : ¬ DivBad a b := hz (P := True) h1 (fun _ => trivial) (fun h => za h.1)
          refine (tr_243_16 d w _ _ _ (fun _ _ => hn hnb) (fun _ _ _ => hn hnb)).trans ?_
          rw [if_pos rfl, if_pos (fun h => za ((z0 Na).mp h)), u_div ha hb]
    · rw [if_pos (fun h => nb ((m_same hb).mp h))]
      exact hend (Or.inr (Or.inl (by omega)))
  · rw [if_pos (fun h => na ((m_same ha).mp h))]
    exact hend (Or.inl (by omega))
