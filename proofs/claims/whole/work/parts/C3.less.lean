/-! DOUBLES: isLess, isNaN of the class and the reference's comparisons -/
theorem cmp_e {x y u v : Int} (h : (x < y ↔ u < v) ∧ (x = y ↔ u = v)) : compare x y = compare u v := by
  show compareOfLessAndEq x y = compareOfLessAndEq u v
  unfold compareOfLessAndEq
  by_cases c1 : x < y
  · rw [if_pos c1, if_pos (h.1.mp c1)]
  · rw [if_neg c1, if_neg (fun hh => c1 (h.1.mpr hh))]
    by_cases c2 : x = y
    · rw [if_pos c2, if_pos (h.2.mp c2)]
    · rw [if_neg c2, if_neg (fun hh => c2 (h.2.mpr hh))]
theorem dcmp_num {a b : Nat} (ha : a < 2 ^ 64) (hb : b < 2 ^ 64) (fa : szB a ≤ INF) (fb : szB b ≤ INF) : Jvm.FP.Core.cmp Jvm.FP.Core.b64 a b = some (compare (lvB a) (lvB b)) := by
  have h2 : INF = 2047 * 2 ^ 52 := rfl
  by_cases ca : szB a = INF
  · by_cases cb : szB b = INF
    · unfold Jvm.FP.Core.cmp lvB
      rw [dec_inf ha ca, dec_inf hb cb, ca, cb]
      cases sgB a <;> cases sgB b <;> decide
    · unfold Jvm.FP.Core.cmp lvB
      rw [dec_inf ha ca, dec_fin hb (by omega), ca]
      show some (compare _ _) = _
      congr 1
      refine cmp_e ?_
      unfold Jvm.FP.Core.signed
      cases sgB a <;> cases sgB b <;> simp only [if_true, if_false, Bool.false_eq_true] <;> omega
  · by_cases cb : szB b = INF
    · unfold Jvm.FP.Core.cmp lvB
      rw [dec_fin ha (by omega), dec_inf hb cb, cb]
      show some (compare _ _) = _
      congr 1
      refine cmp_e ?_
      unfold Jvm.FP.Core.signed
      cases sgB a <;> cases sgB b <;> simp only [if_true, if_false, Bool.false_eq_true] <;> omega
    · exact dcmp_fin ha hb (by omega) (by omega)
theorem dcmp_nan {a b : Nat} (ha : a < 2 ^ 64) (hb : b < 2 ^ 64) (h : INF < szB a ∨ INF < szB b) : Jvm.FP.Core.cmp Jvm.FP.Core.b64 a b = none := by
  unfold Jvm.FP.Core.cmp
  by_cases c : INF < szB a
  · rw [dec_nan ha c]; rfl
  · have hb2 := dec_nan hb (h.resolve_left c)
    rw [hb2]
    by_cases ca : szB a = INF
    · rw [dec_inf ha ca]; rfl
    · rw [dec_fin ha (by omega)]; rfl
theorem ucmp (a b : Nat) (ha : a < 2 ^ 64) (hb : b < 2 ^ 64) : FP.dcmp (UInt64.ofNat a) (UInt64.ofNat b) = Jvm.FP.Core.cmp Jvm.FP.Core.b64 a b := by
  show Jvm.FP.Core.cmp Jvm.FP.Core.b64 (UInt64.ofNat a).toNat (UInt64.ofNat b).toNat = _
  rw [UInt64.toNat_ofNat_of_lt' ha, UInt64.toNat_ofNat_of_lt' hb]
theorem sz_and {a : Nat} (ha : a < 2 ^ 64) : fn_96 (lI a) = lI (szB a) := by
  unfold fn_96 szB
  rw [show (9223372036854775807 : Int64) = lI 9223372036854775807 from rfl, l_and, show (9223372036854775807 : Nat) = 2 ^ 63 - 1 from rfl, Nat.and_two_pow_sub_one_eq_mod]
theorem sz_lt (a : Nat) : szB a < 2 ^ 63 := Nat.mod_lt _ (by decide)
theorem cmpL_le {x y : Int64} : cmpL x y ≤ 0 ↔ ¬ y < x := by
  unfold cmpL lg_cmp
  by_cases h1 : x > y
  · rw [if_pos h1]
    exact ⟨fun h => absurd h (by decide), fun h => absurd h1 h⟩
  · rw [if_neg h1]
    by_cases h2 : x = y
    · rw [if_pos h2]
      exact ⟨fun _ => h1, fun _ => by decide⟩
    · rw [if_neg h2]
      exact ⟨fun _ => h1, fun _ => by decide⟩
theorem cmpL_ge {x y : Int64} : 0 ≤ cmpL x y ↔ ¬ x < y := by
  unfold cmpL lg_cmp
  by_cases h1 : x > y
  · rw [if_pos h1]
    refine ⟨fun _ h => ?_, fun _ => by decide⟩
    have a1 := Int64.lt_iff_toInt_lt.mp h
    have a2 := Int64.lt_iff_toInt_lt.mp h1
    omega
  · rw [if_neg h1]
    by_cases h2 : x = y
    · rw [if_pos h2]
      refine ⟨fun _ h => ?_, fun _ => by decide⟩
      rw [h2] at h
      have a1 := Int64.lt_iff_toInt_lt.mp h
      omega
    · rw [if_neg h2]
      refine ⟨fun h => absurd h (by decide), fun h => absurd ?_ h⟩
      refine Int64.lt_iff_toInt_lt.mpr ?_
      have a1 := mt Int64.lt_iff_toInt_lt.mpr h1
      have a2 : x.toInt ≠ y.toInt := fun e => h2 (Int64.toInt_inj.mp e)
      omega
theorem r_isNaN {a : Nat} (ha : a < 2 ^ 64) : fn_97 (lI a) = if INF < szB a then 1 else 0 := by
  have h2 : INF = 9218868437227405312 := rfl
  have := sz_lt a
  unfold fn_97
  rw [sz_and ha, show (9218868437227405312 : Int64) = lI 9218868437227405312 from rfl]
  by_cases c : INF < szB a
  · rw [if_pos c, if_neg (fun h => cmpL_le.mp h ((l_lt_iff (by decide) this).mpr (by omega)))]
  · rw [if_neg c, if_pos (cmpL_le.mpr (fun h => c (by have := (l_lt_iff (by decide) this).mp h; omega)))]
theorem l_neg {m : Nat} (hm : m < 2 ^ 63) : (-(lI m)).toInt = -(m : Int) := by
  rw [Int64.toInt_neg, l_toInt hm, Int.bmod_def]
  omega
theorem r_level {a : Nat} (ha : a < 2 ^ 64) : (fn_100 (lI a)).toInt = lvB a := by
  have h63 := sz_lt a
  unfold fn_100 lvB Jvm.FP.Core.signed
  rw [sz_and ha]
  by_cases c : 2 ^ 63 ≤ a
  · rw [if_neg (fun h => cmpL_ge.mp h ((l_neg_iff ha).mpr c)), l_neg h63]
    have : sgB a = true := decide_eq_true c
    rw [this, if_pos rfl]
  · rw [if_pos (cmpL_ge.mpr (fun h => c ((l_neg_iff ha).mp h))), l_toInt (by omega)]
    have : sgB a = false := decide_eq_false c
    rw [this, if_neg (by decide)]
    unfold szB
    rw [Nat.mod_eq_of_lt (by omega)]
theorem r_less {a b : Nat} (ha : a < 2 ^ 64) (hb : b < 2 ^ 64) : fn_101 (lI a) (lI b) = if lvB a < lvB b then 1 else 0 := by
  unfold fn_101
  have e : fn_100 (lI a) < fn_100 (lI b) ↔ lvB a < lvB b := by
    rw [Int64.lt_iff_toInt_lt, r_level ha, r_level hb]
  by_cases c : lvB a < lvB b
  · rw [if_pos c, if_neg (fun h => cmpL_ge.mp h (e.mpr c))]
  · rw [if_neg c, if_pos (cmpL_ge.mpr (fun h => c (e.mp h)))]
/-- as the reference compares: less -/
theorem m_less {a b : Nat} (ha : a < 2 ^ 64) (hb : b < 2 ^ 64) (fa : szB a ≤ INF) (fb : szB b ≤ INF) : 0 ≤ Op.cmpValue (FP.dcmp (UInt64.ofNat a) (UInt64.ofNat b)) .g ↔ ¬ lvB a < lvB b := by
  rw [ucmp a b ha hb, dcmp_num ha hb fa fb]
  have e : compare (lvB a) (lvB b) = compareOfLessAndEq (lvB a) (lvB b) := rfl
  rw [e]
  unfold compareOfLessAndEq
  by_cases c1 : lvB a < lvB b
  · rw [if_pos c1]
    exact ⟨fun h => absurd h (by decide), fun h => absurd c1 h⟩
  · rw [if_neg c1]
    refine ⟨fun _ => c1, fun _ => ?_⟩
    split <;> decide
/-- a double that is itself -/
theorem m_same {a : Nat} (ha : a < 2 ^ 64) : Op.cmpValue (FP.dcmp (UInt64.ofNat a) (UInt64.ofNat a)) .l = 0 ↔ szB a ≤ INF := by
  rw [ucmp a a ha ha]
  by_cases c : szB a ≤ INF
  · rw [dcmp_num ha ha c c]
    have e : compare (lvB a) (lvB a) = compareOfLessAndEq (lvB a) (lvB a) := rfl
    rw [e]
    unfold compareOfLessAndEq
    rw [if_neg (Int.lt_irrefl _), if_pos rfl]
    exact ⟨fun _ => c, fun _ => rfl⟩
  · rw [dcmp_nan ha ha (Or.inl (by omega))]
    exact ⟨fun h => absurd h (by decide), fun h => absurd h c⟩
