/-! DOUBLES: ints that may be below zero; the class's rounding -/
abbrev iI (z : Int) : Int32 := Int32.ofInt z
theorem i_n (n : Nat) : nI n = iI n := by
  apply Int32.toBitVec_inj.mp
  exact (BitVec.ofInt_natCast 32 n).symm
theorem i_add (a b : Int) : iI a + iI b = iI (a + b) := (Int32.ofInt_add a b).symm
theorem i_neg (a : Int) : -(iI a) = iI (-a) := (Int32.ofInt_neg a).symm
theorem i_sub (a b : Int) : iI a - iI b = iI (a - b) := (Int32.ofInt_sub a b).symm
theorem i_toInt {a : Int} (h1 : -2147483648 ≤ a) (h2 : a < 2147483648) : (iI a).toInt = a := Int32.toInt_ofInt_of_le h1 h2
theorem iz_lt {a b : Int} (a1 : -2147483648 ≤ a) (a2 : a < 2147483648) (b1 : -2147483648 ≤ b) (b2 : b < 2147483648) : iI a < iI b ↔ a < b := by
  rw [Int32.lt_iff_toInt_lt, i_toInt a1 a2, i_toInt b1 b2]
theorem iz_le {a b : Int} (a1 : -2147483648 ≤ a) (a2 : a < 2147483648) (b1 : -2147483648 ≤ b) (b2 : b < 2147483648) : iI a ≤ iI b ↔ a ≤ b := by
  rw [Int32.le_iff_toInt_le, i_toInt a1 a2, i_toInt b1 b2]
theorem i_inj {a b : Int} (a1 : -2147483648 ≤ a) (a2 : a < 2147483648) (b1 : -2147483648 ≤ b) (b2 : b < 2147483648) : iI a = iI b ↔ a = b := by
  rw [← Int32.toInt_inj, i_toInt a1 a2, i_toInt b1 b2]
theorem i_pos {z : Int} (h1 : -1000000 ≤ z) (h2 : z ≤ 1000000) : (0 : Int32) < iI z ↔ 0 < z := iz_lt (a := 0) (by omega) (by omega) (by omega) (by omega)
theorem i_ex (x : Int32) : ∃ z : Int, -2147483648 ≤ z ∧ z < 2147483648 ∧ x = iI z :=
  ⟨x.toInt, Int32.le_toInt x, Int32.toInt_lt x, (Int32.ofInt_toInt x).symm⟩
theorem stk_1 (x : Nat) : stk x 1 = x := by
  unfold stk
  rw [Nat.div_one, Nat.mod_one, if_pos rfl, Nat.or_zero]
theorem stk_0 (d : Nat) : stk 0 d = 0 := by
  unfold stk
  rw [Nat.zero_div, Nat.zero_mod, if_pos rfl]
  rfl
theorem r_107z {x : Nat} (hx : x < 2 ^ 63) {z : Int} (h1 : -1000000 ≤ z) (h2 : z ≤ 1000000) : fn_107 (lI x) (iI z) = lI (stk x (2 ^ z.toNat)) := by
  by_cases c : 0 < z
  · by_cases c2 : z ≤ 62
    · obtain ⟨k, hk⟩ : ∃ k : Nat, z = k := ⟨z.toNat, by omega⟩
      subst hk
      rw [← i_n, r_107 (by omega) (by omega) (by omega)]
      rfl
    · unfold fn_107
      have hc2 : ¬ iI z ≤ 62 := fun h => c2 ((iz_le (b := 62) (by omega) (by omega) (by omega) (by omega)).mp h)
      rw [if_pos ((i_pos h1 h2).mpr c), if_neg hc2]
      have hb : x < 2 ^ z.toNat := Nat.lt_of_lt_of_le hx (Nat.pow_le_pow_right (by decide) (by omega))
      unfold stk
      rw [Nat.div_eq_of_lt hb, Nat.mod_eq_of_lt hb]
      by_cases e : x = 0
      · rw [e, if_neg (fun h => h (cmpL_0.mpr rfl)), if_pos rfl]
        rfl
      · have he : ¬ cmpL (lI x) 0 = 0 := fun h => e ((l_inj (b := 0) (by omega) (by decide)).mp (cmpL_0.mp h))
        rw [if_pos he, if_neg e]
        rfl
  · unfold fn_107
    rw [if_neg (fun h => c ((i_pos h1 h2).mp h)), show z.toNat = 0 by omega, Nat.pow_zero, stk_1]
theorem cmpL_gt {x y : Int64} : 0 < cmpL x y ↔ y < x := by
  have h := @cmpL_le x y
  constructor
  · intro h2
    by_cases c : y < x
    · exact c
    · exact absurd (Int32.lt_of_lt_of_le h2 (h.mpr c)) (Int32.lt_irrefl)
  · intro h2
    by_cases c : cmpL x y ≤ 0
    · exact absurd h2 (h.mp c)
    · exact Int32.not_le.mp c
theorem or_hi {s : Bool} {x : Nat} (hx : x < 2 ^ 63) : s.toNat * 2 ^ 63 ||| x = s.toNat * 2 ^ 63 + x := by
  rw [Nat.mul_comm]
  exact (Nat.two_pow_add_eq_or_of_lt hx s.toNat).symm
theorem l_or_hi {s : Bool} {x : Nat} (hx : x < 2 ^ 63) : lI (s.toNat * 2 ^ 63) ||| lI x = lI (s.toNat * 2 ^ 63 + x) := by
  rw [l_or, or_hi hx]
def kp108 {α : Type} (f : Int64 → α) (l0 b : Int64) (fl : Int32) : α := (if 0 < (cmpL ((b &&& 1023)) 512) then f (l0 ||| ((shlL ((Int32.toInt64 ((fl - 1)))) 52) + ((ushL b 10) + 1))) else (if ¬ (cmpL ((b &&& 1023)) 512) = 0 then f (l0 ||| ((shlL ((Int32.toInt64 ((fl - 1)))) 52) + (ushL b 10))) else (if (cmpL (((ushL b 10) &&& 1)) 0) = 0 then f (l0 ||| ((shlL ((Int32.toInt64 ((fl - 1)))) 52) + (ushL b 10))) else f (l0 ||| ((shlL ((Int32.toInt64 ((fl - 1)))) 52) + ((ushL b 10) + 1))))))
def tl108 {α : Type} (f : Int64 → α) (l0 l5 : Int64) (l7 : Int32) : α := (if l7 < 2047 then (if 0 < l7 then kp108 f l0 l5 l7 else kp108 f l0 (fn_107 l5 (1 - l7)) 1) else f (l0 ||| 9218868437227405312))
theorem kp108_eq {α : Type} (f : Int64 → α) {s : Bool} {B F : Nat} (hB : B < 2 ^ 63) (h1 : 1 ≤ F) (h2 : F ≤ 2046) : kp108 f (lI (s.toNat * 2 ^ 63)) (lI B) (nI F) = f (lI (s.toNat * 2 ^ 63 + ((F - 1) * 2 ^ 52 + Jvm.FP.Core.nearest B 1024))) := by
  unfold kp108
  have e1 : lI B &&& 1023 = lI (B % 1024) := by
    rw [show (1023 : Int64) = lI 1023 from rfl, l_and, show (1023 : Nat) = 2 ^ 10 - 1 from rfl, Nat.and_two_pow_sub_one_eq_mod]
  have e2 : ushL (lI B) 10 = lI (B / 1024) := by
    rw [show (10 : Int32) = nI 10 from rfl, l_ush (by omega) (by decide), Nat.shiftRight_eq_div_pow]
  have e3 : lI (B / 1024) &&& 1 = lI (B / 1024 % 2) := by
    rw [show (1 : Int64) = lI 1 from rfl, l_and, Nat.and_one_is_mod]
  have e4 : shlL (Int32.toInt64 (nI F - 1)) 52 = lI ((F - 1) * 2 ^ 52) := by
    rw [pI_1 h1, l_ofI (by omega), show (52 : Int32) = nI 52 from rfl, l_shl (by decide), Nat.shiftLeft_eq]
  have hm : B % 1024 < 1024 := Nat.mod_lt _ (by decide)
  have hd : B / 1024 < 2 ^ 53 := by omega
  have g1 : 0 < cmpL (lI (B % 1024)) 512 ↔ 512 < B % 1024 := by
    rw [cmpL_gt]
    exact l_lt_iff (a := 512) (by decide) (by omega)
  have g2 : cmpL (lI (B % 1024)) 512 = 0 ↔ B % 1024 = 512 := by
    rw [cmpL_0]
    exact l_inj (b := 512) (by omega) (by decide)
  have g3 : cmpL (lI (B / 1024 % 2)) 0 = 0 ↔ B / 1024 % 2 = 0 := by
    rw [cmpL_0]
    exact l_inj (b := 0) (by omega) (by decide)
  rw [e1, e2, e3, e4]
  have r0 : lI (s.toNat * 2 ^ 63) ||| (lI ((F - 1) * 2 ^ 52) + lI (B / 1024)) = lI (s.toNat * 2 ^ 63 + ((F - 1) * 2 ^ 52 + B / 1024)) := by
    rw [l_add, l_or_hi (by omega)]
  have r1 : lI (s.toNat * 2 ^ 63) ||| (lI ((F - 1) * 2 ^ 52) + (lI (B / 1024) + 1)) = lI (s.toNat * 2 ^ 63 + ((F - 1) * 2 ^ 52 + (B / 1024 + 1))) := by
    rw [show (1 : Int64) = lI 1 from rfl, l_add, l_add, l_or_hi (by omega)]
  by_cases c1 : 512 < B % 1024
  · have hN : Jvm.FP.Core.nearest B 1024 = B / 1024 + 1 := by
      unfold Jvm.FP.Core.nearest
      rw [if_neg (by omega), if_pos (by omega)]
    rw [if_pos (g1.mpr c1), hN, r1]
  · rw [if_neg (fun h => c1 (g1.mp h))]
    by_cases c2 : B % 1024 = 512
    · rw [if_neg (fun h => h (g2.mpr c2))]
      have hN : Jvm.FP.Core.nearest B 1024 = B / 1024 + B / 1024 % 2 := by
        unfold Jvm.FP.Core.nearest
        rw [if_neg (by omega), if_neg (by omega)]
      by_cases c3 : B / 1024 % 2 = 0
      · rw [if_pos (g3.mpr c3), r0, hN, c3, Nat.add_zero]
      · rw [if_neg (fun h => c3 (g3.mp h)), r1, hN, show B / 1024 % 2 = 1 by omega]
    · have hN : Jvm.FP.Core.nearest B 1024 = B / 1024 := by
        unfold Jvm.FP.Core.nearest
        rw [if_pos (by omega)]
      rw [if_pos (fun h => c2 (g2.mp h)), hN, r0]
/-- the class's last steps are the rounding -/
theorem tl108_eq {α : Type} (f : Int64 → α) {s : Bool} {X J : Nat} {E : Int} (h1 : 2 ^ 62 ≤ X * 2 ^ J) (h2 : X * 2 ^ J < 2 ^ 63) (hJ : J ≤ 62) (hE1 : -10000 ≤ E) (hE2 : E ≤ 10000) : tl108 f (lI (s.toNat * 2 ^ 63)) (lI (X * 2 ^ J)) (iI (E + 1085 - J)) = f (lI (Jvm.FP.Core.encode Jvm.FP.Core.b64 (Jvm.FP.Core.roundRatio Jvm.FP.Core.b64 s X 1 E))) := by
  have hX : 0 < X := by
    rcases Nat.eq_zero_or_pos X with h | h
    · rw [h, Nat.zero_mul] at h1; omega
    · exact h
  have hINF : INF = 2047 * 2 ^ 52 := rfl
  obtain ⟨B, hB⟩ : ∃ B, B = X * 2 ^ J := ⟨_, rfl⟩
  obtain ⟨g, hg⟩ : ∃ g, g = E + 1085 - J := ⟨_, rfl⟩
  have hs := enc_shift (s := s) (n := X) (d := 1) hX (by decide) J 0 (e := E) (e' := g - 1085) (by omega)
  rw [Nat.pow_zero, Nat.mul_one, ← hB] at hs
  rw [← hB, ← hg, ← hs]
  rw [← hB] at h1 h2
  have hL : Jvm.FP.Core.leading B 1 = (62 : Nat) := lead_uniq (by omega) (by decide) (by omega) (by omega)
  have hq : qnt B 1 (g - 1085) = max (-1074) (g - 1075) := by
    unfold qnt
    rw [hL]
    congr 1
    omega
  rw [enc_ratio (by omega) (by decide), hq, Nat.one_mul]
  have hn1 : 2 ^ 52 ≤ Jvm.FP.Core.nearest B 1024 := near_ge (by decide) (by omega)
  have hn2 : Jvm.FP.Core.nearest B 1024 ≤ 2 ^ 53 := near_le (by decide) (by omega)
  unfold tl108
  by_cases c1 : g < 2047
  · have hc1 : iI g < 2047 := (iz_lt (b := 2047) (by omega) (by omega) (by omega) (by omega)).mpr c1
    rw [if_pos hc1]
    by_cases c2 : 0 < g
    · rw [if_pos ((i_pos (by omega) (by omega)).mpr c2)]
      obtain ⟨F, hF⟩ : ∃ F : Nat, g = F := ⟨g.toNat, by omega⟩
      rw [hF, ← i_n, kp108_eq f h2 (by omega) (by omega)]
      have hm : max (-1074) ((F : Int) - 1075) = F - 1075 := Int.max_eq_right (by omega)
      rw [hm, show ((F : Int) - 1085 - ((F : Int) - 1075)).toNat = 0 by omega, show ((F : Int) - 1075 - ((F : Int) - 1085)).toNat = 10 by omega, Nat.pow_zero, Nat.mul_one, show ((F : Int) - 1075 + 1074).toNat = F - 1 by omega, show 2 ^ 10 = 1024 from rfl, Nat.min_eq_right (by omega)]
    · rw [if_neg (fun h => c2 ((i_pos (by omega) (by omega)).mp h))]
      have hm : max (-1074) (g - 1075) = -1074 := Int.max_eq_left (by omega)
      have e1 : (1 : Int32) - iI g = iI (1 - g) := i_sub 1 g
      obtain ⟨k, hk⟩ : ∃ k : Nat, 1 - g = k := ⟨(1 - g).toNat, by omega⟩
      have hsb : stk B (2 ^ k) < 2 ^ 63 := by
        have hp : 0 < 2 ^ k := Nat.two_pow_pos k
        have := Nat.div_le_self B (2 ^ k)
        rw [stk_eq]
        split <;> omega
      rw [e1, r_107z h2 (by omega) (by omega), hk, show ((k : Int)).toNat = k from rfl, show (1 : Int32) = nI 1 from rfl, kp108_eq f hsb (by decide) (by decide), hm, show (g - 1085 - -1074).toNat = 0 by omega, show (-1074 - (g - 1085)).toNat = k + 10 by omega, Nat.pow_zero, Nat.mul_one, show ((-1074 : Int) + 1074).toNat = 0 from rfl, show (1 - 1 : Nat) = 0 from rfl]
      have hns := near_stk (n := B) (d := 2 ^ k) (k := 8) (Nat.two_pow_pos k)
      rw [show 2 ^ (8 + 2) = 1024 from rfl] at hns
      rw [hns, Nat.pow_add, show 2 ^ 10 = 1024 from rfl]
      have hle : Jvm.FP.Core.nearest B (2 ^ k * 1024) ≤ 2 ^ 53 := near_le (Nat.mul_pos (Nat.two_pow_pos k) (by decide)) (by
        have : 1 ≤ 2 ^ k := Nat.two_pow_pos k
        omega)
      rw [Nat.min_eq_right (by omega)]
  · have hc1 : ¬ iI g < 2047 := fun h => c1 ((iz_lt (b := 2047) (by omega) (by omega) (by omega) (by omega)).mp h)
    rw [if_neg hc1]
    have hm : max (-1074) (g - 1075) = g - 1075 := Int.max_eq_right (by omega)
    rw [hm, show (g - 1085 - (g - 1075)).toNat = 0 by omega, show (g - 1075 - (g - 1085)).toNat = 10 by omega, Nat.pow_zero, Nat.mul_one, show 2 ^ 10 = 1024 from rfl, Nat.min_eq_left (by omega), show (9218868437227405312 : Int64) = lI INF from rfl, l_or_hi (by omega)]
