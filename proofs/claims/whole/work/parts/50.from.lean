/-! NUMBERS THAT ARE ROWS -/
/-- the bell (from 1) that a number tells at a place -/
def bl (N V p : Nat) : Nat := V / 10 ^ (N - 1 - p) % 10
/-- from place k on the digits are bells, each once -/
def GdK (N V k : Nat) : Prop := (∀ p, k ≤ p → p < N → 1 ≤ bl N V p ∧ bl N V p ≤ N) ∧ ∀ p q, k ≤ p → p < q → q < N → bl N V p ≠ bl N V q
def Gd (N V : Nat) : Prop := GdK N V 0 ∧ V / 10 ^ N = 0
/-- the row of a number -/
def rw1 (N V p : Nat) : Nat := bl N V p - 1
theorem Gd.row {N V : Nat} (h : Gd N V) : IsRow N (rw1 N V) := by
  obtain ⟨⟨h1, h2⟩, h3⟩ := h
  refine ⟨fun p hp => ?_, fun p q hp hq e => ?_⟩
  · have := h1 p (by omega) hp
    unfold rw1; omega
  · have a := h1 p (by omega) hp
    have b := h1 q (by omega) hq
    unfold rw1 at e
    rcases Nat.lt_trichotomy p q with hh | hh | hh
    · exact absurd (by omega) (h2 p q (by omega) hh hq)
    · exact hh
    · exact absurd (by omega : bl N V q = bl N V p) (h2 q p (by omega) hh hp)
theorem Gd.num {N V : Nat} (h : Gd N V) : dcN N (rw1 N V) = V := by
  have hV : V < 10 ^ N := by
    have := h.2
    exact (Nat.div_eq_zero_iff_lt (Nat.pow_pos (by decide))).mp this
  have e : dcN N (rw1 N V) = dg 10 (fun p => V / 10 ^ (N - 1 - p) % 10) N := by
    refine dg_congr (fun i hi => ?_)
    have := (h.1.1 i (by omega) hi).1
    show bl N V i - 1 + 1 = bl N V i
    omega
  rw [e]
  exact dg_of (by decide) V N hV
theorem bl_dc {N : Nat} {f : Nat → Nat} (hN : N ≤ 8) (hf : IsRow N f) {p : Nat} (hp : p < N) : bl N (dcN N f) p = f p + 1 :=
  dg_at (b := 10) (g := fun p => f p + 1) (fun i hi => by have := hf.1 i hi; omega) hp
theorem gd_dc {N : Nat} {f : Nat → Nat} (hN : N ≤ 8) (hf : IsRow N f) : Gd N (dcN N f) := by
  refine ⟨⟨fun p _ hp => ?_, fun p q _ hpq hq => ?_⟩, ?_⟩
  · rw [bl_dc hN hf hp]
    have := hf.1 p hp
    omega
  · rw [bl_dc hN hf (by omega), bl_dc hN hf hq]
    intro e
    have := hf.2 p q (by omega) hq (by omega)
    omega
  · exact (Nat.div_eq_zero_iff_lt (Nat.pow_pos (by decide))).mpr (dcN_lt hN hf.1)
theorem pow_lt31 {N : Nat} (hN : N ≤ 8) : 10 ^ N < 2 ^ 31 := by
  have h6 : 10 ^ N ≤ 10 ^ 8 := Nat.pow_le_pow_right (by decide) hN
  have h7 : (10 : Nat) ^ 8 = 100000000 := by decide
  omega
theorem bl_lt (N V p : Nat) : bl N V p < 10 := Nat.mod_lt _ (by decide)
theorem dgt_0 {R : Nat} (hR : R < 2 ^ 31) (h : R % 10 = 0) : dgt (nI R) < 0 := by
  have e : dgt (nI R) = nI (R % 10) - nI 1 := by
    show nI R - nI R / nI 10 * nI 10 - nI 1 = _
    rw [n_rem hR (by omega)]
  rw [e, h]
  decide
theorem dgt_s {R : Nat} (hR : R < 2 ^ 31) (h : 1 ≤ R % 10) : dgt (nI R) = nI (R % 10 - 1) := by
  show nI R - nI R / nI 10 * nI 10 - nI 1 = _
  rw [n_rem hR (by omega), n_sub h]
theorem bit_0 {S x : Nat} (hS : S < 2 ^ 31) (hx : x < 32) : (ushI (nI S) (nI x) &&& 1 = 0) ↔ S.testBit x = false := by
  have e : ushI (nI S) (nI x) &&& 1 = nI (S >>> x &&& 1) := by
    rw [n_ush (by omega) hx]
    exact n_and _ 1
  have hb : S >>> x &&& 1 = (S.testBit x).toNat := by
    rw [Nat.and_one_is_mod, Nat.testBit, Nat.one_and_eq_mod_two]
    rcases Nat.mod_two_eq_zero_or_one (S >>> x) with h | h <;> rw [h] <;> rfl
  rw [e, hb]
  cases S.testBit x
  · exact ⟨fun _ => rfl, fun _ => rfl⟩
  · exact ⟨fun h => absurd h (by decide), fun h => by cases h⟩
theorem n_shl1 {x : Nat} (hx : x < 32) : (1 : Int32) <<< (nI x &&& 31) = nI (2 ^ x) := by
  have := n_shl (a := 1) (k := x) hx
  rw [Nat.shiftLeft_eq, Nat.one_mul] at this
  exact this
theorem c134 {N V : Nat} (hN : N ≤ 8) (hV : V < 2 ^ 31) : ∀ k, k ≤ N → GdK N V k → ∀ S, S < 2 ^ 8 → (∀ i, S.testBit i = true ↔ ∃ p, k ≤ p ∧ p < N ∧ rw1 N V p = i) →
    (Gd N V → fromS (nI N) k (nI (dg 16 (fun p => if k ≤ p then rw1 N V p else 0) N)) (nI S) (nI (V / 10 ^ (N - k))) = nI (pkN N (rw1 N V))) ∧
    (¬ Gd N V → fromS (nI N) k (nI (dg 16 (fun p => if k ≤ p then rw1 N V p else 0) N)) (nI S) (nI (V / 10 ^ (N - k))) = -1) := by
  intro k
  induction k with
  | zero =>
    intro _ hg S _ _
    have hle : V / 10 ^ N ≤ V := Nat.div_le_self _ _
    have e : dg 16 (fun p => if 0 ≤ p then rw1 N V p else 0) N = pkN N (rw1 N V) := dg_congr (fun i _ => if_pos (Nat.zero_le i))
    rw [e, Nat.sub_zero]
    unfold fromS
    constructor
    · intro h
      rw [h.2]
      exact if_neg (by decide)
    · intro h
      refine if_pos (fun h2 => h ⟨hg, ?_⟩)
      exact (n_inj (a := V / 10 ^ N) (b := 0) (by omega) (by omega)).mp h2
  | succ k ih =>
    intro hk hg S hS hb
    have eR : N - (k + 1) = N - 1 - k := by omega
    rw [eR]
    have hRle : V / 10 ^ (N - 1 - k) ≤ V := Nat.div_le_self _ _
    have ebl : V / 10 ^ (N - 1 - k) % 10 = bl N V k := rfl
    have hb10 := bl_lt N V k
    unfold fromS
    by_cases h0 : bl N V k = 0
    · have hn : ¬ Gd N V := fun h => by have := (h.1.1 k (by omega) (by omega)).1; omega
      exact ⟨fun h => absurd h hn, fun _ => if_pos (dgt_0 (by omega) (ebl.trans h0))⟩
    have ed : dgt (nI (V / 10 ^ (N - 1 - k))) = nI (rw1 N V k) := dgt_s (by omega) (by omega)
    rw [ed]
    have hrw : rw1 N V k < 9 := by unfold rw1; omega
    have hnn : ¬ nI (rw1 N V k) < 0 := fun h => by have := (n_lt_iff (a := rw1 N V k) (b := 0) (by omega) (by omega)).mp h; omega
    rw [if_neg hnn]
    by_cases h1 : N < bl N V k
    · have hn : ¬ Gd N V := fun h => by have := (h.1.1 k (by omega) (by omega)).2; omega
      refine ⟨fun h => absurd h hn, fun _ => if_pos ((n_le_iff (by omega) (by omega)).mpr ?_)⟩
      unfold rw1; omega
    have hlN : rw1 N V k < N := by unfold rw1; omega
    have hnl : ¬ nI N ≤ nI (rw1 N V k) := fun h => by have := (n_le_iff (by omega) (by omega)).mp h; omega
    rw [if_neg hnl]
    by_cases h2 : S.testBit (rw1 N V k) = true
    · have hn : ¬ Gd N V := fun h => by
        obtain ⟨p, p1, p2, p3⟩ := (hb _).mp h2
        have := h.row.2 p k p2 (by omega) p3
        omega
      refine ⟨fun h => absurd h hn, fun _ => if_neg (fun h => ?_)⟩
      have := (bit_0 (by omega) (by omega)).mp h
      rw [h2] at this
      cases this
    have h2f : S.testBit (rw1 N V k) = false := by
      cases hq : S.testBit (rw1 N V k)
      · rfl
      · exact absurd hq h2
    rw [if_pos ((bit_0 (by omega) (by omega)).mpr h2f), c131 hN (by omega), n_or, n_shl1 (by omega), n_or]
    have ediv : nI (V / 10 ^ (N - 1 - k)) / 10 = nI (V / 10 ^ (N - k)) := by
      have := n_div (a := V / 10 ^ (N - 1 - k)) (b := 10) (by omega) (by omega)
      rw [show N - k = (N - 1 - k) + 1 by omega, Nat.pow_succ, ← Nat.div_div_eq_div_mul]
      exact this
    have erow : dg 16 (fun p => if k + 1 ≤ p then rw1 N V p else 0) N ||| rw1 N V k * 16 ^ (N - 1 - k) = dg 16 (fun p => if k ≤ p then rw1 N V p else 0) N := by
      have hd : ∀ i, rw1 N V i < 16 := fun i => by have := bl_lt N V i; unfold rw1; omega
      rw [← dg_one 16 k (rw1 N V k) N (by omega), ← dg_or _ _ N (fun i _ => by
        show (if k + 1 ≤ i then rw1 N V i else 0) < 16
        by_cases e : k + 1 ≤ i
        · rw [if_pos e]; exact hd i
        · rw [if_neg e]; omega) (fun i _ => by
        show (if i = k then rw1 N V k else 0) < 16
        by_cases e : i = k
        · rw [if_pos e]; exact hd k
        · rw [if_neg e]; omega)]
      refine dg_congr (fun i _ => ?_)
      show (if k + 1 ≤ i then rw1 N V i else 0) ||| (if i = k then rw1 N V k else 0) = if k ≤ i then rw1 N V i else 0
      by_cases e : i = k
      · subst e
        rw [if_neg (by omega), if_pos rfl, if_pos (by omega), Nat.zero_or]
      · by_cases e2 : k + 1 ≤ i
        · rw [if_pos e2, if_neg e, if_pos (by omega), Nat.or_zero]
        · rw [if_neg e2, if_neg e, if_neg (by omega), Nat.or_zero]
    rw [ediv, erow]
    refine ih (by omega) ⟨fun p hp1 hp2 => ?_, fun p q hp1 hpq hq => ?_⟩ (S ||| 2 ^ rw1 N V k) ?_ (fun i => ?_)
    · by_cases e : p = k
      · subst e; omega
      · exact hg.1 p (by omega) hp2
    · by_cases e : p = k
      · subst e
        intro hh
        apply h2
        refine (hb _).mpr ⟨q, by omega, hq, ?_⟩
        unfold rw1
        rw [hh]
      · exact hg.2 p q (by omega) hpq hq
    · exact Nat.or_lt_two_pow hS (Nat.pow_lt_pow_right (by decide) (by omega))
    · rw [Nat.testBit_or, Nat.testBit_two_pow, Bool.or_eq_true, decide_eq_true_eq, hb i]
      constructor
      · rintro (⟨p, p1, p2, p3⟩ | h)
        · exact ⟨p, by omega, p2, p3⟩
        · exact ⟨k, by omega, by omega, h⟩
      · rintro ⟨p, p1, p2, p3⟩
        by_cases e : p = k
        · subst e; exact Or.inr p3
        · exact Or.inl ⟨p, by omega, p2, p3⟩
theorem r_134 {N V : Nat} (hN : N ≤ 8) (hV : V < 2 ^ 31) : (Gd N V → fn_134 (nI N) (nI V) = nI (pkN N (rw1 N V))) ∧ (¬ Gd N V → fn_134 (nI N) (nI V) = -1) := by
  have h := c134 hN hV N (Nat.le_refl N) ⟨fun p _ _ => by omega, fun p q _ _ _ => by omega⟩ 0 (by decide) (fun i => by
    rw [Nat.zero_testBit]
    constructor
    · intro h; cases h
    · rintro ⟨p, p1, p2, _⟩; omega)
  rw [dg_zero 16 _ N (fun i hi => if_neg (by omega)), Nat.sub_self, Nat.pow_zero, Nat.div_one] at h
  unfold fn_134
  rw [n_clamp hN]
  exact h
/-- less than 0: no row -/
theorem r_134n {N : Nat} (hN : N ≤ 8) (h0 : 0 < N) {v : Int32} (hv : v < 0) : fn_134 (nI N) v = -1 := by
  obtain ⟨k, rfl⟩ : ∃ k, N = k + 1 := ⟨N - 1, by omega⟩
  unfold fn_134
  rw [n_clamp hN]
  unfold fromS
  refine if_pos ?_
  unfold dgt
  have hx : v.toInt < 0 := Int32.lt_iff_toInt_lt.mp hv
  have hl : -2147483648 ≤ v.toInt := Int32.le_toInt v
  have eq1 : (v / 10).toInt = v.toInt.tdiv 10 := by
    rw [Int32.toInt_div]
    have h1 : (10 : Int32).toInt = 10 := by decide
    rw [h1]
    have h2 : v.toInt.tdiv 10 = -((-v.toInt) / 10) := by
      rw [← Int.neg_neg v.toInt, Int.neg_tdiv, Int.neg_neg, Int.tdiv_eq_ediv_of_nonneg (by omega)]
    exact Int.bmod_eq_of_le (by omega) (by omega)
  have eq2 : (v / 10 * 10).toInt = v.toInt.tdiv 10 * 10 := by
    rw [Int32.toInt_mul, eq1]
    have h1 : (10 : Int32).toInt = 10 := by decide
    rw [h1]
    have h2 : v.toInt.tdiv 10 = -((-v.toInt) / 10) := by
      rw [← Int.neg_neg v.toInt, Int.neg_tdiv, Int.neg_neg, Int.tdiv_eq_ediv_of_nonneg (by omega)]
    exact Int.bmod_eq_of_le (by omega) (by omega)
  have h2 : v.toInt.tdiv 10 = -((-v.toInt) / 10) := by
    rw [← Int.neg_neg v.toInt, Int.neg_tdiv, Int.neg_neg, Int.tdiv_eq_ediv_of_nonneg (by omega)]
  have eq3 : (v - v / 10 * 10).toInt = v.toInt - v.toInt.tdiv 10 * 10 := by
    rw [Int32.toInt_sub, eq2]
    exact Int.bmod_eq_of_le (by omega) (by omega)
  have eq4 : (v - v / 10 * 10 - 1).toInt = v.toInt - v.toInt.tdiv 10 * 10 - 1 := by
    rw [Int32.toInt_sub, eq3]
    have h1 : (1 : Int32).toInt = 1 := by decide
    rw [h1]
    exact Int.bmod_eq_of_le (by omega) (by omega)
  refine Int32.lt_iff_toInt_lt.mpr ?_
  rw [eq4]
  have h1 : (0 : Int32).toInt = 0 := by decide
  rw [h1]
  omega
