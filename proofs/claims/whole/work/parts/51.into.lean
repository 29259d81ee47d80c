/-! THE REFERENCE'S ROWS: into, asRow, times, back -/
theorem n_shr {a k : Nat} (ha : a < 2 ^ 31) (hk : k < 32) : nI a >>> (nI k &&& 31) = nI (a >>> k) := by
  have h1 : nI k &&& 31 = nI k := by
    show nI k &&& nI 31 = nI k
    rw [n_and, show (31 : Nat) = 2 ^ 5 - 1 from rfl, Nat.and_two_pow_sub_one_eq_mod, Nat.mod_eq_of_lt (by omega)]
  rw [h1]
  apply Int32.toBitVec_inj.mp
  have h2 : ∀ k, k < 32 → (BitVec.ofNat 32 k).smod 32 = BitVec.ofNat 32 k := by decide
  have hm : (BitVec.ofNat 32 a).msb = false := by
    rw [BitVec.msb_eq_decide, BitVec.toNat_ofNat, Nat.mod_eq_of_lt (by omega)]
    simp only [decide_eq_false_iff_not]
    omega
  rw [Int32.toBitVec_shiftRight, n_bv, n_bv, n_bv, h2 k hk, BitVec.sshiftRight_eq', BitVec.sshiftRight_eq_of_msb_false hm]
  apply BitVec.eq_of_toNat_eq
  rw [BitVec.toNat_ushiftRight, BitVec.toNat_ofNat, BitVec.toNat_ofNat, BitVec.toNat_ofNat, Nat.mod_eq_of_lt (show k < 2 ^ 32 by omega), Nat.mod_eq_of_lt (show a < 2 ^ 32 by omega), Nat.mod_eq_of_lt]
  exact Nat.lt_of_le_of_lt (by rw [Nat.shiftRight_eq_div_pow]; exact Nat.div_le_self _ _) (show a < 2 ^ 32 by omega)
theorem bit_1 {S x : Nat} (hS : S < 2 ^ 31) (hx : x < 32) : ((nI S >>> (nI x &&& 31)) &&& 1 = 1) ↔ S.testBit x = true := by
  have e : (nI S >>> (nI x &&& 31)) &&& 1 = nI (S >>> x &&& 1) := by
    rw [n_shr hS hx]
    exact n_and _ 1
  have hb : S >>> x &&& 1 = (S.testBit x).toNat := by
    rw [Nat.and_one_is_mod, Nat.testBit, Nat.one_and_eq_mod_two]
    rcases Nat.mod_two_eq_zero_or_one (S >>> x) with h | h <;> rw [h] <;> rfl
  rw [e, hb]
  cases S.testBit x
  · exact ⟨fun h => absurd h (by decide), fun h => by cases h⟩
  · exact ⟨fun _ => rfl, fun _ => rfl⟩
/-- a turn of into's loop -/
theorem m171 (d : Nat) (w : Wd) (hW : Fix w) (a : Nat) (ha : a ≠ 108) (hk : wK w a = (20, 9)) (row v S : Int32) (P : Nat) (h1 : 1 ≤ P) (h8 : P ≤ 8) :
    val (171, d, 11, [some (.ref 108), some (.ref a), some (.int row), some (.int v), some (.int S), some (.int (nI P))], [], w) =
    (if (v - v / 10 * 10) < 1 then some (some (.int 0), sI w a P (v - v / 10 * 10)) else (if gI w 108 0 < (v - v / 10 * 10) then some (some (.int 0), sI w a P (v - v / 10 * 10)) else (if ¬ ((S >>> ((v - v / 10 * 10) &&& 31)) &&& 1) = 1 then val (171, d, 11, [some (.ref 108), some (.ref a), some (.int row), some (.int (v / 10)), some (.int (S ||| (1 <<< ((v - v / 10 * 10) &&& 31)))), some (.int (nI (P - 1)))], [], sI w a P (v - v / 10 * 10)) else some (some (.int 0), sI w a P (v - v / 10 * 10))))) := by
  have hi : inB (nI P) 9 = true := inB_nI (by omega) (by omega)
  rw [tr_171_11 d w hW a row v S (nI P) 9 hk (fun _ => hi) (fun _ _ => hi) (fun _ _ _ => hi) (fun _ _ _ _ => hi)]
  have h0 : ¬ nI P ≤ 0 := fun h => by have := (n_le_iff (a := P) (b := 0) (by omega) (by omega)).mp h; omega
  have hc : (nI P).toNatClampNeg = P := nI_clamp (by omega)
  have hp : nI P + (-1) = nI (P - 1) := by
    rw [← Int32.sub_eq_add_neg]
    exact n_sub (b := 1) h1
  rw [if_neg h0, hc, hp]
  simp only [gI_same, gI_ne w P 0 (v - v / 10 * 10) (Ne.symm ha)]
theorem m171z (d : Nat) (w : Wd) (hW : Fix w) (a : Nat) (hk : wK w a = (20, 9)) (row v S : Int32) :
    val (171, d, 11, [some (.ref 108), some (.ref a), some (.int row), some (.int v), some (.int S), some (.int 0)], [], w) = (if ¬ v = 0 then some (some (.int 0), w) else (if row ≤ 0 then some (some (.int 0), w) else some (some (.int 1), w))) := by
  have hz : ∀ {p : Prop}, (¬ ((0 : Int32) ≤ 0)) → p := fun h => absurd (by decide) h
  rw [tr_171_11 d w hW a row v S 0 9 hk hz hz hz hz, if_pos (by decide)]
theorem m171L {N V : Nat} (hN : N ≤ 8) (h0N : 0 < N) (hV : V < 2 ^ 31) (d a : Nat) (ha : a ≠ 108) (ha1 : a ≠ 1) : ∀ k, k ≤ N → GdK N V k → ∀ S, S < 2 ^ 9 → (∀ i, S.testBit i = true ↔ ∃ p, k ≤ p ∧ p < N ∧ bl N V p = i) →
    ∀ w, Fix w → wK w a = (20, 9) → gI w 108 0 = nI N → (∀ p, k ≤ p → p < N → gI w a (p + 1) = nI (bl N V p)) →
    ∃ r w', val (171, d, 11, [some (.ref 108), some (.ref a), some (.int (nI V)), some (.int (nI (V / 10 ^ (N - k)))), some (.int (nI S)), some (.int (nI k))], [], w) = some (some (.int r), w') ∧ Only (· = a) w w' ∧ ((Gd N V ∧ r = 1 ∧ ∀ p, p < N → gI w' a (p + 1) = nI (bl N V p)) ∨ (¬ Gd N V ∧ r = 0)) := by
  intro k
  induction k with
  | zero =>
    intro _ hg S _ _ w hW hk hn hc
    have hle : V / 10 ^ N ≤ V := Nat.div_le_self _ _
    rw [Nat.sub_zero]
    have h := m171z d w hW a hk (nI V) (nI (V / 10 ^ N)) (nI S)
    by_cases h0 : V / 10 ^ N = 0
    · rw [h0] at h ⊢
      rw [if_neg (show ¬ ¬ nI 0 = 0 by decide)] at h
      by_cases hv : nI V ≤ 0
      · have hv0 : V = 0 := by
          have := (n_le_iff (a := V) (b := 0) (by omega) (by omega)).mp hv
          omega
        rw [if_pos hv] at h
        refine ⟨0, w, h, Only.refl _ _, Or.inr ⟨fun hG => ?_, rfl⟩⟩
        have := (hG.1.1 0 (by omega) (by omega)).1
        unfold bl at this
        rw [hv0] at this
        simp at this
      · rw [if_neg hv] at h
        exact ⟨1, w, h, Only.refl _ _, Or.inl ⟨⟨hg, h0⟩, rfl, fun p hp => hc p (Nat.zero_le p) hp⟩⟩
    · rw [if_pos (show ¬ nI (V / 10 ^ N) = 0 from fun hh => h0 ((n_inj (b := 0) (by omega) (by omega)).mp hh))] at h
      exact ⟨0, w, h, Only.refl _ _, Or.inr ⟨fun hG => h0 hG.2, rfl⟩⟩
  | succ k ih =>
    intro hk1 hg S hS hb w hW hk hn hc
    have eR : N - (k + 1) = N - 1 - k := by omega
    rw [eR]
    have hRle : V / 10 ^ (N - 1 - k) ≤ V := Nat.div_le_self _ _
    have ebl : V / 10 ^ (N - 1 - k) % 10 = bl N V k := rfl
    have hb10 := bl_lt N V k
    have ex : nI (V / 10 ^ (N - 1 - k)) - nI (V / 10 ^ (N - 1 - k)) / 10 * 10 = nI (bl N V k) := n_rem (b := 10) (by omega) (by omega)
    have h := m171 d w hW a ha hk (nI V) (nI (V / 10 ^ (N - 1 - k))) (nI S) (k + 1) (by omega) (by omega)
    rw [ex, hn] at h
    have hon : Only (· = a) w (sI w a (k + 1) (nI (bl N V k))) := (Only.refl _ w).sI _ _ rfl
    by_cases h0 : bl N V k = 0
    · rw [if_pos (show nI (bl N V k) < 1 from (n_lt_iff (b := 1) (by omega) (by omega)).mpr (by omega))] at h
      exact ⟨0, _, h, hon, Or.inr ⟨fun hG => by have := (hG.1.1 k (by omega) (by omega)).1; omega, rfl⟩⟩
    rw [if_neg (show ¬ nI (bl N V k) < 1 from fun hh => by have := (n_lt_iff (b := 1) (by omega) (by omega)).mp hh; omega)] at h
    by_cases h1 : N < bl N V k
    · rw [if_pos ((n_lt_iff (by omega) (by omega)).mpr h1)] at h
      exact ⟨0, _, h, hon, Or.inr ⟨fun hG => by have := (hG.1.1 k (by omega) (by omega)).2; omega, rfl⟩⟩
    rw [if_neg (fun hh => by have := (n_lt_iff (by omega) (by omega)).mp hh; omega)] at h
    by_cases h2 : S.testBit (bl N V k) = true
    · rw [if_neg (fun hh => hh ((bit_1 (by omega) (by omega)).mpr h2))] at h
      refine ⟨0, _, h, hon, Or.inr ⟨fun hG => ?_, rfl⟩⟩
      obtain ⟨p, p1, p2, p3⟩ := (hb _).mp h2
      exact hG.1.2 k p (by omega) (by omega) p2 p3.symm
    rw [if_pos (fun hh => h2 ((bit_1 (by omega) (by omega)).mp hh)), n_shl1 (by omega), n_or, Nat.add_sub_cancel] at h
    have ediv : nI (V / 10 ^ (N - 1 - k)) / 10 = nI (V / 10 ^ (N - k)) := by
      have := n_div (a := V / 10 ^ (N - 1 - k)) (b := 10) (by omega) (by omega)
      rw [show N - k = (N - 1 - k) + 1 by omega, Nat.pow_succ, ← Nat.div_div_eq_div_mul]
      exact this
    rw [ediv] at h
    obtain ⟨r, w', e1, e2, e3⟩ := ih (by omega) ⟨fun p hp1 hp2 => by
        by_cases e : p = k
        · subst e; omega
        · exact hg.1 p (by omega) hp2, fun p q hp1 hpq hq => by
        by_cases e : p = k
        · subst e
          intro hh
          apply h2
          exact (hb _).mpr ⟨q, by omega, hq, hh.symm⟩
        · exact hg.2 p q (by omega) hpq hq⟩ (S ||| 2 ^ bl N V k) (Nat.or_lt_two_pow hS (Nat.pow_lt_pow_right (by decide) (by omega))) (fun i => by
        rw [Nat.testBit_or, Nat.testBit_two_pow, Bool.or_eq_true, decide_eq_true_eq, hb i]
        constructor
        · rintro (⟨p, p1, p2, p3⟩ | h)
          · exact ⟨p, by omega, p2, p3⟩
          · exact ⟨k, by omega, by omega, h⟩
        · rintro ⟨p, p1, p2, p3⟩
          by_cases e : p = k
          · subst e; exact Or.inr p3
          · exact Or.inl ⟨p, by omega, p2, p3⟩) (sI w a (k + 1) (nI (bl N V k))) (hon.fix (fun e => ha1 e.symm) hW) hk ((gI_ne w _ _ _ (Ne.symm ha)).trans hn) (fun p p1 p2 => by
        by_cases e : p = k
        · subst e; exact gI_same _ _ _ _
        · exact (gI_nk w a _ (by omega)).trans (hc p (by omega) p2))
    exact ⟨r, w', h.trans e1, hon.trans e2, e3⟩
