/-! THE BAND: what a ringing comes to -/
theorem i32_ex (x : Int32) : ∃ n, n < 2 ^ 32 ∧ x = nI n := by
  refine ⟨x.toBitVec.toNat, x.toBitVec.isLt, ?_⟩
  apply Int32.toBitVec_inj.mp
  rw [n_bv]
  apply BitVec.eq_of_toNat_eq
  rw [BitVec.toNat_ofNat, Nat.mod_eq_of_lt x.toBitVec.isLt]
/-- the DRAW's hash -/
def hsh (seed r b : Int32) : Int32 := ushI (((seed ^^^ (((64 * r) + b) * (-1640531535))) ^^^ (ushI (seed ^^^ (((64 * r) + b) * (-1640531535))) 15)) * (-2048144777)) 8
def drw (seed r b sk : Int32) : Int32 := ((hsh seed r b - hsh seed r b / (41 - (2 * sk)) * (41 - (2 * sk))) - 20) + sk
theorem drw_v (seed r b : Int32) {s : Nat} (hs : s ≤ 20) : ∃ v, v ≤ 40 ∧ drw seed r b (nI s) = nI v - 20 := by
  have e8 : ∃ X, X < 2 ^ 24 ∧ hsh seed r b = nI X := by
    unfold hsh
    generalize ((seed ^^^ (((64 * r) + b) * (-1640531535))) ^^^ (ushI (seed ^^^ (((64 * r) + b) * (-1640531535))) 15)) * (-2048144777) = y
    obtain ⟨n, hn, rfl⟩ := i32_ex y
    refine ⟨n >>> 8, ?_, n_ush hn (by decide)⟩
    rw [Nat.shiftRight_eq_div_pow]
    omega
  obtain ⟨X, hX, eX⟩ := e8
  unfold drw
  rw [eX]
  have ew : (41 : Int32) - 2 * nI s = nI (41 - 2 * s) := by
    rw [show (41 : Int32) = nI 41 from rfl, show (2 : Int32) = nI 2 from rfl, n_mul, n_sub (by omega)]
  rw [ew, n_rem (by omega) (by omega)]
  have hm : X % (41 - 2 * s) < 41 - 2 * s := Nat.mod_lt _ (by omega)
  refine ⟨X % (41 - 2 * s) + s, by omega, ?_⟩
  rw [← n_add]
  generalize nI (X % (41 - 2 * s)) = p
  generalize nI s = q
  rw [Int32.sub_eq_add_neg, Int32.sub_eq_add_neg, Int32.add_assoc p, Int32.add_assoc p, Int32.add_comm q]
/-- the OFFSET -/
def ofs (k sl : Nat) (hand : Int32) : Int32 := if k = 1 then hand - 15 else if k = 2 then (hand - 15) + 10 * nI sl else if k = 3 then hand / 2 else if k = 4 then ((2 * (hand / 2)) + hand) / 3 else hand
theorem ofs_bd {k sl v : Nat} (hs : sl ≤ 2 ^ 22) (hv : v ≤ 40) : -35 ≤ (ofs k sl (nI v - 20)).toInt ∧ (ofs k sl (nI v - 20)).toInt ≤ 20 + 10 * sl := by
  have t : ∀ v, v < 41 → (nI v - 20).toInt = (v : Int) - 20 ∧ (nI v - 20 - 15).toInt = (v : Int) - 35 ∧ -20 ≤ ((nI v - 20) / 2).toInt ∧ ((nI v - 20) / 2).toInt ≤ 20 ∧ -20 ≤ (((2 * ((nI v - 20) / 2)) + (nI v - 20)) / 3).toInt ∧ (((2 * ((nI v - 20) / 2)) + (nI v - 20)) / 3).toInt ≤ 20 := by decide
  obtain ⟨t1, t2, t3, t4, t5, t6⟩ := t v (by omega)
  unfold ofs
  by_cases h1 : k = 1
  · rw [if_pos h1]; omega
  rw [if_neg h1]
  by_cases h2 : k = 2
  · rw [if_pos h2, Int32.toInt_add, t2, show (10 : Int32) = nI 10 from rfl, n_mul, nI_toInt (by omega), Int.bmod_eq_of_le (by omega) (by omega)]
    omega
  rw [if_neg h2]
  by_cases h3 : k = 3
  · rw [if_pos h3]; omega
  rw [if_neg h3]
  by_cases h4 : k = 4
  · rw [if_pos h4]; omega
  rw [if_neg h4]
  omega
/-- when bell b blows at place p (from 0 on) -/
def tmb (N : Nat) (kd sk : Nat → Nat) (seed : Int32) (r p b sl : Nat) : Int32 := nI (20 * (N * r + p + 1 + r / 2)) + ofs (kd b) sl (drw seed (nI r) (nI b) (nI (sk b)))
theorem tmb_bd {N : Nat} (hN : N ≤ 8) {kd sk : Nat → Nat} (seed : Int32) {r p b sl : Nat} (hr : r ≤ 2000) (hp : p < 8) (hk : sk b ≤ 20) (hs : sl ≤ 2 ^ 22) : -15 ≤ (tmb N kd sk seed r p b sl).toInt := by
  obtain ⟨v, hv, e⟩ := drw_v seed (nI r) (nI b) hk
  obtain ⟨h1, h2⟩ := ofs_bd (k := kd b) hs hv
  unfold tmb
  rw [e]
  have h3 : N * r ≤ 8 * 2000 := Nat.mul_le_mul hN hr
  rw [Int32.toInt_add, nI_toInt (by omega), Int.bmod_eq_of_le (by omega) (by omega)]
  omega
abbrev RSt : Type := (Nat → Nat) × Nat × Int32 × Bool × Nat × (Nat → Int32)
/-- a ROW, so many places of it: SLIPS, CLASHES, the greatest time, whether it ended, how many blew, when -/
def rst (N : Nat) (kd sk : Nat → Nat) (seed : Int32) (r : Nat) (f sl0 : Nat → Nat) (cl0 : Nat) : Nat → RSt
  | 0 => (sl0, cl0, 0, false, 0, fun _ => 0)
  | p + 1 => if (rst N kd sk seed r f sl0 cl0 p).2.2.2.1 = true then rst N kd sk seed r f sl0 cl0 p else
      if p = 0 ∨ (rst N kd sk seed r f sl0 cl0 p).2.2.1 < tmb N kd sk seed r p (f p + 1) ((rst N kd sk seed r f sl0 cl0 p).1 (f p + 1)) then
        ((rst N kd sk seed r f sl0 cl0 p).1, (rst N kd sk seed r f sl0 cl0 p).2.1, tmb N kd sk seed r p (f p + 1) ((rst N kd sk seed r f sl0 cl0 p).1 (f p + 1)), false, p + 1, u1 (rst N kd sk seed r f sl0 cl0 p).2.2.2.2.2 p (tmb N kd sk seed r p (f p + 1) ((rst N kd sk seed r f sl0 cl0 p).1 (f p + 1))))
      else
        (u1 (rst N kd sk seed r f sl0 cl0 p).1 (f p + 1) ((rst N kd sk seed r f sl0 cl0 p).1 (f p + 1) + 1), (rst N kd sk seed r f sl0 cl0 p).2.1 + 1, (rst N kd sk seed r f sl0 cl0 p).2.2.1, decide (kd (f p + 1) = 2 ∧ 3 ≤ (rst N kd sk seed r f sl0 cl0 p).1 (f p + 1) + 1), p + 1, u1 (rst N kd sk seed r f sl0 cl0 p).2.2.2.2.2 p (tmb N kd sk seed r p (f p + 1) ((rst N kd sk seed r f sl0 cl0 p).1 (f p + 1))))
section RST
variable {N : Nat} {kd sk : Nat → Nat} {seed : Int32} {r : Nat} {f sl0 : Nat → Nat} {cl0 : Nat}
theorem rst_end {p : Nat} (h : (rst N kd sk seed r f sl0 cl0 p).2.2.2.1 = true) : ∀ j, rst N kd sk seed r f sl0 cl0 (p + j) = rst N kd sk seed r f sl0 cl0 p
  | 0 => rfl
  | j + 1 => by
    have ih := rst_end h j
    show rst N kd sk seed r f sl0 cl0 (p + j + 1) = _
    rw [rst, ih, if_pos h]
theorem rst_live {p : Nat} : ∀ k, k ≤ p → (rst N kd sk seed r f sl0 cl0 p).2.2.2.1 = false → (rst N kd sk seed r f sl0 cl0 k).2.2.2.1 = false := by
  intro k hk h
  cases e : (rst N kd sk seed r f sl0 cl0 k).2.2.2.1 with
  | false => rfl
  | true =>
    obtain ⟨j, rfl⟩ : ∃ j, p = k + j := ⟨p - k, by omega⟩
    rw [rst_end e j, e] at h
    cases h
theorem rst_pl : ∀ p, (rst N kd sk seed r f sl0 cl0 p).2.2.2.2.1 ≤ p ∧ ((rst N kd sk seed r f sl0 cl0 p).2.2.2.1 = false → (rst N kd sk seed r f sl0 cl0 p).2.2.2.2.1 = p) ∧ ((rst N kd sk seed r f sl0 cl0 p).2.2.2.1 = true → 1 ≤ (rst N kd sk seed r f sl0 cl0 p).2.2.2.2.1)
  | 0 => ⟨Nat.le_refl 0, fun _ => rfl, fun h => by cases h⟩
  | p + 1 => by
    obtain ⟨h1, h2, h3⟩ := rst_pl p
    rw [rst]
    by_cases e : (rst N kd sk seed r f sl0 cl0 p).2.2.2.1 = true
    · rw [if_pos e]
      exact ⟨by omega, fun h => absurd (e.symm.trans h) (by decide), h3⟩
    · rw [if_neg e]
      by_cases e2 : p = 0 ∨ (rst N kd sk seed r f sl0 cl0 p).2.2.1 < tmb N kd sk seed r p (f p + 1) ((rst N kd sk seed r f sl0 cl0 p).1 (f p + 1))
      · rw [if_pos e2]
        exact ⟨Nat.le_refl _, fun _ => rfl, fun h => by cases h⟩
      · rw [if_neg e2]
        exact ⟨Nat.le_refl _, fun _ => rfl, fun _ => by show 1 ≤ p + 1; omega⟩
theorem rst_sl {M : Nat} (h0 : ∀ b, sl0 b ≤ M) : ∀ p b, (rst N kd sk seed r f sl0 cl0 p).1 b ≤ M + p
  | 0, b => h0 b
  | p + 1, b => by
    have h1 := rst_sl h0 p
    rw [rst]
    by_cases e : (rst N kd sk seed r f sl0 cl0 p).2.2.2.1 = true
    · rw [if_pos e]; have := h1 b; omega
    · rw [if_neg e]
      by_cases e2 : p = 0 ∨ (rst N kd sk seed r f sl0 cl0 p).2.2.1 < tmb N kd sk seed r p (f p + 1) ((rst N kd sk seed r f sl0 cl0 p).1 (f p + 1))
      · rw [if_pos e2]; have := h1 b; show (rst N kd sk seed r f sl0 cl0 p).1 b ≤ _; omega
      · rw [if_neg e2]
        show (if b = f p + 1 then (rst N kd sk seed r f sl0 cl0 p).1 (f p + 1) + 1 else (rst N kd sk seed r f sl0 cl0 p).1 b) ≤ _
        by_cases e3 : b = f p + 1
        · rw [if_pos e3]; have := h1 (f p + 1); omega
        · rw [if_neg e3]; have := h1 b; omega
theorem rst_cl : ∀ p, (rst N kd sk seed r f sl0 cl0 p).2.1 ≤ cl0 + p
  | 0 => Nat.le_refl _
  | p + 1 => by
    have h1 := rst_cl p
    rw [rst]
    by_cases e : (rst N kd sk seed r f sl0 cl0 p).2.2.2.1 = true
    · rw [if_pos e]; omega
    · rw [if_neg e]
      by_cases e2 : p = 0 ∨ (rst N kd sk seed r f sl0 cl0 p).2.2.1 < tmb N kd sk seed r p (f p + 1) ((rst N kd sk seed r f sl0 cl0 p).1 (f p + 1))
      · rw [if_pos e2]; show (rst N kd sk seed r f sl0 cl0 p).2.1 ≤ _; omega
      · rw [if_neg e2]; show (rst N kd sk seed r f sl0 cl0 p).2.1 + 1 ≤ _; omega
/-- times once told stay -/
theorem rst_tt : ∀ p i, i < p → i < (rst N kd sk seed r f sl0 cl0 p).2.2.2.2.1 → ∃ sl, (rst N kd sk seed r f sl0 cl0 p).2.2.2.2.2 i = tmb N kd sk seed r i (f i + 1) sl ∧ sl = (rst N kd sk seed r f sl0 cl0 i).1 (f i + 1)
  | 0, i, h, _ => absurd h (Nat.not_lt_zero i)
  | p + 1, i, h, hp => by
    rw [rst] at hp ⊢
    by_cases e : (rst N kd sk seed r f sl0 cl0 p).2.2.2.1 = true
    · rw [if_pos e] at hp ⊢
      have := (rst_pl (N := N) (kd := kd) (sk := sk) (seed := seed) (r := r) (f := f) (sl0 := sl0) (cl0 := cl0) p).1
      exact rst_tt p i (by omega) hp
    · have e' : (rst N kd sk seed r f sl0 cl0 p).2.2.2.1 = false := by cases h : (rst N kd sk seed r f sl0 cl0 p).2.2.2.1 with | false => rfl | true => exact absurd h e
      have hpl := (rst_pl p).2.1 e'
      rw [if_neg e] at hp ⊢
      have key : ∃ sl, (u1 (rst N kd sk seed r f sl0 cl0 p).2.2.2.2.2 p (tmb N kd sk seed r p (f p + 1) ((rst N kd sk seed r f sl0 cl0 p).1 (f p + 1)))) i = tmb N kd sk seed r i (f i + 1) sl ∧ sl = (rst N kd sk seed r f sl0 cl0 i).1 (f i + 1) := by
        by_cases ei : i = p
        · subst ei
          exact ⟨_, if_pos rfl, rfl⟩
        · obtain ⟨sl, g1, g2⟩ := rst_tt p i (by omega) (by omega)
          exact ⟨sl, (if_neg ei).trans g1, g2⟩
      by_cases e2 : p = 0 ∨ (rst N kd sk seed r f sl0 cl0 p).2.2.1 < tmb N kd sk seed r p (f p + 1) ((rst N kd sk seed r f sl0 cl0 p).1 (f p + 1))
      · rw [if_pos e2]; exact key
      · rw [if_neg e2]; exact key
end RST
/-- some bell has a CONDUCTOR or TENOR -/
def cdr (kd : Nat → Nat) : Nat → Bool
  | 0 => false
  | b + 1 => cdr kd b || decide (3 ≤ kd (b + 1))
abbrev BSt : Type := (Nat → Nat) × Nat × Nat × Int32 × Bool
/-- so many ROWS of a RINGING: SLIPS, CLASHES, WORDS, who was LOST, whether it FIRED OUT -/
def bst (N : Nat) (kd sk : Nat → Nat) (seed : Int32) (fr : Nat) (F : Nat → Nat → Nat) (sl0 : Nat → Nat) : Nat → BSt
  | 0 => (sl0, 0, 0, -9, false)
  | k + 1 => if (bst N kd sk seed fr F sl0 k).2.2.2.2 = true then bst N kd sk seed fr F sl0 k else
      if (rst N kd sk seed (fr + k) (F (fr + k)) (bst N kd sk seed fr F sl0 k).1 (bst N kd sk seed fr F sl0 k).2.1 N).2.2.2.1 = true then
        (if 5 ≤ (bst N kd sk seed fr F sl0 k).2.2.1 ∨ cdr kd N = false then
          ((rst N kd sk seed (fr + k) (F (fr + k)) (bst N kd sk seed fr F sl0 k).1 (bst N kd sk seed fr F sl0 k).2.1 N).1, (rst N kd sk seed (fr + k) (F (fr + k)) (bst N kd sk seed fr F sl0 k).1 (bst N kd sk seed fr F sl0 k).2.1 N).2.1, (bst N kd sk seed fr F sl0 k).2.2.1, nI (F (fr + k) ((rst N kd sk seed (fr + k) (F (fr + k)) (bst N kd sk seed fr F sl0 k).1 (bst N kd sk seed fr F sl0 k).2.1 N).2.2.2.2.1 - 1) + 1), true)
        else
          (u1 (rst N kd sk seed (fr + k) (F (fr + k)) (bst N kd sk seed fr F sl0 k).1 (bst N kd sk seed fr F sl0 k).2.1 N).1 (F (fr + k) ((rst N kd sk seed (fr + k) (F (fr + k)) (bst N kd sk seed fr F sl0 k).1 (bst N kd sk seed fr F sl0 k).2.1 N).2.2.2.2.1 - 1) + 1) 0, (rst N kd sk seed (fr + k) (F (fr + k)) (bst N kd sk seed fr F sl0 k).1 (bst N kd sk seed fr F sl0 k).2.1 N).2.1, (bst N kd sk seed fr F sl0 k).2.2.1 + 1, nI (F (fr + k) ((rst N kd sk seed (fr + k) (F (fr + k)) (bst N kd sk seed fr F sl0 k).1 (bst N kd sk seed fr F sl0 k).2.1 N).2.2.2.2.1 - 1) + 1), false))
      else ((rst N kd sk seed (fr + k) (F (fr + k)) (bst N kd sk seed fr F sl0 k).1 (bst N kd sk seed fr F sl0 k).2.1 N).1, (rst N kd sk seed (fr + k) (F (fr + k)) (bst N kd sk seed fr F sl0 k).1 (bst N kd sk seed fr F sl0 k).2.1 N).2.1, (bst N kd sk seed fr F sl0 k).2.2.1, (bst N kd sk seed fr F sl0 k).2.2.2.1, false)
/-- the k-th ROW of it -/
def brw (N : Nat) (kd sk : Nat → Nat) (seed : Int32) (fr : Nat) (F : Nat → Nat → Nat) (sl0 : Nat → Nat) (k : Nat) : RSt := rst N kd sk seed (fr + k) (F (fr + k)) (bst N kd sk seed fr F sl0 k).1 (bst N kd sk seed fr F sl0 k).2.1 N
theorem bst_bd {N : Nat} {kd sk : Nat → Nat} {seed : Int32} {fr : Nat} {F : Nat → Nat → Nat} {sl0 : Nat → Nat} {M : Nat} (h0 : ∀ b, sl0 b ≤ M) : ∀ k, (∀ b, (bst N kd sk seed fr F sl0 k).1 b ≤ M + N * k) ∧ (bst N kd sk seed fr F sl0 k).2.1 ≤ N * k ∧ (bst N kd sk seed fr F sl0 k).2.2.1 ≤ 5
  | 0 => ⟨h0, Nat.le_refl _, Nat.zero_le _⟩
  | k + 1 => by
    obtain ⟨h1, h2, h3⟩ := bst_bd h0 k
    have h4 := rst_sl (N := N) (kd := kd) (sk := sk) (seed := seed) (r := fr + k) (f := F (fr + k)) (cl0 := (bst N kd sk seed fr F sl0 k).2.1) h1 N
    have h5 := rst_cl (N := N) (kd := kd) (sk := sk) (seed := seed) (r := fr + k) (f := F (fr + k)) (sl0 := (bst N kd sk seed fr F sl0 k).1) (cl0 := (bst N kd sk seed fr F sl0 k).2.1) N
    have e : N * (k + 1) = N * k + N := Nat.mul_succ _ _
    rw [bst]
    by_cases c1 : (bst N kd sk seed fr F sl0 k).2.2.2.2 = true
    · rw [if_pos c1]
      exact ⟨fun b => by have := h1 b; omega, by omega, h3⟩
    rw [if_neg c1]
    by_cases c2 : (rst N kd sk seed (fr + k) (F (fr + k)) (bst N kd sk seed fr F sl0 k).1 (bst N kd sk seed fr F sl0 k).2.1 N).2.2.2.1 = true
    · rw [if_pos c2]
      by_cases c3 : 5 ≤ (bst N kd sk seed fr F sl0 k).2.2.1 ∨ cdr kd N = false
      · rw [if_pos c3]
        exact ⟨fun b => by have := h4 b; show (rst N kd sk seed (fr + k) (F (fr + k)) (bst N kd sk seed fr F sl0 k).1 (bst N kd sk seed fr F sl0 k).2.1 N).1 b ≤ _; omega, by show (rst N kd sk seed (fr + k) (F (fr + k)) (bst N kd sk seed fr F sl0 k).1 (bst N kd sk seed fr F sl0 k).2.1 N).2.1 ≤ _; omega, h3⟩
      · rw [if_neg c3]
        refine ⟨fun b => ?_, by show (rst N kd sk seed (fr + k) (F (fr + k)) (bst N kd sk seed fr F sl0 k).1 (bst N kd sk seed fr F sl0 k).2.1 N).2.1 ≤ _; omega, by show (bst N kd sk seed fr F sl0 k).2.2.1 + 1 ≤ 5; omega⟩
        show (if b = _ then 0 else (rst N kd sk seed (fr + k) (F (fr + k)) (bst N kd sk seed fr F sl0 k).1 (bst N kd sk seed fr F sl0 k).2.1 N).1 b) ≤ _
        have := h4 b
        split <;> omega
    · rw [if_neg c2]
      exact ⟨fun b => by have := h4 b; show (rst N kd sk seed (fr + k) (F (fr + k)) (bst N kd sk seed fr F sl0 k).1 (bst N kd sk seed fr F sl0 k).2.1 N).1 b ≤ _; omega, by show (rst N kd sk seed (fr + k) (F (fr + k)) (bst N kd sk seed fr F sl0 k).1 (bst N kd sk seed fr F sl0 k).2.1 N).2.1 ≤ _; omega, h3⟩
