/-! HEADS: the class finds them -/
/-- from row x to row y -/
def hd (N : Nat) (G : Nat → Nat → Nat) (y x : Nat) : Nat → Nat := fun p => G y (iv (G x) N p)
def hit (N : Nat) (G : Nat → Nat → Nat) (r y x : Nat) : Prop := r = rkN N (hd N G y x) ∨ r = rkN N (iv (hd N G y x) N)
def tri : Nat → Nat
  | 0 => 0
  | k + 1 => tri k + 2 * k
theorem tri_le : ∀ n k, k ≤ n → tri k ≤ tri n
  | 0, k, h => by rw [Nat.le_zero.mp h]; exact Nat.le_refl _
  | n + 1, k, h => by
    by_cases c : k = n + 1
    · rw [c]; exact Nat.le_refl _
    · have := tri_le n k (by omega)
      show tri k ≤ tri n + 2 * n
      omega
def QI (N : Nat) (G : Nat → Nat → Nat) (P : Nat → Bool) (j x : Nat) : Prop := (∀ r, P r = true ↔ r = 0 ∨ (∃ y x', x' < y ∧ y < j ∧ hit N G r y x') ∨ ∃ x', x' < x ∧ hit N G r j x') ∧ ∀ m, cn P m ≤ 1 + tri j + 2 * x
section FIND
variable {N A B : Nat} {G : Nat → Nat → Nat}
theorem hd_row (hr : ∀ i, i ≤ B - A → IsRow N (G i)) {y x : Nat} (hy : y ≤ B - A) (hx : x ≤ B - A) : IsRow N (hd N G y x) := (hr y hy).comp (hr x hx).iv
theorem QI.step {P : Nat → Bool} {j x : Nat} (h : QI N G P j x) : QI N G (insP (insP P (rkN N (hd N G j x))) (rkN N (iv (hd N G j x) N))) j (x + 1) := by
  refine ⟨fun r => ?_, fun m => ?_⟩
  · rw [insP_iff, insP_iff, h.1 r]
    constructor
    · rintro (((h0 | h1 | ⟨x', h2, h3⟩) | h4) | h5)
      · exact Or.inl h0
      · exact Or.inr (Or.inl h1)
      · exact Or.inr (Or.inr ⟨x', by omega, h3⟩)
      · exact Or.inr (Or.inr ⟨x, by omega, Or.inl h4⟩)
      · exact Or.inr (Or.inr ⟨x, by omega, Or.inr h5⟩)
    · rintro (h0 | h1 | ⟨x', h2, h3⟩)
      · exact Or.inl (Or.inl (Or.inl h0))
      · exact Or.inl (Or.inl (Or.inr (Or.inl h1)))
      · by_cases c : x' = x
        · subst c
          rcases h3 with h3 | h3
          · exact Or.inl (Or.inr h3)
          · exact Or.inr h3
        · exact Or.inl (Or.inl (Or.inr (Or.inr ⟨x', by omega, h3⟩)))
  · have h1 := cn_insP1 (insP P (rkN N (hd N G j x))) (rkN N (iv (hd N G j x) N)) m
    have h2 := cn_insP1 P (rkN N (hd N G j x)) m
    have h3 := h.2 m
    omega
theorem QI.next {P : Nat → Bool} {j : Nat} (h : QI N G P j j) : QI N G P (j + 1) 0 := by
  refine ⟨fun r => ?_, fun m => ?_⟩
  · rw [h.1 r]
    constructor
    · rintro (h0 | ⟨y, x, h1, h2, h3⟩ | ⟨x, h1, h2⟩)
      · exact Or.inl h0
      · exact Or.inr (Or.inl ⟨y, x, h1, by omega, h3⟩)
      · exact Or.inr (Or.inl ⟨j, x, h1, by omega, h2⟩)
    · rintro (h0 | ⟨y, x, h1, h2, h3⟩ | ⟨x, h1, h2⟩)
      · exact Or.inl h0
      · by_cases c : y = j
        · subst c; exact Or.inr (Or.inr ⟨x, h1, h3⟩)
        · exact Or.inr (Or.inl ⟨y, x, h1, by omega, h3⟩)
      · exact absurd h1 (Nat.not_lt_zero x)
  · have := h.2 m
    have e : tri (j + 1) = tri j + 2 * j := rfl
    omega
abbrev FFd : List (Nat × Option Nat) := [(82, none), (83, none)]
theorem c_findX (h3 : 3 ≤ N) (hN : N ≤ 8) (hAB : A ≤ B) (hB : B ≤ 2000) (h59 : B - A ≤ 59) (hr : ∀ i, i ≤ B - A → IsRow N (G i)) (d : Nat) {j : Nat} (hj : j ≤ B - A) : ∀ n x (w : Wd) (P : Nat → Bool) (l7 : Option Value), x + n = j → Fix w → (∀ i, i ≤ B - A → gI w 68 (A + i) = nI (pkN N (G i))) → (∀ i, i < j → gI w 83 i = nI (pkN N (iv (G i) N))) → BS w P → QI N G P j x → ∃ w' P' k6 k7, val (69, d + 3, 30, [some (.ref 80), some (.int (nI N)), some (.ref 68), some (.int (nI A)), some (.int (nI B)), some (.int (nI (A + j))), some (.int (nI (A + x))), l7], [], w) = val (69, d + 3, 20, [some (.ref 80), some (.int (nI N)), some (.ref 68), some (.int (nI A)), some (.int (nI B)), some (.int (nI (A + (j + 1)))), k6, k7], [], w') ∧ Fr FFd w w' ∧ (∀ i, i < j + 1 → gI w' 83 i = nI (pkN N (iv (G i) N))) ∧ BS w' P' ∧ QI N G P' (j + 1) 0 := by
  have hO := okn h3 hN
  have sA : ∀ i, nI (A + i) - nI A = nI i := fun i => by rw [n_sub (by omega), Nat.add_sub_cancel_left]
  intro n
  induction n with
  | zero =>
    intro x w P l7 hx hW h68 h83 hb hq
    have hxj : x = j := by omega
    subst hxj
    have e := tr_69_30 d w hW (nI N) 68 (nI A) (nI B) (nI (A + x)) (nI (A + x)) l7 2001 (hW.k 68 (by decide) (by decide)) (fun _ => inB_nI (by omega) (by omega)) (fun _ => inB_nI (by omega) (by omega)) (fun h => absurd (Int32.le_refl _) h)
    rw [if_pos (Int32.le_refl _), sA, nI_clamp (show A + x < 2 ^ 31 by omega), h68 x hj] at e
    obtain ⟨w1, hw1⟩ : ∃ z, z = sI w 83 x (nI (pkN N (iv (G x) N))) := ⟨_, rfl⟩
    have f1 : Fr [(83, none)] w w1 := by rw [hw1]; exact (Fr.refl _ w).sI 83 _ _ rfl
    refine ⟨w1, P, some (.int (nI (A + x))), l7, e.trans ?_, f1.mono rfl, fun i hi => ?_, hb.fr f1 rfl, hq.next⟩
    · refine (val_call (pc2 := 96) rfl rfl rfl rfl rfl (Nat.le_of_ble_eq_true rfl) (Nat.le_of_ble_eq_true rfl) rfl (ev_137 (d + 1) w (nI N) (nI (pkN N (G x))) hO) rfl).trans ?_
      rw [r_137 hN (hr x hj)]
      refine (tr_69_96 d w hW _ 68 _ _ _ _ _ _ l7 (inB_nI (by omega) (by omega))).trans ?_
      rw [nI_clamp (by omega), n_succ, ← hw1]
      rfl
    · rw [hw1]
      by_cases c : i = x
      · rw [c, gI_same]
      · rw [gI_nk _ _ _ c]; exact h83 i (by omega)
  | succ n ih =>
    intro x w P l7 hx hW h68 h83 hb hq
    have e := tr_69_30 d w hW (nI N) 68 (nI A) (nI B) (nI (A + j)) (nI (A + x)) l7 2001 (hW.k 68 (by decide) (by decide)) (fun _ => inB_nI (by omega) (by omega)) (fun _ => inB_nI (by omega) (by omega)) (fun _ => by rw [sA]; exact inB_nI (by omega) (by omega))
    rw [if_neg (n_nle (show A + x < A + j by omega) (by omega)), sA, nI_clamp (show A + j < 2 ^ 31 by omega), nI_clamp (show x < 2 ^ 31 by omega), h68 j hj, h83 x (by omega)] at e
    have hh : IsRow N (hd N G j x) := hd_row hr hj (by omega)
    obtain ⟨w1, m1, f1, b1⟩ := c_mark h3 hN d hW hb hh
    have hW1 := f1.fix rfl hW
    obtain ⟨w2, m2, f2, b2⟩ := c_mark h3 hN d hW1 b1 hh.iv
    have f12 := f1.trans f2
    obtain ⟨w3, P', k6, k7, e3, f3, g3, b3, q3⟩ := ih (x + 1) w2 _ (some (.int (nI (pkN N (hd N G j x))))) (by omega) (f2.fix rfl hW1) (fun i hi => (f12.i 68 _ rfl).trans (h68 i hi)) (fun i hi => (f12.i 83 i rfl).trans (h83 i hi)) b2 hq.step
    refine ⟨w3, P', k6, k7, e.trans ?_, (f12.mono rfl).trans f3, g3, b3, q3⟩
    refine (val_call (pc2 := 54) rfl rfl rfl rfl rfl (Nat.le_of_ble_eq_true rfl) (Nat.le_of_ble_eq_true rfl) rfl (ev_136 (d + 1) w (nI N) (nI (pkN N (G j))) (nI (pkN N (iv (G x) N))) hO) rfl).trans ?_
    rw [r_136 hN (hr j hj).1 (hr x (by omega)).iv.1]
    refine (tr_69_54 d w _ 68 _ _ _ _ _ l7).trans ?_
    refine (val_call (pc2 := 63) rfl rfl rfl rfl (rcvO hW.k80 (by decide)) (Nat.le_of_ble_eq_true rfl) (Nat.le_of_ble_eq_true rfl) rfl m1 rfl).trans ?_
    refine (tr_69_63 d w1 _ 68 _ _ _ _ _).trans ?_
    refine (val_call (pc2 := 71) rfl rfl rfl rfl rfl (Nat.le_of_ble_eq_true rfl) (Nat.le_of_ble_eq_true rfl) rfl (ev_137 (d + 1) w1 (nI N) (nI (pkN N (hd N G j x))) hO) rfl).trans ?_
    rw [r_137 hN hh]
    refine (val_call (pc2 := 74) rfl rfl rfl rfl (rcvO hW1.k80 (by decide)) (Nat.le_of_ble_eq_true rfl) (Nat.le_of_ble_eq_true rfl) rfl m2 rfl).trans ?_
    refine (tr_69_74 d w2 _ 68 _ _ _ _ _).trans ?_
    rw [n_succ (A + x)]
    exact e3
theorem c_findY (h3 : 3 ≤ N) (hN : N ≤ 8) (hAB : A ≤ B) (hB : B ≤ 2000) (h59 : B - A ≤ 59) (hr : ∀ i, i ≤ B - A → IsRow N (G i)) (d : Nat) : ∀ n j (w : Wd) (P : Nat → Bool) (l6 l7 : Option Value), j + n = B - A + 1 → Fix w → (∀ i, i ≤ B - A → gI w 68 (A + i) = nI (pkN N (G i))) → (∀ i, i < j → gI w 83 i = nI (pkN N (iv (G i) N))) → BS w P → QI N G P j 0 → ∃ w' P' k5 k6 k7, val (69, d + 3, 20, [some (.ref 80), some (.int (nI N)), some (.ref 68), some (.int (nI A)), some (.int (nI B)), some (.int (nI (A + j))), l6, l7], [], w) = val (69, d + 3, 105, [some (.ref 80), some (.int (nI N)), some (.ref 68), some (.int (nI A)), some (.int (nI B)), some (.int k5), k6, k7], [.int (nI N), .ref 80], w') ∧ Fr FFd w w' ∧ BS w' P' ∧ QI N G P' (B - A + 1) 0 := by
  intro n
  induction n with
  | zero =>
    intro j w P l6 l7 hj hW h68 h83 hb hq
    have hj2 : j = B - A + 1 := by omega
    subst hj2
    refine ⟨w, P, _, _, _, (tr_69_20 d w _ 68 _ _ _ l6 l7).trans (if_pos (n_lt (show B < A + (B - A + 1) by omega) (by omega))), Fr.refl _ _, hb, hq⟩
  | succ n ih =>
    intro j w P l6 l7 hj hW h68 h83 hb hq
    have e := tr_69_20 d w (nI N) 68 (nI A) (nI B) (nI (A + j)) l6 l7
    rw [if_neg (n_nlt (show A + j ≤ B by omega) (by omega))] at e
    obtain ⟨w1, P1, k6, k7, e1, f1, g1, b1, q1⟩ := c_findX h3 hN hAB hB h59 hr d (show j ≤ B - A by omega) j 0 w P l7 (Nat.zero_add j) hW h68 h83 hb hq
    obtain ⟨w2, P2, k5, x6, x7, e2, f2, b2, q2⟩ := ih (j + 1) w1 P1 k6 k7 (by omega) (f1.fix rfl hW) (fun i hi => (f1.i 68 _ rfl).trans (h68 i hi)) g1 b1 q1
    exact ⟨w2, P2, k5, x6, x7, e.trans (e1.trans e2), f1.trans f2, b2, q2⟩
abbrev FFe : List (Nat × Option Nat) := [(80, some 1), (81, none), (82, none), (83, none)]
theorem QI.fin (h3 : 3 ≤ N) (hN : N ≤ 8) (hr : ∀ i, i ≤ B - A → IsRow N (G i)) {P : Nat → Bool} (h59 : B - A ≤ 59) (h : QI N G P (B - A + 1) 0) : (∀ r, P r = true ↔ ∃ y x, y ≤ B - A ∧ x ≤ B - A ∧ r = rkN N (hd N G y x)) ∧ (∀ m, cn P m ≤ 3541) ∧ ∀ r, fc N ≤ r → P r = false := by
  have hself : ∀ x, x ≤ B - A → rkN N (hd N G x x) = 0 := fun x hx => by
    rw [← rkN_id N]
    exact rk_eq (fun p hp => (hr x hx).at_iv hp)
  have hinv : ∀ y x, y ≤ B - A → x ≤ B - A → rkN N (iv (hd N G y x) N) = rkN N (hd N G x y) := fun y x hy hx => by
    refine rk_eq (iv_eq (hd_row hr hy hx) (hd_row hr hx hy).1 (fun p hp => ?_))
    show G y (iv (G x) N (G x (iv (G y) N p))) = p
    rw [iv_of (hr x hx) ((hr y hy).iv.1 p hp), (hr y hy).at_iv hp]
  have key : ∀ r, P r = true ↔ ∃ y x, y ≤ B - A ∧ x ≤ B - A ∧ r = rkN N (hd N G y x) := fun r => by
    rw [h.1 r]
    constructor
    · rintro (h0 | ⟨y, x, h1, h2, h4 | h4⟩ | ⟨x, h1, -⟩)
      · exact ⟨0, 0, Nat.zero_le _, Nat.zero_le _, by rw [h0, hself 0 (Nat.zero_le _)]⟩
      · exact ⟨y, x, by omega, by omega, h4⟩
      · exact ⟨x, y, by omega, by omega, by rw [h4, hinv y x (by omega) (by omega)]⟩
      · exact absurd h1 (Nat.not_lt_zero x)
    · rintro ⟨y, x, h1, h2, h4⟩
      rcases Nat.lt_trichotomy x y with c | c | c
      · exact Or.inr (Or.inl ⟨y, x, c, by omega, Or.inl h4⟩)
      · subst c; exact Or.inl (by rw [h4, hself x h1])
      · exact Or.inr (Or.inl ⟨x, y, c, by omega, Or.inr (by rw [h4, hinv x y h2 h1])⟩)
  refine ⟨key, fun m => ?_, fun r hfr => ?_⟩
  · have h1 := h.2 m
    have h2 := tri_le 60 (B - A + 1) (by omega)
    have h4 : tri 60 = 3540 := by decide
    omega
  · cases hp : P r with
    | false => rfl
    | true =>
      obtain ⟨y, x, h1, h2, h4⟩ := (key r).mp hp
      have := rkN_fc (hd_row hr h1 h2)
      omega
theorem c_find (h3 : 3 ≤ N) (hN : N ≤ 8) (hAB : A ≤ B) (hB : B ≤ 2000) (h59 : B - A ≤ 59) (hr : ∀ i, i ≤ B - A → IsRow N (G i)) (d : Nat) {w : Wd} (hW : Fix w) (h68 : ∀ i, i ≤ B - A → gI w 68 (A + i) = nI (pkN N (G i))) : ∃ w' P, val (69, d + 3, 0, [some (.ref 80), some (.int (nI N)), some (.ref 68), some (.int (nI A)), some (.int (nI B)), none, none, none], [], w) = some (none, w') ∧ Fr FFe w w' ∧ Gs w' P (fc N) ∧ (∀ r, P r = true ↔ ∃ y x, y ≤ B - A ∧ x ≤ B - A ∧ r = rkN N (hd N G y x)) ∧ (∀ m, cn P m ≤ 3541) ∧ ∀ r, fc N ≤ r → P r = false := by
  obtain ⟨wa, ea, fa, ga⟩ := r_fillL 82 630 (by decide) 0 (d + 2) (hW.k 82 (by decide) (by decide))
  have hWa := fa.fix rfl hW
  have hb0 : BS wa (fun _ => false) := fun i hi => ⟨0, by decide, ga i hi, fun k _ => Nat.zero_testBit k⟩
  obtain ⟨wb, eb, fb, gb⟩ := c_mark h3 hN d hWa hb0 (IsRow.id N)
  have hWb := fb.fix rfl hWa
  rw [rkN_id] at gb
  have hq0 : QI N G (insP (fun _ => false) 0) 0 0 := ⟨fun r => by
    rw [insP_iff]
    constructor
    · rintro (h | h)
      · cases h
      · exact Or.inl h
    · rintro (h | ⟨y, x, h1, h2, -⟩ | ⟨x, h1, -⟩)
      · exact Or.inr h
      · exact absurd h2 (Nat.not_lt_zero y)
      · exact absurd h1 (Nat.not_lt_zero x), fun m => by
    have h1 := cn_insP1 (fun _ => false) 0 m
    have h2 : cn (fun _ => false) m = 0 := cn_none m (fun _ _ => rfl)
    omega⟩
  have fab := fa.trans fb
  obtain ⟨wc, P, k5, k6, k7, ec, f1, b1, q1⟩ := c_findY h3 hN hAB hB h59 hr d (B - A + 1) 0 wb _ none none (Nat.zero_add _) hWb (fun i hi => (fab.i 68 _ rfl).trans (h68 i hi)) (fun i hi => absurd hi (Nat.not_lt_zero i)) gb hq0
  have hWc := f1.fix rfl hWb
  obtain ⟨p1, p2, p3⟩ := q1.fin h3 hN hr h59
  obtain ⟨wd, ed, fd, gd⟩ := c_gather hN (d + 2) p2 p3 hWc b1
  refine ⟨wd, P, (tr_69 d w hW _ 68 _ _).trans ?_, ((fab.mono rfl).trans (f1.mono rfl)).trans (fd.mono rfl), gd, p1, p2, p3⟩
  refine (val_call (pc2 := 8) rfl rfl rfl rfl rfl (Nat.le_of_ble_eq_true rfl) (Nat.le_of_ble_eq_true rfl) rfl ea rfl).trans ?_
  refine (tr_69_8 d wa _ 68 _ _).trans ?_
  refine (val_call (pc2 := 14) rfl rfl rfl rfl rfl (Nat.le_of_ble_eq_true rfl) (Nat.le_of_ble_eq_true rfl) rfl (ev_133 (d + 2) wa (nI N) (okn h3 hN)) rfl).trans ?_
  rw [r_133 hN]
  refine (val_call (pc2 := 17) rfl rfl rfl rfl (rcvO hWa.k80 (by decide)) (Nat.le_of_ble_eq_true rfl) (Nat.le_of_ble_eq_true rfl) rfl eb rfl).trans ?_
  refine (tr_69_17 d wb _ 68 _ _).trans ?_
  refine ec.trans ?_
  refine (val_call (pc2 := 108) rfl rfl rfl rfl rfl (Nat.le_of_ble_eq_true rfl) (Nat.le_of_ble_eq_true rfl) rfl (r_129 hN (d + 2) hWc) rfl).trans ?_
  refine (val_call (pc2 := 111) rfl rfl rfl rfl (rcvO hWc.k80 (by decide)) (Nat.le_of_ble_eq_true rfl) (Nat.le_of_ble_eq_true rfl) rfl ed rfl).trans ?_
  exact tr_69_111 d wd _ 68 _ _ _ k6 k7
end FIND
