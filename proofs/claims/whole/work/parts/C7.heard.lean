/-! CALLS: wipe, inOrder, heard -/
section HEARD
variable {N C : Nat} {T bl : Nat → Nat} {w : Wd}
theorem a_wipe (hW : Fix w) (hN : NOK N C T bl) (hc : NC w C T bl) (hmm : NM w C T bl) (d : Nat) : ∃ r w1 w2, val (33, d + 1, 0, [some (.ref 64), none], [], w) = some (some (.int r), w1) ∧ val (232, d + 1, 0, [some (.ref 108), none], [], w1) = some (some (.int r), w2) ∧ Fr [(91, some 4), (91, some 5), (91, some 6)] w w1 ∧ Fr [(108, some 54)] w1 w2 ∧ NOK N 0 T bl ∧ NC w2 0 T bl ∧ NM w2 0 T bl ∧ gI w2 91 6 = 0 := by
  obtain ⟨w1, hw1⟩ : ∃ z, z = sI (sI (sI w 91 4 0) 91 5 0) 91 6 0 := ⟨_, rfl⟩
  have f1 : Fr [(91, some 4), (91, some 5), (91, some 6)] w w1 := by rw [hw1]; exact (((Fr.refl _ w).sI 91 4 _ rfl).sI 91 5 _ rfl).sI 91 6 _ rfl
  have hW1 := f1.fix rfl hW
  have f2 : Fr [(108, some 54)] w1 (sI w1 108 54 0) := (Fr.refl _ w1).sI 108 54 _ rfl
  refine ⟨nI C, w1, sI w1 108 54 0, (tr_33 d w hW).trans ?_, (tr_232 (d + 1) w1 hW1).trans ?_, f1, f2, ⟨by omega, hN.2.1, fun i hi => absurd hi (Nat.not_lt_zero i)⟩, ⟨?_, fun i hi => absurd hi (Nat.not_lt_zero i), fun i hi => absurd hi (Nat.not_lt_zero i), ?_, fun j hj => absurd hj (Nat.not_lt_zero j)⟩, ⟨gI_same _ _ _ _, fun i hi => absurd hi (Nat.not_lt_zero i), fun i hi => absurd hi (Nat.not_lt_zero i)⟩, ?_⟩
  · rw [hc.1]
    have e : val (121, d, 0, [some (.ref 91)], [], w) = some (none, w1) := by rw [hw1]; exact tr_121 d w hW
    refine (val_call (pc2 := 15) rfl rfl rfl rfl (rcvO hW.k91 (by decide)) (Nat.le_of_ble_eq_true rfl) (Nat.le_of_ble_eq_true rfl) rfl e rfl).trans ?_
    exact tr_33_15 d w1 _
  · rw [f1.i 108 54 rfl, hmm.1]
  · rw [f2.i 91 4 rfl, hw1, gI_nk _ _ _ (by decide), gI_nk _ _ _ (by decide), gI_same]; rfl
  · rw [f2.i 91 5 rfl, hw1, gI_nk _ _ _ (by decide), gI_same]; rfl
  · rw [f2.i 91 6 rfl, hw1, gI_same]
abbrev FSo : List (Nat × Option Nat) := [(143, none), (108, some 58)]
theorem a_inOrder (hW : Fix w) (hN : NOK N C T bl) (hc : NC w C T bl) (hmm : NM w C T bl) (d : Nat) (x y : Int32) : ∃ r w2, val (35, d + 1, 0, [some (.ref 64), some (.int x), some (.int y), none], [], w) = some (some (.int r), w) ∧ val (235, d + 1, 0, [some (.ref 108), some (.int x), some (.int y)], [], w) = some (some (.int r), w2) ∧ Fr FSo w w2 := by
  obtain ⟨w2, r2, f2, g58, g143⟩ := m_sort d hW hN hmm
  have hW2 := f2.fix rfl hW
  obtain ⟨s1, s2, s3, s4, s5⟩ := hc
  obtain ⟨o1, o2⟩ := nrd_ok T C
  have hC := hN.1
  obtain ⟨K, hK⟩ : ∃ K, K = (nrd T C).1 := ⟨_, rfl⟩
  obtain ⟨od, hod⟩ : ∃ od, od = (nrd T C).2 := ⟨_, rfl⟩
  rw [← hK] at s4 s5 g58 g143 o1 o2
  rw [← hod] at s5 g143 o2
  have e2 : val (235, d + 1, 0, [some (.ref 108), some (.int x), some (.int y)], [], w) = val (235, d + 1, 4, [some (.ref 108), some (.int x), some (.int y)], [], w2) := by
    refine (tr_235 d w x y).trans ?_
    refine (val_call (pc2 := 4) rfl rfl rfl rfl (hW.rc _) (Nat.le_of_ble_eq_true rfl) (Nat.le_of_ble_eq_true rfl) rfl r2 rfl).trans ?_
    rfl
  have key : ¬ x < 0 → x < nI K → ∃ X, X < K ∧ x = nI X := fun h0 h1 => by
    obtain ⟨X, hX, rfl⟩ := i_nat h0
    exact ⟨X, (n_lt_iff hX (by omega)).mp h1, rfl⟩
  have key2 : ¬ nI K ≤ x ↔ x < nI K := Int32.not_le
  have ib : ¬ x < 0 → x < nI K → inB x 300 = true := fun a b => by
    obtain ⟨X, hX, rfl⟩ := key a b
    exact inB_nI (by omega) (by omega)
  have e1 := tr_35 (d + 1) w hW x y (fun a b => by rw [s4] at b; exact ib a b) (fun a b _ _ => by
    rw [s4] at b
    obtain ⟨X, hX, rfl⟩ := key a b
    rw [nI_clamp (by omega), s5 X hX]
    exact inB_nI (by have := (o2 X hX).1; omega) (by omega))
  have e3 := tr_235_4 d w2 hW2 x y (fun a b _ _ _ => by rw [g58] at b; exact ib a (key2.mp b)) (fun a b _ _ _ => by
    rw [g58] at b
    obtain ⟨X, hX, rfl⟩ := key a (key2.mp b)
    rw [nI_clamp (by omega), g143 X hX]
    exact inB_nI (by have := (o2 X hX).1; omega) (by omega)) (fun a b _ _ _ => by rw [g58] at b; exact ib a (key2.mp b))
  rw [s4] at e1
  rw [g58] at e3
  by_cases h0 : x < 0
  · rw [if_pos h0] at e1 e3
    exact ⟨-1, w2, e1, e2.trans e3, f2⟩
  by_cases h1 : x < nI K
  · obtain ⟨X, hX, rfl⟩ := key h0 h1
    have hoX := (o2 X hX).1
    rw [if_neg h0, if_pos h1, nI_clamp (show X < 2 ^ 31 by omega), s5 X hX, nI_clamp (show od X < 2 ^ 31 by omega), s2 _ hoX] at e1
    rw [if_neg h0, if_neg (key2.mpr h1), nI_clamp (show X < 2 ^ 31 by omega), g143 X hX, nI_clamp (show od X < 2 ^ 31 by omega), f2.i 141 _ rfl, hmm.2.1 _ hoX] at e3
    by_cases y0 : y = 0
    · subst y0
      rw [if_pos rfl] at e1
      rw [if_neg (by decide), if_pos (by decide), if_neg (fun h => h rfl)] at e3
      exact ⟨_, w2, e1, e2.trans e3, f2⟩
    by_cases y1 : y = 1
    · subst y1
      rw [if_neg (by decide), if_pos rfl] at e1
      rw [if_neg (by decide), if_pos (by decide), if_pos (by decide)] at e3
      exact ⟨_, w2, e1, e2.trans e3, f2⟩
    rw [if_neg y0, if_neg y1] at e1
    refine ⟨-1, w2, e1, e2.trans (e3.trans ?_), f2⟩
    by_cases hy : y < 0
    · rw [if_pos hy]
    · rw [if_neg hy, if_neg (fun h => by
        rcases i_01 hy h with e | e
        · exact y0 e
        · exact y1 e)]
  · rw [if_neg h0, if_neg h1] at e1
    rw [if_neg h0, if_pos (Int32.not_lt.mp h1)] at e3
    exact ⟨-1, w2, e1, e2.trans e3, f2⟩
/-- whether a bell comes again, from the i-th on -/
def hrp (g : Nat → Nat) : Nat → Nat → Bool
  | 0, _ => false
  | n + 1, i => sn g i (g i) || hrp g n (i + 1)
theorem sn_insP (g : Nat → Nat) (k : Nat) : sn g (k + 1) = insP (sn g k) (g k) := rfl
theorem cn_sn_le (g : Nat → Nat) (i : Nat) : ∀ n, cn (sn g (i + n)) 9 ≤ cn (sn g i) 9 + n
  | 0 => Nat.le_refl _
  | n + 1 => by
    have h1 := cn_sn_le g i n
    have h2 := cn_insP1 (sn g (i + n)) (g (i + n)) 9
    have : sn g (i + (n + 1)) = insP (sn g (i + n)) (g (i + n)) := sn_insP g (i + n)
    rw [this]
    omega
theorem cn_sn_new {g : Nat → Nat} {i : Nat} (h9 : g i < 9) (h : sn g i (g i) = false) : cn (sn g (i + 1)) 9 = cn (sn g i) 9 + 1 := by
  have e : sn g (i + 1) = fun b => sn g i b || (decide (b = g i) && true) := by
    funext b
    rw [Bool.and_true]; rfl
  rw [e, cn_ins true h 9 h9]
  rfl
theorem cn_sn_old {g : Nat → Nat} {i : Nat} (h : sn g i (g i) = true) : cn (sn g (i + 1)) 9 = cn (sn g i) 9 := by
  refine cn_congr 9 (fun b _ => ?_)
  show (sn g i b || decide (b = g i)) = sn g i b
  by_cases c : b = g i
  · rw [c, h]; rfl
  · rw [decide_eq_false c, Bool.or_false]
theorem hrp_cn {g : Nat → Nat} : ∀ n i, (∀ j, j < i + n → g j < 9) → (hrp g n i = false → cn (sn g (i + n)) 9 = cn (sn g i) 9 + n) ∧ (hrp g n i = true → cn (sn g (i + n)) 9 < cn (sn g i) 9 + n)
  | 0, i, _ => ⟨fun _ => rfl, fun h => by cases h⟩
  | n + 1, i, h9 => by
    obtain ⟨a, b⟩ := hrp_cn (g := g) n (i + 1) (fun j hj => h9 j (by omega))
    have e : i + (n + 1) = i + 1 + n := by omega
    rw [e]
    cases hs : sn g i (g i) with
    | true =>
      have h1 := cn_sn_old hs
      have h2 := cn_sn_le g (i + 1) n
      refine ⟨fun h => ?_, fun _ => by omega⟩
      have h' : (sn g i (g i) || hrp g n (i + 1)) = false := h
      rw [hs] at h'
      cases h'
    | false =>
      have h1 := cn_sn_new (h9 i (by omega)) hs
      have h' : hrp g (n + 1) i = hrp g n (i + 1) := by
        show (sn g i (g i) || hrp g n (i + 1)) = _
        rw [hs, Bool.false_or]
      rw [h']
      exact ⟨fun h => by rw [a h]; omega, fun h => by have := b h; omega⟩
theorem mask_cn {N : Nat} (h3 : 3 ≤ N) (hN : N ≤ 8) : cn (fun b => (2 ^ (N + 1) - 2).testBit b) 9 = N := by
  have : N = 3 ∨ N = 4 ∨ N = 5 ∨ N = 6 ∨ N = 7 ∨ N = 8 := by omega
  rcases this with rfl | rfl | rfl | rfl | rfl | rfl <;> decide
theorem mask_bit {N b : Nat} (h3 : 3 ≤ N) (hN : N ≤ 8) (h1 : 1 ≤ b) (h2 : b ≤ N) : (2 ^ (N + 1) - 2).testBit b = true := by
  have key : ∀ N, N < 9 → ∀ b, b < 9 → 3 ≤ N → 1 ≤ b → b ≤ N → (2 ^ (N + 1) - 2).testBit b = true := by decide
  exact key N (by omega) b (by omega) h3 h1 h2
theorem sbt9 {g : Nat → Nat} (hg : ∀ i, i < N → 1 ≤ g i ∧ g i ≤ N) (hN : N ≤ 8) : ∀ k, k ≤ N → sbt g k < 2 ^ 9 := fun k hk => sbt_bd (m := 9) (fun i hi => by have := hg i (by omega); omega)
theorem mask_iff {g : Nat → Nat} (h3 : 3 ≤ N) (hN : N ≤ 8) (hg : ∀ i, i < N → 1 ≤ g i ∧ g i ≤ N) : sbt g N = 2 ^ (N + 1) - 2 ↔ hrp g N 0 = false := by
  obtain ⟨a, b⟩ := hrp_cn (g := g) N 0 (fun j hj => by have := hg j (by omega); omega)
  have h0 : cn (sn g 0) 9 = 0 := cn_none 9 (fun _ _ => rfl)
  rw [h0, Nat.zero_add] at a b
  have hm := mask_cn h3 hN
  constructor
  · intro h
    cases hh : hrp g N 0 with
    | false => rfl
    | true =>
      have h1 := b hh
      have hm' := hm
      rw [← h] at hm'
      have h2 : cn (sn g N) 9 = N := (cn_congr 9 (fun b _ => (sbt_bit g b N).symm)).trans hm'
      omega
  · intro h
    have h1 := a h
    have sub : ∀ i, i < 9 → sn g N i = true → (2 ^ (N + 1) - 2).testBit i = true := fun i _ hi => by
      obtain ⟨j, j1, j2⟩ := sn_iff.mp hi
      have := hg j j1
      rw [← j2]
      exact mask_bit h3 hN this.1 this.2
    refine Nat.eq_of_testBit_eq (fun i => ?_)
    rw [sbt_bit]
    by_cases hi : i < 9
    · cases hs : sn g N i with
      | true => exact (sub i hi hs).symm
      | false =>
        cases hmm : (2 ^ (N + 1) - 2).testBit i with
        | false => rfl
        | true =>
          have := cn_strict (P := sn g N) (Q := fun b => (2 ^ (N + 1) - 2).testBit b) 9 sub hi hs hmm
          omega
    · have e1 : sn g N i = false := by
        cases hs : sn g N i with
        | false => rfl
        | true =>
          obtain ⟨j, j1, j2⟩ := sn_iff.mp hs
          have := hg j j1
          omega
      have e2 : (2 ^ (N + 1) - 2).testBit i = false := by
        refine Nat.testBit_lt_two_pow ?_
        have : 2 ^ (N + 1) ≤ 2 ^ 9 := Nat.pow_le_pow_right (by decide) (by omega)
        have : 2 ^ 9 ≤ 2 ^ i := Nat.pow_le_pow_right (by decide) (by omega)
        have : 0 < 2 ^ (N + 1) := Nat.two_pow_pos _
        omega
      rw [e1, e2]
/-- the bells of a row heard -/
theorem c_rowHeard (d : Nat) (hW : Fix w) (h3 : 3 ≤ N) (hN : N ≤ 8) {X : Nat} {g : Nat → Nat} (hX : X ≤ 100) (hg : ∀ i, i < N → 1 ≤ g i ∧ g i ≤ N) {od : Nat → Nat} (ho : ∀ i, i < N → N * X + i < 300 ∧ gI w 94 (N * X + i) = nI (od i) ∧ od i < 300 ∧ gI w 92 (od i) = nI (g i)) : ∀ n i l6, i + n = N → val (125, d, 10, [some (.ref 91), some (.int (nI N)), some (.int (nI X)), some (.int (nI (dg 10 g i))), some (.int (nI (sbt g i))), some (.int (nI (N * X + i))), l6], [], w) = some (some (.int (if hrp g n i = true then 0 else nI (dg 10 g N))), w) := by
  have eN : nI X * nI N + nI N = nI (N * X + N) := by rw [n_mul, n_add, Nat.mul_comm X N]
  intro n
  induction n with
  | zero =>
    intro i l6 hi
    have hi2 : i = N := by omega
    subst hi2
    have e := tr_125_10 d w hW (nI i) (nI X) (nI (dg 10 g i)) (nI (sbt g i)) (nI (i * X + i)) l6 (fun h => absurd (by rw [eN]; exact Int32.le_refl _) h) (fun h => absurd (by rw [eN]; exact Int32.le_refl _) h)
    rw [eN, if_pos (Int32.le_refl _)] at e
    exact e
  | succ n ih =>
    intro i l6 hi
    have hiN : i < N := by omega
    obtain ⟨o1, o2, o3, o4⟩ := ho i hiN
    obtain ⟨b1, b2⟩ := hg i hiN
    have hNX : N * X + N ≤ 1000 := by
      have := Nat.mul_le_mul hN hX
      omega
    have e := tr_125_10 d w hW (nI N) (nI X) (nI (dg 10 g i)) (nI (sbt g i)) (nI (N * X + i)) l6 (fun _ => inB_nI o1 (by omega)) (fun _ => by rw [nI_clamp (by omega), o2]; exact inB_nI o3 (by omega))
    have hs9 := sbt9 hg hN i (by omega)
    rw [eN, if_neg (n_nle (show N * X + i < N * X + N by omega) (by omega)), nI_clamp (show N * X + i < 2 ^ 31 by omega), o2, nI_clamp (show od i < 2 ^ 31 by omega), o4, n_shl1 (show g i < 32 by omega), n_or, show (10 : Int32) = nI 10 from rfl, n_mul, n_add, Nat.mul_comm (dg 10 g i) 10, n_succ] at e
    have hbit := bit_0 (S := sbt g i) (x := g i) (by omega) (by omega)
    rw [sbt_bit] at hbit
    unfold hrp
    cases hs : sn g i (g i) with
    | true =>
      rw [if_neg (fun h => by rw [hbit.mp h] at hs; cases hs)] at e
      rw [Bool.true_or, if_pos rfl]
      exact e
    | false =>
      rw [if_pos (hbit.mpr hs)] at e
      rw [Bool.false_or]
      exact e.trans (ih (i + 1) _ (by omega))
theorem m_rowHeard (d : Nat) (hW : Fix w) (hm : gI w 108 0 = nI N) (h3 : 3 ≤ N) (hN : N ≤ 8) {X : Nat} {g : Nat → Nat} (hX : X ≤ 100) (hg : ∀ i, i < N → 1 ≤ g i ∧ g i ≤ N) {od : Nat → Nat} (ho : ∀ i, i < N → N * X + i < 300 ∧ gI w 143 (N * X + i) = nI (od i) ∧ od i < 300 ∧ gI w 141 (od i) = nI (g i)) : ∀ n i l5, i + n = N → val (236, d + 1, 39, [some (.ref 108), some (.int (nI X)), some (.int (nI (dg 10 g i))), some (.int (nI (sbt g i))), some (.int (nI i)), l5], [], w) = some (some (.int (if hrp g N 0 = true then 0 else nI (dg 10 g N))), w) := by
  have hmask : (1 : Int32) <<< ((nI N + 1) &&& 31) - 2 = nI (2 ^ (N + 1) - 2) := by
    rw [n_succ, n_shl1 (show N + 1 < 32 by omega), show (2 : Int32) = nI 2 from rfl, n_sub]
    have : 2 ^ 1 ≤ 2 ^ (N + 1) := Nat.pow_le_pow_right (by decide) (by omega)
    omega
  have hp : 2 ^ (N + 1) ≤ 2 ^ 9 := Nat.pow_le_pow_right (by decide) (by omega)
  intro n
  induction n with
  | zero =>
    intro i l5 hi
    have hi2 : i = N := by omega
    subst hi2
    have e := tr_236_39 d w hW (nI X) (nI (dg 10 g i)) (nI (sbt g i)) (nI i) l5 (fun h => absurd (by rw [hm]; exact Int32.le_refl _) h) (fun h => absurd (by rw [hm]; exact Int32.le_refl _) h)
    rw [hm, if_pos (Int32.le_refl _), hmask] at e
    have hmi := mask_iff h3 hN hg
    have hs9 := sbt9 hg hN i (Nat.le_refl i)
    refine e.trans ?_
    cases hh : hrp g i 0 with
    | true =>
      rw [if_pos rfl, if_pos (n_ne (fun h => by rw [hmi.mp h] at hh; cases hh) (by omega) (by omega))]
    | false =>
      rw [if_neg (fun h => h (by rw [hmi.mpr hh]))]
      rfl
  | succ n ih =>
    intro i l5 hi
    have hiN : i < N := by omega
    obtain ⟨o1, o2, o3, o4⟩ := ho i hiN
    obtain ⟨b1, b2⟩ := hg i hiN
    have eI : nI N * nI X + nI i = nI (N * X + i) := by rw [n_mul, n_add]
    have e := tr_236_39 d w hW (nI X) (nI (dg 10 g i)) (nI (sbt g i)) (nI i) l5 (fun _ => by rw [hm, eI]; exact inB_nI o1 (by omega)) (fun _ => by rw [hm, eI, nI_clamp (by omega), o2]; exact inB_nI o3 (by omega))
    rw [hm, if_neg (n_nle hiN (by omega)), eI, nI_clamp (show N * X + i < 2 ^ 31 by omega), o2, nI_clamp (show od i < 2 ^ 31 by omega), o4, n_shl1 (show g i < 32 by omega), n_or, show (10 : Int32) = nI 10 from rfl, n_mul, n_add, n_succ] at e
    exact e.trans (ih (i + 1) _ (by omega))
theorem a_heard (hW : Fix w) (hB : Bl w N) (hN : NOK N C T bl) (hc : NC w C T bl) (hmm : NM w C T bl) (d : Nat) (x : Int32) : ∃ r w2, val (36, d + 1, 0, [some (.ref 64), some (.int x)], [], w) = some (some (.int r), w) ∧ val (236, d + 1, 0, [some (.ref 108), some (.int x), none, none, none, none], [], w) = some (some (.int r), w2) ∧ Fr FSo w w2 := by
  obtain ⟨h3, hN8, hn, hm⟩ := hB
  obtain ⟨w2, r2, f2, g58, g143⟩ := m_sort d hW hN hmm
  have hW2 := f2.fix rfl hW
  have hm2 : gI w2 108 0 = nI N := (f2.i 108 0 rfl).trans hm
  obtain ⟨s1, s2, s3, s4, s5⟩ := hc
  obtain ⟨o1, o2⟩ := nrd_ok T C
  have hC := hN.1
  obtain ⟨K, hK⟩ : ∃ K, K = (nrd T C).1 := ⟨_, rfl⟩
  obtain ⟨od, hod⟩ : ∃ od, od = (nrd T C).2 := ⟨_, rfl⟩
  rw [← hK] at s4 s5 g58 g143 o1 o2
  rw [← hod] at s5 g143 o2
  have e2 : val (236, d + 1, 0, [some (.ref 108), some (.int x), none, none, none, none], [], w) = val (236, d + 1, 4, [some (.ref 108), some (.int x), none, none, none, none], [], w2) := by
    refine (tr_236 d w x).trans ?_
    refine (val_call (pc2 := 4) rfl rfl rfl rfl (hW.rc _) (Nat.le_of_ble_eq_true rfl) (Nat.le_of_ble_eq_true rfl) rfl r2 rfl).trans ?_
    rfl
  have e1 := tr_36 d w hW x (fun _ => by rw [hn]; exact n_ne0 (by omega) (by omega))
  have e3 := tr_236_4 d w2 hW2 x
  rw [hn, s4, n_div (by omega) (by omega)] at e1
  rw [hm2, g58] at e3
  by_cases h0 : x < 0
  · rw [if_pos h0] at e1 e3
    exact ⟨-1, w2, e1, e2.trans e3, f2⟩
  obtain ⟨X, hX, rfl⟩ := i_nat h0
  rw [if_neg h0] at e1 e3
  have hdiv : X < K / N ↔ N * (X + 1) ≤ K := by
    rw [show (X < K / N) = (X + 1 ≤ K / N) from rfl, Nat.le_div_iff_mul_le (by omega), Nat.mul_comm]
  have hKN : K / N ≤ 100 := by
    have : K / N ≤ K / 3 := Nat.div_le_div_left h3 (by decide)
    omega
  by_cases h1 : X < K / N
  · have hle := hdiv.mp h1
    have hNX : N * (X + 1) = N * X + N := Nat.mul_succ N X
    rw [if_pos (n_lt h1 (by omega))] at e1
    rw [if_neg (show ¬ (300 : Int32) < nI X from n_nlt (a := 300) (show X ≤ 300 by omega) (by decide)), n_succ, n_mul, if_pos (n_le hle (by omega))] at e3
    have hb : ∀ i, i < N → N * X + i < K := fun i hi => by omega
    have hbl : ∀ i, i < N → 1 ≤ bl (od (N * X + i)) ∧ bl (od (N * X + i)) ≤ N := fun i hi => hN.2.2 _ (o2 _ (hb i hi)).1
    have c1 := c_rowHeard (w := w) d hW h3 hN8 (X := X) (g := fun i => bl (od (N * X + i))) (od := fun i => od (N * X + i)) (by omega) hbl (fun i hi => by
      have h5 := hb i hi
      have h6 := (o2 _ h5).1
      exact ⟨by omega, s5 _ h5, by show od (N * X + i) < 300; omega, s2 _ h6⟩) N 0 none (Nat.zero_add N)
    have c2 := m_rowHeard (w := w2) d hW2 hm2 h3 hN8 (X := X) (g := fun i => bl (od (N * X + i))) (od := fun i => od (N * X + i)) (by omega) hbl (fun i hi => by
      have h5 := hb i hi
      have h6 := (o2 _ h5).1
      exact ⟨by omega, g143 _ h5, by show od (N * X + i) < 300; omega, (f2.i 141 _ rfl).trans (hmm.2.1 _ h6)⟩) N 0 none (Nat.zero_add N)
    refine ⟨_, w2, e1.trans ?_, e2.trans (e3.trans c2), f2⟩
    have c0 := tr_125 d w (nI N) (nI X)
    rw [n_mul, Nat.mul_comm X N] at c0
    have c1' := c0.trans c1
    refine (val_call (pc2 := 34) rfl rfl rfl rfl (rcvO hW.k91 (by decide)) (Nat.le_of_ble_eq_true rfl) (Nat.le_of_ble_eq_true rfl) rfl c1' rfl).trans ?_
    exact tr_36_34 d w _ _
  · rw [if_neg (n_nlt (show K / N ≤ X by omega) hX)] at e1
    refine ⟨-1, w2, e1, e2.trans (e3.trans ?_), f2⟩
    by_cases h5 : (300 : Int32) < nI X
    · rw [if_pos h5]
    · have hX3 : X ≤ 300 := by
        by_cases c : X ≤ 300
        · exact c
        · exact absurd (n_lt (a := 300) (show 300 < X by omega) hX) h5
      have hmul : N * (X + 1) ≤ 8 * 301 := Nat.mul_le_mul hN8 (by omega)
      rw [if_neg h5, n_succ, n_mul, if_neg (fun h => h1 (hdiv.mpr ((n_le_iff (by omega) (by omega)).mp h)))]
end HEARD
