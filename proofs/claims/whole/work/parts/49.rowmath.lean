/-! ROWS OF THE CLASS as numbers of 16-digits -/
theorem nat_dig (v m : Nat) : v >>> (4 * m) &&& 15 = v / 16 ^ m % 16 := by
  rw [Nat.shiftRight_eq_div_pow, Nat.pow_mul]
  exact Nat.and_two_pow_sub_one_eq_mod (v / (2 ^ 4) ^ m) 4
theorem nat_or4 (v x : Nat) (hx : x < 16) : v <<< 4 ||| x = 16 * v + x := by
  rw [← Nat.shiftLeft_add_eq_or_of_lt (i := 4) hx, Nat.shiftLeft_eq]
  omega
theorem c130 {N v p : Nat} (hN : N ≤ 8) (hp : p < N) (hv : v < 2 ^ 32) : fn_130 (nI N) (nI v) (nI p) = nI (v / 16 ^ (N - 1 - p) % 16) := by
  show ushI (nI v) (nI 4 * (nI N - nI 1 - nI p)) &&& nI 15 = _
  rw [n_sub (by omega), n_sub (by omega), n_mul, n_ush hv (by omega), n_and, nat_dig]
theorem c130f {N p : Nat} {f : Nat → Nat} (hN : N ≤ 8) (hp : p < N) (hf : ∀ p, p < N → f p < N) : fn_130 (nI N) (nI (pkN N f)) (nI p) = nI (f p) := by
  have h := pkN_lt hN hf
  rw [c130 hN hp (by omega)]
  congr 1
  exact dg_at (fun i hi => by have := hf i hi; omega) hp
theorem c131 {N x p : Nat} (hN : N ≤ 8) (hp : p < N) : fn_131 (nI N) (nI x) (nI p) = nI (x * 16 ^ (N - 1 - p)) := by
  show nI x <<< (nI 4 * (nI N - nI 1 - nI p) &&& nI 31) = _
  rw [n_sub (by omega), n_sub (by omega), n_mul]
  refine (n_shl (by omega)).trans ?_
  rw [Nat.shiftLeft_eq, Nat.pow_mul]
theorem c_sh4 {v x : Nat} (hx : x < 16) : (nI v <<< ((4 : Int32) &&& 31)) ||| nI x = nI (16 * v + x) := by
  have h : nI v <<< ((4 : Int32) &&& 31) = nI (v <<< 4) := n_shl (k := 4) (by omega)
  rw [h, n_or, nat_or4 v x hx]
theorem c133 {N : Nat} (hN : N ≤ 8) : ∀ k, k ≤ N → roundsS k = nI (dg 16 (fun p => p) k)
  | 0, _ => rfl
  | k + 1, hk => by
    show (roundsS k <<< (4 &&& 31)) ||| nI k = _
    rw [c133 hN k (by omega)]
    exact c_sh4 (by omega)
theorem n_clamp {N : Nat} (hN : N ≤ 8) : (nI N).toNatClampNeg = N := nI_clamp (by omega)
/-- rounds -/
theorem r_133 {N : Nat} (hN : N ≤ 8) : fn_133 (nI N) = nI (pkN N (fun p => p)) := by
  unfold fn_133
  rw [n_clamp hN]
  exact c133 hN N (Nat.le_refl N)
theorem c135 {N : Nat} {f : Nat → Nat} (hN : N ≤ 8) (hf : ∀ p, p < N → f p < N) : ∀ k, k ≤ N → toNumS (nI N) (nI (pkN N f)) k = nI (dg 10 (fun p => f p + 1) k)
  | 0, _ => rfl
  | k + 1, hk => by
    show toNumS (nI N) (nI (pkN N f)) k * nI 10 + fn_130 (nI N) (nI (pkN N f)) (nI k) + nI 1 = _
    rw [c135 hN hf k (by omega), c130f hN (by omega) hf, n_mul, n_add, n_add]
    congr 1
    show _ = 10 * dg 10 (fun p => f p + 1) k + (f k + 1)
    omega
/-- a row's number -/
theorem r_135 {N : Nat} {f : Nat → Nat} (hN : N ≤ 8) (hf : ∀ p, p < N → f p < N) : fn_135 (nI N) (nI (pkN N f)) = nI (dcN N f) := by
  unfold fn_135
  rw [n_clamp hN]
  exact c135 hN hf N (Nat.le_refl N)
theorem c136 {N : Nat} {f g : Nat → Nat} (hN : N ≤ 8) (hf : ∀ p, p < N → f p < N) (hg : ∀ p, p < N → g p < N) : ∀ k, k ≤ N → timesS (nI N) (nI (pkN N f)) (nI (pkN N g)) k = nI (dg 16 (fun p => f (g p)) k)
  | 0, _ => rfl
  | k + 1, hk => by
    show (timesS (nI N) (nI (pkN N f)) (nI (pkN N g)) k <<< (4 &&& 31)) ||| fn_130 (nI N) (nI (pkN N f)) (fn_130 (nI N) (nI (pkN N g)) (nI k)) = _
    rw [c136 hN hf hg k (by omega), c130f hN (by omega) hg, c130f hN (hg k (by omega)) hf]
    exact c_sh4 (by have := hf (g k) (hg k (by omega)); omega)
/-- a product -/
theorem r_136 {N : Nat} {f g : Nat → Nat} (hN : N ≤ 8) (hf : ∀ p, p < N → f p < N) (hg : ∀ p, p < N → g p < N) : fn_136 (nI N) (nI (pkN N f)) (nI (pkN N g)) = nI (pkN N (fun p => f (g p))) := by
  unfold fn_136
  rw [n_clamp hN]
  exact c136 hN hf hg N (Nat.le_refl N)
/-- or, digit by digit -/
theorem dg_or (g h : Nat → Nat) : ∀ n, (∀ i, i < n → g i < 16) → (∀ i, i < n → h i < 16) → dg 16 (fun p => g p ||| h p) n = dg 16 g n ||| dg 16 h n
  | 0, _, _ => (Nat.or_self 0).symm
  | n + 1, hg, hh => by
    have h1 := hg n (by omega)
    have h2 := hh n (by omega)
    have h3 : g n ||| h n < 16 := Nat.or_lt_two_pow (n := 4) h1 h2
    show 16 * dg 16 (fun p => g p ||| h p) n + (g n ||| h n) = (16 * dg 16 g n + g n) ||| (16 * dg 16 h n + h n)
    rw [dg_or g h n (fun i hi => hg i (by omega)) (fun i hi => hh i (by omega)), ← nat_or4 _ _ h1, ← nat_or4 _ _ h2, ← nat_or4 _ _ h3, Nat.shiftLeft_or_distrib]
    ac_rfl
theorem dg_zero (b : Nat) (g : Nat → Nat) : ∀ n, (∀ i, i < n → g i = 0) → dg b g n = 0
  | 0, _ => rfl
  | n + 1, h => by
    show b * dg b g n + g n = 0
    rw [dg_zero b g n (fun i hi => h i (by omega)), h n (by omega), Nat.mul_zero]
theorem dg_one (b : Nat) (p x : Nat) : ∀ n, p < n → dg b (fun i => if i = p then x else 0) n = x * b ^ (n - 1 - p)
  | 0, h => by omega
  | n + 1, h => by
    show b * dg b (fun i => if i = p then x else 0) n + (if n = p then x else 0) = _
    by_cases e : n = p
    · subst e
      rw [if_pos rfl, dg_zero b _ n (fun i hi => if_neg (by omega)), show n + 1 - 1 - n = 0 by omega]
      simp
    · rw [if_neg e, dg_one b p x n (by omega), show n + 1 - 1 - p = (n - 1 - p) + 1 by omega, Nat.pow_succ, Nat.add_zero]
      ac_rfl
/-- where a row has a bell, among the first k places; 0 if nowhere -/
def iv (f : Nat → Nat) : Nat → Nat → Nat
  | 0, _ => 0
  | k + 1, p => if f k = p then k else iv f k p
theorem iv_none {f : Nat → Nat} {p : Nat} : ∀ k, (∀ j, j < k → f j ≠ p) → iv f k p = 0
  | 0, _ => rfl
  | k + 1, h => (if_neg (h k (by omega))).trans (iv_none k (fun j hj => h j (by omega)))
theorem iv_at {f : Nat → Nat} {N : Nat} (hi : ∀ p q, p < N → q < N → f p = f q → p = q) : ∀ k, k ≤ N → ∀ j, j < k → iv f k (f j) = j
  | 0, _, j, hj => by omega
  | k + 1, hk, j, hj => by
    show (if f k = f j then k else iv f k (f j)) = j
    by_cases e : f k = f j
    · rw [if_pos e]; exact hi k j (by omega) (by omega) e
    · rw [if_neg e]
      have : j ≠ k := by intro h; subst h; exact e rfl
      exact iv_at hi k (by omega) j (by omega)
theorem iv_lt {f : Nat → Nat} {N : Nat} (p : Nat) (hN : 0 < N) : ∀ k, k ≤ N → iv f k p < N
  | 0, _ => hN
  | k + 1, hk => by
    show (if f k = p then k else iv f k p) < N
    by_cases e : f k = p
    · rw [if_pos e]; omega
    · rw [if_neg e]; exact iv_lt p hN k (by omega)
/-- what is told apart within N fills N -/
theorem onto : ∀ (N : Nat) (f : Nat → Nat), (∀ p, p < N → f p < N) → (∀ p q, p < N → q < N → f p = f q → p = q) → ∀ q, q < N → ∃ p, p < N ∧ f p = q
  | 0, _, _, _, q, hq => by omega
  | N + 1, f, h1, h2, q, hq => by
    have ih := onto N (fun p => if f p = N then f N else f p) (by
      intro p hp
      show (if f p = N then f N else f p) < N
      by_cases e : f p = N
      · rw [if_pos e]
        have a := h1 N (by omega)
        have b : f N ≠ N := by
          intro hh
          have := h2 p N (by omega) (by omega) (e.trans hh.symm)
          omega
        omega
      · rw [if_neg e]
        have := h1 p (by omega)
        omega) (by
      intro p r hp hr
      show (if f p = N then f N else f p) = (if f r = N then f N else f r) → p = r
      by_cases e : f p = N
      · by_cases e2 : f r = N
        · intro _; exact h2 p r (by omega) (by omega) (e.trans e2.symm)
        · rw [if_pos e, if_neg e2]
          intro hh
          have := h2 N r (by omega) (by omega) hh
          omega
      · by_cases e2 : f r = N
        · rw [if_neg e, if_pos e2]
          intro hh
          have := h2 p N (by omega) (by omega) hh
          omega
        · rw [if_neg e, if_neg e2]
          intro hh
          exact h2 p r (by omega) (by omega) hh)
    by_cases ea : q = f N
    · exact ⟨N, by omega, ea.symm⟩
    · by_cases en : q = N
      · subst en
        have hlt := h1 q (by omega)
        have ha : f q < q := by omega
        obtain ⟨p, hp, hg⟩ := ih (f q) ha
        by_cases e : f p = q
        · exact ⟨p, by omega, e⟩
        · have hg2 : f p = f q := by
            have hg3 : (if f p = q then f q else f p) = f q := hg
            rwa [if_neg e] at hg3
          have := h2 p q (by omega) (by omega) hg2
          omega
      · obtain ⟨p, hp, hg⟩ := ih q (by omega)
        have hg3 : (if f p = N then f N else f p) = q := hg
        by_cases e : f p = N
        · rw [if_pos e] at hg3
          exact absurd hg3.symm ea
        · rw [if_neg e] at hg3
          exact ⟨p, by omega, hg3⟩
theorem IsRow.at_iv {N : Nat} {f : Nat → Nat} (h : IsRow N f) {p : Nat} (hp : p < N) : f (iv f N p) = p := by
  obtain ⟨j, hj, e⟩ := onto N f h.1 h.2 p hp
  subst e
  rw [iv_at h.2 N (Nat.le_refl N) j hj]
theorem IsRow.iv {N : Nat} {f : Nat → Nat} (h : IsRow N f) : IsRow N (iv f N) := by
  refine ⟨fun p hp => iv_lt p (by omega) N (Nat.le_refl N), fun p q hp hq e => ?_⟩
  rw [← h.at_iv hp, ← h.at_iv hq, e]
theorem IsRow.comp {N : Nat} {f g : Nat → Nat} (hf : IsRow N f) (hg : IsRow N g) : IsRow N (fun p => f (g p)) :=
  ⟨fun p hp => hf.1 _ (hg.1 p hp), fun p q hp hq e => hg.2 p q hp hq (hf.2 _ _ (hg.1 p hp) (hg.1 q hq) e)⟩
theorem IsRow.id (N : Nat) : IsRow N (fun p => p) := ⟨fun _ hp => hp, fun _ _ _ _ e => e⟩
theorem c137 {N : Nat} {f : Nat → Nat} (hN : N ≤ 8) (hf : IsRow N f) : ∀ k, k ≤ N → undoneS (nI N) (nI (pkN N f)) k = nI (dg 16 (iv f k) N)
  | 0, _ => by
    rw [dg_zero 16 (iv f 0) N (fun _ _ => rfl)]
    rfl
  | k + 1, hk => by
    show undoneS (nI N) (nI (pkN N f)) k ||| fn_131 (nI N) (nI k) (fn_130 (nI N) (nI (pkN N f)) (nI k)) = _
    have hfk := hf.1 k (by omega)
    rw [c137 hN hf k (by omega), c130f hN (by omega) hf.1, c131 hN hfk, n_or, ← dg_one 16 (f k) k N hfk, ← dg_or _ _ N (fun i _ => by have := iv_lt (f := f) (N := N) i (by omega) k (by omega); omega) (fun i _ => by
      show (if i = f k then k else 0) < 16
      by_cases e : i = f k
      · rw [if_pos e]; omega
      · rw [if_neg e]; omega)]
    congr 1
    refine dg_congr (fun i _ => ?_)
    show iv f k i ||| (if i = f k then k else 0) = (if f k = i then k else iv f k i)
    by_cases e : i = f k
    · rw [if_pos e, if_pos e.symm, iv_none k (fun j hj hh => by
        have := hf.2 j k (by omega) (by omega) (hh.trans e)
        omega), Nat.zero_or]
    · rw [if_neg e, if_neg (fun hh => e hh.symm), Nat.or_zero]
/-- the inverse -/
theorem r_137 {N : Nat} {f : Nat → Nat} (hN : N ≤ 8) (hf : IsRow N f) : fn_137 (nI N) (nI (pkN N f)) = nI (pkN N (iv f N)) := by
  unfold fn_137
  rw [n_clamp hN]
  exact c137 hN hf N (Nat.le_refl N)
