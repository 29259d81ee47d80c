/-! COUNTING; the rank of a row, the pairs of a row -/
def cn (P : Nat → Bool) : Nat → Nat
  | 0 => 0
  | n + 1 => cn P n + (P n).toNat
theorem cn_congr {P Q : Nat → Bool} : ∀ (n : Nat), (∀ i, i < n → P i = Q i) → cn P n = cn Q n
  | 0, _ => rfl
  | n + 1, h => by
    show cn P n + (P n).toNat = cn Q n + (Q n).toNat
    rw [cn_congr n (fun i hi => h i (by omega)), h n (by omega)]
theorem tn_le (b : Bool) : b.toNat ≤ 1 := by cases b <;> decide
theorem cn_le (P : Nat → Bool) : ∀ n, cn P n ≤ n
  | 0 => Nat.le_refl 0
  | n + 1 => by
    have := cn_le P n
    have := tn_le (P n)
    show cn P n + (P n).toNat ≤ n + 1
    omega
theorem tn_mono {a b : Bool} (h : a = true → b = true) : a.toNat ≤ b.toNat := by
  cases a with
  | false => exact Nat.zero_le _
  | true => rw [h rfl]; exact Nat.le_refl _
theorem cn_mono {P Q : Nat → Bool} : ∀ n, (∀ i, i < n → P i = true → Q i = true) → cn P n ≤ cn Q n
  | 0, _ => Nat.le_refl 0
  | n + 1, h => Nat.add_le_add (cn_mono n (fun i hi => h i (by omega))) (tn_mono (h n (by omega)))
theorem cn_strict {P Q : Nat → Bool} {c : Nat} : ∀ n, (∀ i, i < n → P i = true → Q i = true) → c < n → P c = false → Q c = true → cn P n < cn Q n
  | 0, _, hc, _, _ => by omega
  | n + 1, h, hc, h1, h2 => by
    show cn P n + (P n).toNat < cn Q n + (Q n).toNat
    by_cases e : c = n
    · subst e
      have := cn_mono c (fun i hi => h i (by omega))
      rw [h1, h2]
      show cn P c + 0 < cn Q c + 1
      omega
    · have := cn_strict n (fun i hi => h i (by omega)) (by omega) h1 h2
      have := tn_mono (h n (by omega))
      omega
theorem cn_ins {Q : Nat → Bool} {c : Nat} (x : Bool) (hq : Q c = false) : ∀ n, c < n → cn (fun b => Q b || (decide (b = c) && x)) n = cn Q n + x.toNat
  | 0, hc => by omega
  | n + 1, hc => by
    show cn _ n + (Q n || (decide (n = c) && x)).toNat = cn Q n + (Q n).toNat + x.toNat
    by_cases e : n = c
    · subst e
      rw [cn_congr (Q := Q) n (fun i hi => by rw [decide_eq_false (by omega : ¬ i = n)]; cases Q i <;> rfl), hq, decide_eq_true rfl]
      cases x <;> rfl
    · rw [cn_ins x hq n (by omega), decide_eq_false e, Bool.false_and, Bool.or_false]
      omega
theorem cn_split (P : Nat → Bool) (a : Nat) : ∀ b, cn P (a + b) = cn P a + cn (fun j => P (a + j)) b
  | 0 => rfl
  | b + 1 => by
    show cn P (a + b) + (P (a + b)).toNat = cn P a + (cn (fun j => P (a + j)) b + (P (a + b)).toNat)
    rw [cn_split P a b]
    omega
theorem cn_none {P : Nat → Bool} : ∀ n, (∀ i, i < n → P i = false) → cn P n = 0
  | 0, _ => rfl
  | n + 1, h => by
    show cn P n + (P n).toNat = 0
    rw [cn_none n (fun i hi => h i (by omega)), h n (by omega)]
    rfl
theorem cn_below (c : Nat) : ∀ n, c ≤ n → cn (fun b => decide (b < c)) n = c := by
  intro n hn
  obtain ⟨m, rfl⟩ : ∃ m, n = c + m := ⟨n - c, by omega⟩
  rw [cn_split, cn_none m (fun i _ => decide_eq_false (by omega))]
  have h : ∀ k, k ≤ c → cn (fun b => decide (b < c)) k = k := by
    intro k
    induction k with
    | zero => intro _; rfl
    | succ k ih =>
      intro hk
      show cn _ k + (decide (k < c)).toNat = k + 1
      rw [ih (by omega), decide_eq_true (by omega : k < c)]
      rfl
  rw [h c (Nat.le_refl c), Nat.add_zero]
theorem cn_two (P Q : Nat → Bool) : ∀ n, cn (fun b => P b && Q b) n + cn (fun b => !P b && Q b) n = cn Q n
  | 0 => rfl
  | n + 1 => by
    have := cn_two P Q n
    show cn _ n + (P n && Q n).toNat + (cn _ n + (!P n && Q n).toNat) = cn Q n + (Q n).toNat
    have : (P n && Q n).toNat + (!P n && Q n).toNat = (Q n).toNat := by cases P n <;> cases Q n <;> rfl
    omega
/-- b is one of the first k of f -/
def sn (f : Nat → Nat) : Nat → Nat → Bool
  | 0, _ => false
  | k + 1, b => sn f k b || decide (b = f k)
theorem sn_iff {f : Nat → Nat} {b : Nat} : ∀ {k : Nat}, sn f k b = true ↔ ∃ i, i < k ∧ f i = b
  | 0 => ⟨fun h => (by cases h), fun ⟨i, hi, _⟩ => absurd hi (Nat.not_lt_zero i)⟩
  | k + 1 => by
    show (sn f k b || decide (b = f k)) = true ↔ _
    rw [Bool.or_eq_true, decide_eq_true_eq, sn_iff]
    constructor
    · rintro (⟨i, h1, h2⟩ | h)
      · exact ⟨i, by omega, h2⟩
      · exact ⟨k, by omega, h.symm⟩
    · rintro ⟨i, h1, h2⟩
      by_cases e : i = k
      · subst e; exact Or.inr h2.symm
      · exact Or.inl ⟨i, by omega, h2⟩
theorem sn_new {N : Nat} {f : Nat → Nat} (hf : IsRow N f) {k : Nat} (hk : k < N) : sn f k (f k) = false := by
  cases h : sn f k (f k) with
  | false => rfl
  | true =>
    obtain ⟨i, h1, h2⟩ := sn_iff.mp h
    have := hf.2 i k (by omega) hk h2
    omega
theorem sn_congr {f g : Nat → Nat} {b : Nat} : ∀ {k : Nat}, (∀ i, i < k → f i = g i) → sn f k b = sn g k b
  | 0, _ => rfl
  | k + 1, h => by
    show (sn f k b || decide (b = f k)) = (sn g k b || decide (b = g k))
    rw [sn_congr (fun i hi => h i (by omega)), h k (by omega)]
theorem cn_imgG {M : Nat} {f : Nat → Nat} (P : Nat → Bool) : ∀ k, (∀ i, i < k → f i < M) → (∀ i j, i < k → j < k → f i = f j → i = j) → cn (fun b => sn f k b && P b) M = cn (fun i => P (f i)) k
  | 0, _, _ => cn_none M (fun _ _ => rfl)
  | k + 1, hb, hi => by
    show _ = cn (fun i => P (f i)) k + (P (f k)).toNat
    have hnew : sn f k (f k) = false := by
      cases h : sn f k (f k) with
      | false => rfl
      | true =>
        obtain ⟨i, h1, h2⟩ := sn_iff.mp h
        have := hi i k (by omega) (by omega) h2
        omega
    rw [← cn_imgG P k (fun i h => hb i (by omega)) (fun i j h1 h2 => hi i j (by omega) (by omega)), ← cn_ins (Q := fun b => sn f k b && P b) (c := f k) (P (f k)) (by show (sn f k (f k) && P (f k)) = false; rw [hnew, Bool.false_and]) M (hb k (by omega))]
    refine cn_congr M (fun b _ => ?_)
    show ((sn f k b || decide (b = f k)) && P b) = _
    by_cases e : b = f k
    · subst e
      rw [decide_eq_true rfl, Bool.or_true, Bool.true_and]
      cases sn f k (f k) <;> cases P (f k) <;> rfl
    · rw [decide_eq_false e, Bool.or_false, Bool.false_and, Bool.or_false]
theorem cn_img {N M : Nat} {f : Nat → Nat} (hf : IsRow N f) (hM : N ≤ M) (P : Nat → Bool) (k : Nat) (hk : k ≤ N) : cn (fun b => sn f k b && P b) M = cn (fun i => P (f i)) k :=
  cn_imgG P k (fun i hi => Nat.lt_of_lt_of_le (hf.1 i (by omega)) hM) (fun i j h1 h2 => hf.2 i j (by omega) (by omega))
theorem sn_all {N : Nat} {f : Nat → Nat} (hf : IsRow N f) {b : Nat} (hb : b < N) : sn f N b = true := sn_iff.mpr (onto N f hf.1 hf.2 b hb)
theorem cn_perm {N : Nat} {f : Nat → Nat} (hf : IsRow N f) (P : Nat → Bool) : cn (fun i => P (f i)) N = cn P N := by
  rw [← cn_img hf (Nat.le_refl N) P N (Nat.le_refl N)]
  exact cn_congr N (fun b hb => by rw [sn_all hf hb, Bool.true_and])
/-- how many behind place k are less than the bell there -/
def lb (f : Nat → Nat) (k : Nat) : Nat := f k - cn (fun i => decide (f i < f k)) k
theorem lb_behind {N : Nat} {f : Nat → Nat} (hf : IsRow N f) {k : Nat} (hk : k < N) : cn (fun j => decide (f (k + 1 + j) < f k)) (N - 1 - k) = lb f k := by
  have h1 := cn_perm hf (fun b => decide (b < f k))
  rw [cn_below (f k) N (Nat.le_of_lt (hf.1 k hk))] at h1
  rw [show N = k + 1 + (N - 1 - k) by omega, cn_split] at h1
  have h2 : cn (fun i => decide (f i < f k)) (k + 1) = cn (fun i => decide (f i < f k)) k := by
    show cn _ k + (decide (f k < f k)).toNat = _
    rw [decide_eq_false (Nat.lt_irrefl _)]
    rfl
  rw [h2] at h1
  unfold lb
  have e : k + 1 + (N - 1 - k) - 1 - k = N - 1 - k := by omega
  omega
theorem lb_le {N : Nat} {f : Nat → Nat} (hf : IsRow N f) {k : Nat} (hk : k < N) : lb f k ≤ N - 1 - k := by
  rw [← lb_behind hf hk]; exact cn_le _ _
theorem ahead_le {N : Nat} {f : Nat → Nat} (hf : IsRow N f) {k : Nat} (hk : k < N) : cn (fun i => decide (f i < f k)) k ≤ f k := by
  rw [← cn_img hf (Nat.le_refl N) (fun b => decide (b < f k)) k (by omega)]
  have := cn_mono (P := fun b => sn f k b && decide (b < f k)) (Q := fun b => decide (b < f k)) N (fun i _ h => (Bool.and_eq_true _ _ ▸ h).2)
  rwa [cn_below (f k) N (Nat.le_of_lt (hf.1 k hk))] at this
def rk (N : Nat) (f : Nat → Nat) : Nat → Nat
  | 0 => 0
  | k + 1 => rk N f k * (N - k) + lb f k
def rkN (N : Nat) (f : Nat → Nat) : Nat := rk N f N
def fl (N : Nat) : Nat → Nat
  | 0 => 1
  | k + 1 => fl N k * (N - k)
theorem rk_lt {N : Nat} {f : Nat → Nat} (hf : IsRow N f) : ∀ k, k ≤ N → rk N f k < fl N k
  | 0, _ => Nat.lt_succ_self 0
  | k + 1, hk => by
    have h1 := rk_lt hf k (by omega)
    have h2 := lb_le hf (k := k) (by omega)
    show rk N f k * (N - k) + lb f k < fl N k * (N - k)
    have h3 : (rk N f k + 1) * (N - k) ≤ fl N k * (N - k) := Nat.mul_le_mul_right _ h1
    rw [Nat.add_mul, Nat.one_mul] at h3
    omega
theorem fl_le {N k : Nat} (hN : N ≤ 8) (hk : k ≤ N) : fl N k ≤ 40320 := by
  have : ∀ N, N < 9 → ∀ k, k < 9 → fl N k ≤ 40320 := by decide
  exact this N (by omega) k (by omega)
theorem lb_unseen {N : Nat} {f : Nat → Nat} (hf : IsRow N f) {k : Nat} (hk : k < N) : lb f k = cn (fun b => !sn f k b && decide (b < f k)) N := by
  have h1 := cn_two (sn f k) (fun b => decide (b < f k)) N
  rw [cn_img hf (Nat.le_refl N) (fun b => decide (b < f k)) k (by omega), cn_below (f k) N (Nat.le_of_lt (hf.1 k hk))] at h1
  unfold lb
  omega
theorem rk_congr {N p : Nat} {f g : Nat → Nat} (he : ∀ i, i < p → f i = g i) : ∀ k, k ≤ p → rk N f k = rk N g k
  | 0, _ => rfl
  | k + 1, hk => by
    show rk N f k * (N - k) + lb f k = rk N g k * (N - k) + lb g k
    have e2 : lb f k = lb g k := by
      unfold lb
      rw [he k (by omega), cn_congr (Q := fun i => decide (g i < g k)) k (fun i hi => by rw [he i (by omega)])]
    rw [rk_congr he k (by omega), e2]
theorem rk_step {N : Nat} (hN : N ≤ 8) {f g : Nat → Nat} (hf : IsRow N f) (hg : IsRow N g) {p : Nat} (hp : p < N) (he : ∀ i, i < p → f i = g i) (hl : f p < g p) : ∀ j, p + 1 + j ≤ N → rk N f (p + 1 + j) < rk N g (p + 1 + j) ∧ dg 16 f (p + 1 + j) < dg 16 g (p + 1 + j)
  | 0, h => by
    have e1 := rk_congr (N := N) he
    have e3 : dg 16 f p = dg 16 g p := dg_congr he
    have h4 : lb f p < lb g p := by
      rw [lb_unseen hf hp, lb_unseen hg hp]
      refine cn_strict (c := f p) N (fun i _ h => ?_) (hf.1 p hp) ?_ ?_
      · rw [Bool.and_eq_true, decide_eq_true_eq] at h ⊢
        rw [← sn_congr he]
        exact ⟨h.1, by omega⟩
      · rw [decide_eq_false (Nat.lt_irrefl _), Bool.and_false]
      · rw [← sn_congr he, sn_new hf hp, decide_eq_true hl]
        rfl
    refine ⟨?_, ?_⟩
    · show rk N f p * (N - p) + lb f p < rk N g p * (N - p) + lb g p
      rw [e1 p (Nat.le_refl p)]
      omega
    · show 16 * dg 16 f p + f p < 16 * dg 16 g p + g p
      omega
  | j + 1, h => by
    obtain ⟨h1, h2⟩ := rk_step hN hf hg hp he hl j (by omega)
    refine ⟨?_, ?_⟩
    · show rk N f (p + 1 + j) * (N - (p + 1 + j)) + lb f (p + 1 + j) < rk N g (p + 1 + j) * (N - (p + 1 + j)) + lb g (p + 1 + j)
      have h3 := lb_le hf (k := p + 1 + j) (by omega)
      have h4 : (rk N f (p + 1 + j) + 1) * (N - (p + 1 + j)) ≤ rk N g (p + 1 + j) * (N - (p + 1 + j)) := Nat.mul_le_mul_right _ h1
      rw [Nat.add_mul, Nat.one_mul] at h4
      omega
    · show 16 * dg 16 f (p + 1 + j) + f (p + 1 + j) < 16 * dg 16 g (p + 1 + j) + g (p + 1 + j)
      have := hf.1 (p + 1 + j) (by omega)
      omega
theorem first_diff (f g : Nat → Nat) : ∀ N, (∀ i, i < N → f i = g i) ∨ ∃ p, p < N ∧ (∀ i, i < p → f i = g i) ∧ f p ≠ g p
  | 0 => Or.inl (fun i hi => by omega)
  | N + 1 => by
    rcases first_diff f g N with h | ⟨p, h1, h2, h3⟩
    · by_cases e : f N = g N
      · exact Or.inl (fun i hi => by
          by_cases e2 : i = N
          · rw [e2]; exact e
          · exact h i (by omega))
      · exact Or.inr ⟨N, by omega, h, e⟩
    · exact Or.inr ⟨p, by omega, h2, h3⟩
theorem rk_pk {N : Nat} (hN : N ≤ 8) {f g : Nat → Nat} (hf : IsRow N f) (hg : IsRow N g) : ((∀ i, i < N → f i = g i) ∧ rkN N f = rkN N g ∧ pkN N f = pkN N g) ∨ (rkN N f < rkN N g ∧ pkN N f < pkN N g) ∨ (rkN N g < rkN N f ∧ pkN N g < pkN N f) := by
  rcases first_diff f g N with h | ⟨p, h1, h2, h3⟩
  · exact Or.inl ⟨h, rk_congr h N (Nat.le_refl N), dg_congr h⟩
  · rcases Nat.lt_or_gt_of_ne h3 with h4 | h4
    · have := rk_step hN hf hg h1 h2 h4 (N - (p + 1)) (by omega)
      rw [show p + 1 + (N - (p + 1)) = N by omega] at this
      exact Or.inr (Or.inl this)
    · have := rk_step hN hg hf h1 (fun i hi => (h2 i hi).symm) h4 (N - (p + 1)) (by omega)
      rw [show p + 1 + (N - (p + 1)) = N by omega] at this
      exact Or.inr (Or.inr this)
theorem rkN_inj {N : Nat} (hN : N ≤ 8) {f g : Nat → Nat} (hf : IsRow N f) (hg : IsRow N g) (h : rkN N f = rkN N g) : ∀ i, i < N → f i = g i := by
  rcases rk_pk hN hf hg with ⟨h1, _⟩ | ⟨h1, _⟩ | ⟨h1, _⟩
  · exact h1
  · omega
  · omega
theorem rkN_lt {N : Nat} (hN : N ≤ 8) {f : Nat → Nat} (hf : IsRow N f) : rkN N f < fl N N ∧ fl N N ≤ 40320 := ⟨rk_lt hf N (Nat.le_refl N), fl_le hN (Nat.le_refl N)⟩
theorem rk_le {N : Nat} (hN : N ≤ 8) {f : Nat → Nat} (hf : IsRow N f) {k : Nat} (hk : k ≤ N) : rk N f k < 40320 := Nat.lt_of_lt_of_le (rk_lt hf k hk) (fl_le hN hk)
/-- the bells seen, as bits -/
def sbt (f : Nat → Nat) : Nat → Nat
  | 0 => 0
  | k + 1 => sbt f k ||| 2 ^ f k
theorem sbt_bit (f : Nat → Nat) (b : Nat) : ∀ k, (sbt f k).testBit b = sn f k b
  | 0 => Nat.zero_testBit b
  | k + 1 => by
    show (sbt f k ||| 2 ^ f k).testBit b = (sn f k b || decide (b = f k))
    rw [Nat.testBit_or, Nat.testBit_two_pow, sbt_bit f b k]
    congr 1
    exact decide_eq_decide.mpr ⟨fun h => h.symm, fun h => h.symm⟩
theorem sbt_lt {N : Nat} {f : Nat → Nat} (hN : N ≤ 8) (hf : IsRow N f) : ∀ k, k ≤ N → sbt f k < 2 ^ 8
  | 0, _ => Nat.two_pow_pos 8
  | k + 1, hk => Nat.or_lt_two_pow (sbt_lt hN hf k (by omega)) (Nat.pow_lt_pow_right (by decide) (by have := hf.1 k (by omega); omega))
theorem pop8 : ∀ x, x < 256 → fn_257 (nI x) = nI (cn (fun b => x.testBit b) 8) := by decide +kernel
theorem c139 {N : Nat} {f : Nat → Nat} (hN : N ≤ 8) (hf : IsRow N f) : ∀ k, k ≤ N → rankS (nI N) (nI (pkN N f)) k = (nI (rk N f k), nI (sbt f k))
  | 0, _ => rfl
  | k + 1, hk => by
    have hfk := hf.1 k (by omega)
    have hr := rk_le hN hf (k := k) (by omega)
    have hs := sbt_lt hN hf k (by omega)
    unfold rankS
    rw [c139 hN hf k (by omega), c130f hN (by omega) hf.1]
    simp only []
    have e1 : (1 : Int32) <<< (nI (f k) &&& 31) = nI (2 ^ f k) := n_shl1 (by omega)
    have h2 : 2 ^ f k ≤ 2 ^ 7 := Nat.pow_le_pow_right (by decide) (by omega)
    have h3 : 1 ≤ 2 ^ f k := Nat.one_le_two_pow
    have e2 : nI (2 ^ f k) - 1 = nI (2 ^ f k - 1) := n_sub (b := 1) h3
    rw [e1, e2, n_and, n_or, pop8 _ (Nat.lt_of_le_of_lt Nat.and_le_left hs)]
    have e3 : cn (fun b => (sbt f k &&& (2 ^ f k - 1)).testBit b) 8 = cn (fun i => decide (f i < f k)) k := by
      rw [← cn_img hf hN (fun b => decide (b < f k)) k (by omega)]
      refine cn_congr 8 (fun b _ => ?_)
      rw [Nat.testBit_and, sbt_bit, Nat.testBit_two_pow_sub_one]
    have h4 := ahead_le hf (k := k) (by omega)
    rw [e3, n_sub (a := N) (b := k) (by omega), n_mul, n_add, n_sub (by omega)]
    show (nI (rk N f k * (N - k) + f k - cn (fun i => decide (f i < f k)) k), nI (sbt f k ||| 2 ^ f k)) = (nI (rk N f k * (N - k) + lb f k), nI (sbt f (k + 1)))
    unfold lb
    rw [Nat.add_sub_assoc h4]
    rfl
theorem r_139 {N : Nat} {f : Nat → Nat} (hN : N ≤ 8) (hf : IsRow N f) : fn_139 (nI N) (nI (pkN N f)) = nI (rkN N f) := by
  unfold fn_139
  rw [n_clamp hN, c139 hN hf N (Nat.le_refl N)]
  rfl
/-- pairs that stand with the greater one ahead -/
def pr (f : Nat → Nat) : Nat → Nat
  | 0 => 0
  | k + 1 => pr f k + cn (fun i => decide (f k < f i)) k
theorem pr_le (f : Nat → Nat) : ∀ k, pr f k ≤ k * k
  | 0 => Nat.le_refl 0
  | k + 1 => by
    have h1 := pr_le f k
    have h2 := cn_le (fun i => decide (f k < f i)) k
    show pr f k + cn (fun i => decide (f k < f i)) k ≤ (k + 1) * (k + 1)
    rw [Nat.add_mul, Nat.mul_add]
    omega
theorem c142 {N : Nat} {f : Nat → Nat} (hN : N ≤ 8) (hf : IsRow N f) : ∀ k, k ≤ N → evenS (nI N) (nI (pkN N f)) k = (nI (pr f k), nI (sbt f k))
  | 0, _ => rfl
  | k + 1, hk => by
    have hfk := hf.1 k (by omega)
    have hs := sbt_lt hN hf k (by omega)
    unfold evenS
    rw [c142 hN hf k (by omega), c130f hN (by omega) hf.1]
    simp only []
    rw [n_shl1 (x := f k) (by omega), n_or, n_ush (by omega) (by omega), pop8 _ (Nat.lt_of_le_of_lt (by rw [Nat.shiftRight_eq_div_pow]; exact Nat.div_le_self _ _) hs), n_add]
    have e3 : cn (fun b => (sbt f k >>> f k).testBit b) 8 = cn (fun i => decide (f k < f i)) k := by
      have h1 := cn_split (fun b => sn f k b && decide (f k ≤ b)) (f k) 8
      rw [cn_img hf (by omega) (fun b => decide (f k ≤ b)) k (by omega), cn_none (f k) (fun i hi => by show (sn f k i && decide (f k ≤ i)) = false; rw [decide_eq_false (by omega), Bool.and_false]), Nat.zero_add] at h1
      rw [cn_congr (Q := fun j => sn f k (f k + j) && decide (f k ≤ f k + j)) 8 (fun b _ => by rw [Nat.testBit_shiftRight, sbt_bit, decide_eq_true (by omega), Bool.and_true]), ← h1]
      refine cn_congr k (fun i hi => decide_eq_decide.mpr ⟨fun h => ?_, fun h => by omega⟩)
      have : f i ≠ f k := fun e => by have := hf.2 i k (by omega) (by omega) e; omega
      omega
    rw [e3]
    rfl
theorem r_142 {N : Nat} {f : Nat → Nat} (hN : N ≤ 8) (hf : IsRow N f) : fn_142 (nI N) (nI (pkN N f)) = nI (if pr f N % 2 = 0 then 1 else 0) := by
  unfold fn_142
  rw [n_clamp hN, c142 hN hf N (Nat.le_refl N)]
  have h1 : nI (pr f N) &&& 1 = nI (pr f N % 2) := by
    show nI (pr f N) &&& nI 1 = _
    rw [n_and, Nat.and_one_is_mod]
  simp only [h1]
  rcases Nat.mod_two_eq_zero_or_one (pr f N) with h | h
  · rw [h]; rfl
  · rw [h]; rfl
/-- the same pairs, counted from ahead -/
def sm (g : Nat → Nat) : Nat → Nat
  | 0 => 0
  | n + 1 => sm g n + g n
theorem sm_congr {g h : Nat → Nat} : ∀ n, (∀ i, i < n → g i = h i) → sm g n = sm h n
  | 0, _ => rfl
  | n + 1, hh => by
    show sm g n + g n = sm h n + h n
    rw [sm_congr n (fun i hi => hh i (by omega)), hh n (by omega)]
theorem sm_cn (g : Nat → Nat) (P : Nat → Bool) : ∀ n, sm (fun i => g i + (P i).toNat) n = sm g n + cn P n
  | 0 => rfl
  | n + 1 => by
    show sm _ n + (g n + (P n).toNat) = sm g n + g n + (cn P n + (P n).toNat)
    rw [sm_cn g P n]
    omega
theorem pr_lb (f : Nat → Nat) : ∀ N, pr f N = sm (fun p => cn (fun j => decide (f (p + 1 + j) < f p)) (N - 1 - p)) N
  | 0 => rfl
  | N + 1 => by
    show pr f N + cn (fun i => decide (f N < f i)) N = sm _ N + cn _ (N + 1 - 1 - N)
    rw [show N + 1 - 1 - N = 0 by omega, pr_lb f N, ← sm_cn]
    refine sm_congr N (fun p hp => ?_)
    rw [show N + 1 - 1 - p = (N - 1 - p) + 1 by omega]
    show _ = cn _ (N - 1 - p) + (decide (f (p + 1 + (N - 1 - p)) < f p)).toNat
    rw [show p + 1 + (N - 1 - p) = N by omega]
theorem pr_sm {N : Nat} {f : Nat → Nat} (hf : IsRow N f) : pr f N = sm (lb f) N := by
  rw [pr_lb]
  exact sm_congr N (fun p hp => lb_behind hf hp)
