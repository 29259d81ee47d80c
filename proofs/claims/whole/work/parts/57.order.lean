/-! THE ORDER of a row is 15 at most -/
def it (f : Nat → Nat) : Nat → Nat → Nat
  | 0, x => x
  | k + 1, x => it f k (f x)
theorem it_add (f : Nat → Nat) (a : Nat) : ∀ b x, it f (a + b) x = it f a (it f b x)
  | 0, _ => rfl
  | b + 1, x => it_add f a b (f x)
theorem it_lt {N : Nat} {f : Nat → Nat} (hf : IsRow N f) : ∀ k x, x < N → it f k x < N
  | 0, _, h => h
  | k + 1, x, h => it_lt hf k (f x) (hf.1 x h)
theorem it_inj {N : Nat} {f : Nat → Nat} (hf : IsRow N f) : ∀ k x y, x < N → y < N → it f k x = it f k y → x = y
  | 0, _, _, _, _, h => h
  | k + 1, x, y, hx, hy, h => hf.2 x y hx hy (it_inj hf k (f x) (f y) (hf.1 x hx) (hf.1 y hy) h)
theorem it_row {N : Nat} {f : Nat → Nat} (hf : IsRow N f) (k : Nat) : IsRow N (it f k) := ⟨fun p hp => it_lt hf k p hp, fun p q hp hq h => it_inj hf k p q hp hq h⟩
theorem it_back {N : Nat} {f : Nat → Nat} (hf : IsRow N f) {x i j : Nat} (hx : x < N) (hij : i < j) (h : it f i x = it f j x) : it f (j - i) x = x := by
  have e : it f j x = it f i (it f (j - i) x) := by rw [← it_add, show i + (j - i) = j by omega]
  rw [e] at h
  exact (it_inj hf i x _ hx (it_lt hf _ x hx) h).symm
theorem it_ret {N : Nat} {f : Nat → Nat} (hf : IsRow N f) {x : Nat} (hx : x < N) : ∃ c, 1 ≤ c ∧ c ≤ N ∧ it f c x = x := by
  by_cases h : ∀ p q, p < N → q < N → it f p x = it f q x → p = q
  · obtain ⟨i, h1, h2⟩ := onto N (fun k => it f k x) (fun p _ => it_lt hf p x hx) h (it f N x) (it_lt hf N x hx)
    exact ⟨N - i, by omega, by omega, it_back hf hx h1 h2⟩
  · have h2 : ∃ p q, p < N ∧ q < N ∧ it f p x = it f q x ∧ p ≠ q := by
      refine Classical.byContradiction (fun hc => h (fun p q hp hq e => Classical.byContradiction (fun hne => hc ⟨p, q, hp, hq, e, hne⟩)))
    obtain ⟨p, q, hp, hq, e, hne⟩ := h2
    rcases Nat.lt_or_gt_of_ne hne with hl | hl
    · exact ⟨q - p, by omega, by omega, it_back hf hx hl e⟩
    · exact ⟨p - q, by omega, by omega, it_back hf hx hl e.symm⟩
/-- the first from b on, n of them being asked -/
def fst (P : Nat → Bool) : Nat → Nat → Nat
  | 0, b => b
  | n + 1, b => if P b = true then b else fst P n (b + 1)
theorem fst_spec (P : Nat → Bool) : ∀ n b, (∃ c, b ≤ c ∧ c < b + n ∧ P c = true) → b ≤ fst P n b ∧ fst P n b < b + n ∧ P (fst P n b) = true ∧ ∀ j, b ≤ j → j < fst P n b → P j = false
  | 0, b, ⟨c, h1, h2, _⟩ => by omega
  | n + 1, b, ⟨c, h1, h2, h3⟩ => by
    unfold fst
    by_cases hb : P b = true
    · rw [if_pos hb]
      exact ⟨Nat.le_refl b, by omega, hb, fun j h1 h2 => by omega⟩
    · rw [if_neg hb]
      have hne : c ≠ b := fun e => hb (e ▸ h3)
      obtain ⟨a1, a2, a3, a4⟩ := fst_spec P n (b + 1) ⟨c, by omega, by omega, h3⟩
      refine ⟨by omega, by omega, a3, fun j h1 h2 => ?_⟩
      by_cases e : j = b
      · rw [e]
        cases hh : P b with
        | false => rfl
        | true => exact absurd hh hb
      · exact a4 j (by omega) h2
def per (f : Nat → Nat) (x : Nat) : Nat := fst (fun c => decide (it f c x = x)) 8 1
theorem per_ok {N : Nat} (hN : N ≤ 8) {f : Nat → Nat} (hf : IsRow N f) {x : Nat} (hx : x < N) : 1 ≤ per f x ∧ per f x < 9 ∧ it f (per f x) x = x ∧ ∀ j, 1 ≤ j → j < per f x → it f j x ≠ x := by
  obtain ⟨c, h1, h2, h3⟩ := it_ret hf hx
  obtain ⟨a1, a2, a3, a4⟩ := fst_spec (fun c => decide (it f c x = x)) 8 1 ⟨c, h1, by omega, decide_eq_true h3⟩
  exact ⟨a1, a2, of_decide_eq_true a3, fun j b1 b2 => of_decide_eq_false (a4 j b1 b2)⟩
theorem per_orb {N : Nat} (hN : N ≤ 8) {f : Nat → Nat} (hf : IsRow N f) {x : Nat} (hx : x < N) {i : Nat} : per f (it f i x) = per f x := by
  obtain ⟨a1, a2, a3, a4⟩ := per_ok hN hf hx
  have hy := it_lt hf i x hx
  obtain ⟨b1, b2, b3, b4⟩ := per_ok hN hf hy
  have swap : ∀ j, it f j (it f i x) = it f i (it f j x) := fun j => by rw [← it_add, ← it_add, Nat.add_comm]
  rcases Nat.lt_trichotomy (per f (it f i x)) (per f x) with h | h | h
  · rw [swap] at b3
    exact absurd (it_inj hf i _ _ (it_lt hf _ x hx) hx b3) (a4 _ b1 h)
  · exact h
  · refine absurd ?_ (b4 _ a1 h)
    rw [swap, a3]
theorem per_many {N : Nat} (hN : N ≤ 8) {f : Nat → Nat} (hf : IsRow N f) {x : Nat} (hx : x < N) : per f x ≤ cn (fun y => decide (per f y = per f x)) N := by
  obtain ⟨a1, a2, a3, a4⟩ := per_ok hN hf hx
  have h := cn_imgG (M := N) (f := fun i => it f i x) (fun y => decide (per f y = per f x)) (per f x) (fun i _ => it_lt hf i x hx) (fun i j hi hj e => by
    rcases Nat.lt_trichotomy i j with hl | hl | hl
    · exact absurd (it_back hf hx hl e) (a4 _ (by omega) (by omega))
    · exact hl
    · exact absurd (it_back hf hx hl e.symm) (a4 _ (by omega) (by omega)))
  have h2 : cn (fun i => decide (per f (it f i x) = per f x)) (per f x) = per f x := by
    have : ∀ n, cn (fun i => decide (per f (it f i x) = per f x)) n = n := by
      intro n
      induction n with
      | zero => rfl
      | succ n ih =>
        show cn _ n + (decide (per f (it f n x) = per f x)).toNat = n + 1
        rw [ih, decide_eq_true (per_orb hN hf hx)]
        rfl
    exact this _
  rw [h2] at h
  refine Nat.le_trans (Nat.le_of_eq h.symm) (cn_mono N (fun i _ hh => ?_))
  rw [Bool.and_eq_true] at hh
  exact hh.2
theorem cn_single {e n : Nat} (h : e < n) : cn (fun c => decide (e = c)) n = 1 := by
  have h1 := cn_ins (Q := fun _ => false) (c := e) true rfl n h
  rw [cn_none n (fun _ _ => rfl)] at h1
  refine Eq.trans (cn_congr n (fun i _ => ?_)) h1
  rw [Bool.false_or, Bool.and_true]
  exact decide_eq_decide.mpr ⟨fun h => h.symm, fun h => h.symm⟩
theorem sm_cls (e : Nat → Nat) (m : Nat) : ∀ n, (∀ y, y < n → e y < m) → sm (fun c => cn (fun y => decide (e y = c)) n) m = n
  | 0, _ => by
    have : ∀ m, sm (fun c => cn (fun y => decide (e y = c)) 0) m = 0 := by
      intro m
      induction m with
      | zero => rfl
      | succ m ih => show sm _ m + 0 = 0; rw [ih]
    exact this m
  | n + 1, h => by
    have := sm_cn (fun c => cn (fun y => decide (e y = c)) n) (fun c => decide (e n = c)) m
    rw [sm_cls e m n (fun y hy => h y (by omega)), cn_single (h n (by omega))] at this
    exact this
theorem sm_mono {g h : Nat → Nat} : ∀ n, (∀ i, i < n → g i ≤ h i) → sm g n ≤ sm h n
  | 0, _ => Nat.le_refl 0
  | n + 1, hh => Nat.add_le_add (sm_mono n (fun i hi => hh i (by omega))) (hh n (by omega))
theorem bits_of (A : Nat → Bool) : ∀ n, ∃ m, m < 2 ^ n ∧ ∀ c, c < n → m.testBit c = A c
  | 0 => ⟨0, by decide, fun c h => by omega⟩
  | n + 1 => by
    obtain ⟨m, h1, h2⟩ := bits_of A n
    refine ⟨m + 2 ^ n * (A n).toNat, ?_, fun c hc => ?_⟩
    · rw [Nat.pow_succ]
      cases A n
      · show m + 2 ^ n * 0 < _; omega
      · show m + 2 ^ n * 1 < _; omega
    · by_cases e : c = n
      · subst e
        cases hA : A c
        · show (m + 2 ^ c * 0).testBit c = false
          rw [Nat.mul_zero, Nat.add_zero]
          exact Nat.testBit_lt_two_pow h1
        · show (m + 2 ^ c * 1).testBit c = true
          rw [Nat.mul_one, Nat.add_comm, Nat.testBit_two_pow_add_eq, Nat.testBit_lt_two_pow h1]
          rfl
      · rw [← h2 c (by omega)]
        cases A n
        · show (m + 2 ^ n * 0).testBit c = _
          rw [Nat.mul_zero, Nat.add_zero]
        · show (m + 2 ^ n * 1).testBit c = _
          rw [Nat.mul_one, Nat.add_comm, Nat.testBit_two_pow_add_gt (by omega)]
theorem lcm15 : ∀ m, m < 2 ^ 9 → sm (fun c => if m.testBit c = true then c else 0) 9 ≤ 8 → ∃ L, L < 16 ∧ 1 ≤ L ∧ ∀ c, c < 9 → m.testBit c = true → 1 ≤ c → L % c = 0 := by decide +kernel
theorem it_mul {f : Nat → Nat} {c x : Nat} (h : it f c x = x) : ∀ q, it f (c * q) x = x
  | 0 => rfl
  | q + 1 => by rw [Nat.mul_succ, it_add, h]; exact it_mul h q
theorem cn_some {P : Nat → Bool} : ∀ n, 0 < cn P n → ∃ i, i < n ∧ P i = true
  | 0, h => absurd h (Nat.lt_irrefl 0)
  | n + 1, h => by
    cases hp : P n with
    | true => exact ⟨n, by omega, hp⟩
    | false =>
      have h2 : 0 < cn P n + (P n).toNat := h
      rw [hp] at h2
      obtain ⟨i, h3, h4⟩ := cn_some n h2
      exact ⟨i, by omega, h4⟩
/-- f is back at rounds after L -/
def isId (N : Nat) (g : Nat → Nat) : Bool := decide (cn (fun p => decide (g p = p)) N = N)
theorem cn_full {P : Nat → Bool} : ∀ n, cn P n = n ↔ ∀ i, i < n → P i = true
  | 0 => ⟨fun _ i h => by omega, fun _ => rfl⟩
  | n + 1 => by
    have h1 := cn_le P n
    constructor
    · intro h i hi
      have h2 : cn P n + (P n).toNat = n + 1 := h
      have h3 := tn_le (P n)
      have h4 : P n = true := by
        cases hp : P n with
        | true => rfl
        | false => rw [hp] at h2; have : cn P n + 0 = n + 1 := h2; omega
      by_cases e : i = n
      · rw [e]; exact h4
      · refine (cn_full n).mp ?_ i (by omega)
        rw [h4] at h2
        have : cn P n + 1 = n + 1 := h2
        omega
    · intro h
      show cn P n + (P n).toNat = n + 1
      rw [(cn_full n).mpr (fun i hi => h i (by omega)), h n (by omega)]
      rfl
theorem isId_iff {N : Nat} {g : Nat → Nat} : isId N g = true ↔ ∀ p, p < N → g p = p := by
  unfold isId
  rw [decide_eq_true_eq, cn_full]
  exact ⟨fun h p hp => of_decide_eq_true (h p hp), fun h p hp => decide_eq_true (h p hp)⟩
theorem ord_ex {N : Nat} (hN : N ≤ 8) {f : Nat → Nat} (hf : IsRow N f) : ∃ L, 1 ≤ L ∧ L < 1 + 15 ∧ isId N (it f L) = true := by
  obtain ⟨m, h1, h2⟩ := bits_of (fun c => decide (0 < cn (fun y => decide (per f y = c)) N)) 9
  have hs : sm (fun c => if m.testBit c = true then c else 0) 9 ≤ 8 := by
    have e := sm_cls (per f) 9 N (fun y hy => (per_ok hN hf hy).2.1)
    refine Nat.le_trans (sm_mono 9 (fun c hc => ?_)) (Nat.le_trans (Nat.le_of_eq e) hN)
    rw [h2 c hc]
    by_cases hp : 0 < cn (fun y => decide (per f y = c)) N
    · rw [if_pos (decide_eq_true hp)]
      obtain ⟨x, hx, hc⟩ := cn_some N hp
      have hc2 := of_decide_eq_true hc
      subst hc2
      exact per_many hN hf hx
    · rw [if_neg (fun hh => hp (of_decide_eq_true hh))]
      exact Nat.zero_le _
  obtain ⟨L, l1, l2, l3⟩ := lcm15 m h1 hs
  refine ⟨L, l2, by omega, isId_iff.mpr (fun p hp => ?_)⟩
  obtain ⟨a1, a2, a3, -⟩ := per_ok hN hf hp
  have h5 : m.testBit (per f p) = true := by
    rw [h2 _ a2]
    refine decide_eq_true ?_
    have := per_many hN hf hp
    omega
  have h6 := l3 _ a2 h5 a1
  have h7 : L = per f p * (L / per f p) := (Nat.mul_div_cancel' (Nat.dvd_of_mod_eq_zero h6)).symm
  rw [h7]
  exact it_mul a3 _
/-- THE ORDER -/
def ordN (N : Nat) (f : Nat → Nat) : Nat := fst (fun L => isId N (it f L)) 15 1
theorem ord_ok {N : Nat} (hN : N ≤ 8) {f : Nat → Nat} (hf : IsRow N f) : 1 ≤ ordN N f ∧ ordN N f ≤ 15 ∧ isId N (it f (ordN N f)) = true ∧ ∀ j, 1 ≤ j → j < ordN N f → isId N (it f j) = false := by
  obtain ⟨a1, a2, a3, a4⟩ := fst_spec (fun L => isId N (it f L)) 15 1 (ord_ex hN hf)
  exact ⟨a1, by unfold ordN; omega, a3, a4⟩
theorem pk_id {N : Nat} (hN : N ≤ 8) {g : Nat → Nat} (hg : IsRow N g) : nI (pkN N g) = nI (pkN N (fun p => p)) ↔ isId N g = true := by
  rw [n_inj (pkN_lt hN hg.1) (pkN_lt hN (fun _ h => h)), isId_iff]
  constructor
  · intro h p hp
    exact dg_inj (b := 16) (f := g) (g := fun p => p) (fun i hi => by have := hg.1 i hi; omega) (fun i hi => by show i < 16; omega) h p hp
  · intro h
    exact dg_congr h
theorem dc_id {N : Nat} (hN : N ≤ 8) {g : Nat → Nat} (hg : IsRow N g) : nI (dcN N g) = nI (dcN N (fun p => p)) ↔ isId N g = true := by
  rw [n_inj (dcN_31 hN hg) (dcN_31 hN (IsRow.id N)), isId_iff]
  constructor
  · intro h p hp
    have h2 : g p + 1 = p + 1 := dg_inj (b := 10) (f := fun p => g p + 1) (g := fun p => p + 1) (fun i hi => by have := hg.1 i hi; show g i + 1 < 10; omega) (fun i hi => by show i + 1 < 10; omega) h p hp
    omega
  · intro h
    exact dg_congr (fun i hi => by rw [h i hi])
theorem r_138 {N : Nat} (hN : N ≤ 8) (hO : OKn (nI N)) {f : Nat → Nat} (hf : IsRow N f) (d : Nat) (w : Wd) : val (138, d + 2, 0, [some (.int (nI N)), some (.int (nI (pkN N f))), none, none, none], [], w) = some (some (.int (nI (ordN N f))), w) := by
  obtain ⟨o1, o2, o3, o4⟩ := ord_ok hN hf
  refine (tr_138 d w _ _).trans ?_
  refine (val_call (pc2 := 4) rfl rfl rfl rfl rfl (Nat.le_of_ble_eq_true rfl) (Nat.le_of_ble_eq_true rfl) rfl (ev_133 (d + 1) w (nI N) hO) rfl).trans ?_
  refine (tr_138_4 d w _ _ _).trans ?_
  have h := downN (P := fun k => val (138, d + 2, 10, [some (.int (nI N)), some (.int (nI (pkN N f))), some (.int (fn_133 (nI N))), some (.int (nI (pkN N (it f (k + 1))))), some (.int (nI (k + 1)))], [], w) = some (some (.int (nI (ordN N f))), w)) (N := ordN N f - 1) ?_ (fun k hk ih => ?_)
  · exact h
  · rw [show ordN N f - 1 + 1 = ordN N f by omega]
    refine (tr_138_10 d w _ _ _ _ _).trans ?_
    rw [r_133 hN]
    by_cases h15 : 15 ≤ nI (ordN N f)
    · rw [if_pos h15]
    · rw [if_neg h15, if_pos ((pk_id hN (it_row hf _)).mpr o3)]
  · refine (tr_138_10 d w _ _ _ _ _).trans ?_
    rw [r_133 hN] at ih ⊢
    rw [if_neg (show ¬ (15 : Int32) ≤ nI (k + 1) from n_nle (a := 15) (b := k + 1) (by omega) (by omega)), if_neg (fun hh => by have := (pk_id hN (it_row hf _)).mp hh; rw [o4 (k + 1) (by omega) (by omega)] at this; cases this)]
    refine (val_call (pc2 := 28) rfl rfl rfl rfl rfl (Nat.le_of_ble_eq_true rfl) (Nat.le_of_ble_eq_true rfl) rfl (ev_136 d w (nI N) (nI (pkN N (it f (k + 1)))) (nI (pkN N f)) hO) rfl).trans ?_
    refine (tr_138_28 d w _ _ _ _ _ _).trans ?_
    rw [r_136 hN (it_row hf (k + 1)).1 hf.1, n_succ]
    exact ih
