/-! BelfryHouse$Rows: what its loops compute, as functions -/
/-- a number of bells -/
def OKn (n : Int32) : Prop := n = 3 ∨ n = 4 ∨ n = 5 ∨ n = 6 ∨ n = 7 ∨ n = 8
theorem OKn.nat {n : Int32} (h : OKn n) : ∃ k : Nat, n = nI k ∧ n.toNatClampNeg = k ∧ 3 ≤ k ∧ k ≤ 8 := by
  rcases h with rfl | rfl | rfl | rfl | rfl | rfl
  · exact ⟨3, rfl, rfl, by omega, by omega⟩
  · exact ⟨4, rfl, rfl, by omega, by omega⟩
  · exact ⟨5, rfl, rfl, by omega, by omega⟩
  · exact ⟨6, rfl, rfl, by omega, by omega⟩
  · exact ⟨7, rfl, rfl, by omega, by omega⟩
  · exact ⟨8, rfl, rfl, by omega, by omega⟩
theorem n_succ (k : Nat) : nI k + 1 = nI (k + 1) := n_add k 1
/-- an induction down from N -/
theorem downN {P : Nat → Prop} {N : Nat} (hN : P N) (hs : ∀ k, k < N → P (k + 1) → P k) : P 0 := by
  have h : ∀ j, j ≤ N → P (N - j) := by
    intro j
    induction j with
    | zero => intro _; exact hN
    | succ j ih =>
      intro hj
      refine hs (N - (j + 1)) (by omega) ?_
      rw [show N - (j + 1) + 1 = N - j by omega]
      exact ih (by omega)
  have := h N (Nat.le_refl N)
  rwa [Nat.sub_self] at this
def roundsS : Nat → Int32
  | 0 => 0
  | k + 1 => (roundsS k <<< (4 &&& 31)) ||| nI k
def fn_133 (n : Int32) : Int32 := roundsS n.toNatClampNeg
theorem ev_133 (d : Nat) (w : Wd) (n : Int32) (hn : OKn n) : val (133, d, 0, [some (.int n), none, none], [], w) = some (some (.int (fn_133 n)), w) := by
  obtain ⟨N, e1, e2, e3, e4⟩ := hn.nat
  unfold fn_133
  rw [e2, en_133]
  subst e1
  refine downN (P := fun k => val (133, d, 4, [some (.int (nI N)), some (.int (roundsS k)), some (.int (nI k))], [], w) = some (some (.int (roundsS N)), w)) (N := N) ?_ (fun k hk ih => ?_)
  · rw [lp_133_4, if_pos ((n_le_iff (by omega) (by omega)).mpr (Nat.le_refl N))]
  · rw [lp_133_4, if_neg (fun h => by have := (n_le_iff (by omega) (by omega)).mp h; omega), n_succ]
    exact ih
def toNumS (n row : Int32) : Nat → Int32
  | 0 => 0
  | k + 1 => toNumS n row k * 10 + fn_130 n row (nI k) + 1
def fn_135 (n row : Int32) : Int32 := toNumS n row n.toNatClampNeg
theorem ev_135 (d : Nat) (w : Wd) (n row : Int32) (hn : OKn n) : val (135, d + 1, 0, [some (.int n), some (.int row), none, none], [], w) = some (some (.int (fn_135 n row)), w) := by
  obtain ⟨N, e1, e2, e3, e4⟩ := hn.nat
  unfold fn_135
  rw [e2, en_135]
  subst e1
  refine downN (P := fun k => val (135, d + 1, 4, [some (.int (nI N)), some (.int row), some (.int (toNumS (nI N) row k)), some (.int (nI k))], [], w) = some (some (.int (toNumS (nI N) row N)), w)) (N := N) ?_ (fun k hk ih => ?_)
  · rw [lp_135_4, if_pos ((n_le_iff (by omega) (by omega)).mpr (Nat.le_refl N))]
  · rw [lp_135_4, if_neg (fun h => by have := (n_le_iff (by omega) (by omega)).mp h; omega), n_succ]
    exact ih
def timesS (n a b : Int32) : Nat → Int32
  | 0 => 0
  | k + 1 => (timesS n a b k <<< (4 &&& 31)) ||| fn_130 n a (fn_130 n b (nI k))
def fn_136 (n a b : Int32) : Int32 := timesS n a b n.toNatClampNeg
theorem ev_136 (d : Nat) (w : Wd) (n a b : Int32) (hn : OKn n) : val (136, d + 1, 0, [some (.int n), some (.int a), some (.int b), none, none], [], w) = some (some (.int (fn_136 n a b)), w) := by
  obtain ⟨N, e1, e2, e3, e4⟩ := hn.nat
  unfold fn_136
  rw [e2, en_136]
  subst e1
  refine downN (P := fun k => val (136, d + 1, 5, [some (.int (nI N)), some (.int a), some (.int b), some (.int (timesS (nI N) a b k)), some (.int (nI k))], [], w) = some (some (.int (timesS (nI N) a b N)), w)) (N := N) ?_ (fun k hk ih => ?_)
  · rw [lp_136_5, if_pos ((n_le_iff (by omega) (by omega)).mpr (Nat.le_refl N))]
  · rw [lp_136_5, if_neg (fun h => by have := (n_le_iff (by omega) (by omega)).mp h; omega), n_succ]
    exact ih
def undoneS (n a : Int32) : Nat → Int32
  | 0 => 0
  | k + 1 => undoneS n a k ||| fn_131 n (nI k) (fn_130 n a (nI k))
def fn_137 (n a : Int32) : Int32 := undoneS n a n.toNatClampNeg
theorem ev_137 (d : Nat) (w : Wd) (n a : Int32) (hn : OKn n) : val (137, d + 1, 0, [some (.int n), some (.int a), none, none], [], w) = some (some (.int (fn_137 n a)), w) := by
  obtain ⟨N, e1, e2, e3, e4⟩ := hn.nat
  unfold fn_137
  rw [e2, en_137]
  subst e1
  refine downN (P := fun k => val (137, d + 1, 4, [some (.int (nI N)), some (.int a), some (.int (undoneS (nI N) a k)), some (.int (nI k))], [], w) = some (some (.int (undoneS (nI N) a N)), w)) (N := N) ?_ (fun k hk ih => ?_)
  · rw [lp_137_4, if_pos ((n_le_iff (by omega) (by omega)).mpr (Nat.le_refl N))]
  · rw [lp_137_4, if_neg (fun h => by have := (n_le_iff (by omega) (by omega)).mp h; omega), n_succ]
    exact ih
/-- rank and the bells seen -/
def rankS (n row : Int32) : Nat → Int32 × Int32
  | 0 => (0, 0)
  | k + 1 => ((rankS n row k).1 * (n - nI k) + fn_130 n row (nI k) - fn_257 ((rankS n row k).2 &&& ((1 <<< (fn_130 n row (nI k) &&& 31)) - 1)), (rankS n row k).2 ||| (1 <<< (fn_130 n row (nI k) &&& 31)))
def fn_139 (n row : Int32) : Int32 := (rankS n row n.toNatClampNeg).1
theorem ev_139 (d : Nat) (w : Wd) (n row : Int32) (hn : OKn n) : val (139, d + 1, 0, [some (.int n), some (.int row), none, none, none, none, none], [], w) = some (some (.int (fn_139 n row)), w) := by
  obtain ⟨N, e1, e2, e3, e4⟩ := hn.nat
  unfold fn_139
  rw [e2, en_139]
  subst e1
  refine downN (P := fun k => ∀ t5 t6, val (139, d + 1, 7, [some (.int (nI N)), some (.int row), some (.int (rankS (nI N) row k).1), some (.int (rankS (nI N) row k).2), some (.int (nI k)), t5, t6], [], w) = some (some (.int (rankS (nI N) row N).1), w)) (N := N) (fun t5 t6 => ?_) (fun k hk ih t5 t6 => ?_) none none
  · rw [lp_139_7, if_pos ((n_le_iff (by omega) (by omega)).mpr (Nat.le_refl N))]
  · rw [lp_139_7, if_neg (fun h => by have := (n_le_iff (by omega) (by omega)).mp h; omega), n_succ]
    exact ih _ _
/-- pairs and the bells seen -/
def evenS (n row : Int32) : Nat → Int32 × Int32
  | 0 => (0, 0)
  | k + 1 => ((evenS n row k).1 + fn_257 (ushI (evenS n row k).2 (fn_130 n row (nI k))), (evenS n row k).2 ||| (1 <<< (fn_130 n row (nI k) &&& 31)))
def fn_142 (n row : Int32) : Int32 := if ¬ (evenS n row n.toNatClampNeg).1 &&& 1 = 0 then 0 else 1
theorem ev_142 (d : Nat) (w : Wd) (n row : Int32) (hn : OKn n) : val (142, d + 1, 0, [some (.int n), some (.int row), none, none, none, none], [], w) = some (some (.int (fn_142 n row)), w) := by
  obtain ⟨N, e1, e2, e3, e4⟩ := hn.nat
  unfold fn_142
  rw [e2, en_142]
  subst e1
  refine downN (P := fun k => ∀ t5, val (142, d + 1, 7, [some (.int (nI N)), some (.int row), some (.int (evenS (nI N) row k).1), some (.int (evenS (nI N) row k).2), some (.int (nI k)), t5], [], w) = some (some (.int (if ¬ (evenS (nI N) row N).1 &&& 1 = 0 then 0 else 1)), w)) (N := N) (fun t5 => ?_) (fun k hk ih t5 => ?_) none
  · rw [lp_142_7, if_pos ((n_le_iff (by omega) (by omega)).mpr (Nat.le_refl N))]
    by_cases hc : ¬ (evenS (nI N) row N).1 &&& 1 = 0
    · rw [if_pos hc, if_pos hc]
    · rw [if_neg hc, if_neg hc]
  · rw [lp_142_7, if_neg (fun h => by have := (n_le_iff (by omega) (by omega)).mp h; omega), n_succ]
    exact ih _
/-- the bell at the place, the lowest digit less one -/
def dgt (v : Int32) : Int32 := (v - v / 10 * 10) - 1
/-- fromNumber's loop with k places left -/
def fromS (n : Int32) : Nat → Int32 → Int32 → Int32 → Int32
  | 0, row, _, rest => if ¬ rest = 0 then -1 else row
  | k + 1, row, seen, rest => if dgt rest < 0 then -1 else if n ≤ dgt rest then -1 else if (ushI seen (dgt rest)) &&& 1 = 0 then fromS n k (row ||| fn_131 n (dgt rest) (nI k)) (seen ||| (1 <<< (dgt rest &&& 31))) (rest / 10) else -1
def fn_134 (n v : Int32) : Int32 := fromS n n.toNatClampNeg 0 0 v
theorem n_pred {k : Nat} : nI (k + 1) - 1 = nI k := n_sub (a := k + 1) (b := 1) (by omega)
theorem ev_134 (d : Nat) (w : Wd) (n v : Int32) (hn : OKn n) : val (134, d + 1, 0, [some (.int n), some (.int v), none, none, none, none, none], [], w) = some (some (.int (fn_134 n v)), w) := by
  obtain ⟨N, e1, e2, e3, e4⟩ := hn.nat
  unfold fn_134
  rw [e2, en_134]
  subst e1
  have h : ∀ k, k ≤ N → ∀ row seen rest t6, (t6 = none ∨ ∃ x : Int32, t6 = some (.int x)) → val (134, d + 1, 12, [some (.int (nI N)), some (.int v), some (.int row), some (.int seen), some (.int rest), some (.int (nI k - 1)), t6], [], w) = some (some (.int (fromS (nI N) k row seen rest)), w) := by
    intro k
    induction k with
    | zero =>
      intro _ row seen rest t6 _
      rw [lp_134_12, if_pos (by decide)]
      unfold fromS
      by_cases hc : ¬ rest = 0
      · rw [if_pos hc, if_pos hc]
      · rw [if_neg hc, if_neg hc]
    | succ k ih =>
      intro hk row seen rest t6 _
      rw [n_pred, lp_134_12, if_neg (nI_pos (by omega))]
      unfold fromS
      by_cases h1 : dgt rest < 0
      · rw [if_pos h1]; exact (if_pos h1)
      rw [if_neg h1]
      refine (if_neg h1).trans ?_
      by_cases h2 : nI N ≤ dgt rest
      · rw [if_pos h2]; exact (if_pos h2)
      rw [if_neg h2]
      refine (if_neg h2).trans ?_
      by_cases h3 : (ushI seen (dgt rest)) &&& 1 = 0
      · rw [if_pos h3]
        refine (if_pos h3).trans ?_
        rw [show nI k + (-1) = nI k - 1 from (Int32.sub_eq_add_neg _ _).symm]
        exact ih (by omega) (row ||| fn_131 (nI N) (dgt rest) (nI k)) (seen ||| (1 <<< (dgt rest &&& 31))) (rest / 10) (some (.int (dgt rest))) (Or.inr ⟨_, rfl⟩)
      · rw [if_neg h3]; exact (if_neg h3)
  exact h N (Nat.le_refl N) 0 0 v none (Or.inl rfl)
