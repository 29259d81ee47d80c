/-! the reference's rank and isEven; rows by their rank -/
section RANK
variable {N : Nat}
theorem m_rank (h3 : 3 ≤ N) (hN : N ≤ 8) {v : Int32} {f : Nat → Nat} (hf : IsNum N v f) (d : Nat) {w : Wd} (hW : Fix w) (hn : gI w 108 0 = nI N) :
    ∃ w', val (179, d + 1, 0, [some (.ref 108), some (.int v), none, none, none, none], [], w) = some (some (.int (nI (rkN N f))), w') ∧ Fr SC w w' := by
  obtain ⟨w1, e1, f1, c1⟩ := m_into h3 hN hf d 109 (by decide) (by decide) hW (hW.k 109 (by decide) (by decide)) hn
  have hW1 := f1.fix rfl hW
  have hn1 := (f1.i 108 0 rfl).trans hn
  refine ⟨w1, ?_, f1.mono rfl⟩
  refine (tr_179 d w hW v).trans ?_
  refine (val_call (pc2 := 9) rfl rfl rfl rfl (hW.rc _) (Nat.le_of_ble_eq_true rfl) (Nat.le_of_ble_eq_true rfl) rfl e1 rfl).trans ?_
  refine (tr_179_9 d w1 v _).trans ?_
  refine downN (P := fun k => ∀ l4 l5, val (179, d + 1, 14, [some (.ref 108), some (.int v), some (.int (nI (rk N f k))), some (.int (nI (k + 1))), l4, l5], [], w1) = some (some (.int (nI (rkN N f))), w1)) (N := N) (fun l4 l5 => ?_) (fun k hk ih l4 l5 => ?_) none none
  · refine (tr_179_14 d w1 hW1 v _ _ l4 l5).trans ?_
    rw [hn1, if_pos (n_lt (Nat.lt_succ_self N) (by omega))]
    rfl
  · refine (tr_179_14 d w1 hW1 v _ _ l4 l5).trans ?_
    rw [hn1, if_neg (n_nlt (by omega) (by omega)), n_succ]
    refine downN (P := fun j => val (179, d + 1, 30, [some (.ref 108), some (.int v), some (.int (nI (rk N f k))), some (.int (nI (k + 1))), some (.int (nI (cn (fun j => decide (f (k + 1 + j) < f k)) j))), some (.int (nI (k + 1 + j + 1)))], [], w1) = some (some (.int (nI (rkN N f))), w1)) (N := N - 1 - k) ?_ (fun j hj ih2 => ?_)
    · refine (tr_179_30 d w1 hW1 v _ _ _ _ (fun h => ?_) (fun h => ?_)).trans ?_
      · rw [hn1] at h
        exact absurd (n_lt (by omega) (by omega)) h
      · rw [hn1] at h
        exact absurd (n_lt (by omega) (by omega)) h
      · rw [hn1, if_pos (n_lt (by omega) (by omega)), n_succ N, n_sub (by omega), n_mul, n_add, n_succ, lb_behind hf.1 hk, show N + 1 - (k + 1) = N - k by omega]
        exact ih _ _
    · refine (tr_179_30 d w1 hW1 v _ _ _ _ (fun h => inB_nI (by omega) (by omega)) (fun h => inB_nI (by omega) (by omega))).trans ?_
      have ha := hf.1.1 k hk
      have hb := hf.1.1 (k + 1 + j) (by omega)
      rw [hn1, if_neg (n_nlt (by omega) (by omega)), nI_clamp (n := k + 1) (by omega), nI_clamp (by omega), c1 k hk, c1 (k + 1 + j) (by omega)]
      by_cases hc : f (k + 1 + j) < f k
      · rw [if_neg (n_nle (by omega) (by omega)), n_succ, n_succ]
        rw [show cn (fun j => decide (f (k + 1 + j) < f k)) (j + 1) = cn (fun j => decide (f (k + 1 + j) < f k)) j + 1 from by show _ + (decide (f (k + 1 + j) < f k)).toNat = _; rw [decide_eq_true hc]; rfl] at ih2
        exact ih2
      · rw [if_pos (n_le (by omega) (by omega)), n_succ, Int32.add_zero]
        rw [show cn (fun j => decide (f (k + 1 + j) < f k)) (j + 1) = cn (fun j => decide (f (k + 1 + j) < f k)) j from by show _ + (decide (f (k + 1 + j) < f k)).toNat = _; rw [decide_eq_false hc]; rfl] at ih2
        exact ih2
theorem sm_lb_le (f : Nat → Nat) (N : Nat) : ∀ k, k ≤ N → (∀ i, i < N → lb f i ≤ N) → sm (lb f) k ≤ k * N
  | 0, _, _ => Nat.zero_le _
  | k + 1, hk, h => by
    have h1 := sm_lb_le f N k (by omega) h
    have h2 := h k (by omega)
    show sm (lb f) k + lb f k ≤ (k + 1) * N
    rw [Nat.add_mul, Nat.one_mul]
    omega
theorem m_isEven (h3 : 3 ≤ N) (hN : N ≤ 8) {v : Int32} {f : Nat → Nat} (hf : IsNum N v f) (d : Nat) {w : Wd} (hW : Fix w) (hn : gI w 108 0 = nI N) :
    ∃ w', val (180, d + 1, 0, [some (.ref 108), some (.int v), none, none, none], [], w) = some (some (.int (nI (if pr f N % 2 = 0 then 1 else 0))), w') ∧ Fr SC w w' := by
  obtain ⟨w1, e1, f1, c1⟩ := m_into h3 hN hf d 109 (by decide) (by decide) hW (hW.k 109 (by decide) (by decide)) hn
  have hW1 := f1.fix rfl hW
  have hn1 := (f1.i 108 0 rfl).trans hn
  refine ⟨w1, ?_, f1.mono rfl⟩
  refine (tr_180 d w hW v).trans ?_
  refine (val_call (pc2 := 9) rfl rfl rfl rfl (hW.rc _) (Nat.le_of_ble_eq_true rfl) (Nat.le_of_ble_eq_true rfl) rfl e1 rfl).trans ?_
  refine (tr_180_9 d w1 v _).trans ?_
  refine downN (P := fun k => ∀ l4, val (180, d + 1, 14, [some (.ref 108), some (.int v), some (.int (nI (sm (lb f) k))), some (.int (nI (k + 1))), l4], [], w1) = some (some (.int (nI (if pr f N % 2 = 0 then 1 else 0))), w1)) (N := N) (fun l4 => ?_) (fun k hk ih l4 => ?_) none
  · refine (tr_180_14 d w1 hW1 v _ _ l4).trans ?_
    have hb : pr f N < 2 ^ 31 := by
      have := pr_le f N
      have : N * N ≤ 8 * 8 := Nat.mul_le_mul hN hN
      omega
    rw [hn1, if_pos (n_lt (Nat.lt_succ_self N) (by omega)), ← pr_sm hf.1, show nI (pr f N) - nI (pr f N) / 2 * 2 = nI (pr f N % 2) from n_rem (b := 2) hb (by omega)]
    rcases Nat.mod_two_eq_zero_or_one (pr f N) with h | h
    · rw [h]; rfl
    · rw [h]; rfl
  · refine (tr_180_14 d w1 hW1 v _ _ l4).trans ?_
    rw [hn1, if_neg (n_nlt (by omega) (by omega)), n_succ]
    refine downN (P := fun j => val (180, d + 1, 27, [some (.ref 108), some (.int v), some (.int (nI (sm (lb f) k + cn (fun j => decide (f (k + 1 + j) < f k)) j))), some (.int (nI (k + 1))), some (.int (nI (k + 1 + j + 1)))], [], w1) = some (some (.int (nI (if pr f N % 2 = 0 then 1 else 0))), w1)) (N := N - 1 - k) ?_ (fun j hj ih2 => ?_)
    · refine (tr_180_27 d w1 hW1 v _ _ _ (fun h => ?_) (fun h => ?_)).trans ?_
      · rw [hn1] at h
        exact absurd (n_lt (by omega) (by omega)) h
      · rw [hn1] at h
        exact absurd (n_lt (by omega) (by omega)) h
      · rw [hn1, if_pos (n_lt (by omega) (by omega)), n_succ, lb_behind hf.1 hk]
        exact ih _
    · refine (tr_180_27 d w1 hW1 v _ _ _ (fun h => inB_nI (by omega) (by omega)) (fun h => inB_nI (by omega) (by omega))).trans ?_
      have ha := hf.1.1 k hk
      have hb := hf.1.1 (k + 1 + j) (by omega)
      rw [hn1, if_neg (n_nlt (by omega) (by omega)), nI_clamp (n := k + 1) (by omega), nI_clamp (by omega), c1 k hk, c1 (k + 1 + j) (by omega)]
      by_cases hc : f (k + 1 + j) < f k
      · rw [if_neg (n_nle (by omega) (by omega)), n_succ, n_succ]
        rw [show cn (fun j => decide (f (k + 1 + j) < f k)) (j + 1) = cn (fun j => decide (f (k + 1 + j) < f k)) j + 1 from by show _ + (decide (f (k + 1 + j) < f k)).toNat = _; rw [decide_eq_true hc]; rfl] at ih2
        exact ih2
      · rw [if_pos (n_le (by omega) (by omega)), n_succ, Int32.add_zero]
        rw [show cn (fun j => decide (f (k + 1 + j) < f k)) (j + 1) = cn (fun j => decide (f (k + 1 + j) < f k)) j from by show _ + (decide (f (k + 1 + j) < f k)).toNat = _; rw [decide_eq_false hc]; rfl] at ih2
        exact ih2
end RANK
/-! factorials; the q-th bell that is not in S; the row of a rank -/
def fc : Nat → Nat
  | 0 => 1
  | n + 1 => (n + 1) * fc n
theorem fc_pos : ∀ n, 0 < fc n
  | 0 => by decide
  | n + 1 => Nat.mul_pos (by omega) (fc_pos n)
theorem fc_lt {n : Nat} (h : n ≤ 8) : fc n ≤ 40320 := by
  have : ∀ n, n < 9 → fc n ≤ 40320 := by decide
  exact this n (by omega)
theorem fl_fc (N : Nat) : ∀ k, k ≤ N → fl N k * fc (N - k) = fc N
  | 0, _ => by show 1 * fc (N - 0) = _; rw [Nat.one_mul]; rfl
  | k + 1, hk => by
    have h := fl_fc N k (by omega)
    obtain ⟨m, hm⟩ : ∃ m, N - k = m + 1 := ⟨N - k - 1, by omega⟩
    rw [hm] at h
    show fl N k * (N - k) * fc (N - (k + 1)) = fc N
    rw [show N - (k + 1) = m by omega, hm, Nat.mul_assoc]
    exact h
theorem rkN_fc {N : Nat} {f : Nat → Nat} (hf : IsRow N f) : rkN N f < fc N := by
  have h := fl_fc N N (Nat.le_refl N)
  rw [Nat.sub_self] at h
  have h2 := rk_lt hf N (Nat.le_refl N)
  have h3 : fl N N * fc 0 = fl N N := Nat.mul_one _
  unfold rkN
  omega
theorem facs_fc {j : Nat} (h : j < 9) : facs.getD j 0 = nI (fc j) := by
  have : ∀ j, j < 9 → facs.getD j 0 = nI (fc j) := by decide
  exact this j h
def nthU (S : Nat → Bool) : Nat → Nat → Nat → Nat
  | 0, _, _ => 0
  | n + 1, q, b => if S b = true then nthU S n q (b + 1) else if q = 0 then b else nthU S n (q - 1) (b + 1)
theorem nthU_in (S : Nat → Bool) : ∀ n q b, q < cn (fun j => !S (b + j)) n → b ≤ nthU S n q b ∧ nthU S n q b < b + n ∧ S (nthU S n q b) = false
  | 0, q, b, h => absurd h (Nat.not_lt_zero q)
  | n + 1, q, b, h => by
    rw [Nat.add_comm n 1, cn_split] at h
    have e : cn (fun j => !S (b + (1 + j))) n = cn (fun j => !S (b + 1 + j)) n := cn_congr n (fun i _ => by rw [Nat.add_assoc])
    have e0 : cn (fun j => !S (b + j)) 1 = (!S b).toNat := Nat.zero_add _
    rw [e, e0] at h
    unfold nthU
    by_cases h1 : S b = true
    · rw [if_pos h1]
      rw [h1] at h
      obtain ⟨a1, a2, a3⟩ := nthU_in S n q (b + 1) (by simpa using h)
      exact ⟨by omega, by omega, a3⟩
    · rw [if_neg h1]
      have h1' : S b = false := by cases hb : S b with | false => rfl | true => exact absurd hb h1
      by_cases h2 : q = 0
      · rw [if_pos h2]
        exact ⟨Nat.le_refl b, by omega, h1'⟩
      · rw [if_neg h2]
        rw [h1'] at h
        have h' : q < 1 + cn (fun j => !S (b + 1 + j)) n := h
        obtain ⟨a1, a2, a3⟩ := nthU_in S n (q - 1) (b + 1) (by omega)
        exact ⟨by omega, by omega, a3⟩
/-- what is left of the rank, and the bells, after so many places -/
def urS (N r : Nat) : Nat → Nat × (Nat → Nat)
  | 0 => (r, fun _ => 0)
  | p + 1 => ((urS N r p).1 % fc (N - 1 - p), fun i => if i = p then nthU (sn (urS N r p).2 p) N ((urS N r p).1 / fc (N - 1 - p)) 0 else (urS N r p).2 i)
def urN (N r : Nat) : Nat → Nat := (urS N r N).2
theorem cn_not (P : Nat → Bool) : ∀ n, cn (fun i => !P i) n = n - cn P n
  | 0 => rfl
  | n + 1 => by
    show cn _ n + (!P n).toNat = n + 1 - (cn P n + (P n).toNat)
    rw [cn_not P n]
    have := cn_le P n
    cases P n
    · show n - cn P n + 1 = n + 1 - (cn P n + 0); omega
    · show n - cn P n + 0 = n + 1 - (cn P n + 1); omega
theorem urS_ok {N r : Nat} (hr : r < fc N) : ∀ p, p ≤ N → (urS N r p).1 < fc (N - p) ∧ (∀ i, i < p → (urS N r p).2 i < N) ∧ (∀ i j, i < p → j < p → (urS N r p).2 i = (urS N r p).2 j → i = j) ∧ cn (sn (urS N r p).2 p) N = p
  | 0, _ => ⟨hr, fun i hi => by omega, fun i j hi => by omega, cn_none N (fun _ _ => rfl)⟩
  | p + 1, hp => by
    obtain ⟨a1, a2, a3, a4⟩ := urS_ok hr p (by omega)
    have hq : (urS N r p).1 / fc (N - 1 - p) < N - p := by
      rw [Nat.div_lt_iff_lt_mul (fc_pos _)]
      obtain ⟨m, hm⟩ : ∃ m, N - p = m + 1 := ⟨N - p - 1, by omega⟩
      rw [show N - 1 - p = m by omega, hm]
      rw [hm] at a1
      exact a1
    obtain ⟨b1, b2, b3⟩ := nthU_in (sn (urS N r p).2 p) N ((urS N r p).1 / fc (N - 1 - p)) 0 (by
      rw [cn_congr (Q := fun i => !sn (urS N r p).2 p i) N (fun i _ => by rw [Nat.zero_add]), cn_not, a4]
      exact hq)
    have e1 : ∀ i, i < p → (urS N r (p + 1)).2 i = (urS N r p).2 i := fun i hi => if_neg (by omega)
    have e2 : (urS N r (p + 1)).2 p = nthU (sn (urS N r p).2 p) N ((urS N r p).1 / fc (N - 1 - p)) 0 := if_pos rfl
    have ns : ∀ i, i < p → (urS N r p).2 i ≠ nthU (sn (urS N r p).2 p) N ((urS N r p).1 / fc (N - 1 - p)) 0 := by
      intro i hi hh
      rw [sn_iff.mpr ⟨i, hi, hh⟩] at b3
      cases b3
    refine ⟨?_, fun i hi => ?_, fun i j hi hj h => ?_, ?_⟩
    · rw [show N - (p + 1) = N - 1 - p by omega]
      exact Nat.mod_lt _ (fc_pos _)
    · by_cases e : i = p
      · rw [e, e2]; omega
      · rw [e1 i (by omega)]; exact a2 i (by omega)
    · by_cases ei : i = p
      · by_cases ej : j = p
        · omega
        · rw [ei, e2, e1 j (by omega)] at h
          exact absurd h.symm (ns j (by omega))
      · by_cases ej : j = p
        · rw [ej, e2, e1 i (by omega)] at h
          exact absurd h (ns i (by omega))
        · rw [e1 i (by omega), e1 j (by omega)] at h
          exact a3 i j (by omega) (by omega) h
    · have h5 := cn_ins (Q := sn (urS N r p).2 p) true b3 N (by omega)
      rw [a4] at h5
      refine Eq.trans (cn_congr N (fun b _ => ?_)) h5
      show (sn (urS N r (p + 1)).2 p b || decide (b = (urS N r (p + 1)).2 p)) = _
      rw [e2, sn_congr e1, Bool.and_true]
theorem urN_row {N r : Nat} (hr : r < fc N) : IsRow N (urN N r) := by
  obtain ⟨-, a2, a3, -⟩ := urS_ok hr N (Nat.le_refl N)
  exact ⟨a2, a3⟩
theorem urS_pre {N r : Nat} : ∀ k p, p ≤ k → ∀ i, i < p → (urS N r k).2 i = (urS N r p).2 i
  | 0, p, h, i, hi => by omega
  | k + 1, p, h, i, hi => by
    by_cases e : p = k + 1
    · rw [e]
    · rw [← urS_pre k p (by omega) i hi]
      exact if_neg (by omega)
