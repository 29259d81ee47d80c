/-! the reference's swap, jump, twos on its row at work -/
/-- cell a holds the row f -/
def Lay (N : Nat) (v : Wd) (a : Nat) (f : Nat → Nat) : Prop := ∀ p, p < N → gI v a (p + 1) = nI (f p + 1)
abbrev WK : List (Nat × Option Nat) := [(126, none)]
section MSWAP
variable {N : Nat}
theorem m_swap (hN : N ≤ 8) (d : Nat) {v : Wd} (hW : Fix v) {f : Nat → Nat} (hL : Lay N v 126 f) {i j : Nat} (hi : i < N) (hj : j < N) : ∃ v', val (199, d, 0, [some (.ref 108), some (.ref 126), some (.int (nI (i + 1))), some (.int (nI (j + 1))), none], [], v) = some (none, v') ∧ Fr WK v v' ∧ Lay N v' 126 (sw f i j) := by
  have e := tr_199 d v 126 (nI (i + 1)) (nI (j + 1)) 9 (hW.k 126 (by omega) (by omega)) (inB_nI (by omega) (by omega)) (inB_nI (by omega) (by omega))
  rw [nI_clamp (n := i + 1) (by omega), nI_clamp (n := j + 1) (by omega)] at e
  refine ⟨_, e, ((Fr.refl _ v).sI 126 _ _ rfl).sI 126 _ _ rfl, fun p hp => ?_⟩
  unfold sw
  by_cases h1 : p = j
  · subst h1
    rw [gI_same, hL i hi]
    by_cases h2 : p = i
    · subst h2; rw [if_pos rfl]
    · rw [if_neg h2, if_pos rfl]
  · rw [gI_nk _ _ _ (by omega)]
    by_cases h2 : p = i
    · subst h2
      rw [gI_same, if_pos rfl, hL j hj]
    · rw [gI_nk _ _ _ (by omega), if_neg h2, if_neg h1, hL p hp]
theorem m_jumpU (hN : N ≤ 8) (d : Nat) (x1 : Int32) {j : Nat} (hj : j < N) : ∀ (m i : Nat) (f : Nat → Nat) (v : Wd), Fix v → Lay N v 126 f → i + m = j → ∃ v', val (201, d + 1, 15, [some (.ref 108), some (.ref 126), some (.int x1), some (.int (nI (j + 1))), some (.int 1), some (.int (nI (i + 1)))], [], v) = some (none, v') ∧ Fr WK v v' ∧ Lay N v' 126 (apL f (jmU i m))
  | 0, i, f, v, hW, hL, hi => by
    refine ⟨v, (tr_201_15 d v 126 _ _ _ _).trans ?_, Fr.refl _ _, hL⟩
    rw [if_pos (by rw [← hi, Nat.add_zero])]
  | m + 1, i, f, v, hW, hL, hi => by
    obtain ⟨v1, e1, f1, l1⟩ := m_swap hN d hW hL (show i < N by omega) (show i + 1 < N by omega)
    obtain ⟨v2, e2, f2, l2⟩ := m_jumpU hN d x1 hj m (i + 1) _ v1 (f1.fix rfl hW) l1 (by omega)
    refine ⟨v2, (tr_201_15 d v 126 _ _ _ _).trans ?_, f1.trans f2, l2⟩
    rw [if_neg (n_ne (by omega) (by omega) (by omega)), n_succ]
    refine (val_call (pc2 := 33) rfl rfl rfl rfl (hW.rc _) (Nat.le_of_ble_eq_true rfl) (Nat.le_of_ble_eq_true rfl) rfl e1 rfl).trans ?_
    refine (tr_201_33 d v1 126 _ _ _ _).trans ?_
    rw [n_succ]
    exact e2
theorem m_jumpD (hN : N ≤ 8) (d : Nat) (x1 : Int32) {j : Nat} (hj : j < N) : ∀ (m i : Nat) (f : Nat → Nat) (v : Wd), Fix v → Lay N v 126 f → i = j + m → i < N → ∃ v', val (201, d + 1, 15, [some (.ref 108), some (.ref 126), some (.int x1), some (.int (nI (j + 1))), some (.int (-1)), some (.int (nI (i + 1)))], [], v) = some (none, v') ∧ Fr WK v v' ∧ Lay N v' 126 (apL f (jmD i m))
  | 0, i, f, v, hW, hL, hi, _ => by
    refine ⟨v, (tr_201_15 d v 126 _ _ _ _).trans ?_, Fr.refl _ _, hL⟩
    rw [if_pos (by rw [hi, Nat.add_zero])]
  | m + 1, i, f, v, hW, hL, hi, hiN => by
    obtain ⟨v1, e1, f1, l1⟩ := m_swap hN d hW hL hiN (show i - 1 < N by omega)
    obtain ⟨v2, e2, f2, l2⟩ := m_jumpD hN d x1 hj m (i - 1) _ v1 (f1.fix rfl hW) l1 (by omega) (by omega)
    refine ⟨v2, (tr_201_15 d v 126 _ _ _ _).trans ?_, f1.trans f2, l2⟩
    rw [if_neg (n_ne (by omega) (by omega) (by omega)), n_dec (by omega), show i + 1 - 1 = i - 1 + 1 by omega]
    refine (val_call (pc2 := 33) rfl rfl rfl rfl (hW.rc _) (Nat.le_of_ble_eq_true rfl) (Nat.le_of_ble_eq_true rfl) rfl e1 rfl).trans ?_
    refine (tr_201_33 d v1 126 _ _ _ _).trans ?_
    rw [n_dec (by omega), show i + 1 - 1 = i - 1 + 1 by omega]
    exact e2
theorem m_jump (hN : N ≤ 8) (d : Nat) {v : Wd} (hW : Fix v) {f : Nat → Nat} (hL : Lay N v 126 f) {i j : Nat} (hi : i < N) (hj : j < N) : ∃ v', val (201, d + 1, 0, [some (.ref 108), some (.ref 126), some (.int (nI (i + 1))), some (.int (nI (j + 1))), none, none], [], v) = some (none, v') ∧ Fr WK v v' ∧ Lay N v' 126 (apL f (jmL i j)) := by
  have e0 := tr_201 d v 126 (nI (i + 1)) (nI (j + 1))
  unfold jmL
  by_cases h : i < j
  · rw [if_neg (n_nle (show i + 1 < j + 1 by omega) (by omega))] at e0
    obtain ⟨v', e1, e2, e3⟩ := m_jumpU hN d (nI (i + 1)) hj (j - i) i f v hW hL (by omega)
    rw [if_pos h]
    exact ⟨v', e0.trans e1, e2, e3⟩
  · rw [if_pos (n_le (show j + 1 ≤ i + 1 by omega) (by omega))] at e0
    obtain ⟨v', e1, e2, e3⟩ := m_jumpD hN d (nI (i + 1)) hj (i - j) i f v hW hL (by omega) hi
    rw [if_neg h]
    exact ⟨v', e0.trans e1, e2, e3⟩
theorem m_turn (hN : N ≤ 8) (d : Nat) (k u kd : Int32) : ∀ (m i j : Nat) (f : Nat → Nat) (v : Wd), Fix v → Lay N v 126 f → j < N → i ≤ 8 → (m = 0 → j ≤ i) → (0 < m → i + 2 * m ≤ j + 1 ∧ j ≤ i + 2 * m) → ∃ v', val (202, d + 2, 116, [some (.ref 108), some (.int k), some (.ref 126), some (.int u), some (.int kd), some (.int (nI (i + 1))), some (.int (nI (j + 1)))], [], v) = some (none, v') ∧ Fr WK v v' ∧ Lay N v' 126 (apL f (tnL i j m))
  | 0, i, j, f, v, hW, hL, hj, hi, h0, _ => by
    refine ⟨v, (tr_202_116 d v _ 126 _ _ _ _).trans ?_, Fr.refl _ _, hL⟩
    rw [if_pos (n_le (show j + 1 ≤ i + 1 by have := h0 rfl; omega) (by omega))]
    exact val_r rfl
  | m + 1, i, j, f, v, hW, hL, hj, hi, _, h1 => by
    obtain ⟨g1, g2⟩ := h1 (by omega)
    obtain ⟨v1, e1, f1, l1⟩ := m_swap hN (d + 1) hW hL (show i < N by omega) hj
    obtain ⟨v2, e2, f2, l2⟩ := m_turn hN d k u kd m (i + 1) (j - 1) _ v1 (f1.fix rfl hW) l1 (by omega) (by omega) (fun h => by omega) (fun h => ⟨by omega, by omega⟩)
    refine ⟨v2, (tr_202_116 d v _ 126 _ _ _ _).trans ?_, f1.trans f2, l2⟩
    rw [if_neg (n_nle (show i + 1 < j + 1 by omega) (by omega))]
    refine (val_call (pc2 := 132) rfl rfl rfl rfl (hW.rc _) (Nat.le_of_ble_eq_true rfl) (Nat.le_of_ble_eq_true rfl) rfl e1 rfl).trans ?_
    refine (tr_202_132 d v1 _ 126 _ _ _ _).trans ?_
    rw [n_dec (by omega), n_succ, show j + 1 - 1 = j - 1 + 1 by omega]
    exact e2
/-- whether p is among the digits of v -/
def hasD : Nat → Nat → Nat → Bool
  | 0, _, _ => false
  | k + 1, v, p => if v = 0 then false else decide (v % 10 = p) || hasD k (v / 10) p
theorem m_stays (d a : Nat) (x2 : Int32) {p : Nat} (hp : p < 100) (w : Wd) : ∀ (k v : Nat) (s : Bool), v < 10 ^ k → v < 2 ^ 31 → ∃ l5 : Int32, val (200, d + 1, 16, [some (.ref 108), some (.ref a), some (.int x2), some (.int (nI p)), some (.int (if s = true then 1 else 0)), some (.int (nI v))], [], w) = (if (s || hasD k v p) = true then val (200, d + 1, 2, [some (.ref 108), some (.ref a), some (.int x2), some (.int (nI (p + 1))), some (.int 1), some (.int l5)], [], w) else val (200, d + 1, 69, [some (.ref 108), some (.ref a), some (.int x2), some (.int (nI p)), some (.int 0), some (.int l5)], [.int (nI (p + 1)), .int (nI p), .ref a, .ref 108], w))
  | k, 0, s, _, _ => by
    have hh : hasD k 0 p = false := by cases k <;> rfl
    refine ⟨nI 0, (tr_200_16 d w a _ _ _ _).trans ?_⟩
    rw [if_pos (by decide), hh, Bool.or_false, n_succ]
    cases s with
    | true => rw [if_pos rfl, if_pos rfl, if_neg (by decide)]
    | false => exact (if_pos rfl).trans (if_neg (by decide)).symm
  | 0, v + 1, s, h, _ => by omega
  | k + 1, v + 1, s, h, h31 => by
    have hd : (v + 1) / 10 < 10 ^ k := Nat.div_lt_of_lt_mul (by rw [Nat.pow_succ, Nat.mul_comm] at h; exact h)
    have hm : (v + 1) % 10 < 10 := Nat.mod_lt _ (by decide)
    obtain ⟨l5, e⟩ := m_stays d a x2 hp w k ((v + 1) / 10) (s || decide ((v + 1) % 10 = p)) hd (by omega)
    refine ⟨l5, (tr_200_16 d w a _ _ _ _).trans ?_⟩
    have e2 : (s || decide ((v + 1) % 10 = p) || hasD k ((v + 1) / 10) p) = (s || hasD (k + 1) (v + 1) p) := by
      show _ = (s || (if v + 1 = 0 then false else decide ((v + 1) % 10 = p) || hasD k ((v + 1) / 10) p))
      rw [if_neg (Nat.succ_ne_zero v), Bool.or_assoc]
    rw [if_neg (n_nle0 (by omega) h31), show (10 : Int32) = nI 10 from rfl, n_rem h31 (by omega), n_div h31 (by omega), ← e2, ← e]
    cases s with
    | true => rw [if_pos (by decide)]; rfl
    | false =>
      rw [if_neg (by decide)]
      by_cases c : (v + 1) % 10 = p
      · rw [if_neg (fun hh => hh (by rw [c])), if_pos (by rw [decide_eq_true c]; rfl)]
      · rw [if_pos (n_ne c (by omega) (by omega)), if_neg (by rw [decide_eq_false c]; decide)]
/-- by twos from place q on (from 0), but for the places where st -/
def twL (N : Nat) (st : Nat → Bool) : Nat → Nat → List (Nat × Nat)
  | 0, _ => []
  | k + 1, q => if q + 1 < N then (if st (q + 1) = true then twL N st k (q + 1) else (q, q + 1) :: twL N st k (q + 2)) else []
theorem twL_ok {N : Nat} {st : Nat → Bool} : ∀ k q, okZ N (twL N st k q)
  | 0, _ => fun t ht => by cases ht
  | k + 1, q => by
    unfold twL
    split
    · split
      · exact twL_ok k (q + 1)
      · intro t ht
        rcases List.mem_cons.mp ht with rfl | ht
        · exact ⟨by show q < N; omega, by show q + 1 < N; omega⟩
        · exact twL_ok k (q + 2) t ht
    · intro t ht; cases ht
theorem m_twosL (hN : N ≤ 8) (d : Nat) {P : Nat} (hP : P < 10 ^ 9) : ∀ (k q : Nat) (f : Nat → Nat) (v : Wd) (l4 l5 : Option Value), Fix v → gI v 108 0 = nI N → Lay N v 126 f → N ≤ q + k → q < 20 → ∃ v', val (200, d + 1, 2, [some (.ref 108), some (.ref 126), some (.int (nI P)), some (.int (nI (q + 1))), l4, l5], [], v) = some (none, v') ∧ Fr WK v v' ∧ Lay N v' 126 (apL f (twL N (hasD 9 P) k q))
  | 0, q, f, v, l4, l5, hW, hn, hL, hq, hq9 => by
    refine ⟨v, (tr_200_2 d v hW 126 _ _ _ _).trans ?_, Fr.refl _ _, hL⟩
    rw [hn, if_pos (n_le (show N ≤ q + 1 by omega) (by omega))]
  | k + 1, q, f, v, l4, l5, hW, hn, hL, hq, hq9 => by
    have e0 := tr_200_2 d v hW 126 (nI P) (nI (q + 1)) l4 l5
    rw [hn] at e0
    unfold twL
    by_cases hqN : q + 1 < N
    · rw [if_neg (n_nle hqN (by omega))] at e0
      obtain ⟨s5, e1⟩ := m_stays d 126 (nI P) (p := q + 1) (by omega) v 9 P false hP (by omega)
      rw [if_neg (by decide), Bool.false_or] at e1
      rw [if_pos hqN]
      by_cases hs : hasD 9 P (q + 1) = true
      · rw [if_pos hs] at e1 ⊢
        obtain ⟨v', e2, f2, l2⟩ := m_twosL hN d hP k (q + 1) f v (some (.int 1)) (some (.int s5)) hW hn hL (by omega) (by omega)
        exact ⟨v', e0.trans (e1.trans e2), f2, l2⟩
      · rw [if_neg hs] at e1 ⊢
        obtain ⟨v1, e3, f3, l3⟩ := m_swap hN d hW hL (show q < N by omega) hqN
        obtain ⟨v', e2, f2, l2⟩ := m_twosL hN d hP k (q + 2) _ v1 (some (.int 0)) (some (.int s5)) (f3.fix rfl hW) ((f3.i 108 0 rfl).trans hn) l3 (by omega) (by omega)
        refine ⟨v', e0.trans (e1.trans ?_), f3.trans f2, l2⟩
        refine (val_call (pc2 := 72) rfl rfl rfl rfl (hW.rc _) (Nat.le_of_ble_eq_true rfl) (Nat.le_of_ble_eq_true rfl) rfl e3 rfl).trans ?_
        refine (tr_200_72 d v1 126 _ _ _ _).trans ?_
        rw [show nI (q + 1) + 2 = nI (q + 2 + 1) from n_add (q + 1) 2]
        exact e2
    · rw [if_pos (n_le (by omega) (by omega))] at e0
      rw [if_neg hqN]
      exact ⟨v, e0, Fr.refl _ _, hL⟩
theorem m_twos (hN : N ≤ 8) (d : Nat) {P : Nat} (hP : P < 10 ^ 9) {v : Wd} (hW : Fix v) (hn : gI v 108 0 = nI N) {f : Nat → Nat} (hL : Lay N v 126 f) : ∃ v', val (200, d + 1, 0, [some (.ref 108), some (.ref 126), some (.int (nI P)), none, none, none], [], v) = some (none, v') ∧ Fr WK v v' ∧ Lay N v' 126 (apL f (twL N (hasD 9 P) N 0)) := by
  obtain ⟨v', e, f', l⟩ := m_twosL hN d hP N 0 f v none none hW hn hL (by omega) (by omega)
  exact ⟨v', (tr_200 d v 126 _).trans e, f', l⟩
end MSWAP
/-- nobody stays: all in twos -/
theorem twL_none {N : Nat} {st : Nat → Bool} (h : ∀ p, st p = false) : ∀ k q, N ≤ q + k → twL N st k q = prL q ((N - q) / 2)
  | 0, q, hq => by
    rw [show (N - q) / 2 = 0 by omega]
    rfl
  | k + 1, q, hq => by
    unfold twL
    by_cases hqN : q + 1 < N
    · rw [if_pos hqN, if_neg (by rw [h]; decide), show (N - q) / 2 = (N - (q + 2)) / 2 + 1 by omega]
      show _ = (q, q + 1) :: prL (q + 2) _
      rw [twL_none h k (q + 2) (by omega)]
    · rw [if_neg hqN, show (N - q) / 2 = 0 by omega]
      rfl
/-- the digits of a number of digits -/
theorem hasD_dg {g : Nat → Nat} {p : Nat} : ∀ (m k : Nat), (∀ i, i < m → 1 ≤ g i ∧ g i < 10) → m ≤ k → hasD k (dg 10 g m) p = sn g m p
  | 0, k, _, _ => by
    cases k with
    | zero => rfl
    | succ k => exact if_pos rfl
  | m + 1, 0, _, h => by omega
  | m + 1, k + 1, h, hk => by
    have hm := h m (by omega)
    have e1 : dg 10 g (m + 1) = 10 * dg 10 g m + g m := rfl
    show (if dg 10 g (m + 1) = 0 then false else decide (dg 10 g (m + 1) % 10 = p) || hasD k (dg 10 g (m + 1) / 10) p) = (sn g m p || decide (p = g m))
    rw [if_neg (by omega), show dg 10 g (m + 1) % 10 = g m by omega, show dg 10 g (m + 1) / 10 = dg 10 g m by omega, hasD_dg m k (fun i hi => h i (by omega)) (by omega), Bool.or_comm, show decide (g m = p) = decide (p = g m) from decide_eq_decide.mpr ⟨Eq.symm, Eq.symm⟩]
