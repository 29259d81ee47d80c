/-! CHANGES as swaps of places; the class's paired, jumped, turned; the reference's swap, twos, jump -/
def sw (f : Nat → Nat) (i j : Nat) : Nat → Nat := fun p => if p = i then f j else if p = j then f i else f p
/-- one swap behind the other -/
def apL (f : Nat → Nat) : List (Nat × Nat) → Nat → Nat
  | [] => f
  | t :: l => apL (sw f t.1 t.2) l
def okZ (N : Nat) (l : List (Nat × Nat)) : Prop := ∀ t, t ∈ l → t.1 < N ∧ t.2 < N
theorem sw_comp (f g : Nat → Nat) (i j : Nat) : sw (fun p => f (g p)) i j = fun p => f (sw g i j p) := by
  funext p
  unfold sw
  split
  · rfl
  · split <;> rfl
theorem apL_comp : ∀ (l : List (Nat × Nat)) (f g : Nat → Nat), apL (fun p => f (g p)) l = fun p => f (apL g l p)
  | [], _, _ => rfl
  | t :: l, f, g => by
    show apL (sw (fun p => f (g p)) t.1 t.2) l = fun p => f (apL (sw g t.1 t.2) l p)
    rw [sw_comp, apL_comp l]
theorem apL_id (l : List (Nat × Nat)) (f : Nat → Nat) : apL f l = fun p => f (apL (fun p => p) l p) := apL_comp l f (fun p => p)
theorem apL_app (l m : List (Nat × Nat)) : ∀ f, apL f (l ++ m) = apL (apL f l) m := by
  induction l with
  | nil => intro f; rfl
  | cons t l ih => intro f; exact ih (sw f t.1 t.2)
theorem sw_sw (f : Nat → Nat) (i j : Nat) : sw (sw f i j) i j = f := by
  funext p
  unfold sw
  by_cases h1 : p = i
  · subst h1
    by_cases h2 : j = p
    · subst h2; rw [if_pos rfl, if_pos rfl]
    · rw [if_pos rfl, if_neg h2, if_pos rfl]
  · rw [if_neg h1]
    by_cases h2 : p = j
    · subst h2; rw [if_pos rfl, if_pos rfl]
    · rw [if_neg h2, if_neg h1, if_neg h2]
theorem sw_sym (f : Nat → Nat) (i j : Nat) : sw f j i = sw f i j := by
  funext p
  unfold sw
  by_cases h1 : p = j
  · by_cases h2 : p = i
    · rw [if_pos h1, if_pos h2, ← h1, ← h2]
    · rw [if_pos h1, if_neg h2, if_pos h1]
  · by_cases h2 : p = i
    · rw [if_neg h1, if_pos h2, if_pos h2]
    · rw [if_neg h1, if_neg h2, if_neg h2, if_neg h1]
theorem apL_rev : ∀ (l : List (Nat × Nat)) (f : Nat → Nat), apL (apL f l) l.reverse = f
  | [], _ => rfl
  | t :: l, f => by
    show apL (apL (sw f t.1 t.2) l) (t :: l).reverse = f
    rw [List.reverse_cons, apL_app, apL_rev l]
    exact sw_sw f t.1 t.2
theorem sw_row {N : Nat} {f : Nat → Nat} (hf : IsRow N f) {i j : Nat} (hi : i < N) (hj : j < N) : IsRow N (sw f i j) := by
  obtain ⟨h1, h2⟩ := hf
  constructor
  · intro p hp
    unfold sw
    split
    · exact h1 j hj
    · split
      · exact h1 i hi
      · exact h1 p hp
  · intro p q hp hq h
    unfold sw at h
    by_cases p1 : p = i
    · rw [if_pos p1] at h
      by_cases q1 : q = i
      · omega
      · rw [if_neg q1] at h
        by_cases q2 : q = j
        · rw [if_pos q2] at h
          have := h2 j i hj hi h
          omega
        · rw [if_neg q2] at h
          have := h2 j q hj hq h
          omega
    · rw [if_neg p1] at h
      by_cases p2 : p = j
      · rw [if_pos p2] at h
        by_cases q1 : q = i
        · rw [if_pos q1] at h
          have := h2 i j hi hj h
          omega
        · rw [if_neg q1] at h
          by_cases q2 : q = j
          · omega
          · rw [if_neg q2] at h
            have := h2 i q hi hq h
            omega
      · rw [if_neg p2] at h
        by_cases q1 : q = i
        · rw [if_pos q1] at h
          have := h2 p j hp hj h
          omega
        · rw [if_neg q1] at h
          by_cases q2 : q = j
          · rw [if_pos q2] at h
            have := h2 p i hp hi h
            omega
          · rw [if_neg q2] at h
            exact h2 p q hp hq h
theorem apL_row {N : Nat} : ∀ (l : List (Nat × Nat)) {f : Nat → Nat}, IsRow N f → okZ N l → IsRow N (apL f l)
  | [], _, hf, _ => hf
  | t :: l, _, hf, h => apL_row l (sw_row hf (h t (List.mem_cons_self ..)).1 (h t (List.mem_cons_self ..)).2) (fun s hs => h s (List.mem_cons_of_mem _ hs))
theorem okZ_app {N : Nat} {l m : List (Nat × Nat)} (h : okZ N l) (g : okZ N m) : okZ N (l ++ m) := fun t ht => (List.mem_append.mp ht).elim (h t) (g t)
/-- inverse rows -/
theorem iv_eq {N : Nat} {f g : Nat → Nat} (hf : IsRow N f) (hg : ∀ p, p < N → g p < N) (h : ∀ p, p < N → f (g p) = p) : ∀ p, p < N → iv f N p = g p := by
  intro p hp
  have h1 := hf.at_iv hp
  have h2 := h p hp
  exact hf.2 _ _ ((hf.iv).1 p hp) (hg p hp) (h1.trans h2.symm)
theorem iv_apL {N : Nat} {l : List (Nat × Nat)} (h : okZ N l) : ∀ p, p < N → iv (apL (fun p => p) l) N p = apL (fun p => p) l.reverse p := by
  have hr : okZ N l.reverse := fun t ht => h t (List.mem_reverse.mp ht)
  refine iv_eq (apL_row l (IsRow.id N) h) (apL_row _ (IsRow.id N) hr).1 (fun p hp => ?_)
  have e := congrFun (apL_rev l (fun p => p)) p
  rw [apL_id l.reverse] at e
  exact e
/-! xor in digits -/
theorem nat_xor4 (v x : Nat) (hx : x < 16) : (v <<< 4) ^^^ x = 16 * v + x := by
  rw [← nat_or4 v x hx]
  apply Nat.eq_of_testBit_eq
  intro i
  rw [Nat.testBit_xor, Nat.testBit_or, Nat.testBit_shiftLeft]
  by_cases h : 4 ≤ i
  · rw [Nat.testBit_lt_two_pow (x := x) (Nat.lt_of_lt_of_le hx (show 2 ^ 4 ≤ 2 ^ i from Nat.pow_le_pow_right (by omega) h))]
    simp
  · simp [h]
theorem dg_xor (g h : Nat → Nat) : ∀ n, (∀ i, i < n → g i < 16) → (∀ i, i < n → h i < 16) → dg 16 (fun p => g p ^^^ h p) n = dg 16 g n ^^^ dg 16 h n
  | 0, _, _ => (Nat.xor_self 0).symm
  | n + 1, hg, hh => by
    have h1 := hg n (by omega)
    have h2 := hh n (by omega)
    have h3 : g n ^^^ h n < 16 := Nat.xor_lt_two_pow (n := 4) h1 h2
    show 16 * dg 16 (fun p => g p ^^^ h p) n + (g n ^^^ h n) = (16 * dg 16 g n + g n) ^^^ (16 * dg 16 h n + h n)
    rw [dg_xor g h n (fun i hi => hg i (by omega)) (fun i hi => hh i (by omega)), ← nat_xor4 _ _ h1, ← nat_xor4 _ _ h2, ← nat_xor4 _ _ h3, Nat.shiftLeft_xor_distrib]
    ac_rfl
theorem c143 {N : Nat} {f : Nat → Nat} (hN : N ≤ 8) (hf : ∀ p, p < N → f p < N) {i j : Nat} (hi : i < N) (hj : j < N) : fn_143 (nI N) (nI (pkN N f)) (nI i) (nI j) = nI (pkN N (sw f i j)) := by
  unfold fn_143
  have hD : f i ^^^ f j < 16 := Nat.xor_lt_two_pow (n := 4) (by have := hf i hi; omega) (by have := hf j hj; omega)
  rw [c130f hN hi hf, c130f hN hj hf, n_xor, c131 hN hi, c131 hN hj, n_xor, n_xor]
  congr 1
  show (dg 16 f N ^^^ _) ^^^ _ = dg 16 (sw f i j) N
  rw [← dg_one 16 i (f i ^^^ f j) N hi, ← dg_one 16 j (f i ^^^ f j) N hj, ← dg_xor, ← dg_xor]
  · refine dg_congr (fun p hp => ?_)
    unfold sw
    by_cases h1 : p = i
    · subst h1
      rw [if_pos rfl, if_pos rfl]
      by_cases h2 : p = j
      · subst h2
        rw [if_pos rfl, Nat.xor_self, Nat.xor_zero, Nat.xor_zero]
      · rw [if_neg h2, Nat.xor_zero, ← Nat.xor_assoc, Nat.xor_self, Nat.zero_xor]
    · rw [if_neg h1, if_neg h1, Nat.xor_zero]
      by_cases h2 : p = j
      · subst h2
        rw [if_pos rfl, if_pos rfl, Nat.xor_comm (f i), ← Nat.xor_assoc, Nat.xor_self, Nat.zero_xor]
      · rw [if_neg h2, if_neg h2, Nat.xor_zero]
  · intro p hp
    refine Nat.xor_lt_two_pow (n := 4) (by have := hf p hp; omega) ?_
    split
    · exact hD
    · decide
  · intro p hp
    split
    · exact hD
    · decide
  · intro p hp
    have := hf p hp
    omega
  · intro p hp
    split
    · exact hD
    · decide
/-- by twos, m pairs from a on -/
def prL (a : Nat) : Nat → List (Nat × Nat)
  | 0 => []
  | m + 1 => (a, a + 1) :: prL (a + 2) m
theorem prL_ok {N : Nat} : ∀ m a, a + 2 * m ≤ N → okZ N (prL a m)
  | 0, _, _ => fun t ht => by cases ht
  | m + 1, a, h => fun t ht => by
    rcases List.mem_cons.mp ht with rfl | ht
    · exact ⟨by show a < N; omega, by show a + 1 < N; omega⟩
    · exact prL_ok m (a + 2) (by omega) t ht
theorem r_144 {N : Nat} (hN : N ≤ 8) (d : Nat) (w : Wd) (a0 r0 : Int32) {b : Nat} (hb : b ≤ N) : ∀ (m a : Nat) (f : Nat → Nat), (∀ p, p < N → f p < N) → IsRow N f → (m = 0 → b ≤ a + 1) → (0 < m → a + 2 * m ≤ b ∧ b ≤ a + 2 * m + 1) → a ≤ 8 → val (144, d + 2, 6, [some (.int (nI N)), some (.int r0), some (.int a0), some (.int (nI b)), some (.int (nI (pkN N f))), some (.int (nI a))], [], w) = some (some (.int (nI (pkN N (apL f (prL a m))))), w)
  | 0, a, f, _, _, h0, _, ha => by
    refine (tr_144_6 d w _ _ _ _ _ _).trans ?_
    rw [n_succ, if_pos (n_le (h0 rfl) (by omega))]
    rfl
  | m + 1, a, f, hf, hr, _, h1, ha => by
    obtain ⟨g1, g2⟩ := h1 (by omega)
    refine (tr_144_6 d w _ _ _ _ _ _).trans ?_
    rw [n_succ, if_neg (n_nle (by omega) (by omega)), c143 hN hf (show a < N by omega) (show a + 1 < N by omega), show nI a + 2 = nI (a + 2) from n_add a 2]
    have hs := sw_row hr (show a < N by omega) (show a + 1 < N by omega)
    exact r_144 hN d w a0 r0 hb m (a + 2) (sw f a (a + 1)) hs.1 hs (fun h => by omega) (fun h => ⟨by omega, by omega⟩) (by omega)
/-- how many pairs between a and b -/
theorem c144 {N : Nat} (hN : N ≤ 8) (d : Nat) (w : Wd) {a b : Nat} (hb : b ≤ N) (ha : a ≤ N) {f : Nat → Nat} (hf : IsRow N f) : val (144, d + 2, 0, [some (.int (nI N)), some (.int (nI (pkN N f))), some (.int (nI a)), some (.int (nI b)), none, none], [], w) = some (some (.int (nI (pkN N (apL f (prL a ((b - a) / 2)))))), w) :=
  (tr_144 d w _ _ _ _).trans (r_144 hN d w _ _ hb _ a f hf.1 hf (fun h => by omega) (fun h => ⟨by omega, by omega⟩) (by omega))
/-- up, down -/
def jmU (i : Nat) : Nat → List (Nat × Nat)
  | 0 => []
  | m + 1 => (i, i + 1) :: jmU (i + 1) m
def jmD (i : Nat) : Nat → List (Nat × Nat)
  | 0 => []
  | m + 1 => (i, i - 1) :: jmD (i - 1) m
def jmL (i j : Nat) : List (Nat × Nat) := if i < j then jmU i (j - i) else jmD i (i - j)
theorem jmU_ok {N : Nat} : ∀ m i, i + m < N → okZ N (jmU i m)
  | 0, _, _ => fun t ht => by cases ht
  | m + 1, i, h => fun t ht => by
    rcases List.mem_cons.mp ht with rfl | ht
    · exact ⟨by show i < N; omega, by show i + 1 < N; omega⟩
    · exact jmU_ok m (i + 1) (by omega) t ht
theorem jmD_ok {N : Nat} : ∀ m i, i < N → m ≤ i → okZ N (jmD i m)
  | 0, _, _, _ => fun t ht => by cases ht
  | m + 1, i, h, h2 => fun t ht => by
    rcases List.mem_cons.mp ht with rfl | ht
    · exact ⟨h, by show i - 1 < N; omega⟩
    · exact jmD_ok m (i - 1) (by omega) (by omega) t ht
theorem jmL_ok {N i j : Nat} (hi : i < N) (hj : j < N) : okZ N (jmL i j) := by
  unfold jmL
  split
  · exact jmU_ok _ _ (by omega)
  · exact jmD_ok _ _ hi (by omega)
theorem jmU_snoc : ∀ m i, jmU i (m + 1) = jmU i m ++ [(i + m, i + m + 1)]
  | 0, _ => rfl
  | m + 1, i => by
    show (i, i + 1) :: jmU (i + 1) (m + 1) = (i, i + 1) :: (jmU (i + 1) m ++ [(i + (m + 1), i + (m + 1) + 1)])
    rw [jmU_snoc m (i + 1), show i + 1 + m = i + (m + 1) by omega]
theorem apL_one (f : Nat → Nat) (i j : Nat) : apL f [(i, j)] = sw f i j := rfl
/-- a jump down undoes a jump up -/
theorem jm_back : ∀ m i f, apL f (jmD (i + m) m) = apL f (jmU i m).reverse
  | 0, _, _ => rfl
  | m + 1, i, f => by
    rw [jmU_snoc, List.reverse_append]
    show apL (sw f (i + (m + 1)) (i + (m + 1) - 1)) (jmD (i + (m + 1) - 1) m) = apL (sw f (i + m) (i + m + 1)) (jmU i m).reverse
    rw [show i + (m + 1) - 1 = i + m by omega, show i + (m + 1) = i + m + 1 by omega, sw_sym, jm_back m i]
theorem jm_fwd (m i : Nat) (f : Nat → Nat) : apL f (jmU i m) = apL f (jmD (i + m) m).reverse := by
  have h := jm_back m i
  have e1 := apL_rev (jmD (i + m) m) (apL f (jmD (i + m) m).reverse.reverse.reverse)
  have key : apL (apL f (jmU i m)) (jmD (i + m) m) = f := by rw [h, apL_rev]
  have k2 := apL_rev (jmD (i + m) m).reverse f
  rw [List.reverse_reverse] at k2
  have k3 := congrArg (fun g => apL g (jmD (i + m) m).reverse) key
  rw [apL_rev] at k3
  exact k3
theorem jmL_back {i j : Nat} (f : Nat → Nat) : apL f (jmL j i) = apL f (jmL i j).reverse := by
  unfold jmL
  by_cases h1 : i < j
  · rw [if_neg (by omega), if_pos h1]
    have := jm_back (j - i) i f
    rw [show i + (j - i) = j by omega] at this
    exact this
  · by_cases h2 : j < i
    · rw [if_pos h2, if_neg h1]
      have := jm_fwd (i - j) j f
      rw [show j + (i - j) = i by omega] at this
      exact this
    · have : i = j := by omega
      subst this
      rw [if_neg h1, Nat.sub_self]
      rfl
theorem r_145u {N : Nat} (hN : N ≤ 8) (d : Nat) (w : Wd) (l1 l2 l3 : Int32) : ∀ (m i : Nat) (f : Nat → Nat), IsRow N f → i + m < N → val (145, d + 2, 26, [some (.int (nI N)), some (.int l1), some (.int l2), some (.int l3), some (.int (nI (pkN N f))), some (.int 1), some (.int (nI i)), some (.int (nI m))], [], w) = some (some (.int (nI (pkN N (apL f (jmU i m))))), w)
  | 0, i, f, _, _ => by
    refine (tr_145_26 d w _ _ _ _ _ _ _ _).trans ?_
    rw [if_pos (by decide)]
    rfl
  | m + 1, i, f, hf, hi => by
    refine (tr_145_26 d w _ _ _ _ _ _ _ _).trans ?_
    rw [if_neg (n_nle0 (by omega) (by omega)), n_succ, c143 hN hf.1 (show i < N by omega) (show i + 1 < N by omega), n_dec (by omega)]
    exact r_145u hN d w l1 l2 l3 m (i + 1) _ (sw_row hf (by omega) (by omega)) (by omega)
theorem r_145d {N : Nat} (hN : N ≤ 8) (d : Nat) (w : Wd) (l1 l2 l3 : Int32) : ∀ (m i : Nat) (f : Nat → Nat), IsRow N f → i < N → m ≤ i → val (145, d + 2, 26, [some (.int (nI N)), some (.int l1), some (.int l2), some (.int l3), some (.int (nI (pkN N f))), some (.int (-1)), some (.int (nI i)), some (.int (nI m))], [], w) = some (some (.int (nI (pkN N (apL f (jmD i m))))), w)
  | 0, i, f, _, _, _ => by
    refine (tr_145_26 d w _ _ _ _ _ _ _ _).trans ?_
    rw [if_pos (by decide)]
    rfl
  | m + 1, i, f, hf, hi, hm => by
    refine (tr_145_26 d w _ _ _ _ _ _ _ _).trans ?_
    rw [if_neg (n_nle0 (by omega) (by omega)), n_dec (by omega), c143 hN hf.1 hi (show i - 1 < N by omega), n_dec (by omega)]
    exact r_145d hN d w l1 l2 l3 m (i - 1) _ (sw_row hf hi (by omega)) (by omega) (by omega)
theorem c145 {N : Nat} (hN : N ≤ 8) (d : Nat) (w : Wd) {i j : Nat} (hi : i < N) (hj : j < N) {f : Nat → Nat} (hf : IsRow N f) : val (145, d + 2, 0, [some (.int (nI N)), some (.int (nI (pkN N f))), some (.int (nI i)), some (.int (nI j)), none, none, none, none], [], w) = some (some (.int (nI (pkN N (apL f (jmL i j))))), w) := by
  refine (tr_145 d w _ _ _ _).trans ?_
  have e0 : (0 : Int32).toInt = 0 := by decide
  unfold jmL
  by_cases h : i < j
  · rw [if_neg (n_nle h (by omega)), if_pos h, n_sub (Nat.le_of_lt h), if_pos (show (0 : Int32) ≤ nI (j - i) from n_le (a := 0) (Nat.zero_le _) (by omega))]
    exact r_145u hN d w _ _ _ _ i f hf (by omega)
  · rw [if_pos (n_le (by omega) (by omega)), if_neg h]
    by_cases e : i = j
    · subst e
      rw [n_sub (Nat.le_refl i), Nat.sub_self, if_pos (by decide)]
      exact r_145d hN d w _ _ _ 0 i f hf hi (by omega)
    · have en : ¬ 0 ≤ nI j - nI i := by
        intro hh
        have := Int32.le_iff_toInt_le.mp hh
        rw [n_subI (by omega) (by omega), e0] at this
        omega
      rw [if_neg en]
      have e2 : 0 - (nI j - nI i) = nI (i - j) := by
        rw [← n_sub (show j ≤ i by omega)]
        rw [Int32.sub_eq_add_neg 0, Int32.neg_sub, Int32.zero_add]
      rw [e2]
      exact r_145d hN d w _ _ _ _ i f hf hi (by omega)
def tnL (i j : Nat) : Nat → List (Nat × Nat)
  | 0 => []
  | m + 1 => (i, j) :: tnL (i + 1) (j - 1) m
theorem tnL_ok {N : Nat} : ∀ m i j, i < N → j < N → i + m ≤ N → okZ N (tnL i j m)
  | 0, _, _, _, _, _ => fun t ht => by cases ht
  | m + 1, i, j, hi, hj, h => fun t ht => by
    rcases List.mem_cons.mp ht with rfl | ht
    · exact ⟨hi, hj⟩
    · by_cases e : m = 0
      · subst e; cases ht
      · exact tnL_ok m (i + 1) (j - 1) (by omega) (by omega) (by omega) t ht
theorem r_146 {N : Nat} (hN : N ≤ 8) (d : Nat) (w : Wd) (l1 l2 l3 : Int32) : ∀ (m i j : Nat) (f : Nat → Nat), IsRow N f → j < N → i ≤ 8 → (m = 0 → j ≤ i) → (0 < m → i + 2 * m ≤ j + 1 ∧ j ≤ i + 2 * m) → val (146, d + 2, 9, [some (.int (nI N)), some (.int l1), some (.int l2), some (.int l3), some (.int (nI (pkN N f))), some (.int (nI i)), some (.int (nI j))], [], w) = some (some (.int (nI (pkN N (apL f (tnL i j m))))), w)
  | 0, i, j, f, _, hj, hi, h0, _ => by
    refine (tr_146_9 d w _ _ _ _ _ _ _).trans ?_
    rw [if_pos (n_le (h0 rfl) (by omega))]
    rfl
  | m + 1, i, j, f, hf, hj, hi, _, h1 => by
    obtain ⟨g1, g2⟩ := h1 (by omega)
    refine (tr_146_9 d w _ _ _ _ _ _ _).trans ?_
    rw [if_neg (n_nle (by omega) (by omega)), c143 hN hf.1 (show i < N by omega) hj, n_succ, n_dec (by omega)]
    exact r_146 hN d w l1 l2 l3 m (i + 1) (j - 1) _ (sw_row hf (by omega) hj) (by omega) (by omega) (fun h => by omega) (fun h => ⟨by omega, by omega⟩)
theorem c146 {N : Nat} (hN : N ≤ 8) (d : Nat) (w : Wd) {i j : Nat} (hi : i < N) (hj : j < N) {f : Nat → Nat} (hf : IsRow N f) : val (146, d + 2, 0, [some (.int (nI N)), some (.int (nI (pkN N f))), some (.int (nI i)), some (.int (nI j)), none, none, none], [], w) = some (some (.int (nI (pkN N (apL f (tnL i j ((j + 1 - i) / 2)))))), w) :=
  (tr_146 d w _ _ _ _).trans (r_146 hN d w _ _ _ _ i j f hf hj (by omega) (fun h => by omega) (fun h => ⟨by omega, by omega⟩))
