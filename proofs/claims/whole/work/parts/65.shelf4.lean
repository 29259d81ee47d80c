/-! THE SHELF: copy -/
theorem n_subI {a b : Nat} (ha : a < 2 ^ 31) (hb : b < 2 ^ 31) : (nI a - nI b).toInt = (a : Int) - b := by
  rw [Int32.toInt_sub, nI_toInt ha, nI_toInt hb]
  exact Int.bmod_eq_of_le (by omega) (by omega)
theorem n_sublt {a b c : Nat} (ha : a < 2 ^ 31) (hb : b < 2 ^ 31) (hc : c < 2 ^ 31) : nI a - nI b < nI c ↔ a < b + c := by
  rw [Int32.lt_iff_toInt_lt, n_subI ha hb, nI_toInt hc]
  omega
theorem n_lesub {a b c : Nat} (ha : a < 2 ^ 31) (hb : b < 2 ^ 31) (hc : c < 2 ^ 31) : nI c ≤ nI a - nI b ↔ b + c ≤ a := by
  rw [Int32.le_iff_toInt_le, n_subI ha hb, nI_toInt hc]
  omega
/-- the first below m where P holds, or m -/
theorem first_at (P : Nat → Bool) : ∀ m, ∃ K, K ≤ m ∧ (∀ k, k < K → P k = false) ∧ (K < m → P K = true)
  | 0 => ⟨0, Nat.le_refl 0, fun k h => absurd h (Nat.not_lt_zero k), fun h => absurd h (Nat.lt_irrefl 0)⟩
  | m + 1 => by
    obtain ⟨K, h1, h2, h3⟩ := first_at P m
    by_cases e : K = m
    · cases hp : P m with
      | true => exact ⟨m, by omega, fun k hk => h2 k (by omega), fun _ => hp⟩
      | false => exact ⟨m + 1, Nat.le_refl _, fun k hk => by
          by_cases e2 : k = m
          · rw [e2]; exact hp
          · exact h2 k (by omega), fun h => absurd h (Nat.lt_irrefl _)⟩
    · exact ⟨K, by omega, h2, fun _ => h3 (by omega)⟩
abbrev FSC : List (Nat × Option Nat) := [(97, none), (98, none), (100, none), (101, none), (102, none), (103, none), (104, none), (105, none), (106, none), (107, none), (145, none), (146, none), (147, none), (148, none), (149, none), (150, none)]
theorem c162 {w : Wd} (hW : Fix w) {B : Nat} (hB : B < 8) (d : Nat) : val (162, d, 0, [some (.ref 96), some (.int (nI B))], [], w) = some (some (.int (if gI w 97 B = -1 then 1 else 0)), w) := by
  refine (tr_162 d w hW _ (inB_nI hB (by omega))).trans ?_
  rw [nI_clamp (by omega)]
  by_cases h : gI w 97 B = -1
  · rw [if_neg (fun hh => hh h), if_pos h]
  · rw [if_pos h, if_neg h]
theorem c166 {w : Wd} (hW : Fix w) {B : Nat} (hB : B < 8) (d : Nat) (x : Int64) : val (166, d, 0, [some (.ref 96), some (.int (nI B)), some (.long x), none], [], w) = some (some (.int (if gI w 97 B = 4 ∧ ¬ x = 0 ∧ x &&& 1 = 0 then 0 else 1)), w) := by
  refine (tr_166 d w hW _ _ (inB_nI hB (by omega))).trans ?_
  rw [nI_clamp (by omega)]
  by_cases h : gI w 97 B = 4
  · rw [if_neg (fun hh => hh h)]
    by_cases h2 : x = 0
    · rw [if_pos (cmpL_0.mpr h2), if_neg (fun hh => hh.2.1 h2)]
    · rw [if_neg (fun hh => h2 (cmpL_0.mp hh))]
      by_cases h3 : x &&& 1 = 0
      · rw [if_pos (cmpL_0.mpr h3), if_pos ⟨h, h2, h3⟩]
      · rw [if_neg (fun hh => h3 (cmpL_0.mp hh)), if_neg (fun hh => h3 hh.2.2)]
  · rw [if_pos h, if_neg (fun hh => h hh.1)]
theorem off_brd {B a k : Nat} (ha : 100 + B ≠ a) : inS [(100 + B, none)] a k = false := by
  cases e : inS [(100 + B, none)] a k with
  | false => rfl
  | true =>
    have e2 : (Nat.beq (100 + B) a && true || false) = true := e
    rw [Bool.or_false, Bool.and_true, Nat.beq_eq] at e2
    exact absurd e2 ha
/-- the class's copy of lines, one by one, up to K -/
theorem c169 {w : Wd} (hW : Fix w) {A B i j m K : Nat} (hA : A < 8) (hB : B < 8) (hAB : A ≠ B) (hi : i + m ≤ 64) (hj : j + m ≤ 64) (hK : K ≤ m)
    (h1 : ∀ k, k < K → ¬ (gI w 97 B = 4 ∧ ¬ gL w (100 + A) (i + k) = 0 ∧ gL w (100 + A) (i + k) &&& 1 = 0)) (h2 : K < m → (gI w 97 B = 4 ∧ ¬ gL w (100 + A) (i + K) = 0 ∧ gL w (100 + A) (i + K) &&& 1 = 0)) (d : Nat) :
    ∃ w', val (169, d + 1, 0, [some (.ref 96), some (.int (nI A)), some (.int (nI i)), some (.int (nI B)), some (.int (nI j)), some (.int (nI m)), none, none, none], [], w) = some (some (.int (if K < m then -8 else 0)), w') ∧ Fr [(100 + B, none)] w w' ∧ ∀ q, gL w' (100 + B) q = if j ≤ q ∧ q < j + K then gL w (100 + A) (i + (q - j)) else gL w (100 + B) q := by
  obtain ⟨a1, a2⟩ := hW.it hA
  obtain ⟨b1, b2⟩ := hW.it hB
  have fixB : ∀ {v}, Fr [(100 + B, none)] w v → Fix v := fun h => (h.brd hB).fix rfl hW
  have hl := loopUp (c := fun k (q : Wd × Option Value) => (169, d + 1, 3, [some (.ref 96), some (.int (nI A)), some (.int (nI i)), some (.int (nI B)), some (.int (nI j)), some (.int (nI m)), some (.int (nI k)), q.2, none], [], q.1)) (P := fun k q => Fr [(100 + B, none)] w q.1 ∧ ∀ p, gL q.1 (100 + B) p = if j ≤ p ∧ p < j + k then gL w (100 + A) (i + (p - j)) else gL w (100 + B) p) (R := fun r => ∃ w', r = some (some (.int (if K < m then -8 else 0)), w') ∧ Fr [(100 + B, none)] w w' ∧ ∀ q, gL w' (100 + B) q = if j ≤ q ∧ q < j + K then gL w (100 + A) (i + (q - j)) else gL w (100 + B) q) (N := K) ?_ ?_ (w, none) ⟨Fr.refl _ _, fun p => by rw [if_neg (by omega)]⟩
  · obtain ⟨w', e, f, g⟩ := hl
    exact ⟨w', (tr_169 d w _ _ _ _ _).trans e, f, g⟩
  · rintro ⟨v, t⟩ ⟨p1, p2⟩
    have hWv := fixB p1
    refine ⟨v, (tr_169_3 d v hWv _ _ _ _ _ _ t).trans ?_, p1, p2⟩
    by_cases hk : K < m
    · obtain ⟨c1, c2, c3⟩ := h2 hk
      have ex : gL v (100 + A) (i + K) = gL w (100 + A) (i + K) := p1.l _ _ (off_brd (by omega))
      rw [if_neg (n_nle hk (by omega)), if_pos hk]
      refine (val_aal rfl (hWv.k 99 (by omega) (by omega)) rfl (inB_nI hA (by omega)) (by rw [nI_clamp (by omega)]; exact (hWv.it hA).1)).trans ?_
      refine (tr_169_16 d v _ _ _ _ _ _ _ t 64 (hWv.it hA).2 (by rw [n_add]; exact inB_nI (by omega) (by omega))).trans ?_
      rw [n_add, nI_clamp (by omega), ex]
      refine (val_call (pc2 := 30) rfl rfl rfl rfl (rcvO (hWv.k 96 (by omega) (by omega)) (by decide)) (Nat.le_of_ble_eq_true rfl) (Nat.le_of_ble_eq_true rfl) rfl (c166 hWv hB d _) rfl).trans ?_
      refine (tr_169_30 d v hWv _ _ _ _ _ _ _ _).trans ?_
      rw [p1.i 97 B (off_brd (by omega)), if_neg (fun h => h (if_pos ⟨c1, c2, c3⟩))]
    · rw [if_pos (n_le (by omega) (by omega)), if_neg hk]
  · rintro k ⟨v, t⟩ hk ⟨p1, p2⟩
    have hWv := fixB p1
    have ex : gL v (100 + A) (i + k) = gL w (100 + A) (i + k) := p1.l _ _ (off_brd (by omega))
    refine Or.inr ⟨(sL v (100 + B) (j + k) (gL w (100 + A) (i + k)), some (.long (gL w (100 + A) (i + k)))), (tr_169_3 d v hWv _ _ _ _ _ _ t).trans ?_, p1.sL _ _ _ (inS_self _ _), fun p => ?_⟩
    · rw [if_neg (n_nle (by omega) (by omega))]
      refine (val_aal rfl (hWv.k 99 (by omega) (by omega)) rfl (inB_nI hA (by omega)) (by rw [nI_clamp (by omega)]; exact (hWv.it hA).1)).trans ?_
      refine (tr_169_16 d v _ _ _ _ _ _ _ t 64 (hWv.it hA).2 (by rw [n_add]; exact inB_nI (by omega) (by omega))).trans ?_
      rw [n_add, nI_clamp (by omega), ex]
      refine (val_call (pc2 := 30) rfl rfl rfl rfl (rcvO (hWv.k 96 (by omega) (by omega)) (by decide)) (Nat.le_of_ble_eq_true rfl) (Nat.le_of_ble_eq_true rfl) rfl (c166 hWv hB d _) rfl).trans ?_
      refine (tr_169_30 d v hWv _ _ _ _ _ _ _ _).trans ?_
      rw [p1.i 97 B (off_brd (by omega)), if_pos (by rw [if_neg (h1 k hk)]; decide)]
      refine (val_aal rfl (hWv.k 99 (by omega) (by omega)) rfl (inB_nI hB (by omega)) (by rw [nI_clamp (by omega)]; exact (hWv.it hB).1)).trans ?_
      refine (tr_169_42 d v _ _ _ _ _ _ _ _ 64 (hWv.it hB).2 (by rw [n_add]; exact inB_nI (by omega) (by omega))).trans ?_
      rw [n_add, nI_clamp (by omega), n_succ]
    · show gL (sL v (100 + B) (j + k) _) (100 + B) p = _
      by_cases e : p = j + k
      · subst e
        rw [gL_same, if_pos (by omega), show j + k - j = k by omega]
      · rw [gL_nk _ _ _ e, p2 p]
        by_cases h : j ≤ p ∧ p < j + k
        · rw [if_pos h, if_pos (by omega)]
        · rw [if_neg h, if_neg (by omega)]
