/-! THE REFERENCE'S nodes: which one -/
def isNd (t : Nat → Int32) (k : Tk) : Bool := isWd t k 9 || (isWd t k 10 || (isWd t k 11 || (isWd t k 12 || (isWd t k 13 || (isWd t k 14 || (isWd t k 15 || isSg t k 40))))))
/-- its kind -/
def kNd (t : Nat → Int32) (k : Tk) : Nat := if isWd t k 9 = true then 0 else if isWd t k 10 = true then 1 else if isWd t k 11 = true then 2 else if isWd t k 12 = true then 3 else if isWd t k 13 = true then 4 else if isWd t k 14 = true then 5 else if isWd t k 15 = true then 6 else 7
section MND
variable {T N : Nat} {t : Nat → Int32} {k : Tk} {w : Wd}
theorem m_isNodeW (d : Nat) (h : Sw w T N t k) (x : Int32) : val (195, d + 5, 0, [some (.ref 108), some (.int x), none, none, none, none], [], w) = (if isNd t k = true then (if x = 6 then val (195, d + 5, 99, [some (.ref 108), some (.int x), some (.int 1), none, none, none], [.ref 108], w) else (if ¬ gI w 108 20 = 40 then val (195, d + 5, 102, [some (.ref 108), some (.int x), some (.int 1), none, none, none], [], w) else val (195, d + 5, 99, [some (.ref 108), some (.int x), some (.int 1), none, none, none], [.ref 108], w))) else val (195, d + 5, 99, [some (.ref 108), some (.int x), some (.int 0), none, none, none], [.ref 108], w)) := by
  have e0 := tr_195 d w x
  unfold isNd
  have e0 := e0.trans (show val (195, d + 5, 3, [some (.ref 108), some (.int x), none, none, none, none], [.ref 11, .ref 108], w) = val (195, d + 5, 6, [some (.ref 108), some (.int x), none, none, none, none], [.int (b01 (isWd t k 9))], w) from by
      refine (val_call (pc2 := 6) rfl rfl rfl rfl (h.1.rc _) (Nat.le_of_ble_eq_true rfl) (Nat.le_of_ble_eq_true rfl) rfl (m_isWordW d h (j := 9) (by decide)) rfl).trans ?_
      rfl)
  have e0 := e0.trans (tr_195_6 d w h.1 _ _)
  cases h9 : isWd t k 9 with
  | true =>
    rw [h9, if_pos (show ¬ b01 true = 0 by decide)] at e0
    rw [Bool.true_or, if_pos rfl]
    exact e0
  | false =>
  rw [h9, if_neg (show ¬ ¬ b01 false = 0 from fun g => g rfl)] at e0
  rw [Bool.false_or]
  have e0 := e0.trans (show val (195, d + 5, 12, [some (.ref 108), some (.int x), none, none, none, none], [.ref 12, .ref 108], w) = val (195, d + 5, 15, [some (.ref 108), some (.int x), none, none, none, none], [.int (b01 (isWd t k 10))], w) from by
      refine (val_call (pc2 := 15) rfl rfl rfl rfl (h.1.rc _) (Nat.le_of_ble_eq_true rfl) (Nat.le_of_ble_eq_true rfl) rfl (m_isWordW d h (j := 10) (by decide)) rfl).trans ?_
      rfl)
  have e0 := e0.trans (tr_195_15 d w h.1 _ _)
  cases h10 : isWd t k 10 with
  | true =>
    rw [h10, if_pos (show ¬ b01 true = 0 by decide)] at e0
    rw [Bool.true_or, if_pos rfl]
    exact e0
  | false =>
  rw [h10, if_neg (show ¬ ¬ b01 false = 0 from fun g => g rfl)] at e0
  rw [Bool.false_or]
  have e0 := e0.trans (show val (195, d + 5, 21, [some (.ref 108), some (.int x), none, none, none, none], [.ref 13, .ref 108], w) = val (195, d + 5, 24, [some (.ref 108), some (.int x), none, none, none, none], [.int (b01 (isWd t k 11))], w) from by
      refine (val_call (pc2 := 24) rfl rfl rfl rfl (h.1.rc _) (Nat.le_of_ble_eq_true rfl) (Nat.le_of_ble_eq_true rfl) rfl (m_isWordW d h (j := 11) (by decide)) rfl).trans ?_
      rfl)
  have e0 := e0.trans (tr_195_24 d w h.1 _ _)
  cases h11 : isWd t k 11 with
  | true =>
    rw [h11, if_pos (show ¬ b01 true = 0 by decide)] at e0
    rw [Bool.true_or, if_pos rfl]
    exact e0
  | false =>
  rw [h11, if_neg (show ¬ ¬ b01 false = 0 from fun g => g rfl)] at e0
  rw [Bool.false_or]
  have e0 := e0.trans (show val (195, d + 5, 30, [some (.ref 108), some (.int x), none, none, none, none], [.ref 14, .ref 108], w) = val (195, d + 5, 33, [some (.ref 108), some (.int x), none, none, none, none], [.int (b01 (isWd t k 12))], w) from by
      refine (val_call (pc2 := 33) rfl rfl rfl rfl (h.1.rc _) (Nat.le_of_ble_eq_true rfl) (Nat.le_of_ble_eq_true rfl) rfl (m_isWordW d h (j := 12) (by decide)) rfl).trans ?_
      rfl)
  have e0 := e0.trans (tr_195_33 d w h.1 _ _)
  cases h12 : isWd t k 12 with
  | true =>
    rw [h12, if_pos (show ¬ b01 true = 0 by decide)] at e0
    rw [Bool.true_or, if_pos rfl]
    exact e0
  | false =>
  rw [h12, if_neg (show ¬ ¬ b01 false = 0 from fun g => g rfl)] at e0
  rw [Bool.false_or]
  have e0 := e0.trans (show val (195, d + 5, 39, [some (.ref 108), some (.int x), none, none, none, none], [.ref 15, .ref 108], w) = val (195, d + 5, 42, [some (.ref 108), some (.int x), none, none, none, none], [.int (b01 (isWd t k 13))], w) from by
      refine (val_call (pc2 := 42) rfl rfl rfl rfl (h.1.rc _) (Nat.le_of_ble_eq_true rfl) (Nat.le_of_ble_eq_true rfl) rfl (m_isWordW d h (j := 13) (by decide)) rfl).trans ?_
      rfl)
  have e0 := e0.trans (tr_195_42 d w h.1 _ _)
  cases h13 : isWd t k 13 with
  | true =>
    rw [h13, if_pos (show ¬ b01 true = 0 by decide)] at e0
    rw [Bool.true_or, if_pos rfl]
    exact e0
  | false =>
  rw [h13, if_neg (show ¬ ¬ b01 false = 0 from fun g => g rfl)] at e0
  rw [Bool.false_or]
  have e0 := e0.trans (show val (195, d + 5, 48, [some (.ref 108), some (.int x), none, none, none, none], [.ref 16, .ref 108], w) = val (195, d + 5, 51, [some (.ref 108), some (.int x), none, none, none, none], [.int (b01 (isWd t k 14))], w) from by
      refine (val_call (pc2 := 51) rfl rfl rfl rfl (h.1.rc _) (Nat.le_of_ble_eq_true rfl) (Nat.le_of_ble_eq_true rfl) rfl (m_isWordW d h (j := 14) (by decide)) rfl).trans ?_
      rfl)
  have e0 := e0.trans (tr_195_51 d w h.1 _ _)
  cases h14 : isWd t k 14 with
  | true =>
    rw [h14, if_pos (show ¬ b01 true = 0 by decide)] at e0
    rw [Bool.true_or, if_pos rfl]
    exact e0
  | false =>
  rw [h14, if_neg (show ¬ ¬ b01 false = 0 from fun g => g rfl)] at e0
  rw [Bool.false_or]
  have e0 := e0.trans (show val (195, d + 5, 58, [some (.ref 108), some (.int x), none, none, none, none], [.ref 17, .ref 108], w) = val (195, d + 5, 61, [some (.ref 108), some (.int x), none, none, none, none], [.int (b01 (isWd t k 15))], w) from by
      refine (val_call (pc2 := 61) rfl rfl rfl rfl (h.1.rc _) (Nat.le_of_ble_eq_true rfl) (Nat.le_of_ble_eq_true rfl) rfl (m_isWordW d h (j := 15) (by decide)) rfl).trans ?_
      rfl)
  have e0 := e0.trans (tr_195_61 d w h.1 _ _)
  cases h15 : isWd t k 15 with
  | true =>
    rw [h15, if_pos (show ¬ b01 true = 0 by decide)] at e0
    rw [Bool.true_or, if_pos rfl]
    exact e0
  | false =>
  rw [h15, if_neg (show ¬ ¬ b01 false = 0 from fun g => g rfl)] at e0
  rw [Bool.false_or]
  have e0 := e0.trans (show val (195, d + 5, 67, [some (.ref 108), some (.int x), none, none, none, none], [.int 40, .ref 108], w) = val (195, d + 5, 70, [some (.ref 108), some (.int x), none, none, none, none], [.int (b01 (isSg t k 40))], w) from by
      refine (val_call (pc2 := 70) rfl rfl rfl rfl (h.1.rc _) (Nat.le_of_ble_eq_true rfl) (Nat.le_of_ble_eq_true rfl) rfl (m_isSignW (d + 4) h 40) rfl).trans ?_
      rfl)
  have e0 := e0.trans (tr_195_70 d w h.1 _ _)
  cases hs : isSg t k 40 with
  | true =>
    rw [hs, if_neg (show ¬ b01 true = 0 by decide)] at e0
    rw [if_pos rfl]
    exact e0
  | false =>
    rw [hs, if_pos (show b01 false = 0 from rfl)] at e0
    rw [if_neg (by decide)]
    exact e0
theorem m_isNode (d : Nat) (h : Sm w T N t k) (x : Int32) : val (195, d + 5, 0, [some (.ref 108), some (.int x), none, none, none, none], [], w) = (if isNd t k = true then (if x = 6 then val (195, d + 5, 99, [some (.ref 108), some (.int x), some (.int 1), none, none, none], [.ref 108], w) else (if ¬ gI w 108 20 = 40 then val (195, d + 5, 102, [some (.ref 108), some (.int x), some (.int 1), none, none, none], [], w) else val (195, d + 5, 99, [some (.ref 108), some (.int x), some (.int 1), none, none, none], [.ref 108], w))) else val (195, d + 5, 99, [some (.ref 108), some (.int x), some (.int 0), none, none, none], [.ref 108], w)) := m_isNodeW d h.w x
/-- the kind is written -/
theorem m_kind (d : Nat) (h : Sm w T N t k) (x l2 : Int32) {i : Nat} (hi : i < 369) : val (195, d + 5, 158, [some (.ref 108), some (.int x), some (.int l2), some (.int (nI i)), none, none], [.ref 11, .ref 108, .int (nI i), .ref 121], w) = val (195, d + 5, 252, [some (.ref 108), some (.int x), some (.int l2), some (.int (nI i)), none, none], [.ref 108], sI w 121 i (nI (kNd t k))) := by
  have ic : (nI i).toNatClampNeg = i := nI_clamp (by omega)
  unfold kNd
  have e0 : val (195, d + 5, 158, [some (.ref 108), some (.int x), some (.int l2), some (.int (nI i)), none, none], [.ref 11, .ref 108, .int (nI i), .ref 121], w) = val (195, d + 5, 158, [some (.ref 108), some (.int x), some (.int l2), some (.int (nI i)), none, none], [.ref 11, .ref 108, .int (nI i), .ref 121], w) := rfl
  have e0 := e0.trans (show val (195, d + 5, 158, [some (.ref 108), some (.int x), some (.int l2), some (.int (nI i)), none, none], [.ref 11, .ref 108, .int (nI i), .ref 121], w) = val (195, d + 5, 161, [some (.ref 108), some (.int x), some (.int l2), some (.int (nI i)), none, none], [.int (b01 (isWd t k 9)), .int (nI i), .ref 121], w) from by
      refine (val_call (pc2 := 161) rfl rfl rfl rfl (h.1.rc _) (Nat.le_of_ble_eq_true rfl) (Nat.le_of_ble_eq_true rfl) rfl (m_isWord d h (j := 9) (by decide)) rfl).trans ?_
      rfl)
  have e0 := e0.trans (tr_195_161 d w h.1 _ _ _ _ _ (by intros; exact ik hi))
  cases h9 : isWd t k 9 with
  | true =>
    rw [h9, if_neg (show ¬ b01 true = 0 by decide), ic] at e0
    rw [if_pos rfl]
    exact e0
  | false =>
  rw [h9, if_pos (show b01 false = 0 from rfl)] at e0
  rw [if_neg (show ¬ false = true by decide)]
  have e0 := e0.trans (show val (195, d + 5, 171, [some (.ref 108), some (.int x), some (.int l2), some (.int (nI i)), none, none], [.ref 12, .ref 108, .int (nI i), .ref 121], w) = val (195, d + 5, 174, [some (.ref 108), some (.int x), some (.int l2), some (.int (nI i)), none, none], [.int (b01 (isWd t k 10)), .int (nI i), .ref 121], w) from by
      refine (val_call (pc2 := 174) rfl rfl rfl rfl (h.1.rc _) (Nat.le_of_ble_eq_true rfl) (Nat.le_of_ble_eq_true rfl) rfl (m_isWord d h (j := 10) (by decide)) rfl).trans ?_
      rfl)
  have e0 := e0.trans (tr_195_174 d w h.1 _ _ _ _ _ (by intros; exact ik hi))
  cases h10 : isWd t k 10 with
  | true =>
    rw [h10, if_neg (show ¬ b01 true = 0 by decide), ic] at e0
    rw [if_pos rfl]
    exact e0
  | false =>
  rw [h10, if_pos (show b01 false = 0 from rfl)] at e0
  rw [if_neg (show ¬ false = true by decide)]
  have e0 := e0.trans (show val (195, d + 5, 184, [some (.ref 108), some (.int x), some (.int l2), some (.int (nI i)), none, none], [.ref 13, .ref 108, .int (nI i), .ref 121], w) = val (195, d + 5, 187, [some (.ref 108), some (.int x), some (.int l2), some (.int (nI i)), none, none], [.int (b01 (isWd t k 11)), .int (nI i), .ref 121], w) from by
      refine (val_call (pc2 := 187) rfl rfl rfl rfl (h.1.rc _) (Nat.le_of_ble_eq_true rfl) (Nat.le_of_ble_eq_true rfl) rfl (m_isWord d h (j := 11) (by decide)) rfl).trans ?_
      rfl)
  have e0 := e0.trans (tr_195_187 d w h.1 _ _ _ _ _ (by intros; exact ik hi))
  cases h11 : isWd t k 11 with
  | true =>
    rw [h11, if_neg (show ¬ b01 true = 0 by decide), ic] at e0
    rw [if_pos rfl]
    exact e0
  | false =>
  rw [h11, if_pos (show b01 false = 0 from rfl)] at e0
  rw [if_neg (show ¬ false = true by decide)]
  have e0 := e0.trans (show val (195, d + 5, 197, [some (.ref 108), some (.int x), some (.int l2), some (.int (nI i)), none, none], [.ref 14, .ref 108, .int (nI i), .ref 121], w) = val (195, d + 5, 200, [some (.ref 108), some (.int x), some (.int l2), some (.int (nI i)), none, none], [.int (b01 (isWd t k 12)), .int (nI i), .ref 121], w) from by
      refine (val_call (pc2 := 200) rfl rfl rfl rfl (h.1.rc _) (Nat.le_of_ble_eq_true rfl) (Nat.le_of_ble_eq_true rfl) rfl (m_isWord d h (j := 12) (by decide)) rfl).trans ?_
      rfl)
  have e0 := e0.trans (tr_195_200 d w h.1 _ _ _ _ _ (by intros; exact ik hi))
  cases h12 : isWd t k 12 with
  | true =>
    rw [h12, if_neg (show ¬ b01 true = 0 by decide), ic] at e0
    rw [if_pos rfl]
    exact e0
  | false =>
  rw [h12, if_pos (show b01 false = 0 from rfl)] at e0
  rw [if_neg (show ¬ false = true by decide)]
  have e0 := e0.trans (show val (195, d + 5, 210, [some (.ref 108), some (.int x), some (.int l2), some (.int (nI i)), none, none], [.ref 15, .ref 108, .int (nI i), .ref 121], w) = val (195, d + 5, 213, [some (.ref 108), some (.int x), some (.int l2), some (.int (nI i)), none, none], [.int (b01 (isWd t k 13)), .int (nI i), .ref 121], w) from by
      refine (val_call (pc2 := 213) rfl rfl rfl rfl (h.1.rc _) (Nat.le_of_ble_eq_true rfl) (Nat.le_of_ble_eq_true rfl) rfl (m_isWord d h (j := 13) (by decide)) rfl).trans ?_
      rfl)
  have e0 := e0.trans (tr_195_213 d w h.1 _ _ _ _ _ (by intros; exact ik hi))
  cases h13 : isWd t k 13 with
  | true =>
    rw [h13, if_neg (show ¬ b01 true = 0 by decide), ic] at e0
    rw [if_pos rfl]
    exact e0
  | false =>
  rw [h13, if_pos (show b01 false = 0 from rfl)] at e0
  rw [if_neg (show ¬ false = true by decide)]
  have e0 := e0.trans (show val (195, d + 5, 223, [some (.ref 108), some (.int x), some (.int l2), some (.int (nI i)), none, none], [.ref 16, .ref 108, .int (nI i), .ref 121], w) = val (195, d + 5, 226, [some (.ref 108), some (.int x), some (.int l2), some (.int (nI i)), none, none], [.int (b01 (isWd t k 14)), .int (nI i), .ref 121], w) from by
      refine (val_call (pc2 := 226) rfl rfl rfl rfl (h.1.rc _) (Nat.le_of_ble_eq_true rfl) (Nat.le_of_ble_eq_true rfl) rfl (m_isWord d h (j := 14) (by decide)) rfl).trans ?_
      rfl)
  have e0 := e0.trans (tr_195_226 d w h.1 _ _ _ _ _ (by intros; exact ik hi))
  cases h14 : isWd t k 14 with
  | true =>
    rw [h14, if_neg (show ¬ b01 true = 0 by decide), ic] at e0
    rw [if_pos rfl]
    exact e0
  | false =>
  rw [h14, if_pos (show b01 false = 0 from rfl)] at e0
  rw [if_neg (show ¬ false = true by decide)]
  have e0 := e0.trans (show val (195, d + 5, 237, [some (.ref 108), some (.int x), some (.int l2), some (.int (nI i)), none, none], [.ref 17, .ref 108, .int (nI i), .ref 121], w) = val (195, d + 5, 240, [some (.ref 108), some (.int x), some (.int l2), some (.int (nI i)), none, none], [.int (b01 (isWd t k 15)), .int (nI i), .ref 121], w) from by
      refine (val_call (pc2 := 240) rfl rfl rfl rfl (h.1.rc _) (Nat.le_of_ble_eq_true rfl) (Nat.le_of_ble_eq_true rfl) rfl (m_isWord d h (j := 15) (by decide)) rfl).trans ?_
      rfl)
  have e0 := e0.trans (tr_195_240 d w h.1 _ _ _ _ _ (by intros; exact ik hi) (by intros; exact ik hi))
  cases h15 : isWd t k 15 with
  | true =>
    rw [h15, if_neg (show ¬ b01 true = 0 by decide), ic] at e0
    rw [if_pos rfl]
    exact e0
  | false =>
    rw [h15, if_pos (show b01 false = 0 from rfl), ic] at e0
    rw [if_neg (show ¬ false = true by decide)]
    exact e0
end MND
/-! places, as the reference keeps them -/
theorem twL_fuel {N : Nat} {st : Nat → Bool} : ∀ k k' q, N ≤ q + k → N ≤ q + k' → twL N st k q = twL N st k' q
  | 0, 0, _, _, _ => rfl
  | 0, k' + 1, q, h, _ => by
    unfold twL
    rw [if_neg (by omega)]
  | k + 1, 0, q, _, h => by
    unfold twL
    rw [if_neg (by omega)]
  | k + 1, k' + 1, q, h, h' => by
    unfold twL
    split
    · split
      · exact twL_fuel k k' (q + 1) (by omega) (by omega)
      · rw [twL_fuel k k' (q + 2) (by omega) (by omega)]
    · rfl
theorem twL_seg {N : Nat} {st : Nat → Bool} : ∀ j q k, (∀ p, q < p → p ≤ q + 2 * j → st p = false) → q + 2 * j ≤ N → N ≤ q + k → twL N st k q = prL q j ++ twL N st k (q + 2 * j)
  | 0, q, k, _, _, _ => rfl
  | j + 1, q, k, h, h1, h2 => by
    obtain ⟨k', rfl⟩ : ∃ k', k = k' + 1 := ⟨k - 1, by omega⟩
    have e : twL N st (k' + 1) q = (q, q + 1) :: twL N st k' (q + 2) := by
      show (if q + 1 < N then (if st (q + 1) = true then _ else _) else _) = _
      rw [if_pos (by omega), if_neg (by rw [h (q + 1) (by omega) (by omega)]; decide)]
    rw [e, twL_fuel k' (k' + 1) (q + 2) (by omega) (by omega), twL_seg j (q + 2) (k' + 1) (fun p hp hp2 => h p (by omega) (by omega)) (by omega) (by omega), show q + 2 + 2 * j = q + 2 * (j + 1) by omega]
    rfl
theorem twL_pLst {N : Nat} {g : Nat → Nat} {m : Nat} : ∀ n i last, i + n = m → last ≤ N → pOk N g n i last = true → (∀ j, j < i → g j ≤ last) → twL N (sn g m) N last = pLst N g n i last
  | 0, i, last, hi, hl, hp, hb => by
    have hp' : (N - last) % 2 = 0 := of_decide_eq_true hp
    have hs : ∀ p, last < p → sn g m p = false := fun p h1 => by
      cases hh : sn g m p with
      | false => rfl
      | true =>
        obtain ⟨j, j1, j2⟩ := sn_iff.mp hh
        have := hb j (by omega)
        omega
    rw [twL_seg ((N - last) / 2) last N (fun p h1 h2 => hs p h1) (by omega) (by omega)]
    show _ = prL last ((N - last) / 2)
    have e : twL N (sn g m) N (last + 2 * ((N - last) / 2)) = [] := by
      rw [twL_fuel N 0 _ (by omega) (by omega)]
      rfl
    rw [e, List.append_nil]
  | n + 1, i, last, hi, hl, hp, hb => by
    have hp' : (decide (last < g i ∧ g i ≤ N ∧ (g i - last) % 2 = 1) && pOk N g n (i + 1) (g i)) = true := hp
    rw [Bool.and_eq_true] at hp'
    obtain ⟨h1, h2⟩ := hp'
    obtain ⟨a1, a2, a3⟩ := of_decide_eq_true h1
    have later : ∀ n i last, pOk N g n i last = true → ∀ j, i ≤ j → j < i + n → last < g j := by
      intro n
      induction n with
      | zero => intro i last _ j h1 h2; omega
      | succ n ih =>
        intro i last h j h1 h2
        have h' : (decide (last < g i ∧ g i ≤ N ∧ (g i - last) % 2 = 1) && pOk N g n (i + 1) (g i)) = true := h
        rw [Bool.and_eq_true] at h'
        obtain ⟨b1, b2⟩ := h'
        obtain ⟨c1, c2, c3⟩ := of_decide_eq_true b1
        by_cases e : j = i
        · rw [e]; exact c1
        · exact Nat.lt_trans c1 (ih (i + 1) (g i) b2 j (by omega) (by omega))
    have hs : ∀ p, last < p → p < g i → sn g m p = false := fun p q1 q2 => by
      cases hh : sn g m p with
      | false => rfl
      | true =>
        obtain ⟨j, j1, j2⟩ := sn_iff.mp hh
        by_cases c : j < i
        · have := hb j c; omega
        · by_cases e : j = i
          · rw [e] at j2; omega
          · have := later n (i + 1) (g i) h2 j (by omega) (by omega)
            omega
    have hst : sn g m (g i) = true := sn_iff.mpr ⟨i, by omega, rfl⟩
    rw [twL_seg ((g i - 1 - last) / 2) last N (fun p q1 q2 => hs p q1 (by omega)) (by omega) (by omega), show last + 2 * ((g i - 1 - last) / 2) = g i - 1 by omega]
    show _ = prL last ((g i - 1 - last) / 2) ++ pLst N g n (i + 1) (g i)
    congr 1
    rw [← twL_pLst (m := m) n (i + 1) (g i) (by omega) a2 h2 (fun j hj => by
      by_cases e : j = i
      · rw [e]; exact Nat.le_refl _
      · have := hb j (by omega); omega)]
    obtain ⟨N', hN'⟩ : ∃ N', N = N' + 1 := ⟨N - 1, by omega⟩
    by_cases hlt : g i < N
    · have e : twL N (sn g m) N (g i - 1) = twL N (sn g m) N' (g i) := by
        rw [twL_fuel N (N' + 1) (g i - 1) (by omega) (by omega)]
        show (if g i - 1 + 1 < N then (if sn g m (g i - 1 + 1) = true then twL N (sn g m) N' (g i - 1 + 1) else _) else _) = _
        rw [if_pos (by omega), show g i - 1 + 1 = g i by omega, if_pos hst]
      rw [e]
      exact twL_fuel N' N (g i) (by omega) (by omega)
    · have e1 : g i = N := by omega
      rw [twL_fuel N 1 (g i - 1) (by omega) (by omega), twL_fuel N 0 (g i) (by omega) (by omega)]
      show (if g i - 1 + 1 < N then _ else _) = _
      rw [if_neg (by omega)]
      rfl
