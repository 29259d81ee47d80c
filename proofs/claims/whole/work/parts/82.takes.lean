/-! THE READER: words, signs, numbers -/
theorem mWd_iff {t : Nat → Int32} : ∀ (l : List Int32) (p : Nat), mWd t p l = true ↔ ∀ i, i < l.length → t (p + i) = l.getD i 0
  | [], p => ⟨fun _ i hi => absurd hi (Nat.not_lt_zero i), fun _ => rfl⟩
  | c :: l, p => by
    show (decide (t p = c) && mWd t (p + 1) l) = true ↔ _
    rw [Bool.and_eq_true, decide_eq_true_iff, mWd_iff l (p + 1)]
    constructor
    · rintro ⟨h1, h2⟩ i hi
      cases i with
      | zero => exact h1
      | succ i =>
        have := h2 i (by simpa using hi)
        rw [show p + (i + 1) = p + 1 + i by omega]
        exact this
    · intro h
      refine ⟨h 0 (by simp), fun i hi => ?_⟩
      have := h (i + 1) (by simpa using hi)
      rw [show p + (i + 1) = p + 1 + i by omega] at this
      exact this
def b01 (b : Bool) : Int32 := if b = true then 1 else 0
theorem b01_nar (b : Bool) : narB 1 (b01 b) = true := by cases b <;> decide
theorem b01_0 {b : Bool} : b01 b = 0 ↔ b = false := by cases b <;> decide
section CTAKE
variable {w : Wd} {o M T N : Nat} {t : Nat → Int32} {k : Tk}
theorem c_isWord (d : Nat) (hW : Fix w) (hX : TX w) (hR : Rd w o M T N t) (hk : TkC w o t k) (hin : TkIn t T k) {j : Nat} (hj : j < 16) : val (82, d + 4, 0, [some (.ref o), some (.ref (2 + j)), none], [], w) = some (some (.int (b01 (isWd t k j))), w) := by
  obtain ⟨r1, r2, r3, r4, r5, r6, r7, r8⟩ := hR
  obtain ⟨-, k2, k3⟩ := id hk
  obtain ⟨n1, n2, n3, n4, n5, n6⟩ := hin
  obtain ⟨c1, c2, c3⟩ := chs_ok j hj
  have hs := (hW.tx hj).1
  refine (tr_82 d w o (2 + j) 8 r2).trans ?_
  by_cases h1 : k.1 = 1
  · rw [if_neg (fun h => h ((hk.k1 n1).mpr h1))]
    have hb : ∀ b, isWd t k j = b ↔ (decide (k.2.2.1 - k.2.1 = (chs j).length) && mWd t k.2.1 (chs j)) = b := fun b => by
      unfold isWd; rw [decide_eq_true h1, Bool.true_and]
    refine (val_call (pc2 := 21) rfl rfl rfl rfl (rcvO hs (by decide)) (Nat.le_of_ble_eq_true rfl) (Nat.le_of_ble_eq_true rfl) rfl (s_len (d + 2) hW hX hj) rfl).trans ?_
    refine (tr_82_21 d w o (2 + j) _ _).trans ?_
    rw [k2, k3, n_sub n2]
    by_cases hl : k.2.2.1 - k.2.1 = (chs j).length
    · rw [if_pos (by rw [hl])]
      have hb2 : ∀ b, isWd t k j = b ↔ mWd t k.2.1 (chs j) = b := fun b => by rw [hb b, decide_eq_true hl, Bool.true_and]
      refine loopUp (α := Unit) (c := fun i _ => (82, d + 4, 28, [some (.ref o), some (.ref (2 + j)), some (.int (nI i))], [], w)) (P := fun i _ => ∀ q, q < i → t (k.2.1 + q) = (chs j).getD q 0) (R := fun r => r = some (some (.int (b01 (isWd t k j))), w)) (N := (chs j).length) ?_ ?_ () (fun q hq => absurd hq (Nat.not_lt_zero q))
      · intro _ h
        rw [(hb2 true).mpr ((mWd_iff _ _).mpr h)]
        refine (tr_82_28 d w o (2 + j) _).trans ?_
        refine (val_call (pc2 := 33) rfl rfl rfl rfl (rcvO hs (by decide)) (Nat.le_of_ble_eq_true rfl) (Nat.le_of_ble_eq_true rfl) rfl (s_len (d + 2) hW hX hj) rfl).trans ?_
        refine (tr_82_33 d w o (2 + j) _ _ _ 8 r2 65 r3 600 (hW.k 65 (by omega) (by omega)) (fun h => absurd (n_le (Nat.le_refl _) (by omega)) h)).trans ?_
        rw [if_pos (n_le (Nat.le_refl _) (by omega))]
        rfl
      · intro i _ hi h
        have e0 : val (82, d + 4, 28, [some (.ref o), some (.ref (2 + j)), some (.int (nI i))], [], w) = (if t (k.2.1 + i) = (chs j).getD i 0 then val (82, d + 4, 28, [some (.ref o), some (.ref (2 + j)), some (.int (nI (i + 1)))], [], w) else some (some (.int 0), w)) := by
          refine (tr_82_28 d w o (2 + j) _).trans ?_
          refine (val_call (pc2 := 33) rfl rfl rfl rfl (rcvO hs (by decide)) (Nat.le_of_ble_eq_true rfl) (Nat.le_of_ble_eq_true rfl) rfl (s_len (d + 2) hW hX hj) rfl).trans ?_
          refine (tr_82_33 d w o (2 + j) _ _ _ 8 r2 65 r3 600 (hW.k 65 (by omega) (by omega)) (fun _ => by rw [k2, n_add]; exact inB_nI (by omega) (by omega))).trans ?_
          rw [if_neg (n_nle hi (by omega)), k2, n_add, nI_clamp (show k.2.1 + i < 2 ^ 31 by omega), r8 _ (by omega)]
          refine (val_call (pc2 := 52) rfl rfl rfl rfl (rcvO hs (by decide)) (Nat.le_of_ble_eq_true rfl) (Nat.le_of_ble_eq_true rfl) rfl (s_char d hW hX hj hi) rfl).trans ?_
          refine (tr_82_52 d w o (2 + j) _ _ _).trans ?_
          rw [n_succ]
        by_cases he : t (k.2.1 + i) = (chs j).getD i 0
        · rw [if_pos he] at e0
          refine Or.inr ⟨(), e0, fun q hq => ?_⟩
          by_cases e : q = i
          · rw [e]; exact he
          · exact h q (by omega)
        · rw [if_neg he] at e0
          refine Or.inl (e0.trans ?_)
          have : mWd t k.2.1 (chs j) = false := by
            cases hm : mWd t k.2.1 (chs j) with
            | false => rfl
            | true => exact absurd ((mWd_iff _ _).mp hm i hi) he
          rw [(hb2 false).mpr this]
          rfl
    · rw [if_neg (n_ne hl (by omega) (by omega)), (hb false).mpr (by rw [decide_eq_false hl]; rfl)]
      rfl
  · rw [if_pos (fun h => h1 ((hk.k1 n1).mp h))]
    have : isWd t k j = false := by unfold isWd; rw [decide_eq_false h1]; rfl
    rw [this]
    rfl
theorem c_takesWord (d : Nat) (hW : Fix w) (hX : TX w) (hR : Rd w o M T N t) (hk : TkC w o t k) (hin : TkIn t T k) {j : Nat} (hj : j < 16) : ∃ v, val (83, d + 5, 0, [some (.ref o), some (.ref (2 + j)), none], [], w) = some (some (.int (b01 (isWd t k j))), v) ∧ Fr (FTk o) w v ∧ TkC v o t (if isWd t k j = true then nxt t T k else k) := by
  have e1 : val (83, d + 5, 0, [some (.ref o), some (.ref (2 + j)), none], [], w) = val (83, d + 5, 5, [some (.ref o), some (.ref (2 + j)), none], [.int (b01 (isWd t k j))], w) := by
    refine (tr_83 d w o (2 + j)).trans ?_
    refine (val_call (pc2 := 5) rfl rfl rfl rfl (rcvO hR.2.1 (by decide)) (Nat.le_of_ble_eq_true rfl) (Nat.le_of_ble_eq_true rfl) rfl (c_isWord d hW hX hR hk hin hj) rfl).trans ?_
    rfl
  cases h : isWd t k j with
  | false =>
    rw [h] at e1
    refine ⟨w, e1.trans ((tr_83_5 d w o (2 + j) _).trans ?_), Fr.refl _ _, by rw [if_neg (by decide)]; exact hk⟩
    rw [if_pos (show b01 false = 0 from rfl)]
    exact tr_83_14 d w o (2 + j) _ rfl
  | true =>
    rw [h] at e1
    obtain ⟨v, e2, e3, e4⟩ := c_next (d + 2) hW hR hk.2.2 hin.2.2.1
    refine ⟨v, e1.trans ((tr_83_5 d w o (2 + j) _).trans ?_), e3, by rw [if_pos rfl]; exact e4⟩
    rw [if_neg (by decide)]
    refine (val_call (pc2 := 14) rfl rfl rfl rfl (rcvO hR.2.1 (by decide)) (Nat.le_of_ble_eq_true rfl) (Nat.le_of_ble_eq_true rfl) rfl e2 rfl).trans ?_
    exact tr_83_14 d v o (2 + j) _ rfl
theorem c_sign (d : Nat) (hW : Fix w) (hR : Rd w o M T N t) (hk : TkC w o t k) (hin : TkIn t T k) (c : Int32) : val (84, d + 3, 0, [some (.ref o), some (.int c), none], [], w) = (if isSg t k c = true then val (84, d + 3, 32, [some (.ref o), some (.int c), some (.int 1)], [.ref o], w) else some (some (.int 0), w)) := by
  obtain ⟨r1, r2, r3, r4, r5, r6, r7, r8⟩ := hR
  obtain ⟨n1, n2, n3, n4, n5, n6⟩ := hin
  have h31 : ∀ h : gI w o 5 = 4, k.1 = 3 := fun h => (hk.k3 n1).mp h
  have lt : ∀ h : k.1 = 3, k.2.1 < T := fun h => by have := n4 (by omega); omega
  have e0 := tr_84 (d + 1) w o c 8 r2 65 r3 600 (hW.k 65 (by omega) (by omega)) (fun h => by
    have h4 : gI w o 5 = 4 := Decidable.not_not.mp h
    have := lt (h31 h4)
    rw [hk.2.1]; exact inB_nI (by omega) (by omega))
  refine e0.trans ?_
  have no : val (84, d + 3, 35, [some (.ref o), some (.int c), some (.int 0)], [], w) = some (some (.int 0), w) := tr_84_35 (d + 1) w o c 0 rfl
  by_cases h3 : k.1 = 3
  · have := lt h3
    rw [if_neg (fun h => h ((hk.k3 n1).mpr h3)), hk.2.1, nI_clamp (show k.2.1 < 2 ^ 31 by omega), r8 _ this]
    by_cases hc : t k.2.1 = c
    · have hs : isSg t k c = true := by unfold isSg; rw [decide_eq_true h3, decide_eq_true hc]; rfl
      rw [if_neg (fun h => h hc), if_pos hs]
    · have hs : isSg t k c = false := by unfold isSg; rw [decide_eq_false hc, Bool.and_false]
      rw [if_pos hc, hs, if_neg (by decide)]
      exact no
  · have hs : isSg t k c = false := by unfold isSg; rw [decide_eq_false h3]; rfl
    rw [if_pos (fun h => h3 (h31 h)), hs, if_neg (by decide)]
    exact no
theorem c_takesSign (d : Nat) (hW : Fix w) (hR : Rd w o M T N t) (hk : TkC w o t k) (hin : TkIn t T k) (c : Int32) : ∃ v, val (84, d + 3, 0, [some (.ref o), some (.int c), none], [], w) = some (some (.int (b01 (isSg t k c))), v) ∧ Fr (FTk o) w v ∧ TkC v o t (if isSg t k c = true then nxt t T k else k) := by
  have e0 := c_sign d hW hR hk hin c
  cases hs : isSg t k c with
  | true =>
    rw [hs, if_pos rfl] at e0
    obtain ⟨v, e2, e3, e4⟩ := c_next d hW hR hk.2.2 hin.2.2.1
    refine ⟨v, e0.trans ?_, e3, by rw [if_pos rfl]; exact e4⟩
    refine (val_call (pc2 := 35) rfl rfl rfl rfl (rcvO hR.2.1 (by decide)) (Nat.le_of_ble_eq_true rfl) (Nat.le_of_ble_eq_true rfl) rfl e2 rfl).trans ?_
    exact tr_84_35 (d + 1) v o c 1 rfl
  | false =>
    rw [hs, if_neg (by decide)] at e0
    exact ⟨w, e0, Fr.refl _ _, by rw [if_neg (by decide)]; exact hk⟩
theorem c_refuse (d : Nat) (hR : Rd w o M T N t) (hk : TkC w o t k) (h1 : gI w o 1 = -1) : ∃ v, val (75, d, 0, [some (.ref o)], [], w) = some (none, v) ∧ Fr [(o, some 1)] w v ∧ gI v o 1 = nI k.2.1 := by
  have e0 := tr_75 d w o 8 hR.2.1
  rw [h1, if_neg (by decide), hk.2.1] at e0
  refine ⟨_, e0, (Fr.refl _ w).sI o 1 _ ?_, gI_same _ _ _ _⟩
  show (Nat.beq o o && Nat.beq 1 1 || false) = true
  rw [Nat.beq_refl]; rfl
theorem c_refused (d : Nat) (hR : Rd w o M T N t) {f : Nat} (h1 : gI w o 1 = nI f) (hf : f < 2 ^ 31) : val (75, d, 0, [some (.ref o)], [], w) = some (none, w) := by
  refine (tr_75 d w o 8 hR.2.1).trans ?_
  rw [h1, if_pos (show (0 : Int32) ≤ nI f from n_le (a := 0) (Nat.zero_le f) hf)]
end CTAKE
