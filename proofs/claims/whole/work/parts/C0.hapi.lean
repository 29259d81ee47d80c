/-! CALLS: heads, head -/
def secH (w : Wd) (N : Nat) : Prop := ∃ P : Nat → Bool, (∀ m, cn P m ≤ 3541) ∧ gI w 80 1 = nI (cn P (fc N)) ∧ gI w 108 41 = nI (cn P (fc N)) ∧ ∀ r, r < fc N → P r = true → gI w 81 (cn P r) = nI r ∧ gI w 135 (cn P r) = nI (dcN N (urN N r))
abbrev FH : List (Nat × Option Nat) := [(80, some 1), (81, none), (108, some 41), (135, none)]
theorem secH.fa {T : List (Nat × Option Nat)} {w v : Wd} {N : Nat} (h : secH w N) (hf : FrA T w v) (ht : dj T FH = true) : secH v N := by
  obtain ⟨P, h1, h2, h3, h4⟩ := h
  refine ⟨P, h1, (hf.i ht 80 1 (by decide) rfl).trans h2, (hf.i ht 108 41 (by decide) rfl).trans h3, fun r hr hp => ?_⟩
  obtain ⟨a, b⟩ := h4 r hr hp
  exact ⟨(hf.i ht 81 _ (by decide) rfl).trans a, (hf.i ht 135 _ (by decide) rfl).trans b⟩
theorem cn_at {P : Nat → Bool} : ∀ m k, k < cn P m → ∃ r, r < m ∧ P r = true ∧ cn P r = k
  | 0, k, h => absurd h (Nat.not_lt_zero k)
  | m + 1, k, h => by
    have e : cn P (m + 1) = cn P m + (P m).toNat := rfl
    by_cases c : k < cn P m
    · obtain ⟨r, h1, h2, h3⟩ := cn_at m k c
      exact ⟨r, by omega, h2, h3⟩
    · cases hp : P m with
      | false => rw [hp] at e; have : false.toNat = 0 := rfl; omega
      | true => rw [hp] at e; have : true.toNat = 1 := rfl; exact ⟨m, by omega, hp, by omega⟩
theorem a_head {N : Nat} {w : Wd} (hW : Fix w) (hB : Bl w N) (hH : secH w N) (d : Nat) (x : Int32) : ∃ r, val (26, d + 3, 0, [some (.ref 64), some (.int x)], [], w) = some (some (.int r), w) ∧ val (224, d + 3, 0, [some (.ref 108), some (.int x)], [], w) = some (some (.int r), w) := by
  obtain ⟨h3, hN, hn, hm⟩ := id hB
  obtain ⟨P, p1, p2, p3, p4⟩ := hH
  have hc := p1 (fc N)
  have key : ∀ {b : Nat}, cn P (fc N) ≤ b → b < 2 ^ 31 → ¬ x < 0 → x < nI (cn P (fc N)) → inB x b = true := fun hb hb2 h0 h1 => by
    obtain ⟨X, hX, rfl⟩ := i_nat h0
    have := (n_lt_iff hX (by omega)).mp h1
    exact inB_nI (by omega) hb2
  have e1 := tr_26 d w hW x (fun a b => by rw [p2] at b; exact key (by omega) (by omega) a b)
  have e2 := tr_224 (d + 3) w hW x (fun a b => by rw [p3] at b; exact key (by omega) (by omega) a b)
  rw [p2] at e1
  rw [p3] at e2
  by_cases h0 : x < 0
  · rw [if_pos h0] at e1 e2
    exact ⟨-1, e1, e2⟩
  by_cases h1 : x < nI (cn P (fc N))
  · rw [if_neg h0, if_pos h1] at e1 e2
    obtain ⟨X, hX, rfl⟩ := i_nat h0
    obtain ⟨r, r1, r2, r3⟩ := cn_at (fc N) X ((n_lt_iff hX (by omega)).mp h1)
    obtain ⟨a, b⟩ := p4 r r1 r2
    rw [r3] at a b
    rw [nI_clamp hX, a, hn] at e1
    rw [nI_clamp hX, b] at e2
    refine ⟨_, e1.trans ?_, e2⟩
    refine (val_call (pc2 := 34) rfl rfl rfl rfl rfl (Nat.le_of_ble_eq_true rfl) (Nat.le_of_ble_eq_true rfl) rfl (r_140 hN r1 (d + 1) hW) rfl).trans ?_
    refine (val_call (pc2 := 37) rfl rfl rfl rfl (hW.rb _) (Nat.le_of_ble_eq_true rfl) (Nat.le_of_ble_eq_true rfl) rfl (c_numberOf hW hB (urN_row r1).1 d) rfl).trans ?_
    exact tr_26_37 d w _ _
  · rw [if_neg h0, if_neg h1] at e1 e2
    exact ⟨-1, e1, e2⟩
def QM (N : Nat) (G : Nat → Nat → Nat) (n : Nat) (Q : Nat → Bool) (x y : Nat) : Prop := ∀ r, Q r = true ↔ (∃ x' y', x' < x ∧ y' ≤ n ∧ r = rkN N (hd N G y' x')) ∨ ∃ y', y' < y ∧ r = rkN N (hd N G y' x)
theorem QM.step {N : Nat} {G : Nat → Nat → Nat} {n : Nat} {Q : Nat → Bool} {x y : Nat} (h : QM N G n Q x y) : QM N G n (insP Q (rkN N (hd N G y x))) x (y + 1) := fun r => by
  rw [insP_iff, h r]
  constructor
  · rintro ((h1 | ⟨y', h1, h2⟩) | h1)
    · exact Or.inl h1
    · exact Or.inr ⟨y', by omega, h2⟩
    · exact Or.inr ⟨y, by omega, h1⟩
  · rintro (h1 | ⟨y', h1, h2⟩)
    · exact Or.inl (Or.inl h1)
    · by_cases c : y' = y
      · subst c; exact Or.inr h2
      · exact Or.inl (Or.inr ⟨y', by omega, h2⟩)
theorem QM.next {N : Nat} {G : Nat → Nat → Nat} {n : Nat} {Q : Nat → Bool} {x : Nat} (h : QM N G n Q x (n + 1)) : QM N G n Q (x + 1) 0 := fun r => by
  rw [h r]
  constructor
  · rintro (⟨x', y', h1, h2, h3⟩ | ⟨y', h1, h2⟩)
    · exact Or.inl ⟨x', y', by omega, h2, h3⟩
    · exact Or.inl ⟨x, y', by omega, by omega, h2⟩
  · rintro (⟨x', y', h1, h2, h3⟩ | ⟨y', h1, h2⟩)
    · by_cases c : x' = x
      · subst c; exact Or.inr ⟨y', by omega, h3⟩
      · exact Or.inl ⟨x', y', by omega, h2, h3⟩
    · exact absurd h1 (Nat.not_lt_zero y')
/-- seen ranks -/
def Se (w : Wd) (Q : Nat → Bool) : Prop := ∀ r, r < 40320 → gI w 130 r = b01 (Q r)
abbrev FSn : List (Nat × Option Nat) := [(109, none), (110, none), (111, none), (130, none)]
section MHEADS
variable {N A B : Nat} {G : Nat → Nat → Nat}
theorem m_seenY (h3 : 3 ≤ N) (hN : N ≤ 8) (hAB : A ≤ B) (hB : B ≤ 2000) (h59 : B - A ≤ 59) (hr : ∀ i, i ≤ B - A → IsRow N (G i)) (d : Nat) {x : Nat} (hx : x ≤ B - A) : ∀ n y (w : Wd) (Q : Nat → Bool), y + n = B - A + 1 → Fix w → gI w 108 0 = nI N → (∀ i, i ≤ B - A → gI w 127 (A + i) = nI (dcN N (G i))) → (∀ i, i ≤ B - A → gI w 136 i = nI (dcN N (iv (G i) N))) → Se w Q → QM N G (B - A) Q x y → ∃ w' Q' k4, val (223, d + 2, 93, [some (.ref 108), some (.int (nI A)), some (.int (nI B)), some (.int (nI (A + x))), some (.int (nI (A + y)))], [], w) = val (223, d + 2, 85, [some (.ref 108), some (.int (nI A)), some (.int (nI B)), some (.int (nI (A + (x + 1)))), k4], [], w') ∧ Fr FSn w w' ∧ Se w' Q' ∧ QM N G (B - A) Q' (x + 1) 0 := by
  intro n
  induction n with
  | zero =>
    intro y w Q hy hW hn h127 h136 hs hq
    have hy2 : y = B - A + 1 := by omega
    subst hy2
    have e := tr_223_93 d w hW (nI A) (nI B) (nI (A + x)) (nI (A + (B - A + 1))) (fun h => absurd (n_lt (by omega) (by omega)) h) (fun h => absurd (n_lt (by omega) (by omega)) h)
    rw [if_pos (n_lt (by omega) (by omega)), n_succ (A + x)] at e
    exact ⟨w, Q, _, e, Fr.refl _ _, hs, hq.next⟩
  | succ n ih =>
    intro y w Q hy hW hn h127 h136 hs hq
    have hyB : y ≤ B - A := by omega
    have sA : nI (A + x) - nI A = nI x := by rw [n_sub (by omega), Nat.add_sub_cancel_left]
    have e := tr_223_93 d w hW (nI A) (nI B) (nI (A + x)) (nI (A + y)) (fun _ => inB_nI (by omega) (by omega)) (fun _ => by rw [sA]; exact inB_nI (by omega) (by omega))
    rw [if_neg (n_nlt (show A + y ≤ B by omega) (by omega)), sA, nI_clamp (show x < 2 ^ 31 by omega), nI_clamp (show A + y < 2 ^ 31 by omega), h136 x hx, h127 y hyB] at e
    have hh : IsRow N (hd N G y x) := hd_row hr hyB hx
    obtain ⟨w1, r1, f1⟩ := m_times h3 hN (f := G y) (g := iv (G x) N) ⟨hr y hyB, rfl⟩ ⟨(hr x hx).iv, rfl⟩ d hW hn
    rw [show (fun p => G y (iv (G x) N p)) = hd N G y x from rfl] at r1
    have hW1 := f1.fix rfl hW
    obtain ⟨w2, r2, f2⟩ := m_rank h3 hN (f := hd N G y x) ⟨hh, rfl⟩ d hW1 ((f1.i 108 0 rfl).trans hn)
    have hW2 := f2.fix rfl hW1
    obtain ⟨hq1, hq2⟩ := rkN_lt hN hh
    obtain ⟨q, hqe⟩ : ∃ q, q = rkN N (hd N G y x) := ⟨_, rfl⟩
    rw [← hqe] at r2 hq1
    have e3 := tr_223_126 d w2 hW2 (nI A) (nI B) (nI (A + x)) (nI (A + y)) (nI q) (inB_nI (by omega) (by omega))
    rw [nI_clamp (show q < 2 ^ 31 by omega), n_succ (A + y)] at e3
    obtain ⟨w3, hw3⟩ : ∃ z, z = sI w2 130 q 1 := ⟨_, rfl⟩
    rw [← hw3] at e3
    have f12 := f1.trans f2
    have f3 : Fr FSn w w3 := by rw [hw3]; exact (f12.mono rfl).sI 130 _ _ rfl
    obtain ⟨w4, Q', k4, e4, f4, s4, q4⟩ := ih (y + 1) w3 (insP Q q) (by omega) (f3.fix rfl hW) ((f3.i 108 0 rfl).trans hn) (fun i hi => (f3.i 127 _ rfl).trans (h127 i hi)) (fun i hi => (f3.i 136 _ rfl).trans (h136 i hi)) (fun r hr2 => by
      rw [hw3]
      unfold insP
      by_cases c : r = q
      · rw [c, gI_same, decide_eq_true rfl, Bool.or_true]; rfl
      · rw [gI_nk _ _ _ c, decide_eq_false c, Bool.or_false, f12.i 130 r rfl]; exact hs r hr2) (by rw [hqe]; exact hq.step)
    refine ⟨w4, Q', k4, e.trans ?_, f3.trans f4, s4, q4⟩
    refine (val_call (pc2 := 123) rfl rfl rfl rfl (hW.rc _) (Nat.le_of_ble_eq_true rfl) (Nat.le_of_ble_eq_true rfl) rfl r1 rfl).trans ?_
    refine (val_call (pc2 := 126) rfl rfl rfl rfl (hW1.rc _) (Nat.le_of_ble_eq_true rfl) (Nat.le_of_ble_eq_true rfl) rfl r2 rfl).trans ?_
    exact e3.trans e4
theorem m_seenX (h3 : 3 ≤ N) (hN : N ≤ 8) (hAB : A ≤ B) (hB : B ≤ 2000) (h59 : B - A ≤ 59) (hr : ∀ i, i ≤ B - A → IsRow N (G i)) (d : Nat) : ∀ n x (w : Wd) (Q : Nat → Bool) (l4 : Option Value), x + n = B - A + 1 → Fix w → gI w 108 0 = nI N → (∀ i, i ≤ B - A → gI w 127 (A + i) = nI (dcN N (G i))) → (∀ i, i ≤ B - A → gI w 136 i = nI (dcN N (iv (G i) N))) → Se w Q → QM N G (B - A) Q x 0 → ∃ w' Q' k4, val (223, d + 2, 85, [some (.ref 108), some (.int (nI A)), some (.int (nI B)), some (.int (nI (A + x))), l4], [], w) = val (223, d + 2, 147, [some (.ref 108), some (.int (nI A)), some (.int (nI B)), some (.int 0), k4], [], sI w' 108 41 0) ∧ Fr FSn w w' ∧ Se w' Q' ∧ QM N G (B - A) Q' (B - A + 1) 0 := by
  intro n
  induction n with
  | zero =>
    intro x w Q l4 hx hW hn h127 h136 hs hq
    have hx2 : x = B - A + 1 := by omega
    subst hx2
    exact ⟨w, Q, l4, (tr_223_85 d w hW _ _ _ l4).trans (if_pos (n_lt (by omega) (by omega))), Fr.refl _ _, hs, hq⟩
  | succ n ih =>
    intro x w Q l4 hx hW hn h127 h136 hs hq
    have e := tr_223_85 d w hW (nI A) (nI B) (nI (A + x)) l4
    rw [if_neg (n_nlt (show A + x ≤ B by omega) (by omega))] at e
    obtain ⟨w1, Q1, k4, e1, f1, s1, q1⟩ := m_seenY h3 hN hAB hB h59 hr d (show x ≤ B - A by omega) (B - A + 1) 0 w Q (Nat.zero_add _) hW hn h127 h136 hs hq
    obtain ⟨w2, Q2, k5, e2, f2, s2, q2⟩ := ih (x + 1) w1 Q1 k4 (by omega) (f1.fix rfl hW) ((f1.i 108 0 rfl).trans hn) (fun i hi => (f1.i 127 _ rfl).trans (h127 i hi)) (fun i hi => (f1.i 136 _ rfl).trans (h136 i hi)) s1 q1
    exact ⟨w2, Q2, k5, e.trans (e1.trans e2), f1.trans f2, s2, q2⟩
theorem m_invs (h3 : 3 ≤ N) (hN : N ≤ 8) (hAB : A ≤ B) (hB : B ≤ 2000) (h59 : B - A ≤ 59) (hr : ∀ i, i ≤ B - A → IsRow N (G i)) (d : Nat) : ∀ n x (w : Wd), x + n = B - A + 1 → Fix w → gI w 108 0 = nI N → (∀ i, i ≤ B - A → gI w 127 (A + i) = nI (dcN N (G i))) → (∀ i, i < x → gI w 136 i = nI (dcN N (iv (G i) N))) → ∃ w', val (223, d + 2, 54, [some (.ref 108), some (.int (nI A)), some (.int (nI B)), some (.int (nI (A + x))), none], [], w) = val (223, d + 2, 85, [some (.ref 108), some (.int (nI A)), some (.int (nI B)), some (.int (nI A)), none], [], w') ∧ Fr [(109, none), (110, none), (111, none), (136, none)] w w' ∧ ∀ i, i ≤ B - A → gI w' 136 i = nI (dcN N (iv (G i) N)) := by
  intro n
  induction n with
  | zero =>
    intro x w hx hW hn h127 h136
    exact ⟨w, (tr_223_54 d w hW _ _ _ (fun h => absurd (n_lt (by omega) (by omega)) h)).trans (if_pos (n_lt (by omega) (by omega))), Fr.refl _ _, fun i hi => h136 i (by omega)⟩
  | succ n ih =>
    intro x w hx hW hn h127 h136
    have hxB : x ≤ B - A := by omega
    have sA : nI (A + x) - nI A = nI x := by rw [n_sub (by omega), Nat.add_sub_cancel_left]
    have e := tr_223_54 d w hW (nI A) (nI B) (nI (A + x)) (fun _ => inB_nI (by omega) (by omega))
    rw [if_neg (n_nlt (show A + x ≤ B by omega) (by omega)), sA, nI_clamp (show A + x < 2 ^ 31 by omega), h127 x hxB] at e
    obtain ⟨w1, r1, f1⟩ := m_back h3 hN (f := G x) ⟨hr x hxB, rfl⟩ d hW hn
    have hW1 := f1.fix rfl hW
    have e2 := tr_223_76 d w1 hW1 (nI A) (nI B) (nI (A + x)) (nI (dcN N (iv (G x) N))) (nI x) (inB_nI (by omega) (by omega))
    rw [nI_clamp (show x < 2 ^ 31 by omega), n_succ (A + x)] at e2
    obtain ⟨w2, hw2⟩ : ∃ z, z = sI w1 136 x (nI (dcN N (iv (G x) N))) := ⟨_, rfl⟩
    rw [← hw2] at e2
    have f2 : Fr [(109, none), (110, none), (111, none), (136, none)] w w2 := by rw [hw2]; exact (f1.mono rfl).sI 136 _ _ rfl
    obtain ⟨w3, e3, f3, g3⟩ := ih (x + 1) w2 (by omega) (f2.fix rfl hW) ((f2.i 108 0 rfl).trans hn) (fun i hi => (f2.i 127 _ rfl).trans (h127 i hi)) (fun i hi => by
      rw [hw2]
      by_cases c : i = x
      · rw [c, gI_same]
      · rw [gI_nk _ _ _ c, f1.i 136 i rfl]; exact h136 i (by omega))
    refine ⟨w3, e.trans ?_, f2.trans f3, g3⟩
    refine (val_call (pc2 := 76) rfl rfl rfl rfl (hW.rc _) (Nat.le_of_ble_eq_true rfl) (Nat.le_of_ble_eq_true rfl) rfl r1 rfl).trans ?_
    exact e2.trans e3
/-- the heads in order -/
theorem m_hgather (h3 : 3 ≤ N) (hN : N ≤ 8) (d : Nat) {Q : Nat → Bool} (hb : ∀ m, cn Q m ≤ 3541) (l1 l2 : Int32) (l4 : Option Value) : ∀ n k (w : Wd), k + n = fc N → Fix w → gI w 108 0 = nI N → Se w Q → gI w 108 41 = nI (cn Q k) → (∀ r, r < k → Q r = true → gI w 135 (cn Q r) = nI (dcN N (urN N r))) → ∃ w', val (223, d + 2, 147, [some (.ref 108), some (.int l1), some (.int l2), some (.int (nI k)), l4], [], w) = some (some (.int (nI (cn Q (fc N)))), w') ∧ Fr [(108, some 41), (135, none)] w w' ∧ gI w' 108 41 = nI (cn Q (fc N)) ∧ ∀ r, r < fc N → Q r = true → gI w' 135 (cn Q r) = nI (dcN N (urN N r)) := by
  have hfc := fc_lt hN
  intro n
  induction n with
  | zero =>
    intro k w hk hW hn hs h41 h135
    have hk2 : k = fc N := by omega
    subst hk2
    refine ⟨w, (tr_223_147 d w _ _ _ l4).trans ?_, Fr.refl _ _, h41, h135⟩
    refine (val_call (pc2 := 152) rfl rfl rfl rfl (hW.rc _) (Nat.le_of_ble_eq_true rfl) (Nat.le_of_ble_eq_true rfl) rfl (m_all h3 hN (d + 1) hW hn) rfl).trans ?_
    refine (tr_223_152 d w hW _ _ _ _ _ l4 (fun h => absurd (Int32.le_refl _) h)).trans ?_
    rw [if_pos (Int32.le_refl _), h41]
  | succ n ih =>
    intro k w hk hW hn hs h41 h135
    have hc := hb k
    have e : val (223, d + 2, 147, [some (.ref 108), some (.int l1), some (.int l2), some (.int (nI k)), l4], [], w) = (if ¬ b01 (Q k) = 1 then val (223, d + 2, 147, [some (.ref 108), some (.int l1), some (.int l2), some (.int (nI (k + 1))), l4], [], w) else val (223, d + 2, 175, [some (.ref 108), some (.int l1), some (.int l2), some (.int (nI k)), l4], [.int (nI k), .ref 108, .int (nI (cn Q k)), .ref 135], w)) := by
      refine (tr_223_147 d w _ _ _ l4).trans ?_
      refine (val_call (pc2 := 152) rfl rfl rfl rfl (hW.rc _) (Nat.le_of_ble_eq_true rfl) (Nat.le_of_ble_eq_true rfl) rfl (m_all h3 hN (d + 1) hW hn) rfl).trans ?_
      refine (tr_223_152 d w hW _ _ _ _ _ l4 (fun _ => inB_nI (by omega) (by omega))).trans ?_
      rw [if_neg (n_nle (show k < fc N by omega) (by omega)), nI_clamp (show k < 2 ^ 31 by omega), hs k (by omega), h41, n_succ]
    have em : cn Q (k + 1) = cn Q k + (Q k).toNat := rfl
    cases hp : Q k with
    | false =>
      rw [hp, if_pos (show ¬ b01 false = 1 by decide)] at e
      rw [hp] at em
      obtain ⟨w', e2, f2, g2, g3⟩ := ih (k + 1) w (by omega) hW hn hs (by rw [em]; exact h41) (fun r hr hq => h135 r (by
        by_cases c : r = k
        · rw [c, hp] at hq; cases hq
        · omega) hq)
      exact ⟨w', e.trans e2, f2, g2, g3⟩
    | true =>
      rw [hp, if_neg (show ¬ ¬ b01 true = 1 from fun h => h rfl)] at e
      rw [hp] at em
      have e2 := tr_223_178 d w hW l1 l2 (nI k) (nI (dcN N (urN N k))) (nI (cn Q k)) l4 (inB_nI (by omega) (by omega))
      have g41 : gI (sI w 135 (cn Q k) (nI (dcN N (urN N k)))) 108 41 = nI (cn Q k) := by rw [gI_ne _ _ _ _ (by decide)]; exact h41
      rw [nI_clamp (show cn Q k < 2 ^ 31 by omega), g41, n_succ k, n_succ (cn Q k)] at e2
      obtain ⟨w2, hw2⟩ : ∃ z, z = sI (sI w 135 (cn Q k) (nI (dcN N (urN N k)))) 108 41 (nI (cn Q k + 1)) := ⟨_, rfl⟩
      rw [← hw2] at e2
      have f2 : Fr [(108, some 41), (135, none)] w w2 := by rw [hw2]; exact ((Fr.refl _ w).sI 135 _ _ rfl).sI 108 41 _ rfl
      obtain ⟨w', e3, f3, g2, g3⟩ := ih (k + 1) w2 (by omega) (f2.fix rfl hW) ((f2.i 108 0 rfl).trans hn) (fun r hr => (f2.i 130 r rfl).trans (hs r hr)) (by rw [hw2, gI_same, em]; rfl) (fun r hr hq => by
        rw [hw2, gI_ne _ _ _ _ (by decide)]
        by_cases c : r = k
        · rw [c, gI_same]
        · have := cn_lt (P := Q) (m := k) (r := r) (by omega) hq
          rw [gI_nk _ _ _ (by omega)]; exact h135 r (by omega) hq)
      refine ⟨w', e.trans ?_, f2.trans f3, g2, g3⟩
      refine (val_call (pc2 := 178) rfl rfl rfl rfl (hW.rc _) (Nat.le_of_ble_eq_true rfl) (Nat.le_of_ble_eq_true rfl) rfl (m_ofRank h3 hN (show k < fc N by omega) d hW hn) rfl).trans ?_
      exact e2.trans e3
end MHEADS
