/-! THE REFERENCE'S nodes: all of them -/
theorem pOk_pos {N : Nat} {g : Nat → Nat} : ∀ n i last, pOk N g n i last = true → ∀ j, i ≤ j → j < i + n → last < g j
  | 0, i, last, _, j, h1, h2 => by omega
  | n + 1, i, last, h, j, h1, h2 => by
    have h' : (decide (last < g i ∧ g i ≤ N ∧ (g i - last) % 2 = 1) && pOk N g n (i + 1) (g i)) = true := h
    rw [Bool.and_eq_true] at h'
    obtain ⟨b1, b2⟩ := h'
    obtain ⟨c1, c2, c3⟩ := of_decide_eq_true b1
    by_cases e : j = i
    · rw [e]; exact c1
    · exact Nat.lt_trans c1 (pOk_pos n (i + 1) (g i) b2 j (by omega) (by omega))
theorem twL_congr {N : Nat} {st st' : Nat → Bool} (h : ∀ p, st p = st' p) : ∀ k q, twL N st k q = twL N st' k q := by
  have : st = st' := funext h
  rw [this]
  intro k q
  rfl
section MN4
variable {T N : Nat} {t : Nat → Int32} {m : Nat}
theorem m_node (hN : N ≤ 8) : ∀ f, f ≤ 6 → NdP T N t m f := by
  intro f
  induction f with
  | zero =>
    intro _ w c k D hD hS hc
    obtain ⟨d, rfl⟩ : ∃ d, D = d + 5 := ⟨D - 5, by omega⟩
    refine ⟨fun r hr => (by cases hr), fun e he => ?_⟩
    cases he
    obtain ⟨v, x1, x2, x3⟩ := m_noNode d hS (nI (6 - 0)) (Or.inr (Or.inl rfl))
    exact ⟨0, v, x1, x2.mono rfl, x3, LoN.of x2 rfl _⟩
  | succ f ih =>
    intro hf w c k D hD hS hc
    obtain ⟨d, rfl⟩ : ∃ d, D = d + 5 := ⟨D - 5, by omega⟩
    have hP := ih (by omega)
    have hx6 : ¬ nI (6 - (f + 1)) = 6 := n_ne (b := 6) (by omega) (by omega) (by omega)
    have e5 : 6 - (f + 1) = 5 - f := by omega
    rw [e5] at hx6 ⊢
    unfold pCh
    by_cases h40 : 40 ≤ c
    · rw [if_pos h40]
      refine ⟨fun r hr => (by cases hr), fun e he => ?_⟩
      cases he
      obtain ⟨v, x1, x2, x3⟩ := m_noNode d hS (nI (5 - f)) (Or.inr (Or.inr (by omega)))
      exact ⟨0, v, x1, x2.mono rfl, x3, LoN.of x2 rfl _⟩
    rw [if_neg h40]
    have hm8 := hS.2.2.2
    obtain ⟨K, hK⟩ : ∃ K, K = 41 * m + c := ⟨_, rfl⟩
    have hK369 : K < 369 := by omega
    have ic : (nI K).toNatClampNeg = K := nI_clamp (by omega)
    have hE : 41 * m + (c + 1) = K + 1 := by omega
    rw [← hK]
    have mk := fun hn => m_make d hS (by omega) hn hx6
    rw [← hK] at mk
    cases h9 : isWd t k 9 with
    | true =>
      rw [if_pos rfl]
      have kn : kNd t k = 0 := by unfold kNd; rw [h9, if_pos rfl]
      obtain ⟨y, e1, y2, y3, y4, y5, y6, y7⟩ := mk (by unfold isNd; rw [h9]; rfl)
      have e2 := tr_195_255 d y y3.1.1 (nI (5 - f)) 1 (nI K) (by intros; exact ik hK369) (by intros; exact ik hK369) (by intros; exact ik hK369) (by intros; exact ik hK369) (by intros; exact ik hK369) (by intros; exact ik hK369)
      rw [ic, y5, kn, if_pos (show ¬ nI 0 = 1 by decide), if_neg (show ¬ nI 0 = 2 by decide), if_pos (show ¬ nI 0 = 3 by decide), if_neg (show ¬ nI 0 = 5 by decide), if_pos (show ¬ nI 0 = 6 by decide), if_pos (show ¬ nI 0 = 7 by decide)] at e2
      refine ⟨fun r hr => ?_, fun e he => (by cases he)⟩
      cases hr
      refine ⟨y, e1.trans (e2.trans (n524 d y _ _ _ _ _)), y2, y3, y4, ?_, y7⟩
      rw [hE]
      exact does_cross hN hK369 (y5.trans (by rw [kn]; rfl))
    | false =>
    rw [if_neg (show ¬ false = true by decide)]
    cases h10 : isWd t k 10 with
    | true =>
      rw [if_pos rfl]
      have kn : kNd t k = 1 := by unfold kNd; rw [h9, if_neg (show ¬ false = true by decide), h10, if_pos rfl]
      obtain ⟨y, e1, y2, y3, y4, y5, y6, y7⟩ := mk (by unfold isNd; rw [h9, h10]; rfl)
      have e2 := tr_195_255 d y y3.1.1 (nI (5 - f)) 1 (nI K) (by intros; exact ik hK369) (by intros; exact ik hK369) (by intros; exact ik hK369) (by intros; exact ik hK369) (by intros; exact ik hK369) (by intros; exact ik hK369)
      rw [ic, y5, kn, if_neg (show ¬ ¬ nI 1 = 1 by decide)] at e2
      have hpl := m_places (d + 4) hN y3.1
      have e3 : val (195, d + 5, 0, [some (.ref 108), some (.int (nI (5 - f))), none, none, none, none], [], w) = val (195, d + 5, 269, [some (.ref 108), some (.int (nI (5 - f))), some (.int 1), some (.int (nI K)), none, none], [.int (b01 (decide ((nxt t T k).1 = 2) && pOk N (dgA t (nxt t T k).2.1) ((nxt t T k).2.2.1 - (nxt t T k).2.1) 0 0))], y) := by
        refine e1.trans (e2.trans ?_)
        refine (val_call (pc2 := 269) rfl rfl rfl rfl (y3.1.1.rc _) (Nat.le_of_ble_eq_true rfl) (Nat.le_of_ble_eq_true rfl) rfl hpl rfl).trans ?_
        rfl
      have e4 := e3.trans (tr_195_269 d y y3.1.1 _ _ _ _ (by intros; exact ik hK369))
      unfold pPl
      by_cases hh : (nxt t T k).1 = 2 ∧ pOk N (dgA t (nxt t T k).2.1) ((nxt t T k).2.2.1 - (nxt t T k).2.1) 0 0 = true
      · rw [if_pos hh]
        refine ⟨fun r hr => ?_, fun e he => (by cases he)⟩
        cases hr
        rw [decide_eq_true hh.1, hh.2, if_pos (show ¬ b01 (true && true) = 0 by decide), ic, y3.1.2.2.2.1.2.2.2 hh.1] at e4
        have f9 : Fr [(122, none)] y (sI y 122 K (nI (nxt t T k).2.2.2)) := (Fr.refl _ y).sI 122 _ _ rfl
        have hS9 := y3.fr f9 rfl rfl rfl rfl
        have g122 : gI (sI y 122 K (nI (nxt t T k).2.2.2)) 122 K = nI (nxt t T k).2.2.2 := gI_same _ _ _ _
        have l9 := y4.set (a := 122) (i := K) (nI (nxt t T k).2.2.2) (Nat.le_refl K)
        generalize sI y 122 K (nI (nxt t T k).2.2.2) = q at e4 f9 hS9 g122 l9
        obtain ⟨v, x1, x2, x3⟩ := m_nextS (d + 4) hS9.1
        obtain ⟨t1, t2, t3⟩ := y3.1.2.2.2.2.1.2.2.2.2.1 hh.1
        have hdg : ∀ i, i < (nxt t T k).2.2.1 - (nxt t T k).2.1 → 1 ≤ dgA t (nxt t T k).2.1 i ∧ dgA t (nxt t T k).2.1 i < 10 := fun i hi => ⟨pOk_pos _ _ _ hh.2 i (Nat.zero_le i) (by omega), (dgA_of (t := t) (q := (nxt t T k).2.1) (i := i) (t3 _ (by omega) (by omega))).2⟩
        have hP9 : (nxt t T k).2.2.2 < 10 ^ 9 := by
          rw [t2]
          have := dg10_lt (g := dgA t (nxt t T k).2.1) (m := (nxt t T k).2.2.1 - (nxt t T k).2.1) (fun i hi => (hdg i hi).2) t1
          omega
        have hD9 := does_places (w := v) (k := K) hN hK369 hP9 ((x2.i 121 K rfl).trans ((f9.i 121 K rfl).trans (y5.trans (by rw [kn]; rfl)))) ((x2.i 122 K rfl).trans g122)
        refine ⟨v, e4.trans ?_, (y2.trans (f9.mono rfl)).trans (x2.mono rfl), hS9.nx x2 x3, l9.trans (LoN.of x2 rfl K) (Nat.le_refl K), ?_, (x2.i 125 K rfl).trans ((f9.i 125 K rfl).trans y7)⟩
        · refine (val_call (pc2 := 293) rfl rfl rfl rfl (hS9.1.1.rc _) (Nat.le_of_ble_eq_true rfl) (Nat.le_of_ble_eq_true rfl) rfl x1 rfl).trans ?_
          exact (tr_195_293 d v _ _ _).trans (n524 d v _ _ _ _ _)
        · rw [hE]
          have e9 : twL N (hasD 9 (nxt t T k).2.2.2) N 0 = pLst N (dgA t (nxt t T k).2.1) ((nxt t T k).2.2.1 - (nxt t T k).2.1) 0 0 := by
            rw [t2, twL_congr (fun p => hasD_dg (g := dgA t (nxt t T k).2.1) (p := p) ((nxt t T k).2.2.1 - (nxt t T k).2.1) 9 hdg (by omega))]
            exact twL_pLst (m := (nxt t T k).2.2.1 - (nxt t T k).2.1) _ 0 0 (by omega) (Nat.zero_le N) hh.2 (fun j hj => absurd hj (Nat.not_lt_zero j))
          rw [e9] at hD9
          exact hD9
      · rw [if_neg hh]
        refine ⟨fun r hr => (by cases hr), fun e he => ?_⟩
        cases he
        have hb : (decide ((nxt t T k).1 = 2) && pOk N (dgA t (nxt t T k).2.1) ((nxt t T k).2.2.1 - (nxt t T k).2.1) 0 0) = false := by
          cases h1 : (decide ((nxt t T k).1 = 2) && pOk N (dgA t (nxt t T k).2.1) ((nxt t T k).2.2.1 - (nxt t T k).2.1) 0 0) with
          | false => rfl
          | true =>
            rw [Bool.and_eq_true] at h1
            exact absurd ⟨of_decide_eq_true h1.1, h1.2⟩ hh
        rw [hb, if_neg (show ¬ ¬ b01 false = 0 from fun g => g rfl)] at e4
        obtain ⟨v, x1, x2, x3⟩ := m_wrong (d + 4) y3.1
        refine ⟨nI K, v, e4.trans ?_, y2.trans (x2.mono rfl), x3, y4.trans (LoN.of x2 rfl K) (Nat.le_refl K)⟩
        refine (val_call (pc2 := 276) rfl rfl rfl rfl (y3.1.1.rc _) (Nat.le_of_ble_eq_true rfl) (Nat.le_of_ble_eq_true rfl) rfl x1 rfl).trans ?_
        exact (tr_195_276 d v _ _ _).trans (n524 d v _ _ _ _ _)
    | false =>
    rw [if_neg (show ¬ false = true by decide)]
    cases h11 : isWd t k 11 with
    | true =>
      rw [if_pos rfl]
      have kn : kNd t k = 2 := by unfold kNd; rw [h9, if_neg (show ¬ false = true by decide), h10, if_neg (show ¬ false = true by decide), h11, if_pos rfl]
      obtain ⟨y, e1, y2, y3, y4, y5, y6, y7⟩ := mk (by unfold isNd; rw [h9, h10, h11]; rfl)
      have e2 := tr_195_255 d y y3.1.1 (nI (5 - f)) 1 (nI K) (by intros; exact ik hK369) (by intros; exact ik hK369) (by intros; exact ik hK369) (by intros; exact ik hK369) (by intros; exact ik hK369) (by intros; exact ik hK369)
      rw [ic, y5, kn, if_pos (show ¬ nI 2 = 1 by decide), if_pos (show nI 2 = 2 by decide)] at e2
      rw [y3.1.2.2.1.2.1] at e2
      obtain ⟨b1, b2⟩ := m_two (x := nI (5 - f)) d hN false y3 hK369 (y5.trans (by rw [kn]; rfl)) y7
      refine ⟨fun r hr => ?_, fun e he => ?_⟩
      · obtain ⟨v, x1, x2, x3, x4, x5, x6⟩ := b1 r hr
        obtain ⟨g1, -, -⟩ := pTwo_ok y3.1.2.2.2.2.1 hr
        rw [g1, hE]
        exact ⟨v, e1.trans (e2.trans x1), y2.trans x2, x3, y4.trans x4 (Nat.le_refl K), x5, x6⟩
      · obtain ⟨v, x1, x2, x3, x4⟩ := b2 e he
        exact ⟨_, v, e1.trans (e2.trans x1), y2.trans x2, x3, y4.trans x4 (Nat.le_refl K)⟩
    | false =>
    rw [if_neg (show ¬ false = true by decide)]
    cases h12 : isWd t k 12 with
    | true =>
      rw [if_pos rfl]
      have kn : kNd t k = 3 := by unfold kNd; rw [h9, if_neg (show ¬ false = true by decide), h10, if_neg (show ¬ false = true by decide), h11, if_neg (show ¬ false = true by decide), h12, if_pos rfl]
      obtain ⟨y, e1, y2, y3, y4, y5, y6, y7⟩ := mk (by unfold isNd; rw [h9, h10, h11, h12]; rfl)
      have e2 := tr_195_255 d y y3.1.1 (nI (5 - f)) 1 (nI K) (by intros; exact ik hK369) (by intros; exact ik hK369) (by intros; exact ik hK369) (by intros; exact ik hK369) (by intros; exact ik hK369) (by intros; exact ik hK369)
      rw [ic, y5, kn, if_pos (show ¬ nI 3 = 1 by decide), if_neg (show ¬ nI 3 = 2 by decide), if_neg (show ¬ ¬ nI 3 = 3 by decide)] at e2
      rw [y3.1.2.2.1.2.1] at e2
      obtain ⟨b1, b2⟩ := m_two (x := nI (5 - f)) d hN true y3 hK369 (y5.trans (by rw [kn]; rfl)) y7
      refine ⟨fun r hr => ?_, fun e he => ?_⟩
      · obtain ⟨v, x1, x2, x3, x4, x5, x6⟩ := b1 r hr
        obtain ⟨g1, -, -⟩ := pTwo_ok y3.1.2.2.2.2.1 hr
        rw [g1, hE]
        exact ⟨v, e1.trans (e2.trans x1), y2.trans x2, x3, y4.trans x4 (Nat.le_refl K), x5, x6⟩
      · obtain ⟨v, x1, x2, x3, x4⟩ := b2 e he
        exact ⟨_, v, e1.trans (e2.trans x1), y2.trans x2, x3, y4.trans x4 (Nat.le_refl K)⟩
    | false =>
    rw [if_neg (show ¬ false = true by decide)]
    cases h13 : isWd t k 13 with
    | true =>
      rw [if_pos rfl]
      have kn : kNd t k = 4 := by unfold kNd; rw [h9, if_neg (show ¬ false = true by decide), h10, if_neg (show ¬ false = true by decide), h11, if_neg (show ¬ false = true by decide), h12, if_neg (show ¬ false = true by decide), h13, if_pos rfl]
      obtain ⟨y, e1, y2, y3, y4, y5, y6, y7⟩ := mk (by unfold isNd; rw [h9, h10, h11, h12, h13]; rfl)
      have e2 := tr_195_255 d y y3.1.1 (nI (5 - f)) 1 (nI K) (by intros; exact ik hK369) (by intros; exact ik hK369) (by intros; exact ik hK369) (by intros; exact ik hK369) (by intros; exact ik hK369) (by intros; exact ik hK369)
      rw [ic, y5, kn, if_pos (show ¬ nI 4 = 1 by decide), if_neg (show ¬ nI 4 = 2 by decide), if_pos (show ¬ nI 4 = 3 by decide), if_neg (show ¬ nI 4 = 5 by decide), if_pos (show ¬ nI 4 = 6 by decide), if_pos (show ¬ nI 4 = 7 by decide)] at e2
      refine ⟨fun r hr => ?_, fun e he => (by cases he)⟩
      cases hr
      refine ⟨y, e1.trans (e2.trans (n524 d y _ _ _ _ _)), y2, y3, y4, ?_, y7⟩
      rw [hE]
      exact does_hold hN hK369 (y5.trans (by rw [kn]; rfl))
    | false =>
    rw [if_neg (show ¬ false = true by decide)]
    cases h14 : isWd t k 14 with
    | true =>
      rw [if_pos rfl]
      have kn : kNd t k = 5 := by unfold kNd; rw [h9, if_neg (show ¬ false = true by decide), h10, if_neg (show ¬ false = true by decide), h11, if_neg (show ¬ false = true by decide), h12, if_neg (show ¬ false = true by decide), h13, if_neg (show ¬ false = true by decide), h14, if_pos rfl]
      obtain ⟨y, e1, y2, y3, y4, y5, y6, y7⟩ := mk (by unfold isNd; rw [h9, h10, h11, h12, h13, h14]; rfl)
      have e2 := tr_195_255 d y y3.1.1 (nI (5 - f)) 1 (nI K) (by intros; exact ik hK369) (by intros; exact ik hK369) (by intros; exact ik hK369) (by intros; exact ik hK369) (by intros; exact ik hK369) (by intros; exact ik hK369)
      rw [ic, y5, kn, if_pos (show ¬ nI 5 = 1 by decide), if_neg (show ¬ nI 5 = 2 by decide), if_pos (show ¬ nI 5 = 3 by decide), if_pos (show nI 5 = 5 by decide)] at e2
      rw [n_succ, show 5 - f + 1 = 6 - f by omega] at e2
      obtain ⟨b1, b2⟩ := hP y (c + 1) (nxt t T k) (d + 4) (by omega) y3 (by omega)
      rw [hE] at b1 b2
      cases hp : pCh N t T f (c + 1) (nxt t T k) with
      | error er =>
        refine ⟨fun r hr => (by cases hr), fun e he => ?_⟩
        cases he
        obtain ⟨x', u, u1, u2, u3, u4⟩ := b2 er hp
        have hWu := u2.fix rfl y3.1.1
        refine ⟨nI K, sI u 124 K x', e1.trans (e2.trans ?_), (y2.trans u2).sI 124 _ _ rfl, (gI_ne _ _ _ _ (by decide)).trans u3, (y4.trans u4 (by omega)).set _ (Nat.le_refl K)⟩
        refine (val_call (pc2 := 432) rfl rfl rfl rfl (y3.1.1.rc _) (Nat.le_of_ble_eq_true rfl) (Nat.le_of_ble_eq_true rfl) rfl u1 rfl).trans ?_
        refine (tr_195_432 d u hWu _ _ _ _ (ik hK369)).trans ?_
        rw [ic]
        exact n524 d _ _ _ _ _ _
      | ok s =>
        refine ⟨fun r hr => ?_, fun e he => (by cases he)⟩
        cases hr
        obtain ⟨u, u1, u2, u3, u4, u5, u6⟩ := b1 s hp
        have f9 : Fr [(124, none)] u (sI u 124 K (nI (K + 1))) := (Fr.refl _ u).sI 124 _ _ rfl
        have hD : DOES (sI u 124 K (nI (K + 1))) N (K + 1) (41 * m + s.2.1) s.1 := u5.agr ⟨fun i hi _ => ⟨gI_ne _ _ _ _ (by decide), gI_ne _ _ _ _ (by decide), gI_ne _ _ _ _ (by decide), gI_nk _ _ _ (by omega)⟩, fun i _ _ => gI_ne _ _ _ _ (by decide)⟩
        refine ⟨sI u 124 K (nI (K + 1)), e1.trans (e2.trans ?_), (y2.trans u2).trans (f9.mono rfl), u3.fr f9 rfl rfl rfl rfl, (y4.trans u4 (by omega)).set _ (Nat.le_refl K), does_twice hN hK369 ((f9.i 121 K rfl).trans ((u4 K (by omega)).1.trans (y5.trans (by rw [kn]; rfl)))) (gI_same _ _ _ _) hD, (f9.i 125 K rfl).trans ((u4 K (by omega)).2.2.2.2.trans y7)⟩
        refine (val_call (pc2 := 432) rfl rfl rfl rfl (y3.1.1.rc _) (Nat.le_of_ble_eq_true rfl) (Nat.le_of_ble_eq_true rfl) rfl u1 rfl).trans ?_
        refine (tr_195_432 d u u3.1.1 _ _ _ _ (ik hK369)).trans ?_
        rw [ic]
        exact n524 d _ _ _ _ _ _
    | false =>
    rw [if_neg (show ¬ false = true by decide)]
    cases h15 : isWd t k 15 with
    | true =>
      rw [if_pos rfl]
      have kn : kNd t k = 6 := by unfold kNd; rw [h9, if_neg (show ¬ false = true by decide), h10, if_neg (show ¬ false = true by decide), h11, if_neg (show ¬ false = true by decide), h12, if_neg (show ¬ false = true by decide), h13, if_neg (show ¬ false = true by decide), h14, if_neg (show ¬ false = true by decide), h15, if_pos rfl]
      obtain ⟨y, e1, y2, y3, y4, y5, y6, y7⟩ := mk (by unfold isNd; rw [h9, h10, h11, h12, h13, h14, h15]; rfl)
      have e2 := tr_195_255 d y y3.1.1 (nI (5 - f)) 1 (nI K) (by intros; exact ik hK369) (by intros; exact ik hK369) (by intros; exact ik hK369) (by intros; exact ik hK369) (by intros; exact ik hK369) (by intros; exact ik hK369)
      rw [ic, y5, kn, if_pos (show ¬ nI 6 = 1 by decide), if_neg (show ¬ nI 6 = 2 by decide), if_pos (show ¬ nI 6 = 3 by decide), if_neg (show ¬ nI 6 = 5 by decide), if_neg (show ¬ ¬ nI 6 = 6 by decide)] at e2
      rw [n_succ, show 5 - f + 1 = 6 - f by omega] at e2
      obtain ⟨b1, b2⟩ := hP y (c + 1) (nxt t T k) (d + 4) (by omega) y3 (by omega)
      rw [hE] at b1 b2
      cases hp : pCh N t T f (c + 1) (nxt t T k) with
      | error er =>
        refine ⟨fun r hr => (by cases hr), fun e he => ?_⟩
        cases he
        obtain ⟨x', u, u1, u2, u3, u4⟩ := b2 er hp
        have hWu := u2.fix rfl y3.1.1
        refine ⟨nI K, sI u 124 K x', e1.trans (e2.trans ?_), (y2.trans u2).sI 124 _ _ rfl, (gI_ne _ _ _ _ (by decide)).trans u3, (y4.trans u4 (by omega)).set _ (Nat.le_refl K)⟩
        refine (val_call (pc2 := 432) rfl rfl rfl rfl (y3.1.1.rc _) (Nat.le_of_ble_eq_true rfl) (Nat.le_of_ble_eq_true rfl) rfl u1 rfl).trans ?_
        refine (tr_195_432 d u hWu _ _ _ _ (ik hK369)).trans ?_
        rw [ic]
        exact n524 d _ _ _ _ _ _
      | ok s =>
        refine ⟨fun r hr => ?_, fun e he => (by cases he)⟩
        cases hr
        obtain ⟨u, u1, u2, u3, u4, u5, u6⟩ := b1 s hp
        have f9 : Fr [(124, none)] u (sI u 124 K (nI (K + 1))) := (Fr.refl _ u).sI 124 _ _ rfl
        have hD : DOES (sI u 124 K (nI (K + 1))) N (K + 1) (41 * m + s.2.1) s.1 := u5.agr ⟨fun i hi _ => ⟨gI_ne _ _ _ _ (by decide), gI_ne _ _ _ _ (by decide), gI_ne _ _ _ _ (by decide), gI_nk _ _ _ (by omega)⟩, fun i _ _ => gI_ne _ _ _ _ (by decide)⟩
        refine ⟨sI u 124 K (nI (K + 1)), e1.trans (e2.trans ?_), (y2.trans u2).trans (f9.mono rfl), u3.fr f9 rfl rfl rfl rfl, (y4.trans u4 (by omega)).set _ (Nat.le_refl K), does_undo hN hK369 ((f9.i 121 K rfl).trans ((u4 K (by omega)).1.trans (y5.trans (by rw [kn]; rfl)))) (gI_same _ _ _ _) hD, (f9.i 125 K rfl).trans ((u4 K (by omega)).2.2.2.2.trans y7)⟩
        refine (val_call (pc2 := 432) rfl rfl rfl rfl (y3.1.1.rc _) (Nat.le_of_ble_eq_true rfl) (Nat.le_of_ble_eq_true rfl) rfl u1 rfl).trans ?_
        refine (tr_195_432 d u u3.1.1 _ _ _ _ (ik hK369)).trans ?_
        rw [ic]
        exact n524 d _ _ _ _ _ _
    | false =>
    rw [if_neg (show ¬ false = true by decide)]
    cases hs : isSg t k 40 with
    | true =>
      rw [if_pos rfl]
      have kn : kNd t k = 7 := by unfold kNd; rw [h9, if_neg (show ¬ false = true by decide), h10, if_neg (show ¬ false = true by decide), h11, if_neg (show ¬ false = true by decide), h12, if_neg (show ¬ false = true by decide), h13, if_neg (show ¬ false = true by decide), h14, if_neg (show ¬ false = true by decide), h15, if_neg (show ¬ false = true by decide)]
      obtain ⟨y, e1, y2, y3, y4, y5, y6, y7⟩ := mk (by unfold isNd; rw [h9, h10, h11, h12, h13, h14, h15, hs]; rfl)
      have e2 := tr_195_255 d y y3.1.1 (nI (5 - f)) 1 (nI K) (by intros; exact ik hK369) (by intros; exact ik hK369) (by intros; exact ik hK369) (by intros; exact ik hK369) (by intros; exact ik hK369) (by intros; exact ik hK369)
      rw [ic, y5, kn, if_pos (show ¬ nI 7 = 1 by decide), if_neg (show ¬ nI 7 = 2 by decide), if_pos (show ¬ nI 7 = 3 by decide), if_neg (show ¬ nI 7 = 5 by decide), if_pos (show ¬ nI 7 = 6 by decide), if_neg (show ¬ ¬ nI 7 = 7 by decide)] at e2
      rw [n_succ, show 5 - f + 1 = 6 - f by omega] at e2
      obtain ⟨b1, b2⟩ := hP y (c + 1) (nxt t T k) (d + 4) (by omega) y3 (by omega)
      rw [hE] at b1 b2
      cases hp : pCh N t T f (c + 1) (nxt t T k) with
      | error er =>
        refine ⟨fun r hr => (by cases hr), fun e he => ?_⟩
        cases he
        obtain ⟨x', u, u1, u2, u3, u4⟩ := b2 er hp
        have hWu := u2.fix rfl y3.1.1
        have h31 : er < 2 ^ 31 := by have := pCh_err f _ _ _ y3.1.2.2.2.2.1 hp; have := y3.1.2.2.1.2.2.1; omega
        have f9 : Fr FNd u (sI u 124 K x') := (Fr.refl _ u).sI 124 _ _ rfl
        have hW9 := f9.fix rfl hWu
        have g9 : gI (sI u 124 K x') 108 10 = nI er := (gI_ne _ _ _ _ (by decide)).trans u3
        refine ⟨nI K, sI u 124 K x', e1.trans (e2.trans ?_), (y2.trans u2).trans f9, g9, (y4.trans u4 (by omega)).set _ (Nat.le_refl K)⟩
        refine (val_call (pc2 := 463) rfl rfl rfl rfl (y3.1.1.rc _) (Nat.le_of_ble_eq_true rfl) (Nat.le_of_ble_eq_true rfl) rfl u1 rfl).trans ?_
        refine (tr_195_463 d u hWu _ _ _ _ (ik hK369)).trans ?_
        rw [ic]
        refine (tr_195_473 d _ _ _ _ _ _).trans ?_
        refine (val_call (pc2 := 477) rfl rfl rfl rfl (hW9.rc _) (Nat.le_of_ble_eq_true rfl) (Nat.le_of_ble_eq_true rfl) rfl (m_bad (d + 4) hW9 g9 h31) rfl).trans ?_
        refine (tr_195_477 d _ _ _ _ _ _ _).trans ?_
        rw [if_pos (show (0 : Int32) = 0 from rfl)]
        refine (val_call (pc2 := 524) rfl rfl rfl rfl (hW9.rc _) (Nat.le_of_ble_eq_true rfl) (Nat.le_of_ble_eq_true rfl) rfl (m_signBad (d + 3) hW9 g9 h31 41) rfl).trans ?_
        exact n524 d _ _ _ _ _ _
      | ok s =>
        obtain ⟨u, u1, u2, u3, u4, u5, u6⟩ := b1 s hp
        obtain ⟨s1, s2, s3, s4⟩ := pCh_ok f _ _ _ y3.1.2.2.2.2.1 hp
        have f9 : Fr [(124, none)] u (sI u 124 K (nI (K + 1))) := (Fr.refl _ u).sI 124 _ _ rfl
        have hD : DOES (sI u 124 K (nI (K + 1))) N (K + 1) (41 * m + s.2.1) s.1 := u5.agr ⟨fun i hi _ => ⟨gI_ne _ _ _ _ (by decide), gI_ne _ _ _ _ (by decide), gI_ne _ _ _ _ (by decide), gI_nk _ _ _ (by omega)⟩, fun i _ _ => gI_ne _ _ _ _ (by decide)⟩
        have hS9 := u3.fr f9 rfl rfl rfl rfl
        have g125 := (f9.i 125 (K + 1) rfl).trans u6
        have g124 : gI (sI u 124 K (nI (K + 1))) 124 K = nI (K + 1) := gI_same _ _ _ _
        have g121 := (f9.i 121 K rfl).trans ((u4 K (by omega)).1.trans (y5.trans (show nI (kNd t k) = 7 by rw [kn]; rfl)))
        have g7 := (f9.i 125 K rfl).trans ((u4 K (by omega)).2.2.2.2.trans y7)
        have l9 : LoN w (sI u 124 K (nI (K + 1))) K := (y4.trans u4 (by omega)).set _ (Nat.le_refl K)
        have e3 : val (195, d + 5, 0, [some (.ref 108), some (.int (nI (5 - f))), none, none, none, none], [], w) = val (195, d + 5, 473, [some (.ref 108), some (.int (nI (5 - f))), some (.int 1), some (.int (nI K)), some (.int (nI (K + 1))), none], [], sI u 124 K (nI (K + 1))) := by
          refine e1.trans (e2.trans ?_)
          refine (val_call (pc2 := 463) rfl rfl rfl rfl (y3.1.1.rc _) (Nat.le_of_ble_eq_true rfl) (Nat.le_of_ble_eq_true rfl) rfl u1 rfl).trans ?_
          refine (tr_195_463 d u u3.1.1 _ _ _ _ (ik hK369)).trans ?_
          rw [ic]
        have fall : Fr FNd w (sI u 124 K (nI (K + 1))) := (y2.trans u2).trans (f9.mono rfl)
        generalize sI u 124 K (nI (K + 1)) = q at f9 hD hS9 g125 g124 g121 g7 l9 e3 fall
        dsimp only
        have es : s = (s.1, s.2.1, s.2.2) := rfl
        rw [es, pSm_id 40 s.1 s.2.1 s.2.2, e3]
        obtain ⟨c1, c2⟩ := m_someL hN (by omega) hP d (by omega) (K := K) 40 q s.2.1 (K + 1) s.1 s.2.2 none (by omega) hS9 s2 hD g125
        cases hq : pSm t T (pCh N t T f) 40 ((fun x => x), s.2.1, s.2.2) with
        | error er =>
          dsimp only
          refine ⟨fun r hr => (by cases hr), fun e he => ?_⟩
          cases he
          obtain ⟨v, v1, v2, v3, v4⟩ := c2 er hq
          exact ⟨_, v, v1, fall.trans v2, v3, l9.trans v4 (by omega)⟩
        | ok r0 =>
          dsimp only
          refine ⟨fun r hr => ?_, fun e he => (by cases he)⟩
          cases hr
          obtain ⟨v, v1, v2, v3, v4, v5⟩ := c1 r0 hq
          obtain ⟨l1, -, -, l4, l5⟩ := v4 K (Nat.lt_succ_self K)
          exact ⟨v, v1, fall.trans v2, v3, l9.trans v4 (by omega), does_some hN hK369 (l1.trans g121) (l4.trans g124) v5, l5.trans g7⟩
    | false =>
      rw [if_neg (show ¬ false = true by decide)]
      refine ⟨fun r hr => (by cases hr), fun e he => ?_⟩
      cases he
      obtain ⟨v, x1, x2, x3⟩ := m_noNode d hS (nI (5 - f)) (Or.inl (by unfold isNd; rw [h9, h10, h11, h12, h13, h14, h15, hs]; rfl))
      exact ⟨0, v, x1, x2.mono rfl, x3, LoN.of x2 rfl _⟩
end MN4
