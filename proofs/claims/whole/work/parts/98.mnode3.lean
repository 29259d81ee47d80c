/-! THE REFERENCE'S nodes, and the changes that they are -/
theorem pSm_id {t : Nat → Int32} {T : Nat} {P : Nat → Tk → Except Nat ChR} : ∀ n (f : Nat → Nat) (c : Nat) (k : Tk), pSm t T P n (f, c, k) = match pSm t T P n ((fun x => x), c, k) with | .error e => .error e | .ok r => .ok ((fun x => f (r.1 x)), r.2.1, r.2.2)
  | 0, f, c, k => by
    unfold pSm
    dsimp only
    split <;> rfl
  | n + 1, f, c, k => by
    unfold pSm
    dsimp only
    by_cases h : isSg t k 44 = true
    · rw [if_pos h, if_pos h]
      cases hp : P c (nxt t T k) with
      | error e => rfl
      | ok s =>
        dsimp only
        rw [pSm_id n (fun x => f (s.1 x)) s.2.1 s.2.2, pSm_id n (fun x => s.1 x) s.2.1 s.2.2]
        cases pSm t T P n ((fun x => x), s.2.1, s.2.2) with
        | error e => rfl
        | ok r => rfl
    · rw [if_neg h, if_neg h]
      split <;> rfl
theorem n524 (d : Nat) (w : Wd) (l1 l2 l3 : Int32) (l4 l5 : Option Value) : val (195, d + 5, 524, [some (.ref 108), some (.int l1), some (.int l2), some (.int l3), l4, l5], [], w) = some (some (.int l3), w) := by
  refine (val_g (c2 := (195, d + 5, 525, [some (.ref 108), some (.int l1), some (.int l2), some (.int l3), l4, l5], [.int l3], w)) rfl).trans ?_
  exact val_r rfl
section MN3
variable {T N : Nat} {t : Nat → Int32} {m : Nat}
theorem m_two (d : Nat) (hN : N ≤ 8) {y : Wd} {k : Tk} {c K : Nat} (s : Bool) (hS : Sn y T N t k c m) (hK : K < 369) (h121 : gI y 121 K = nI (if s = true then 3 else 2)) (h125 : gI y 125 K = -9) (x : Int32) :
    (∀ r, pTwo N t T s c k = .ok r → ∃ v, val (195, d + 5, 327, [some (.ref 108), some (.int x), some (.int 1), some (.int (nI K)), none, none], [.int (nI N), .int 1, .ref 108, .int (nI K), .ref 122], y) = some (some (.int (nI K)), v) ∧ Fr FNd y v ∧ Sn v T N t r.2.2 c m ∧ LoN y v K ∧ DOES v N K (K + 1) r.1 ∧ gI v 125 K = -9) ∧
    (∀ e, pTwo N t T s c k = .error e → ∃ v, val (195, d + 5, 327, [some (.ref 108), some (.int x), some (.int 1), some (.int (nI K)), none, none], [.int (nI N), .int 1, .ref 108, .int (nI K), .ref 122], y) = some (some (.int (nI K)), v) ∧ Fr FNd y v ∧ gI v 108 10 = nI e ∧ LoN y v K) := by
  have h0 := hS.1
  have ic : (nI K).toNatClampNeg = K := nI_clamp (by omega)
  obtain ⟨n1, n2⟩ := m_number (d + 3) h0 (a := 1) (b := N) (by omega) (by omega)
  have hT6 := h0.2.2.1.2.2.1
  -- behind the first number
  have p1 : ∀ (v : Wd) (a : Nat), Fix v → val (192, d + 4, 0, [some (.ref 108), some (.int (nI 1)), some (.int (nI N)), none], [], y) = some (some (.int (nI a)), v) → val (195, d + 5, 327, [some (.ref 108), some (.int x), some (.int 1), some (.int (nI K)), none, none], [.int (nI N), .int 1, .ref 108, .int (nI K), .ref 122], y) = val (195, d + 5, 332, [some (.ref 108), some (.int x), some (.int 1), some (.int (nI K)), none, none], [.ref 108], sI v 122 K (nI a)) := by
    intro v a hv e
    refine (val_call (pc2 := 330) rfl rfl rfl rfl (h0.1.rc _) (Nat.le_of_ble_eq_true rfl) (Nat.le_of_ble_eq_true rfl) rfl e rfl).trans ?_
    refine (tr_195_330 d v hv _ _ _ _ _ (ik hK)).trans ?_
    rw [ic]
  -- the second number, all bad
  have p3 : ∀ (v : Wd) (e : Nat), Fix v → gI v 108 10 = nI e → e < 2 ^ 31 → gI v 108 0 = nI N → ∃ u, val (195, d + 5, 386, [some (.ref 108), some (.int x), some (.int 1), some (.int (nI K)), none, none], [], v) = some (some (.int (nI K)), u) ∧ u = sI v 123 K (nI 1) := by
    intro v e hv he h31 hn
    refine ⟨_, ?_, rfl⟩
    refine (tr_195_386 d v hv _ _ _).trans ?_
    rw [hn]
    refine (val_call (pc2 := 400) rfl rfl rfl rfl (hv.rc _) (Nat.le_of_ble_eq_true rfl) (Nat.le_of_ble_eq_true rfl) rfl (m_numberBad (d + 3) hv he h31 1 (nI N)) rfl).trans ?_
    refine (tr_195_400 d v hv _ _ _ _ _ (ik hK)).trans ?_
    rw [ic]
    exact n524 d _ _ _ _ _ _
  unfold pTwo
  by_cases hI : InR k 1 N
  · rw [if_pos hI]
    obtain ⟨v, x1, x2, x3⟩ := n1 hI
    have e1 := p1 v k.2.2.2 x3.1 x1
    have f2 : Fr FNd y (sI v 122 K (nI k.2.2.2)) := (x2.mono rfl).sI 122 _ _ rfl
    have fv : Fr [(122, none)] v (sI v 122 K (nI k.2.2.2)) := (Fr.refl _ v).sI 122 _ _ rfl
    have hS2 : Sm (sI v 122 K (nI k.2.2.2)) T N t (nxt t T k) := x3.fr fv rfl rfl rfl
    have l2 : LoN y (sI v 122 K (nI k.2.2.2)) K := (LoN.of x2 rfl K).set _ (Nat.le_refl K)
    have g121 : gI (sI v 122 K (nI k.2.2.2)) 121 K = nI (if s = true then 3 else 2) := (fv.i 121 K rfl).trans ((x2.i 121 K rfl).trans h121)
    have g125 : gI (sI v 122 K (nI k.2.2.2)) 125 K = -9 := (fv.i 125 K rfl).trans ((x2.i 125 K rfl).trans h125)
    have g122 : gI (sI v 122 K (nI k.2.2.2)) 122 K = nI k.2.2.2 := gI_same _ _ _ _
    have hSn2 : Sn (sI v 122 K (nI k.2.2.2)) T N t (nxt t T k) c m := ⟨hS2, (fv.i 108 20 rfl).trans ((x2.i 108 20 rfl).trans hS.2.1), (fv.i 108 11 rfl).trans ((x2.i 108 11 rfl).trans hS.2.2.1), hS.2.2.2⟩
    generalize sI v 122 K (nI k.2.2.2) = z at e1 f2 hS2 l2 g121 g125 g122 hSn2
    have hW2 := hS2.1
    have hn2 := hS2.2.2.1.2.1
    have e2 : val (195, d + 5, 327, [some (.ref 108), some (.int x), some (.int 1), some (.int (nI K)), none, none], [.int (nI N), .int 1, .ref 108, .int (nI K), .ref 122], y) = val (195, d + 5, 335, [some (.ref 108), some (.int x), some (.int 1), some (.int (nI K)), none, none], [.int 1], z) := by
      refine e1.trans ?_
      refine (val_call (pc2 := 335) rfl rfl rfl rfl (hW2.rc _) (Nat.le_of_ble_eq_true rfl) (Nat.le_of_ble_eq_true rfl) rfl (m_good (d + 4) hS2) rfl).trans ?_
      rfl
    have e3 := e2.trans (tr_195_335 d z hW2 x 1 (nI K) 1 (by intros; exact ik hK) (by intros; exact ik hK) (by intros; exact ik hK))
    rw [if_neg (show ¬ (1 : Int32) = 0 by decide), ic, g121, g122, hS2.2.2.2.1.1] at e3
    have hv1 := hI.2.2
    obtain ⟨q1, q2⟩ := m_number (d + 3) hS2 (a := 1) (b := N) (by omega) (by omega)
    -- the second number, asked in a good state
    have go386 : val (195, d + 5, 386, [some (.ref 108), some (.int x), some (.int 1), some (.int (nI K)), none, none], [], z) = val (195, d + 5, 397, [some (.ref 108), some (.int x), some (.int 1), some (.int (nI K)), none, none], [.int (nI N), .int 1, .ref 108, .int (nI K), .ref 123], z) := by
      refine (tr_195_386 d z hW2 _ _ _).trans ?_
      rw [hn2]
    have fail386 : ¬ InR (nxt t T k) 1 N → ∃ u, val (195, d + 5, 386, [some (.ref 108), some (.int x), some (.int 1), some (.int (nI K)), none, none], [], z) = some (some (.int (nI K)), u) ∧ Fr FNd y u ∧ gI u 108 10 = nI (nxt t T k).2.1 ∧ LoN y u K := by
      intro hno
      obtain ⟨u, u1, u2, u3⟩ := q2 hno
      have hWu := u2.fix rfl hW2
      refine ⟨sI u 123 K (nI 1), go386.trans ?_, (f2.trans (u2.mono rfl)).sI 123 _ _ rfl, (gI_ne _ _ _ _ (by decide)).trans u3, (l2.trans (LoN.of u2 rfl K) (Nat.le_refl K)).set _ (Nat.le_refl K)⟩
      refine (val_call (pc2 := 400) rfl rfl rfl rfl (hW2.rc _) (Nat.le_of_ble_eq_true rfl) (Nat.le_of_ble_eq_true rfl) rfl u1 rfl).trans ?_
      refine (tr_195_400 d u hWu _ _ _ _ _ (ik hK)).trans ?_
      rw [ic]
      exact n524 d _ _ _ _ _ _
    by_cases h2 : (nxt t T k).1 = 2
    · have hv2 := hS2.2.2.2.2.1.val h2
      rw [if_neg (fun h => h (by rw [h2]; rfl)), hS2.2.2.2.1.2.2.2 h2] at e3
      by_cases hrel : (if s = true then k.2.2.2 < (nxt t T k).2.2.2 else (nxt t T k).2.2.2 ≠ k.2.2.2)
      · -- in order
        have e4 : val (195, d + 5, 327, [some (.ref 108), some (.int x), some (.int 1), some (.int (nI K)), none, none], [.int (nI N), .int 1, .ref 108, .int (nI K), .ref 122], y) = val (195, d + 5, 386, [some (.ref 108), some (.int x), some (.int 1), some (.int (nI K)), none, none], [], z) := by
          refine e3.trans ?_
          cases s with
          | true =>
            have hrel' : k.2.2.2 < (nxt t T k).2.2.2 := hrel
            rw [if_neg (n_ne (by omega) hv2 (by omega)), if_neg (show ¬ ¬ nI (if true = true then 3 else 2) = 3 from fun h => h rfl), if_pos (n_le (by omega) hv2)]
          | false =>
            have hrel' : (nxt t T k).2.2.2 ≠ k.2.2.2 := hrel
            rw [if_neg (n_ne hrel' hv2 (by omega)), if_pos (show ¬ nI (if false = true then 3 else 2) = 3 by decide)]
        by_cases hI2 : InR (nxt t T k) 1 N
        · have hTw : Two s (nxt t T k) N k.2.2.2 := ⟨hI2.1, hI2.2.1, hI2.2.2, hrel⟩
          rw [if_pos hTw]
          refine ⟨fun r hr => ?_, fun e he => (by cases he)⟩
          cases hr
          obtain ⟨u, u1, u2, u3⟩ := q1 hI2
          have fz : Fr [(123, none)] u (sI u 123 K (nI (nxt t T k).2.2.2)) := (Fr.refl _ u).sI 123 _ _ rfl
          have i1 := hI.2.1
          have i2 := hI2.2.1
          have i3 := hI2.2.2
          have k121 : gI (sI u 123 K (nI (nxt t T k).2.2.2)) 121 K = nI (if s = true then 3 else 2) := (fz.i 121 K rfl).trans ((u2.i 121 K rfl).trans g121)
          have k122 : gI (sI u 123 K (nI (nxt t T k).2.2.2)) 122 K = nI (k.2.2.2 - 1 + 1) := by
            rw [show k.2.2.2 - 1 + 1 = k.2.2.2 by omega]
            exact (fz.i 122 K rfl).trans ((u2.i 122 K rfl).trans g122)
          have k123 : gI (sI u 123 K (nI (nxt t T k).2.2.2)) 123 K = nI ((nxt t T k).2.2.2 - 1 + 1) := by
            rw [show (nxt t T k).2.2.2 - 1 + 1 = (nxt t T k).2.2.2 by omega]
            exact gI_same _ _ _ _
          refine ⟨_, e4.trans (go386.trans ?_), (f2.trans (u2.mono rfl)).sI 123 _ _ rfl, ⟨u3.fr fz rfl rfl rfl, (fz.i 108 20 rfl).trans ((u2.i 108 20 rfl).trans hSn2.2.1), (fz.i 108 11 rfl).trans ((u2.i 108 11 rfl).trans hSn2.2.2.1), hS.2.2.2⟩, (l2.trans (LoN.of u2 rfl K) (Nat.le_refl K)).set _ (Nat.le_refl K), ?_, (fz.i 125 K rfl).trans ((u2.i 125 K rfl).trans g125)⟩
          · refine (val_call (pc2 := 400) rfl rfl rfl rfl (hW2.rc _) (Nat.le_of_ble_eq_true rfl) (Nat.le_of_ble_eq_true rfl) rfl u1 rfl).trans ?_
            refine (tr_195_400 d u u3.1 _ _ _ _ _ (ik hK)).trans ?_
            rw [ic]
            exact n524 d _ _ _ _ _ _
          · cases s with
            | true =>
              rw [if_pos rfl]
              exact does_turn hN hK (by omega) (by omega) k121 k122 k123
            | false =>
              rw [if_neg (by decide)]
              exact does_jump hN hK (by omega) (by omega) k121 k122 k123
        · have hTw : ¬ Two s (nxt t T k) N k.2.2.2 := fun h => hI2 ⟨h.1, h.2.1, h.2.2.1⟩
          rw [if_neg hTw]
          refine ⟨fun r hr => (by cases hr), fun e he => ?_⟩
          cases he
          obtain ⟨u, u1, u2⟩ := fail386 hI2
          exact ⟨u, e4.trans u1, u2⟩
      · -- out of order
        have hTw : ¬ Two s (nxt t T k) N k.2.2.2 := fun h => hrel h.2.2.2
        rw [if_neg hTw]
        refine ⟨fun r hr => (by cases hr), fun e he => ?_⟩
        cases he
        have e4 : val (195, d + 5, 327, [some (.ref 108), some (.int x), some (.int 1), some (.int (nI K)), none, none], [.int (nI N), .int 1, .ref 108, .int (nI K), .ref 122], y) = val (195, d + 5, 383, [some (.ref 108), some (.int x), some (.int 1), some (.int (nI K)), none, none], [.ref 108], z) := by
          refine e3.trans ?_
          by_cases heq : (nxt t T k).2.2.2 = k.2.2.2
          · rw [if_pos (by rw [heq])]
          · rw [if_neg (n_ne heq hv2 (by omega))]
            cases s with
            | true =>
              have hrel' : ¬ k.2.2.2 < (nxt t T k).2.2.2 := hrel
              rw [if_neg (show ¬ ¬ nI (if true = true then 3 else 2) = 3 from fun h => h rfl), if_neg (n_nle (by omega) (by omega))]
            | false => exact absurd heq (fun h => hrel h)
        obtain ⟨u, u1, u2, u3⟩ := m_wrong (d + 4) hS2
        have hWu := u2.fix rfl hW2
        obtain ⟨q, q3, q4⟩ := p3 u _ hWu u3 (by have := hS2.2.2.2.2.1.fr; omega) ((u2.i 108 0 rfl).trans hn2)
        refine ⟨q, e4.trans ?_, ?_, ?_, ?_⟩
        · refine (val_call (pc2 := 386) rfl rfl rfl rfl (hW2.rc _) (Nat.le_of_ble_eq_true rfl) (Nat.le_of_ble_eq_true rfl) rfl u1 rfl).trans ?_
          exact q3
        · rw [q4]; exact (f2.trans (u2.mono rfl)).sI 123 _ _ rfl
        · rw [q4]; exact (gI_ne _ _ _ _ (by decide)).trans u3
        · rw [q4]; exact (l2.trans (LoN.of u2 rfl K) (Nat.le_refl K)).set _ (Nat.le_refl K)
    · have hTw : ¬ Two s (nxt t T k) N k.2.2.2 := fun h => h2 h.1
      rw [if_neg hTw]
      rw [if_pos (show ¬ nI (nxt t T k).1 = 2 from n_ne (b := 2) h2 (by have := hS2.2.2.2.2.1.1; omega) (by omega))] at e3
      refine ⟨fun r hr => (by cases hr), fun e he => ?_⟩
      cases he
      obtain ⟨u, u1, u2⟩ := fail386 (fun h => h2 h.1)
      exact ⟨u, e3.trans u1, u2⟩
  · rw [if_neg hI]
    refine ⟨fun r hr => (by cases hr), fun e he => ?_⟩
    cases he
    obtain ⟨v, x1, x2, x3⟩ := n2 hI
    have hWv := x2.fix rfl h0.1
    have e1 := p1 v 1 hWv x1
    have h31 : k.2.1 < 2 ^ 31 := by have := h0.2.2.2.2.1.fr; omega
    have f2 : Fr FNd y (sI v 122 K (nI 1)) := (x2.mono rfl).sI 122 _ _ rfl
    have hW2 := f2.fix rfl h0.1
    have l2 : LoN y (sI v 122 K (nI 1)) K := (LoN.of x2 rfl K).set _ (Nat.le_refl K)
    have g10 : gI (sI v 122 K (nI 1)) 108 10 = nI k.2.1 := (gI_ne _ _ _ _ (by decide)).trans x3
    have hn2 : gI (sI v 122 K (nI 1)) 108 0 = nI N := (gI_ne _ _ _ _ (by decide)).trans ((x2.i 108 0 rfl).trans h0.2.2.1.2.1)
    generalize sI v 122 K (nI 1) = z at e1 f2 hW2 l2 g10 hn2
    obtain ⟨q, q3, q4⟩ := p3 z _ hW2 g10 h31 hn2
    refine ⟨q, e1.trans ?_, ?_, ?_, ?_⟩
    · refine (val_call (pc2 := 335) rfl rfl rfl rfl (hW2.rc _) (Nat.le_of_ble_eq_true rfl) (Nat.le_of_ble_eq_true rfl) rfl (m_bad (d + 4) hW2 g10 h31) rfl).trans ?_
      refine (tr_195_335 d z hW2 x 1 (nI K) 0 (fun h => absurd rfl h) (fun h => absurd rfl h) (fun h => absurd rfl h)).trans ?_
      rw [if_pos (show (0 : Int32) = 0 from rfl)]
      exact q3
    · rw [q4]; exact f2.sI 123 _ _ rfl
    · rw [q4]; exact (gI_ne _ _ _ _ (by decide)).trans g10
    · rw [q4]; exact l2.set _ (Nat.le_refl K)
def NdP (T N : Nat) (t : Nat → Int32) (m f : Nat) : Prop := ∀ (w : Wd) (c : Nat) (k : Tk) (D : Nat), f + 5 ≤ D → Sn w T N t k c m → c ≤ 40 →
    (∀ r, pCh N t T f c k = .ok r → ∃ v, val (195, D, 0, [some (.ref 108), some (.int (nI (6 - f))), none, none, none, none], [], w) = some (some (.int (nI (41 * m + c))), v) ∧ Fr FNd w v ∧ Sn v T N t r.2.2 r.2.1 m ∧ LoN w v (41 * m + c) ∧ DOES v N (41 * m + c) (41 * m + r.2.1) r.1 ∧ gI v 125 (41 * m + c) = -9) ∧
    (∀ e, pCh N t T f c k = .error e → ∃ x v, val (195, D, 0, [some (.ref 108), some (.int (nI (6 - f))), none, none, none, none], [], w) = some (some (.int x), v) ∧ Fr FNd w v ∧ gI v 108 10 = nI e ∧ LoN w v (41 * m + c))
theorem DOES.set125 {w : Wd} {k e : Nat} {c : Nat → Nat} (h : DOES w N k e c) (x : Int32) : DOES (sI w 125 k x) N k e c := h.agr ⟨fun i _ _ => ⟨gI_ne _ _ _ _ (by decide), gI_ne _ _ _ _ (by decide), gI_ne _ _ _ _ (by decide), gI_ne _ _ _ _ (by decide)⟩, fun i hi _ => gI_nk _ _ _ (by omega)⟩
theorem m_someL (hN : N ≤ 8) {f : Nat} (hf : f < 6) (hP : NdP T N t m f) (d : Nat) (hD : f + 5 ≤ d + 4) {K : Nat} : ∀ n (w : Wd) (c L : Nat) (cL : Nat → Nat) (k : Tk) (l5 : Option Value), 41 ≤ c + n → Sn w T N t k c m → c ≤ 40 → DOES w N L (41 * m + c) cL → gI w 125 L = -9 →
    (∀ r, pSm t T (pCh N t T f) n ((fun x => x), c, k) = .ok r → ∃ v, val (195, d + 5, 473, [some (.ref 108), some (.int (nI (5 - f))), some (.int 1), some (.int (nI K)), some (.int (nI L)), l5], [], w) = some (some (.int (nI K)), v) ∧ Fr FNd w v ∧ Sn v T N t r.2.2 r.2.1 m ∧ LoN w v L ∧ SOME v N L (41 * m + r.2.1) (fun x => cL (r.1 x))) ∧
    (∀ e, pSm t T (pCh N t T f) n ((fun x => x), c, k) = .error e → ∃ v, val (195, d + 5, 473, [some (.ref 108), some (.int (nI (5 - f))), some (.int 1), some (.int (nI K)), some (.int (nI L)), l5], [], w) = some (some (.int (nI K)), v) ∧ Fr FNd w v ∧ gI v 108 10 = nI e ∧ LoN w v L)
  | 0, w, c, L, cL, k, l5, hcn, hS, hc, hD', h125 => by omega
  | n + 1, w, c, L, cL, k, l5, hcn, hS, hc, hDo, h125 => by
    have h0 := hS.1
    have hLE := hDo.1
    have e0 : val (195, d + 5, 473, [some (.ref 108), some (.int (nI (5 - f))), some (.int 1), some (.int (nI K)), some (.int (nI L)), l5], [], w) = val (195, d + 5, 486, [some (.ref 108), some (.int (nI (5 - f))), some (.int 1), some (.int (nI K)), some (.int (nI L)), l5], [.int (b01 (isSg t k 44))], w) := by
      refine (tr_195_473 d w _ _ _ _ l5).trans ?_
      refine (val_call (pc2 := 477) rfl rfl rfl rfl (h0.1.rc _) (Nat.le_of_ble_eq_true rfl) (Nat.le_of_ble_eq_true rfl) rfl (m_good (d + 4) h0) rfl).trans ?_
      refine (tr_195_477 d w _ _ _ _ _ l5).trans ?_
      rw [if_neg (show ¬ (1 : Int32) = 0 by decide)]
      refine (val_call (pc2 := 486) rfl rfl rfl rfl (h0.1.rc _) (Nat.le_of_ble_eq_true rfl) (Nat.le_of_ble_eq_true rfl) rfl (m_isSign (d + 4) h0 44) rfl).trans ?_
      rfl
    have e1 := e0.trans (tr_195_486 d w _ _ _ _ _ l5)
    unfold pSm
    dsimp only
    cases hcm : isSg t k 44 with
    | false =>
      rw [hcm, if_pos (show b01 false = 0 from rfl)] at e1
      rw [if_neg (show ¬ false = true by decide)]
      obtain ⟨s1, s2⟩ := m_sign (d + 3) h0 41
      cases hs : isSg t k 41 with
      | true =>
        rw [if_pos rfl]
        refine ⟨fun r hr => ?_, fun e he => (by cases he)⟩
        cases hr
        obtain ⟨v, x1, x2, x3⟩ := s1 hs
        refine ⟨v, e1.trans ?_, x2.mono rfl, hS.nx x2 x3, LoN.of x2 rfl L, ?_⟩
        · refine (val_call (pc2 := 524) rfl rfl rfl rfl (h0.1.rc _) (Nat.le_of_ble_eq_true rfl) (Nat.le_of_ble_eq_true rfl) rfl x1 rfl).trans ?_
          exact tr_195_524 d v _ _ _ _ l5
        · exact some_last (hDo.agr (Agr.fr x2 rfl _ _)) ((x2.i 125 L rfl).trans h125)
      | false =>
        rw [if_neg (show ¬ false = true by decide)]
        refine ⟨fun r hr => (by cases hr), fun e he => ?_⟩
        cases he
        obtain ⟨v, x1, x2, x3⟩ := s2 hs
        refine ⟨v, e1.trans ?_, x2.mono rfl, x3, LoN.of x2 rfl L⟩
        refine (val_call (pc2 := 524) rfl rfl rfl rfl (h0.1.rc _) (Nat.le_of_ble_eq_true rfl) (Nat.le_of_ble_eq_true rfl) rfl x1 rfl).trans ?_
        exact tr_195_524 d v _ _ _ _ l5
    | true =>
      rw [hcm, if_neg (show ¬ b01 true = 0 by decide)] at e1
      rw [if_pos rfl]
      obtain ⟨w1, x1, x2, x3⟩ := m_nextS (d + 4) h0
      have hS1 := hS.nx x2 x3
      have e2 : val (195, d + 5, 473, [some (.ref 108), some (.int (nI (5 - f))), some (.int 1), some (.int (nI K)), some (.int (nI L)), l5], [], w) = val (195, d + 5, 497, [some (.ref 108), some (.int (nI (5 - f))), some (.int 1), some (.int (nI K)), some (.int (nI L)), l5], [.int (nI (6 - f)), .ref 108], w1) := by
        refine e1.trans ?_
        refine (val_call (pc2 := 493) rfl rfl rfl rfl (h0.1.rc _) (Nat.le_of_ble_eq_true rfl) (Nat.le_of_ble_eq_true rfl) rfl x1 rfl).trans ?_
        refine (tr_195_493 d w1 _ _ _ _ l5).trans ?_
        rw [n_succ, show 5 - f + 1 = 6 - f by omega]
      have hL369 : L < 369 := by have := hDo.2.1; omega
      have iL : (nI L).toNatClampNeg = L := nI_clamp (by omega)
      obtain ⟨y, z⟩ := hP w1 c (nxt t T k) (d + 4) hD hS1 hc
      cases hp : pCh N t T f c (nxt t T k) with
      | error er =>
        dsimp only
        refine ⟨fun r hr => (by cases hr), fun e he => ?_⟩
        cases he
        obtain ⟨x', u, u1, u2, u3, u4⟩ := z er hp
        have hWu := u2.fix rfl x3.1
        have h31 : er < 2 ^ 31 := by have := pCh_err f _ _ _ x3.2.2.2.2.1 hp; have := h0.2.2.1.2.2.1; omega
        have f9 : Fr FNd u (sI u 125 L x') := (Fr.refl _ u).sI 125 _ _ rfl
        have hW9 := f9.fix rfl hWu
        have g9 : gI (sI u 125 L x') 108 10 = nI er := (gI_ne _ _ _ _ (by decide)).trans u3
        have l9 : LoN w (sI u 125 L x') L := ((LoN.of x2 rfl L).trans u4 (by omega)).set _ (Nat.le_refl L)
        refine ⟨sI u 125 L x', e2.trans ?_, ((x2.mono rfl).trans u2).trans f9, g9, l9⟩
        refine (val_call (pc2 := 500) rfl rfl rfl rfl (x3.1.rc _) (Nat.le_of_ble_eq_true rfl) (Nat.le_of_ble_eq_true rfl) rfl u1 rfl).trans ?_
        refine (tr_195_500 d u hWu _ _ _ _ _ l5 (ik hL369)).trans ?_
        rw [iL]
        refine (tr_195_473 d _ _ _ _ _ _).trans ?_
        refine (val_call (pc2 := 477) rfl rfl rfl rfl (hW9.rc _) (Nat.le_of_ble_eq_true rfl) (Nat.le_of_ble_eq_true rfl) rfl (m_bad (d + 4) hW9 g9 h31) rfl).trans ?_
        refine (tr_195_477 d _ _ _ _ _ _ _).trans ?_
        rw [if_pos (show (0 : Int32) = 0 from rfl)]
        refine (val_call (pc2 := 524) rfl rfl rfl rfl (hW9.rc _) (Nat.le_of_ble_eq_true rfl) (Nat.le_of_ble_eq_true rfl) rfl (m_signBad (d + 3) hW9 g9 h31 41) rfl).trans ?_
        exact n524 d _ _ _ _ _ _
      | ok s =>
        dsimp only
        obtain ⟨u, u1, u2, u3, u4, u5, u6⟩ := y s hp
        obtain ⟨s1, s2, s3, s4⟩ := pCh_ok f _ _ _ x3.2.2.2.2.1 hp
        have lw : LoN w u (41 * m + c) := (LoN.of x2 rfl _).trans u4 (Nat.le_refl _)
        have f9 : Fr [(125, none)] u (sI u 125 L (nI (41 * m + c))) := (Fr.refl _ u).sI 125 _ _ rfl
        have hS9 : Sn (sI u 125 L (nI (41 * m + c))) T N t s.2.2 s.2.1 m := u3.fr f9 rfl rfl rfl rfl
        have hL9 : DOES (sI u 125 L (nI (41 * m + c))) N L (41 * m + c) cL := (hDo.agr (lw.agr (Nat.le_refl _))).set125 _
        have hE9 : DOES (sI u 125 L (nI (41 * m + c))) N (41 * m + c) (41 * m + s.2.1) s.1 := u5.agr ⟨fun i _ _ => ⟨gI_ne _ _ _ _ (by decide), gI_ne _ _ _ _ (by decide), gI_ne _ _ _ _ (by decide), gI_ne _ _ _ _ (by decide)⟩, fun i hi _ => gI_nk _ _ _ (by omega)⟩
        have h9 : gI (sI u 125 L (nI (41 * m + c))) 125 (41 * m + c) = -9 := (gI_nk _ _ _ (by omega)).trans u6
        have hL5 : gI (sI u 125 L (nI (41 * m + c))) 125 L = nI (41 * m + c) := gI_same _ _ _ _
        have e3 : val (195, d + 5, 473, [some (.ref 108), some (.int (nI (5 - f))), some (.int 1), some (.int (nI K)), some (.int (nI L)), l5], [], w) = val (195, d + 5, 473, [some (.ref 108), some (.int (nI (5 - f))), some (.int 1), some (.int (nI K)), some (.int (nI (41 * m + c))), some (.int (nI (41 * m + c)))], [], sI u 125 L (nI (41 * m + c))) := by
          refine e2.trans ?_
          refine (val_call (pc2 := 500) rfl rfl rfl rfl (x3.1.rc _) (Nat.le_of_ble_eq_true rfl) (Nat.le_of_ble_eq_true rfl) rfl u1 rfl).trans ?_
          refine (tr_195_500 d u u3.1.1 _ _ _ _ _ l5 (ik hL369)).trans ?_
          rw [iL]
        have lL : LoN w (sI u 125 L (nI (41 * m + c))) L := (lw.mono (by omega)).set _ (Nat.le_refl L)
        have fall : Fr FNd w (sI u 125 L (nI (41 * m + c))) := ((x2.mono rfl).trans u2).trans (f9.mono rfl)
        generalize sI u 125 L (nI (41 * m + c)) = q at f9 hS9 hL9 hE9 h9 hL5 e3 lL fall
        obtain ⟨b1, b2⟩ := m_someL hN hf hP d hD n q s.2.1 (41 * m + c) s.1 s.2.2 (some (.int (nI (41 * m + c)))) (by omega) hS9 s2 hE9 h9
        rw [e3, pSm_id n (fun x => s.1 x) s.2.1 s.2.2]
        cases hq : pSm t T (pCh N t T f) n ((fun x => x), s.2.1, s.2.2) with
        | error er =>
          dsimp only
          refine ⟨fun r hr => (by cases hr), fun e he => ?_⟩
          cases he
          obtain ⟨v, v1, v2, v3, v4⟩ := b2 er hq
          exact ⟨v, v1, fall.trans v2, v3, lL.trans v4 (by omega)⟩
        | ok r0 =>
          dsimp only
          refine ⟨fun r hr => ?_, fun e he => (by cases he)⟩
          cases hr
          obtain ⟨v, v1, v2, v3, v4, v5⟩ := b1 r0 hq
          exact ⟨v, v1, fall.trans v2, v3, lL.trans v4 (by omega), some_cons (hL9.agr (v4.agr (Nat.le_refl _))) v5 ((v4 L hLE).2.2.2.2.trans hL5)⟩
end MN3
