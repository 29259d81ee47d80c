/-! THE REFERENCE'S rules -/
abbrev FRm : List (Nat × Option Nat) := [(108, some 6), (108, some 7), (108, some 8), (108, some 9), (108, some 10), (108, some 20), (113, none), (115, none), (116, none), (117, none), (118, none), (119, none), (120, none), (121, none), (122, none), (123, none), (124, none), (125, none)]
/-- all that lies below rule q of method m, node b -/
def Lo (w v : Wd) (m q b : Nat) : Prop := LoC w v q (8 * q) ∧ LoN w v b ∧ (∀ j, j < q → gI v 120 j = gI w 120 j) ∧ ∀ j, j ≠ m → gI v 113 j = gI w 113 j
theorem Lo.refl (w : Wd) (m q b : Nat) : Lo w w m q b := ⟨LoC.refl w q _, LoN.refl w b, fun _ _ => rfl, fun _ _ => rfl⟩
theorem Lo.trans {u v w : Wd} {m q b q' b' : Nat} (h : Lo u v m q b) (g : Lo v w m q' b') (hq : q ≤ q') (hb : b ≤ b') : Lo u w m q b := by
  refine ⟨⟨fun i hi => (g.1.1 i (by omega)).trans (h.1.1 i hi), fun i hi => ?_⟩, h.2.1.trans g.2.1 hb, fun j hj => (g.2.2.1 j (by omega)).trans (h.2.2.1 j hj), fun j hj => (g.2.2.2 j hj).trans (h.2.2.2 j hj)⟩
  obtain ⟨a1, a2, a3, a4⟩ := h.1.2 i hi
  obtain ⟨b1, b2, b3, b4⟩ := g.1.2 i (by omega)
  exact ⟨b1.trans a1, b2.trans a2, b3.trans a3, b4.trans a4⟩
theorem Lo.of {S : List (Nat × Option Nat)} {w v : Wd} (h : Fr S w v) (hs : dj S [(113, none), (115, none), (116, none), (117, none), (118, none), (119, none), (120, none), (121, none), (122, none), (123, none), (124, none), (125, none)] = true) (m q b : Nat) : Lo w v m q b :=
  have o : ∀ a j, inS [(113, none), (115, none), (116, none), (117, none), (118, none), (119, none), (120, none), (121, none), (122, none), (123, none), (124, none), (125, none)] a j = true → gI v a j = gI w a j := fun a j hi => h.i a j (dj_off hs hi)
  ⟨⟨fun i _ => o 115 i rfl, fun i _ => ⟨o 116 i rfl, o 117 i rfl, o 118 i rfl, o 119 i rfl⟩⟩, fun i _ => ⟨o 121 i rfl, o 122 i rfl, o 123 i rfl, o 124 i rfl, o 125 i rfl⟩, fun j _ => o 120 j rfl, fun j _ => o 113 j rfl⟩
theorem Lo.ofC {w v : Wd} {m q b : Nat} (h : Fr FCm w v) (hl : LoC w v q (8 * q)) : Lo w v m q b := ⟨hl, fun i _ => ⟨h.i 121 i rfl, h.i 122 i rfl, h.i 123 i rfl, h.i 124 i rfl, h.i 125 i rfl⟩, fun j _ => h.i 120 j rfl, fun j _ => h.i 113 j rfl⟩
theorem Lo.ofN {w v : Wd} {m q b : Nat} (h : Fr FNd w v) (hl : LoN w v b) : Lo w v m q b := ⟨LoC.of h rfl q _, hl, fun j _ => h.i 120 j rfl, fun j _ => h.i 113 j rfl⟩
/-- a rule, as the reference keeps it -/
def RuM (w : Wd) (N m q : Nat) (u : Ru) : Prop := CdM w q u.1 ∧ ∃ kn e, gI w 120 q = nI kn ∧ DOES w N kn e u.2 ∧ 41 * m ≤ kn ∧ e ≤ 41 * m + 41
section MRU
variable {T N q : Nat} {t : Nat → Int32} {k : Tk} {w : Wd} {cs : List Cd}
theorem m_cond (d : Nat) (hN : N ≤ 8) (hS : Sm w T N t k) (hq : q < 180) (hC : CdM w q cs) (hl : cs.length < 8) :
    (∀ p, pCd N t T k = .ok p → ∃ v, val (193, d + 5, 0, [some (.ref 108), some (.int (nI q)), none], [], w) = some (none, v) ∧ Fr FCm w v ∧ LoC w v q (8 * q) ∧ Sm v T N t p.2 ∧ CdM v q (cs ++ [p.1])) ∧
    (∀ e, pCd N t T k = .error e → ∃ v, val (193, d + 5, 0, [some (.ref 108), some (.int (nI q)), none], [], w) = some (none, v) ∧ Fr FCm w v ∧ LoC w v q (8 * q) ∧ gI v 108 10 = nI e ∧ ∃ k'', TkM v k'' ∧ TkIn t T k'') := by
  obtain ⟨I, hI⟩ : ∃ I, I = 8 * q + cs.length := ⟨_, rfl⟩
  have hI4 : I < 1440 := by omega
  have eI : 8 * nI q + nI cs.length = nI I := by rw [show (8 : Int32) = nI 8 from rfl, n_mul, n_add, hI]
  have iI : (nI I).toNatClampNeg = I := nI_clamp (by omega)
  have qq : (nI q).toNatClampNeg = q := nI_clamp (by omega)
  have e0 := tr_193 d w hS.1 (nI q) (iq hq) (fun _ => by rw [qq, hC.1, eI]; exact ic4 hI4)
  rw [qq, hC.1, eI, iI, if_pos (show ¬ nI cs.length = 8 from n_ne (b := 8) (by omega) (by omega) (by omega))] at e0
  have f1 : Fr FCm w (sI w 117 I 0) := (Fr.refl _ w).sI 117 _ _ rfl
  have hS1 : Sm (sI w 117 I 0) T N t k := hS.set (by decide)
  have l1 : LoC w (sI w 117 I 0) q I := (LoC.refl w q I).set _ (Or.inl (by decide)) (Or.inr (Nat.le_refl I))
  have g115 : gI (sI w 117 I 0) 115 q = nI cs.length := (gI_ne _ _ _ _ (by decide)).trans hC.1
  have g117 : gI (sI w 117 I 0) 117 I = 0 := gI_same _ _ _ _
  generalize sI w 117 I 0 = w1 at e0 f1 hS1 l1 g115 g117
  have e1 : val (193, d + 5, 0, [some (.ref 108), some (.int (nI q)), none], [], w) = val (193, d + 5, 41, [some (.ref 108), some (.int (nI q)), some (.int (nI I))], [.int (b01 (isWd t k 1))], w1) := by
    refine e0.trans ?_
    refine (val_call (pc2 := 41) rfl rfl rfl rfl (hS1.1.rc _) (Nat.le_of_ble_eq_true rfl) (Nat.le_of_ble_eq_true rfl) rfl (m_isWord d hS1 (j := 1) (by decide)) rfl).trans ?_
    rfl
  have e2 := e1.trans (tr_193_41 d w1 hS1.1 _ _ _ (by intros; exact ic4 hI4))
  rw [iI] at e2
  -- to the rest
  have rest : ∀ (x : Wd) (k1 : Tk) (nt : Bool), Sm x T N t k1 → Fr FCm w x → LoC w x q I → gI x 115 q = nI cs.length → gI x 117 I = b01 nt → val (193, d + 5, 0, [some (.ref 108), some (.int (nI q)), none], [], w) = val (193, d + 5, 55, [some (.ref 108), some (.int (nI q)), some (.int (nI I))], [], x) →
      (∀ p, pCd1 N t T nt k1 = .ok p → ∃ v, val (193, d + 5, 0, [some (.ref 108), some (.int (nI q)), none], [], w) = some (none, v) ∧ Fr FCm w v ∧ LoC w v q (8 * q) ∧ Sm v T N t p.2 ∧ CdM v q (cs ++ [p.1])) ∧
      (∀ e, pCd1 N t T nt k1 = .error e → ∃ v, val (193, d + 5, 0, [some (.ref 108), some (.int (nI q)), none], [], w) = some (none, v) ∧ Fr FCm w v ∧ LoC w v q (8 * q) ∧ gI v 108 10 = nI e ∧ ∃ k'', TkM v k'' ∧ TkIn t T k'') := by
    intro x k1 nt hx fx lx h5 h7 ex
    obtain ⟨y, z⟩ := m_cond1 d hN hx hq hI4 h5 nt h7
    have low : ∀ v, LoC x v q I → LoC w v q I := fun v h => lx.trans h (Nat.le_refl I)
    have low8 : ∀ v, LoC w v q I → LoC w v q (8 * q) := fun v h => ⟨h.1, fun i hi => h.2 i (by omega)⟩
    refine ⟨fun p hp => ?_, fun e he => ?_⟩
    · obtain ⟨v, v1, v2, v3, v4, v5, v6⟩ := y p hp
      refine ⟨v, ex.trans v1, fx.trans v2, low8 v (low v v3), v4, ?_, fun j hj => ?_⟩
      · rw [List.length_append]; exact v6
      · rw [List.length_append] at hj
        have hj' : j < cs.length + 1 := hj
        rw [getD_snoc]
        by_cases e : j < cs.length
        · rw [if_pos e]
          obtain ⟨a1, a2, a3⟩ := hC.2 j e
          obtain ⟨b1, b2, b3, b4⟩ := (low v v3).2 (8 * q + j) (by omega)
          exact ⟨b1.trans a1, b2.trans a2, fun hh => ⟨b3.trans (a3 hh).1, b4.trans (a3 hh).2⟩⟩
        · have ej : j = cs.length := by omega
          rw [if_neg e, if_pos ej, ej, ← hI]
          exact v5
    · obtain ⟨v, v1, v2, v3, v4⟩ := z e he
      exact ⟨v, ex.trans v1, fx.trans v2, low8 v (low v v3), v4⟩
  unfold pCd
  cases hn : isWd t k 1 with
  | true =>
    rw [hn, if_neg (show ¬ b01 true = 0 by decide)] at e2
    rw [if_pos rfl]
    have hS2 : Sm (sI w1 117 I 1) T N t k := hS1.set (by decide)
    have g115' : gI (sI w1 117 I 1) 115 q = nI cs.length := (gI_ne _ _ _ _ (by decide)).trans g115
    have g117' : gI (sI w1 117 I 1) 117 I = b01 true := gI_same _ _ _ _
    have f2 : Fr FCm w (sI w1 117 I 1) := f1.sI 117 _ _ rfl
    have l2 : LoC w (sI w1 117 I 1) q I := l1.set _ (Or.inl (by decide)) (Or.inr (Nat.le_refl I))
    generalize sI w1 117 I 1 = w2 at e2 hS2 g115' g117' f2 l2
    obtain ⟨x, x1, x2, x3⟩ := m_nextS (d + 4) hS2
    refine rest x (nxt t T k) true x3 (f2.trans (x2.mono rfl)) (l2.trans (LoC.of x2 rfl q I) (Nat.le_refl I)) ((x2.i 115 q rfl).trans g115') ((x2.i 117 I rfl).trans g117') (e2.trans ?_)
    refine (val_call (pc2 := 55) rfl rfl rfl rfl (hS2.1.rc _) (Nat.le_of_ble_eq_true rfl) (Nat.le_of_ble_eq_true rfl) rfl x1 rfl).trans ?_
    rfl
  | false =>
    rw [hn, if_pos (show b01 false = 0 from rfl)] at e2
    rw [if_neg (show ¬ false = true by decide)]
    exact rest w1 k false hS1 f1 l1 g115 g117 e2
theorem m_condFull (d : Nat) (hS : Sm w T N t k) (hq : q < 180) (h : gI w 115 q = nI 8) : ∃ v, val (193, d + 5, 0, [some (.ref 108), some (.int (nI q)), none], [], w) = some (none, v) ∧ Fr [(108, some 10)] w v ∧ gI v 108 10 = nI k.2.1 := by
  have qq : (nI q).toNatClampNeg = q := nI_clamp (by omega)
  have e0 := tr_193 d w hS.1 (nI q) (iq hq) (fun hh => absurd (by rw [qq, h]; rfl) hh)
  rw [qq, h, if_neg (show ¬ ¬ nI 8 = 8 from fun g => g rfl)] at e0
  obtain ⟨v, x1, x2, x3⟩ := m_wrong (d + 4) hS
  refine ⟨v, e0.trans ?_, x2, x3⟩
  refine (val_call (pc2 := 27) rfl rfl rfl rfl (hS.1.rc _) (Nat.le_of_ble_eq_true rfl) (Nat.le_of_ble_eq_true rfl) rfl x1 rfl).trans ?_
  exact tr_193_27 d v _ _
theorem m_nodeBad (d : Nat) (h : Sw w T N t k) {e : Nat} (he : gI w 108 10 = nI e) (h31 : e < 2 ^ 31) (x : Int32) : val (195, d + 5, 0, [some (.ref 108), some (.int x), none, none, none, none], [], w) = some (some (.int 0), w) := by
  have e102 : ∀ l2 : Int32, val (195, d + 5, 102, [some (.ref 108), some (.int x), some (.int l2), none, none, none], [], w) = some (some (.int 0), w) := by
    intro l2
    refine (tr_195_102 d w _ _).trans ?_
    refine (val_call (pc2 := 106) rfl rfl rfl rfl (h.1.rc _) (Nat.le_of_ble_eq_true rfl) (Nat.le_of_ble_eq_true rfl) rfl (m_bad (d + 4) h.1 he h31) rfl).trans ?_
    refine (tr_195_106 d w h.1 _ _ _ (fun h => absurd rfl h)).trans ?_
    rw [if_neg (fun h => h rfl)]
  have e99 : ∀ l2 : Int32, val (195, d + 5, 99, [some (.ref 108), some (.int x), some (.int l2), none, none, none], [.ref 108], w) = some (some (.int 0), w) := by
    intro l2
    refine (val_call (pc2 := 102) rfl rfl rfl rfl (h.1.rc _) (Nat.le_of_ble_eq_true rfl) (Nat.le_of_ble_eq_true rfl) rfl (m_wronged (d + 4) h.1 he h31) rfl).trans ?_
    exact e102 l2
  refine (m_isNodeW d h x).trans ?_
  split
  · split
    · exact e99 1
    · split
      · exact e102 1
      · exact e99 1
  · exact e99 0
/-- the conditions behind the first one -/
theorem m_site (d : Nat) {w v : Wd} (hW : Fix w) {s : Nat} (hs : s = 73 ∨ s = 99) (h : val (193, d + 11, 0, [some (.ref 108), some (.int (nI q)), none], [], w) = some (none, v)) : val (196, d + 12, s, [some (.ref 108), some (.int (nI q)), none], [.int (nI q), .ref 108], w) = val (196, d + 12, 76, [some (.ref 108), some (.int (nI q)), none], [], v) := by
  rcases hs with rfl | rfl
  · refine (val_call (pc2 := 76) rfl rfl rfl rfl (hW.rc _) (Nat.le_of_ble_eq_true rfl) (Nat.le_of_ble_eq_true rfl) rfl h rfl).trans ?_
    rfl
  · refine (val_call (pc2 := 102) rfl rfl rfl rfl (hW.rc _) (Nat.le_of_ble_eq_true rfl) (Nat.le_of_ble_eq_true rfl) rfl h rfl).trans ?_
    exact tr_196_102 (d + 6) v _
theorem m_conds (d : Nat) (hN : N ≤ 8) (hq : q < 180) : ∀ n (s : Nat) cs (w : Wd) (k : Tk), (s = 73 ∨ s = 99) → n + cs.length = 8 → Sm w T N t k → CdM w q cs →
    (∀ p, pCs N t T n cs k = .ok p → ∃ v, val (196, d + 12, s, [some (.ref 108), some (.int (nI q)), none], [.int (nI q), .ref 108], w) = val (196, d + 12, 107, [some (.ref 108), some (.int (nI q)), none], [.int 0, .ref 108], v) ∧ Fr FCm w v ∧ LoC w v q (8 * q) ∧ Sm v T N t p.2 ∧ CdM v q p.1) ∧
    (∀ e, pCs N t T n cs k = .error e → ∃ v, val (196, d + 12, s, [some (.ref 108), some (.int (nI q)), none], [.int (nI q), .ref 108], w) = val (196, d + 12, 107, [some (.ref 108), some (.int (nI q)), none], [.int 0, .ref 108], v) ∧ Fr FCm w v ∧ LoC w v q (8 * q) ∧ gI v 108 10 = nI e ∧ e ≤ T ∧ ∃ k'', TkM v k'' ∧ TkIn t T k'')
  | 0, s, cs, w, k, hs, hn, hS, hC => by
    refine ⟨fun p hp => (by cases hp), fun e he => ?_⟩
    cases he
    have hl : cs.length = 8 := by omega
    obtain ⟨v, x1, x2, x3⟩ := m_condFull (d + 6) hS hq (by rw [hC.1, hl])
    have hWv := x2.fix rfl hS.1
    have hT := hS.2.2.1.2.2.1
    have hkT := hS.2.2.2.2.1.fr
    refine ⟨v, ?_, x2.mono rfl, LoC.of x2 rfl q _, x3, hkT, k, hS.2.2.2.1.fr x2 rfl, hS.2.2.2.2.1⟩
    refine (m_site d hS.1 hs x1).trans ?_
    refine (tr_196_76 (d + 6) v _).trans ?_
    refine (val_call (pc2 := 80) rfl rfl rfl rfl (hWv.rc _) (Nat.le_of_ble_eq_true rfl) (Nat.le_of_ble_eq_true rfl) rfl (m_bad (d + 11) hWv x3 (by omega)) rfl).trans ?_
    refine (tr_196_80 (d + 6) v _ _).trans ?_
    rw [if_pos (show (0 : Int32) = 0 from rfl)]
  | n + 1, s, cs, w, k, hs, hn, hS, hC => by
    obtain ⟨y, z⟩ := m_cond (d + 6) hN hS hq hC (by omega)
    have hT := hS.2.2.1.2.2.1
    unfold pCs
    cases hp : pCd N t T k with
    | error er =>
      refine ⟨fun p hp => (by cases hp), fun e he => ?_⟩
      cases he
      obtain ⟨v, x1, x2, x3, x4, x5⟩ := z er hp
      have hWv := x2.fix rfl hS.1
      have heT := pCd_err hS.2.2.2.2.1 hp
      refine ⟨v, ?_, x2, x3, x4, heT, x5⟩
      refine (m_site d hS.1 hs x1).trans ?_
      refine (tr_196_76 (d + 6) v _).trans ?_
      refine (val_call (pc2 := 80) rfl rfl rfl rfl (hWv.rc _) (Nat.le_of_ble_eq_true rfl) (Nat.le_of_ble_eq_true rfl) rfl (m_bad (d + 11) hWv x4 (by omega)) rfl).trans ?_
      refine (tr_196_80 (d + 6) v _ _).trans ?_
      rw [if_pos (show (0 : Int32) = 0 from rfl)]
    | ok p =>
      obtain ⟨v, x1, x2, x3, x4, x5⟩ := y p hp
      have hl : (cs ++ [p.1]).length = cs.length + 1 := List.length_append
      have e1 : val (196, d + 12, s, [some (.ref 108), some (.int (nI q)), none], [.int (nI q), .ref 108], w) = val (196, d + 12, 90, [some (.ref 108), some (.int (nI q)), none], [.int (b01 (isWd t p.2 8))], v) := by
        refine (m_site d hS.1 hs x1).trans ?_
        refine (tr_196_76 (d + 6) v _).trans ?_
        refine (val_call (pc2 := 80) rfl rfl rfl rfl (x4.1.rc _) (Nat.le_of_ble_eq_true rfl) (Nat.le_of_ble_eq_true rfl) rfl (m_good (d + 11) x4) rfl).trans ?_
        refine (tr_196_80 (d + 6) v _ _).trans ?_
        rw [if_neg (show ¬ (1 : Int32) = 0 by decide)]
        refine (val_call (pc2 := 90) rfl rfl rfl rfl (x4.1.rc _) (Nat.le_of_ble_eq_true rfl) (Nat.le_of_ble_eq_true rfl) rfl (m_isWord (d + 7) x4 (j := 8) (by decide)) rfl).trans ?_
        rfl
      have e2 := e1.trans (tr_196_90 (d + 6) v _ _)
      dsimp only
      cases ha : isWd t p.2 8 with
      | true =>
        rw [ha, if_neg (show ¬ b01 true = 0 by decide)] at e2
        rw [if_pos rfl]
        obtain ⟨u, u1, u2, u3⟩ := m_nextS (d + 11) x4
        have hCu : CdM u q (cs ++ [p.1]) := by
          refine ⟨(u2.i 115 q rfl).trans x5.1, fun j hj => ?_⟩
          obtain ⟨a1, a2, a3⟩ := x5.2 j hj
          exact ⟨(u2.i 116 _ rfl).trans a1, (u2.i 117 _ rfl).trans a2, fun hh => ⟨(u2.i 118 _ rfl).trans (a3 hh).1, (u2.i 119 _ rfl).trans (a3 hh).2⟩⟩
        have e3 : val (196, d + 12, s, [some (.ref 108), some (.int (nI q)), none], [.int (nI q), .ref 108], w) = val (196, d + 12, 99, [some (.ref 108), some (.int (nI q)), none], [.int (nI q), .ref 108], u) := by
          refine e2.trans ?_
          refine (val_call (pc2 := 97) rfl rfl rfl rfl (x4.1.rc _) (Nat.le_of_ble_eq_true rfl) (Nat.le_of_ble_eq_true rfl) rfl u1 rfl).trans ?_
          exact tr_196_97 (d + 6) u _
        obtain ⟨b1, b2⟩ := m_conds d hN hq n 99 (cs ++ [p.1]) u (nxt t T p.2) (Or.inr rfl) (by omega) u3 hCu
        rw [e3]
        have fu : Fr FCm w u := x2.trans (u2.mono rfl)
        have lu : LoC w u q (8 * q) := x3.trans (LoC.of u2 rfl q _) (Nat.le_refl _)
        refine ⟨fun p2 hp2 => ?_, fun e he => ?_⟩
        · obtain ⟨v2, v3, v4, v5, v6⟩ := b1 p2 hp2
          exact ⟨v2, v3, fu.trans v4, lu.trans v5 (Nat.le_refl _), v6⟩
        · obtain ⟨v2, v3, v4, v5, v6⟩ := b2 e he
          exact ⟨v2, v3, fu.trans v4, lu.trans v5 (Nat.le_refl _), v6⟩
      | false =>
        rw [ha, if_pos (show b01 false = 0 from rfl)] at e2
        rw [if_neg (show ¬ false = true by decide)]
        refine ⟨fun p2 hp2 => ?_, fun e he => (by cases he)⟩
        cases hp2
        exact ⟨v, e2, x2, x3, x4, x5⟩
end MRU
