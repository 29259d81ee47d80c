/-! METHOD, the reference's side -/
theorem LoC.oth {w v : Wd} {q b a i : Nat} (h : LoC w v q b) (x : Int32) (ha : a ≠ 115 ∧ a ≠ 116 ∧ a ≠ 117 ∧ a ≠ 118 ∧ a ≠ 119) : LoC w (sI v a i x) q b := ⟨fun j hj => (gI_ne _ _ _ _ (by omega)).trans (h.1 j hj), fun j hj => by
  obtain ⟨a1, a2, a3, a4⟩ := h.2 j hj
  exact ⟨(gI_ne _ _ _ _ (by omega)).trans a1, (gI_ne _ _ _ _ (by omega)).trans a2, (gI_ne _ _ _ _ (by omega)).trans a3, (gI_ne _ _ _ _ (by omega)).trans a4⟩⟩
theorem LoN.oth {w v : Wd} {b a i : Nat} (h : LoN w v b) (x : Int32) (ha : a ≠ 121 ∧ a ≠ 122 ∧ a ≠ 123 ∧ a ≠ 124 ∧ a ≠ 125) : LoN w (sI v a i x) b := fun j hj => by
  obtain ⟨a1, a2, a3, a4, a5⟩ := h j hj
  exact ⟨(gI_ne _ _ _ _ (by omega)).trans a1, (gI_ne _ _ _ _ (by omega)).trans a2, (gI_ne _ _ _ _ (by omega)).trans a3, (gI_ne _ _ _ _ (by omega)).trans a4, (gI_ne _ _ _ _ (by omega)).trans a5⟩
theorem Lo.s120 {w v : Wd} {m q b : Nat} (h : Lo w v m q b) (x : Int32) : Lo w (sI v 120 q x) m q b := ⟨h.1.oth x (by decide), h.2.1.oth x (by decide), fun j hj => (gI_nk _ _ _ (by omega)).trans (h.2.2.1 j hj), fun j hj => (gI_ne _ _ _ _ (by decide)).trans (h.2.2.2 j hj)⟩
theorem Lo.s113 {w v : Wd} {m q b : Nat} (h : Lo w v m q b) (x : Int32) : Lo w (sI v 113 m x) m q b := ⟨h.1.oth x (by decide), h.2.1.oth x (by decide), fun j hj => (gI_ne _ _ _ _ (by decide)).trans (h.2.2.1 j hj), fun j hj => (gI_nk _ _ _ hj).trans (h.2.2.2 j hj)⟩
theorem Lo.s115 {w v : Wd} {m q b : Nat} (h : Lo w v m q b) (x : Int32) : Lo w (sI v 115 q x) m q b := ⟨h.1.set x (Or.inr (Nat.le_refl q)) (Or.inl rfl), h.2.1.oth x (by decide), fun j hj => (gI_ne _ _ _ _ (by decide)).trans (h.2.2.1 j hj), fun j hj => (gI_ne _ _ _ _ (by decide)).trans (h.2.2.2 j hj)⟩
section MRL
variable {T N : Nat} {t : Nat → Int32} {k : Tk} {w : Wd} {c m i : Nat}
theorem CdM.frN {v : Wd} {q : Nat} {cs : List Cd} {S : List (Nat × Option Nat)} (h : CdM w q cs) (hf : Fr S w v) (hs : dj S [(115, none), (116, none), (117, none), (118, none), (119, none)] = true) : CdM v q cs := by
  refine ⟨(hf.i 115 q (dj_off hs rfl)).trans h.1, fun j hj => ?_⟩
  obtain ⟨a1, a2, a3⟩ := h.2 j hj
  exact ⟨(hf.i 116 _ (dj_off hs rfl)).trans a1, (hf.i 117 _ (dj_off hs rfl)).trans a2, fun hh => ⟨(hf.i 118 _ (dj_off hs rfl)).trans (a3 hh).1, (hf.i 119 _ (dj_off hs rfl)).trans (a3 hh).2⟩⟩
/-- a rule, as the reference keeps it, its nodes below b -/
def RuB (w : Wd) (N m q : Nat) (u : Ru) (b : Nat) : Prop := CdM w q u.1 ∧ ∃ kn e, gI w 120 q = nI kn ∧ DOES w N kn e u.2 ∧ 41 * m ≤ kn ∧ e ≤ b
theorem m_rule (d : Nat) (h3 : 3 ≤ N) (hN : N ≤ 8) (hS : Sn w T N t k c m) (hc : c ≤ 40) (hi : gI w 113 m = nI i) (hi20 : i < 20) :
    (∀ p, pRu N t T c k = .ok p → ∃ v, val (196, d + 12, 0, [some (.ref 108), none, none], [], w) = some (none, v) ∧ Fr FRm w v ∧ Sn v T N t p.2.2 p.2.1 m ∧ gI v 113 m = nI (i + 1) ∧ Lo w v m (20 * m + i) (41 * m + c) ∧ RuB v N m (20 * m + i) p.1 (41 * m + p.2.1)) ∧
    (∀ e, pRu N t T c k = .error e → ∃ v, val (196, d + 12, 0, [some (.ref 108), none, none], [], w) = some (none, v) ∧ Fr FRm w v ∧ gI v 108 10 = nI e ∧ e ≤ T ∧ Lo w v m (20 * m + i) (41 * m + c)) := by
  obtain ⟨h0, h20, h11, hm8⟩ := id hS
  have hT := h0.2.2.1.2.2.1
  obtain ⟨q, hq⟩ : ∃ q, q = 20 * m + i := ⟨_, rfl⟩
  have hq180 : q < 180 := by omega
  have mm : (nI m).toNatClampNeg = m := nI_clamp (by omega)
  have im : inB (nI m) 9 = true := inB_nI (by omega) (by omega)
  have eq : 20 * nI m + nI i = nI q := by rw [show (20 : Int32) = nI 20 from rfl, n_mul, n_add, hq]
  have qq : (nI q).toNatClampNeg = q := nI_clamp (by omega)
  rw [← hq]
  have e0 := tr_196 (d + 6) w h0.1 (by rw [h11]; exact im) (fun _ => by rw [h11]; exact im) (fun _ => by rw [h11, mm, hi, eq]; exact iq hq180)
  rw [h11, mm, hi, eq, qq, if_pos (show ¬ nI i = 20 from n_ne (b := 20) (by omega) (by omega) (by omega)), n_succ] at e0
  have f1 : Fr [(113, none), (115, none)] w (sI (sI w 113 m (nI (i + 1))) 115 q 0) := ((Fr.refl _ w).sI 113 _ _ rfl).sI 115 _ _ rfl
  have hS1 : Sn (sI (sI w 113 m (nI (i + 1))) 115 q 0) T N t k c m := hS.fr f1 rfl rfl rfl rfl
  have g113 : gI (sI (sI w 113 m (nI (i + 1))) 115 q 0) 113 m = nI (i + 1) := (gI_ne _ _ _ _ (by decide)).trans (gI_same _ _ _ _)
  have hC1 : CdM (sI (sI w 113 m (nI (i + 1))) 115 q 0) q [] := ⟨gI_same _ _ _ _, fun j hj => absurd hj (Nat.not_lt_zero j)⟩
  have lo1 : Lo w (sI (sI w 113 m (nI (i + 1))) 115 q 0) m q (41 * m + c) := ((Lo.refl w m q (41 * m + c)).s113 _).s115 _
  generalize sI (sI w 113 m (nI (i + 1))) 115 q 0 = w1 at e0 f1 hS1 g113 hC1 lo1
  have f1' : Fr FRm w w1 := f1.mono rfl
  have e1 : val (196, d + 12, 0, [some (.ref 108), none, none], [], w) = val (196, d + 12, 64, [some (.ref 108), some (.int (nI q)), none], [.int (b01 (isWd t k 0))], w1) := by
    refine e0.trans ?_
    refine (val_call (pc2 := 64) rfl rfl rfl rfl (hS1.1.1.rc _) (Nat.le_of_ble_eq_true rfl) (Nat.le_of_ble_eq_true rfl) rfl (m_isWord (d + 7) hS1.1 (j := 0) (by decide)) rfl).trans ?_
    rfl
  have e2 := e1.trans (tr_196_64 (d + 6) w1 _ _)
  -- to the node
  have wh : (∀ p, pWh N t T k = .ok p → ∃ v, val (196, d + 12, 0, [some (.ref 108), none, none], [], w) = val (196, d + 12, 107, [some (.ref 108), some (.int (nI q)), none], [.int 0, .ref 108], v) ∧ Fr FCm w1 v ∧ LoC w1 v q (8 * q) ∧ Sm v T N t p.2 ∧ CdM v q p.1) ∧
      (∀ e, pWh N t T k = .error e → ∃ v, val (196, d + 12, 0, [some (.ref 108), none, none], [], w) = val (196, d + 12, 107, [some (.ref 108), some (.int (nI q)), none], [.int 0, .ref 108], v) ∧ Fr FCm w1 v ∧ LoC w1 v q (8 * q) ∧ gI v 108 10 = nI e ∧ e ≤ T ∧ ∃ k'', TkM v k'' ∧ TkIn t T k'') := by
    unfold pWh
    cases hw : isWd t k 0 with
    | true =>
      rw [hw, if_neg (show ¬ b01 true = 0 by decide)] at e2
      rw [if_pos rfl]
      obtain ⟨u, u1, u2, u3⟩ := m_nextS (d + 11) hS1.1
      obtain ⟨b1, b2⟩ := m_conds (q := q) d hN hq180 8 73 [] u (nxt t T k) (Or.inl rfl) rfl u3 (hC1.frN u2 rfl)
      have e3 : val (196, d + 12, 0, [some (.ref 108), none, none], [], w) = val (196, d + 12, 73, [some (.ref 108), some (.int (nI q)), none], [.int (nI q), .ref 108], u) := by
        refine e2.trans ?_
        refine (val_call (pc2 := 71) rfl rfl rfl rfl (hS1.1.1.rc _) (Nat.le_of_ble_eq_true rfl) (Nat.le_of_ble_eq_true rfl) rfl u1 rfl).trans ?_
        exact tr_196_71 (d + 6) u _
      rw [e3]
      refine ⟨fun p hp => ?_, fun e he => ?_⟩
      · obtain ⟨v, v1, v2, v3, v4⟩ := b1 p hp
        exact ⟨v, v1, Fr.trans (u2.mono rfl) v2, (LoC.of u2 rfl q _).trans v3 (Nat.le_refl _), v4⟩
      · obtain ⟨v, v1, v2, v3, v4⟩ := b2 e he
        exact ⟨v, v1, Fr.trans (u2.mono rfl) v2, (LoC.of u2 rfl q _).trans v3 (Nat.le_refl _), v4⟩
    | false =>
      rw [hw, if_pos (show b01 false = 0 from rfl)] at e2
      rw [if_neg (show ¬ false = true by decide)]
      refine ⟨fun p hp => ?_, fun e he => (by cases he)⟩
      cases hp
      exact ⟨w1, e2, Fr.refl _ _, LoC.refl _ _ _, hS1.1, hC1⟩
  obtain ⟨wy, wz⟩ := wh
  unfold pRu
  cases hp : pWh N t T k with
  | error er =>
    refine ⟨fun p hp => (by cases hp), fun e he => ?_⟩
    cases he
    obtain ⟨v, v1, v2, v3, v4, v5, k2, v6, v7⟩ := wz er hp
    have hWv := v2.fix rfl hS1.1.1
    have hSw : Sw v T N t k2 := ⟨hWv, hS1.1.2.1.fr v2 rfl, hS1.1.2.2.1.fr v2 rfl, v6, v7⟩
    have h31 : er < 2 ^ 31 := by omega
    have f9 : Fr FRm v (sI v 120 q 0) := (Fr.refl _ v).sI 120 _ _ rfl
    have hW9 := f9.fix rfl hWv
    have g9 : gI (sI v 120 q 0) 108 10 = nI er := (gI_ne _ _ _ _ (by decide)).trans v4
    refine ⟨sI v 120 q 0, v1.trans ?_, (f1'.trans (v2.mono rfl)).trans f9, g9, v5, ?_⟩
    · refine (val_call (pc2 := 110) rfl rfl rfl rfl (hWv.rc _) (Nat.le_of_ble_eq_true rfl) (Nat.le_of_ble_eq_true rfl) rfl (m_nodeBad (d + 6) hSw v4 h31 0) rfl).trans ?_
      refine (tr_196_110 (d + 6) v hWv _ _ (iq hq180)).trans ?_
      rw [qq]
      refine (val_call (pc2 := 124) rfl rfl rfl rfl (hW9.rc _) (Nat.le_of_ble_eq_true rfl) (Nat.le_of_ble_eq_true rfl) rfl (m_signBad (d + 10) hW9 g9 h31 59) rfl).trans ?_
      exact tr_196_124 (d + 6) _ _ _
    · exact (lo1.trans (Lo.ofC (m := m) (b := 41 * m + c) v2 v3) (Nat.le_refl q) (Nat.le_refl _)).s120 _
  | ok p =>
    obtain ⟨v, v1, v2, v3, v4, v5⟩ := wy p hp
    have hSv : Sn v T N t p.2 c m := ⟨v4, (v2.i 108 20 rfl).trans hS1.2.1, (v2.i 108 11 rfl).trans hS1.2.2.1, hm8⟩
    have lo2 := lo1.trans (Lo.ofC (m := m) (b := 41 * m + c) v2 v3) (Nat.le_refl q) (Nat.le_refl _)
    obtain ⟨n1, n2⟩ := m_node (T := T) (t := t) (m := m) hN 6 (Nat.le_refl 6) v c p.2 (d + 11) (by omega) hSv hc
    dsimp only
    cases hr : pCh N t T 6 c p.2 with
    | error er =>
      refine ⟨fun p hp => (by cases hp), fun e he => ?_⟩
      cases he
      obtain ⟨x, u, u1, u2, u3, u4⟩ := n2 er hr
      have hWu := u2.fix rfl v4.1
      have heT := pCh_err 6 c p.2 er v4.2.2.2.2.1 hr
      have h31 : er < 2 ^ 31 := by omega
      have f9 : Fr FRm u (sI u 120 q x) := (Fr.refl _ u).sI 120 _ _ rfl
      have hW9 := f9.fix rfl hWu
      have g9 : gI (sI u 120 q x) 108 10 = nI er := (gI_ne _ _ _ _ (by decide)).trans u3
      refine ⟨sI u 120 q x, v1.trans ?_, ((f1'.trans (v2.mono rfl)).trans (u2.mono rfl)).trans f9, g9, heT, (lo2.trans (Lo.ofN u2 u4) (Nat.le_refl q) (Nat.le_refl _)).s120 _⟩
      refine (val_call (pc2 := 110) rfl rfl rfl rfl (v4.1.rc _) (Nat.le_of_ble_eq_true rfl) (Nat.le_of_ble_eq_true rfl) rfl u1 rfl).trans ?_
      refine (tr_196_110 (d + 6) u hWu _ _ (iq hq180)).trans ?_
      rw [qq]
      refine (val_call (pc2 := 124) rfl rfl rfl rfl (hW9.rc _) (Nat.le_of_ble_eq_true rfl) (Nat.le_of_ble_eq_true rfl) rfl (m_signBad (d + 10) hW9 g9 h31 59) rfl).trans ?_
      exact tr_196_124 (d + 6) _ _ _
    | ok r =>
      obtain ⟨u, u1, u2, u3, u4, u5, u6⟩ := n1 r hr
      obtain ⟨r1, r2, r3, r4⟩ := pCh_ok 6 c p.2 r v4.2.2.2.2.1 hr
      have f9 : Fr [(120, none)] u (sI u 120 q (nI (41 * m + c))) := (Fr.refl _ u).sI 120 _ _ rfl
      have hS9 := u3.fr f9 rfl rfl rfl rfl
      have g120 : gI (sI u 120 q (nI (41 * m + c))) 120 q = nI (41 * m + c) := gI_same _ _ _ _
      have hC9 : CdM (sI u 120 q (nI (41 * m + c))) q p.1 := (v5.frN u2 rfl).frN f9 rfl
      have hD9 : DOES (sI u 120 q (nI (41 * m + c))) N (41 * m + c) (41 * m + r.2.1) r.1 := u5.agr (Agr.fr f9 rfl _ _)
      have lo9 : Lo w (sI u 120 q (nI (41 * m + c))) m q (41 * m + c) := (lo2.trans (Lo.ofN u2 u4) (Nat.le_refl q) (Nat.le_refl _)).s120 _
      have g113' : gI (sI u 120 q (nI (41 * m + c))) 113 m = nI (i + 1) := (gI_ne _ _ _ _ (by decide)).trans ((u2.i 113 m rfl).trans ((v2.i 113 m rfl).trans g113))
      have fall : Fr FRm w (sI u 120 q (nI (41 * m + c))) := ((f1'.trans (v2.mono rfl)).trans (u2.mono rfl)).trans (f9.mono rfl)
      have e3 : val (196, d + 12, 0, [some (.ref 108), none, none], [], w) = val (196, d + 12, 121, [some (.ref 108), some (.int (nI q)), some (.int (nI (41 * m + c)))], [.int 59, .ref 108], sI u 120 q (nI (41 * m + c))) := by
        refine v1.trans ?_
        refine (val_call (pc2 := 110) rfl rfl rfl rfl (v4.1.rc _) (Nat.le_of_ble_eq_true rfl) (Nat.le_of_ble_eq_true rfl) rfl u1 rfl).trans ?_
        refine (tr_196_110 (d + 6) u u3.1.1 _ _ (iq hq180)).trans ?_
        rw [qq]
      generalize sI u 120 q (nI (41 * m + c)) = y at f9 hS9 g120 hC9 hD9 lo9 g113' fall e3
      obtain ⟨s1, s2⟩ := m_sign (d + 10) hS9.1 59
      dsimp only
      cases hs : isSg t r.2.2 59 with
      | true =>
        rw [if_pos rfl]
        refine ⟨fun p2 hp2 => ?_, fun e he => (by cases he)⟩
        cases hp2
        obtain ⟨x, x1, x2, x3⟩ := s1 hs
        refine ⟨x, e3.trans ?_, fall.trans (x2.mono rfl), hS9.nx x2 x3, (x2.i 113 m rfl).trans g113', lo9.trans (Lo.of x2 rfl m q _) (Nat.le_refl q) (Nat.le_refl _), hC9.frN x2 rfl, 41 * m + c, 41 * m + r.2.1, (x2.i 120 q rfl).trans g120, hD9.agr (Agr.fr x2 rfl _ _), by omega, Nat.le_refl _⟩
        refine (val_call (pc2 := 124) rfl rfl rfl rfl (hS9.1.1.rc _) (Nat.le_of_ble_eq_true rfl) (Nat.le_of_ble_eq_true rfl) rfl x1 rfl).trans ?_
        exact tr_196_124 (d + 6) x _ _
      | false =>
        rw [if_neg (show ¬ false = true by decide)]
        refine ⟨fun p2 hp2 => (by cases hp2), fun e he => ?_⟩
        cases he
        obtain ⟨x, x1, x2, x3⟩ := s2 hs
        refine ⟨x, e3.trans ?_, fall.trans (x2.mono rfl), x3, r4.fr, lo9.trans (Lo.of x2 rfl m q _) (Nat.le_refl q) (Nat.le_refl _)⟩
        refine (val_call (pc2 := 124) rfl rfl rfl rfl (hS9.1.1.rc _) (Nat.le_of_ble_eq_true rfl) (Nat.le_of_ble_eq_true rfl) rfl x1 rfl).trans ?_
        exact tr_196_124 (d + 6) x _ _
/-- a method, as the reference keeps it -/
def MeM (w : Wd) (N m : Nat) (rs : List Ru) (c : Nat) : Prop := gI w 113 m = nI rs.length ∧ ∀ j, j < rs.length → RuB w N m (20 * m + j) (rs.getD j ru0) (41 * m + c)
theorem RuB.lo {v : Wd} {q q' b b' m' : Nat} {u : Ru} (h : RuB w N m q u b) (g : Lo w v m' q' b') (hq : q < q') (hl : u.1.length ≤ 8) (hb : b ≤ b') : RuB v N m q u b := by
  obtain ⟨h1, kn, e, h2, h3, h4, h5⟩ := h
  refine ⟨⟨(g.1.1 q hq).trans h1.1, fun j hj => ?_⟩, kn, e, (g.2.2.1 q hq).trans h2, h3.agr (g.2.1.agr (by omega)), h4, h5⟩
  obtain ⟨a1, a2, a3⟩ := h1.2 j hj
  obtain ⟨b1, b2, b3, b4⟩ := g.1.2 (8 * q + j) (by omega)
  exact ⟨b1.trans a1, b2.trans a2, fun hh => ⟨b3.trans (a3 hh).1, b4.trans (a3 hh).2⟩⟩
theorem RuB.up {q b b' : Nat} {u : Ru} (h : RuB w N m q u b) (hb : b ≤ b') : RuB w N m q u b' := by
  obtain ⟨h1, kn, e, h2, h3, h4, h5⟩ := h
  exact ⟨h1, kn, e, h2, h3, h4, by omega⟩
theorem m_site2 (d : Nat) {w v : Wd} (hW : Fix w) {s : Nat} (hs : s = 48 ∨ s = 66) (h : val (196, d + 12, 0, [some (.ref 108), none, none], [], w) = some (none, v)) : val (197, d + 13, s, [some (.ref 108)], [.ref 108], w) = val (197, d + 13, 52, [some (.ref 108)], [.ref 108], v) := by
  rcases hs with rfl | rfl
  · refine (val_call (pc2 := 51) rfl rfl rfl rfl (hW.rc _) (Nat.le_of_ble_eq_true rfl) (Nat.le_of_ble_eq_true rfl) rfl h rfl).trans ?_
    exact tr_197_51 (d + 6) v
  · refine (val_call (pc2 := 69) rfl rfl rfl rfl (hW.rc _) (Nat.le_of_ble_eq_true rfl) (Nat.le_of_ble_eq_true rfl) rfl h rfl).trans ?_
    exact (tr_197_69 (d + 6) v).trans (tr_197_51 (d + 6) v)
theorem m_rules (d : Nat) (h3 : 3 ≤ N) (hN : N ≤ 8) : ∀ n (s : Nat) rs (w : Wd) (k : Tk) (c : Nat), (s = 48 ∨ s = 66) → n + rs.length = 20 → Sn w T N t k c m → c ≤ 40 → MeM w N m rs c → (∀ j, j < rs.length → (rs.getD j ru0).1.length ≤ 8) →
    (∀ p, pRs N t T n rs c k = .ok p → ∃ v k', val (197, d + 13, s, [some (.ref 108)], [.ref 108], w) = val (197, d + 13, 78, [some (.ref 108)], [.ref 108], sI v 108 5 0) ∧ Fr FRm w v ∧ Sn v T N t k' p.2 m ∧ Lo w v m (20 * m) (41 * m) ∧ MeM v N m p.1 p.2) ∧
    (∀ e, pRs N t T n rs c k = .error e → ∃ v, val (197, d + 13, s, [some (.ref 108)], [.ref 108], w) = val (197, d + 13, 78, [some (.ref 108)], [.ref 108], sI v 108 5 0) ∧ Fr FRm w v ∧ gI v 108 10 = nI e ∧ e ≤ T ∧ Lo w v m (20 * m) (41 * m))
  | 0, s, rs, w, k, c, hs, hn, hS, hc, hM, hl => by
    refine ⟨fun p hp => (by cases hp), fun e he => ?_⟩
    cases he
    have hm8 := hS.2.2.2
    have hT := hS.1.2.2.1.2.2.1
    have im : inB (nI m) 9 = true := inB_nI (by omega) (by omega)
    have mm : (nI m).toNatClampNeg = m := nI_clamp (by omega)
    have h20 : gI w 113 m = nI 20 := by rw [hM.1, show rs.length = 20 by omega]
    have e0 := tr_196 (d + 6) w hS.1.1 (by rw [hS.2.2.1]; exact im) (fun hh => absurd (by rw [hS.2.2.1, mm, h20]; rfl) hh) (fun hh => absurd (by rw [hS.2.2.1, mm, h20]; rfl) hh)
    rw [hS.2.2.1, mm, h20, if_neg (show ¬ ¬ nI 20 = 20 from fun g => g rfl)] at e0
    obtain ⟨v, x1, x2, x3⟩ := m_wrong (d + 11) hS.1
    have hWv := x2.fix rfl hS.1.1
    have er : val (196, d + 12, 0, [some (.ref 108), none, none], [], w) = some (none, v) := by
      refine e0.trans ?_
      refine (val_call (pc2 := 36) rfl rfl rfl rfl (hS.1.1.rc _) (Nat.le_of_ble_eq_true rfl) (Nat.le_of_ble_eq_true rfl) rfl x1 rfl).trans ?_
      exact tr_196_36 (d + 6) v _
    have hkT := hS.1.2.2.2.2.1.fr
    refine ⟨v, (m_site2 d hS.1.1 hs er).trans ?_, x2.mono rfl, x3, hkT, Lo.of x2 rfl m _ _⟩
    refine (val_call (pc2 := 55) rfl rfl rfl rfl (hWv.rc _) (Nat.le_of_ble_eq_true rfl) (Nat.le_of_ble_eq_true rfl) rfl (m_bad (d + 12) hWv x3 (by omega)) rfl).trans ?_
    refine (tr_197_55 (d + 6) v hWv _).trans ?_
    rw [if_pos (show (0 : Int32) = 0 from rfl)]
  | n + 1, s, rs, w, k, c, hs, hn, hS, hc, hM, hl => by
    have hT := hS.1.2.2.1.2.2.1
    obtain ⟨y, z⟩ := m_rule d h3 hN hS hc hM.1 (by omega)
    unfold pRs
    cases hp : pRu N t T c k with
    | error er =>
      refine ⟨fun p hp => (by cases hp), fun e he => ?_⟩
      cases he
      obtain ⟨v, x1, x2, x3, x4, x5⟩ := z er hp
      have hWv := x2.fix rfl hS.1.1
      refine ⟨v, (m_site2 d hS.1.1 hs x1).trans ?_, x2, x3, x4, (Lo.refl w m (20 * m) (41 * m)).trans ⟨⟨fun i hi => x5.1.1 i (by omega), fun i hi => x5.1.2 i (by omega)⟩, x5.2.1.mono (by omega), fun j hj => x5.2.2.1 j (by omega), x5.2.2.2⟩ (Nat.le_refl (20 * m)) (Nat.le_refl (41 * m))⟩
      refine (val_call (pc2 := 55) rfl rfl rfl rfl (hWv.rc _) (Nat.le_of_ble_eq_true rfl) (Nat.le_of_ble_eq_true rfl) rfl (m_bad (d + 12) hWv x3 (by omega)) rfl).trans ?_
      refine (tr_197_55 (d + 6) v hWv _).trans ?_
      rw [if_pos (show (0 : Int32) = 0 from rfl)]
    | ok p =>
      obtain ⟨v, x1, x2, x3, x4, x5, x6⟩ := y p hp
      obtain ⟨p1, p2, p3, p4⟩ := pRu_ok hS.1.2.2.2.2.1 hp
      have hlen : (rs ++ [p.1]).length = rs.length + 1 := List.length_append
      have e1 : val (197, d + 13, s, [some (.ref 108)], [.ref 108], w) = (if gI v 108 6 = 0 then val (197, d + 13, 78, [some (.ref 108)], [.ref 108], sI v 108 5 0) else val (197, d + 13, 66, [some (.ref 108)], [.ref 108], v)) := by
        refine (m_site2 d hS.1.1 hs x1).trans ?_
        refine (val_call (pc2 := 55) rfl rfl rfl rfl (x3.1.1.rc _) (Nat.le_of_ble_eq_true rfl) (Nat.le_of_ble_eq_true rfl) rfl (m_good (d + 12) x3.1) rfl).trans ?_
        refine (tr_197_55 (d + 6) v x3.1.1 _).trans ?_
        rw [if_neg (show ¬ (1 : Int32) = 0 by decide)]
      have hM2 : MeM v N m (rs ++ [p.1]) p.2.1 := by
        refine ⟨by rw [hlen]; exact x4, fun j hj => ?_⟩
        rw [hlen] at hj
        rw [getD_snocR]
        by_cases e : j < rs.length
        · rw [if_pos e]
          exact ((hM.2 j e).lo x5 (by omega) (hl j e) (Nat.le_refl _)).up (by omega)
        · have ej : j = rs.length := by omega
          rw [if_neg e, if_pos ej, ej]
          exact x6
      have hl2 : ∀ j, j < (rs ++ [p.1]).length → ((rs ++ [p.1]).getD j ru0).1.length ≤ 8 := fun j hj => by
        rw [hlen] at hj
        rw [getD_snocR]
        by_cases e : j < rs.length
        · rw [if_pos e]; exact hl j e
        · have ej : j = rs.length := by omega
          rw [if_neg e, if_pos ej]; exact p1.2.1
      have lo5 : Lo w v m (20 * m) (41 * m) := ⟨⟨fun i hi => x5.1.1 i (by omega), fun i hi => x5.1.2 i (by omega)⟩, x5.2.1.mono (by omega), fun j hj => x5.2.2.1 j (by omega), x5.2.2.2⟩
      rw [x3.1.2.2.2.1.1] at e1
      dsimp only
      by_cases hend : p.2.2.1 = 0
      · rw [if_pos hend]
        rw [if_pos (show nI p.2.2.1 = 0 by rw [hend]; rfl)] at e1
        refine ⟨fun p2 hp2 => ?_, fun e he => (by cases he)⟩
        cases hp2
        exact ⟨v, p.2.2, e1, x2, x3, lo5, hM2⟩
      · rw [if_neg hend]
        rw [if_neg (n_ne0 hend (by have := p4.1; omega))] at e1
        obtain ⟨b1, b2⟩ := m_rules d h3 hN n 66 (rs ++ [p.1]) v p.2.2 p.2.1 (Or.inr rfl) (by omega) x3 p3 hM2 hl2
        rw [e1]
        refine ⟨fun p2 hp2 => ?_, fun e he => ?_⟩
        · obtain ⟨u, k', u1, u2, u3, u4, u5⟩ := b1 p2 hp2
          exact ⟨u, k', u1, x2.trans u2, u3, lo5.trans u4 (Nat.le_refl _) (Nat.le_refl _), u5⟩
        · obtain ⟨u, u1, u2, u3, u4, u5⟩ := b2 e he
          exact ⟨u, u1, x2.trans u2, u3, u4, lo5.trans u5 (Nat.le_refl _) (Nat.le_refl _)⟩
abbrev FMm : List (Nat × Option Nat) := [(108, some 5), (108, some 6), (108, some 7), (108, some 8), (108, some 9), (108, some 10), (108, some 11), (108, some 20), (113, none), (114, none), (115, none), (116, none), (117, none), (118, none), (119, none), (120, none), (121, none), (122, none), (123, none), (124, none), (125, none)]
theorem m_method (d : Nat) (h3 : 3 ≤ N) (hN : N ≤ 8) {w : Wd} (hW : Fix w) (hX : TX w) (hMd : Md w T N t) (hm : gI w 108 11 = nI m) (hm8 : m < 8) :
    (∀ p, pMe N t T = .ok p → ∃ v, val (197, d + 13, 0, [some (.ref 108)], [], w) = some (some (.int (nI m)), v) ∧ Fr FMm w v ∧ gI v 108 5 = 0 ∧ gI v 108 11 = nI (m + 1) ∧ Lo w v m (20 * m) (41 * m) ∧ (∀ j, j ≠ m → gI v 114 j = gI w 114 j) ∧ gI v 114 m = nI p.2 ∧ MeM v N m p.1 p.2) ∧
    (∀ e, pMe N t T = .error e → ∃ v, val (197, d + 13, 0, [some (.ref 108)], [], w) = some (some (.int (-10 - nI e)), v) ∧ Fr FMm w v ∧ gI v 108 5 = 0 ∧ gI v 108 11 = nI m ∧ Lo w v m (20 * m) (41 * m) ∧ (∀ j, j ≠ m → gI v 114 j = gI w 114 j)) := by
  have hT := hMd.2.2.1
  have im : inB (nI m) 9 = true := inB_nI (by omega) (by omega)
  have mm : (nI m).toNatClampNeg = m := nI_clamp (by omega)
  have g11 : gI (sI (sI (sI w 108 10 (-9)) 108 8 0) 108 20 0) 108 11 = nI m := by rw [gI_nk _ _ _ (by decide), gI_nk _ _ _ (by decide), gI_nk _ _ _ (by decide), hm]
  have e0 := tr_197 (d + 6) w hW (fun _ => by rw [g11]; exact im)
  rw [hm, if_pos (show ¬ nI m = 8 from n_ne (b := 8) (by omega) (by omega) (by omega)), g11, mm] at e0
  have f1 : Fr FMm w (sI (sI (sI (sI w 108 10 (-9)) 108 8 0) 108 20 0) 113 m 0) := ((((Fr.refl _ w).sI 108 10 _ rfl).sI 108 8 _ rfl).sI 108 20 _ rfl).sI 113 _ _ rfl
  have f1' : Fr [(108, some 10), (108, some 8), (108, some 20), (113, none)] w (sI (sI (sI (sI w 108 10 (-9)) 108 8 0) 108 20 0) 113 m 0) := ((((Fr.refl _ w).sI 108 10 _ rfl).sI 108 8 _ rfl).sI 108 20 _ rfl).sI 113 _ _ rfl
  have hW1 := f1.fix rfl hW
  have hX1 := hX.fr f1 rfl
  have hMd1 : Md (sI (sI (sI (sI w 108 10 (-9)) 108 8 0) 108 20 0) 113 m 0) T N t := hMd.fr f1' rfl
  have g8 : gI (sI (sI (sI (sI w 108 10 (-9)) 108 8 0) 108 20 0) 113 m 0) 108 8 = nI 0 := by rw [gI_ne _ _ _ _ (by decide), gI_nk _ _ _ (by decide), gI_same]; rfl
  have g10 : gI (sI (sI (sI (sI w 108 10 (-9)) 108 8 0) 108 20 0) 113 m 0) 108 10 = -9 := by rw [gI_ne _ _ _ _ (by decide), gI_nk _ _ _ (by decide), gI_nk _ _ _ (by decide), gI_same]
  have g20 : gI (sI (sI (sI (sI w 108 10 (-9)) 108 8 0) 108 20 0) 113 m 0) 108 20 = nI 0 := by rw [gI_ne _ _ _ _ (by decide), gI_same]; rfl
  have g11' : gI (sI (sI (sI (sI w 108 10 (-9)) 108 8 0) 108 20 0) 113 m 0) 108 11 = nI m := (f1'.i 108 11 rfl).trans hm
  have g113 : gI (sI (sI (sI (sI w 108 10 (-9)) 108 8 0) 108 20 0) 113 m 0) 113 m = nI 0 := gI_same _ _ _ _
  have lo1 : Lo w (sI (sI (sI (sI w 108 10 (-9)) 108 8 0) 108 20 0) 113 m 0) m (20 * m) (41 * m) := (Lo.of (S := [(108, some 10), (108, some 8), (108, some 20)]) ((((Fr.refl _ w).sI 108 10 (-9) rfl).sI 108 8 0 rfl).sI 108 20 0 rfl) rfl m _ _).s113 0
  have g114 : ∀ j, gI (sI (sI (sI (sI w 108 10 (-9)) 108 8 0) 108 20 0) 113 m 0) 114 j = gI w 114 j := fun j => f1'.i 114 j rfl
  generalize sI (sI (sI (sI w 108 10 (-9)) 108 8 0) 108 20 0) 113 m 0 = w1 at e0 f1 f1' hW1 hX1 hMd1 g8 g10 g20 g11' g113 lo1 g114
  obtain ⟨x, x1, x2, x3⟩ := m_next (d + 12) hW1 hMd1 (p := 0) g8 (Nat.zero_le T)
  have hSx : Sn x T N t (tok t T 0) 0 m := ⟨⟨x2.fix rfl hW1, hX1.fr x2 rfl, hMd1.fr x2 rfl, x3, tok_TkIn t (Nat.zero_le T), (x2.i 108 10 rfl).trans g10⟩, (x2.i 108 20 rfl).trans g20, (x2.i 108 11 rfl).trans g11', hm8⟩
  have e1 : val (197, d + 13, 0, [some (.ref 108)], [], w) = val (197, d + 13, 48, [some (.ref 108)], [.ref 108], x) := by
    refine e0.trans ?_
    refine (val_call (pc2 := 47) rfl rfl rfl rfl (hW1.rc _) (Nat.le_of_ble_eq_true rfl) (Nat.le_of_ble_eq_true rfl) rfl x1 rfl).trans ?_
    exact tr_197_47 (d + 6) x
  obtain ⟨y, z⟩ := m_rules (m := m) d h3 hN 20 48 [] x (tok t T 0) 0 (Or.inl rfl) rfl hSx (by omega) ⟨(x2.i 113 m rfl).trans g113, fun j hj => absurd hj (Nat.not_lt_zero j)⟩ (fun j hj => absurd hj (Nat.not_lt_zero j))
  have lox := lo1.trans (Lo.of x2 rfl m (20 * m) (41 * m)) (Nat.le_refl _) (Nat.le_refl _)
  unfold pMe
  refine ⟨fun p hp => ?_, fun e he => ?_⟩
  · obtain ⟨v, k', v1, v2, v3, v4, v5⟩ := y p hp
    have f9 : Fr [(108, some 5)] v (sI v 108 5 0) := (Fr.refl _ v).sI 108 5 _ rfl
    have hW9 := f9.fix rfl v3.1.1
    have h10 : gI (sI v 108 5 0) 108 10 = -9 := (f9.i 108 10 rfl).trans v3.1.2.2.2.2.2
    have h11 : gI (sI v 108 5 0) 108 11 = nI m := (f9.i 108 11 rfl).trans v3.2.2.1
    have h20 : gI (sI v 108 5 0) 108 20 = nI p.2 := (f9.i 108 20 rfl).trans v3.2.1
    have h5 : gI (sI v 108 5 0) 108 5 = 0 := gI_same _ _ _ _
    have lov : Lo w (sI v 108 5 0) m (20 * m) (41 * m) := (lox.trans v4 (Nat.le_refl _) (Nat.le_refl _)).trans (Lo.of f9 rfl m _ _) (Nat.le_refl _) (Nat.le_refl _)
    have hMv : MeM (sI v 108 5 0) N m p.1 p.2 := ⟨(f9.i 113 m rfl).trans v5.1, fun j hj => by
      obtain ⟨q1, kn, e, q2, q3, q4, q5⟩ := v5.2 j hj
      exact ⟨q1.frN f9 rfl, kn, e, (f9.i 120 _ rfl).trans q2, q3.agr (Agr.fr f9 rfl _ _), q4, q5⟩⟩
    have fall : Fr FMm w (sI v 108 5 0) := ((f1.trans (x2.mono rfl)).trans (v2.mono rfl)).trans (f9.mono rfl)
    have i114 : ∀ j, gI (sI v 108 5 0) 114 j = gI w 114 j := fun j => (f9.i 114 j rfl).trans ((v2.i 114 j rfl).trans ((x2.i 114 j rfl).trans (g114 j)))
    have e2 : val (197, d + 13, 0, [some (.ref 108)], [], w) = val (197, d + 13, 81, [some (.ref 108)], [.int 1], sI v 108 5 0) := by
      refine e1.trans (v1.trans ?_)
      refine (val_call (pc2 := 81) rfl rfl rfl rfl (hW9.rc _) (Nat.le_of_ble_eq_true rfl) (Nat.le_of_ble_eq_true rfl) rfl ((tr_187 (d + 12) _ hW9).trans (by rw [h10, if_neg (by decide)])) rfl).trans ?_
      rfl
    generalize sI v 108 5 0 = u at f9 hW9 h10 h11 h20 h5 lov hMv fall i114 e2
    have e3 := e2.trans (tr_197_81 (d + 6) u hW9 _ (fun _ => by rw [h11]; exact im))
    have h11' : gI (sI u 114 m (nI p.2)) 108 11 = nI m := (gI_ne _ _ _ _ (by decide)).trans h11
    rw [if_pos (show ¬ (1 : Int32) = 0 by decide), h11, mm, h20, h11', gI_same, n_succ, show nI (m + 1) - 1 = nI m from (n_sub (b := 1) (by omega)).trans (by rw [Nat.add_sub_cancel])] at e3
    have fz : Fr [(114, none), (108, some 11)] u (sI (sI u 114 m (nI p.2)) 108 11 (nI (m + 1))) := ((Fr.refl _ u).sI 114 _ _ rfl).sI 108 11 _ rfl
    refine ⟨_, e3, (fall.sI 114 _ _ rfl).sI 108 11 _ rfl, (fz.i 108 5 rfl).trans h5, gI_same _ _ _ _, lov.trans (Lo.of fz rfl m _ _) (Nat.le_refl _) (Nat.le_refl _), fun j hj => ?_, ?_, (fz.i 113 m rfl).trans hMv.1, fun j hj => ?_⟩
    · rw [gI_ne _ _ _ _ (by decide), gI_nk _ _ _ hj]; exact i114 j
    · rw [gI_ne _ _ _ _ (by decide), gI_same]
    · obtain ⟨q1, kn, e, q2, q3, q4, q5⟩ := hMv.2 j hj
      exact ⟨q1.frN fz rfl, kn, e, (fz.i 120 _ rfl).trans q2, q3.agr (Agr.fr fz rfl _ _), q4, q5⟩
  · obtain ⟨v, v1, v2, v3, v4, v5⟩ := z e he
    have f9 : Fr [(108, some 5)] v (sI v 108 5 0) := (Fr.refl _ v).sI 108 5 _ rfl
    have fall : Fr FMm w (sI v 108 5 0) := ((f1.trans (x2.mono rfl)).trans (v2.mono rfl)).trans (f9.mono rfl)
    have hW9 := fall.fix rfl hW
    have h10 : gI (sI v 108 5 0) 108 10 = nI e := (f9.i 108 10 rfl).trans v3
    refine ⟨sI v 108 5 0, e1.trans (v1.trans ?_), fall, gI_same _ _ _ _, (f9.i 108 11 rfl).trans ((v2.i 108 11 rfl).trans hSx.2.2.1), (lox.trans v5 (Nat.le_refl _) (Nat.le_refl _)).trans (Lo.of f9 rfl m _ _) (Nat.le_refl _) (Nat.le_refl _), fun j _ => (f9.i 114 j rfl).trans ((v2.i 114 j rfl).trans ((x2.i 114 j rfl).trans (g114 j)))⟩
    refine (val_call (pc2 := 81) rfl rfl rfl rfl (hW9.rc _) (Nat.le_of_ble_eq_true rfl) (Nat.le_of_ble_eq_true rfl) rfl (m_bad (d + 12) hW9 h10 (by omega)) rfl).trans ?_
    refine (tr_197_81 (d + 6) _ hW9 _ (fun h => absurd rfl h)).trans ?_
    rw [if_neg (show ¬ ¬ (0 : Int32) = 0 from fun g => g rfl), h10]
theorem m_methodFull (d : Nat) {w : Wd} (hW : Fix w) (hm : gI w 108 11 = nI 8) : val (197, d + 13, 0, [some (.ref 108)], [], w) = some (some (.int (-3)), sI w 108 5 0) := by
  refine (tr_197 (d + 6) w hW (fun h => absurd (by rw [hm]; rfl) h)).trans ?_
  rw [hm, if_neg (show ¬ ¬ nI 8 = 8 from fun g => g rfl)]
end MRL
