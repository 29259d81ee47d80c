/-! THE READER: conditions -/
abbrev FCd (o M r : Nat) : List (Nat × Option Nat) := FRu r ++ FCh o M
theorem inS_app {S T : List (Nat × Option Nat)} {a j : Nat} (h1 : inS S a j = false) (h2 : inS T a j = false) : inS (S ++ T) a j = false := by
  unfold inS at h1 h2 ⊢
  rw [List.any_append, h1, h2]
  rfl
theorem Fr.cl {S T : List (Nat × Option Nat)} {w v : Wd} (h : Fr S w v) : Fr (S ++ T) w v := h.sub (fun s hs => List.mem_append_left _ hs)
theorem Fr.cr {S T : List (Nat × Option Nat)} {w v : Wd} (h : Fr T w v) : Fr (S ++ T) w v := h.sub (fun s hs => List.mem_append_right _ hs)
section CCD
variable {w v : Wd} {o M T N c r : Nat} {t : Nat → Int32} {k : Tk} {cs : List Cd}
theorem c_twNoF (d : Nat) (hW : Fix w) (hX : TX w) (hR : Rd w o M T N t) (hk : TkC w o t k) (hin : TkIn t T k) {j : Nat} (hj : j < 16) (hn : isWd t k j = false) : val (83, d + 5, 0, [some (.ref o), some (.ref (2 + j)), none], [], w) = some (some (.int 0), w) := by
  have e := c_isWord d hW hX hR hk hin hj
  rw [hn] at e
  refine (tr_83 d w o (2 + j)).trans ?_
  refine (val_call (pc2 := 5) rfl rfl rfl rfl (rcvO hR.2.1 (by decide)) (Nat.le_of_ble_eq_true rfl) (Nat.le_of_ble_eq_true rfl) rfl e rfl).trans ?_
  refine (tr_83_5 d w o (2 + j) _).trans ?_
  rw [if_pos (show b01 false = 0 from rfl)]
  exact tr_83_14 d w o (2 + j) _ rfl
/-- the reader and its rule -/
def Sr (w : Wd) (o M T N : Nat) (t : Nat → Int32) (k : Tk) (c r : Nat) (cs : List Cd) : Prop := Sc w o M T N t k c ∧ o < r ∧ M < r ∧ RuL w r cs
theorem Sr.ch {c' : Nat} {k' : Tk} (h : Sr w o M T N t k c r cs) (hf : Fr (FCh o M) w v) (hs : Sc v o M T N t k' c') : Sr v o M T N t k' c' r cs := by
  obtain ⟨h1, h2, h3, h4⟩ := h
  exact ⟨hs, h2, h3, h4.fr hf (fun a j h1 h2 _ => fch_off (Or.inl (by omega)) (Or.inl (by omega)))⟩
theorem Sr.ru {cs' : List Cd} (h : Sr w o M T N t k c r cs) (hf : Fr (FRu r) w v) (hr : RuL v r cs') : Sr v o M T N t k c r cs' := by
  obtain ⟨⟨a1, a2, a3, a4, a5, a6, a7, a8, a9, a10⟩, h2, h3, h4⟩ := h
  have lo : ∀ a j, a < r → inS (FRu r) a j = false := fun a j ha => fru_off (Or.inl ha)
  have ho : ∀ j, gI v o j = gI w o j := fun j => hf.i o j (lo o j h2)
  obtain ⟨k1, k2, k3⟩ := a4
  exact ⟨⟨hf.fixO (fun a j ha => lo a j (by omega)) a1, hf.txO (fun a j ha => lo a j (by omega)) a2, a3.fr hf (fun j _ _ => lo o j h2) (fun i => lo 65 i (by omega)), ⟨by rw [ho 5]; exact k1, (ho 6).trans k2, (ho 7).trans k3⟩, a5, (ho 1).trans a6, by rw [hf.k]; exact a7, a8, a9, (hf.i M 2 (lo M 2 h3)).trans a10⟩, h2, h3, hr⟩
theorem Rd.ru (h : Rd w o M T N t) (hf : Fr (FRu r) w v) (ho : o < r) : Rd v o M T N t := h.fr hf (fun j _ _ => fru_off (Or.inl ho)) (fun i => fru_off (Or.inl (by have := h.1; omega)))
theorem c_placing (d : Nat) (hN : N ≤ 8) (hS : Sr w o M T N t k c r cs) (hl : cs.length < 8) (h2 : k.1 ≠ 1) (nt : Bool) :
    (∀ q, pPla N t T nt k = .ok q → ∃ v, val (90, d + 6, 0, [some (.ref o), some (.ref r), some (.int (b01 nt)), none], [], w) = some (none, v) ∧ Fr (FCd o M r) w v ∧ Sr v o M T N t q.2 c r (cs ++ [q.1])) ∧
    (∀ e, pPla N t T nt k = .error e → ∃ v, val (90, d + 6, 0, [some (.ref o), some (.ref r), some (.int (b01 nt)), none], [], w) = some (none, v) ∧ Fr (FCd o M r) w v ∧ gI v o 1 = nI e ∧ Rd v o M T N t) := by
  have hS0 := hS.1
  have hk := hS0.2.2.1.2.1
  have hn := hS0.2.2.1.2.2.2.2.2.1
  have hro := hS.2.1
  have k6 := hS.2.2.2.1
  obtain ⟨v1, a1, a2, a3, a4⟩ := c_within (d + 2) hS0.1 hS0.2.2.1 hS0.2.2.2.1 hS0.2.2.2.2.1 none31 hS0.2.2.2.2.2.1 (a := 1) (b := N) (by omega) (by omega)
  have e0 : ∀ x, (if InR k 1 N then k.2.2.2 else 1) = x → val (90, d + 6, 0, [some (.ref o), some (.ref r), some (.int (b01 nt)), none], [], w) = val (90, d + 6, 14, [some (.ref o), some (.ref r), some (.int (b01 nt)), some (.int (nI x))], [.ref 4, .ref o], v1) := by
    intro x hx
    refine (tr_90 d w o r _ 8 hk).trans ?_
    rw [hn]
    refine (val_call (pc2 := 10) rfl rfl rfl rfl (rcvO hk (by decide)) (Nat.le_of_ble_eq_true rfl) (Nat.le_of_ble_eq_true rfl) rfl a1 rfl).trans ?_
    rw [hx]
    exact tr_90_10 d v1 o r _ _
  have hR1 := hS0.2.2.1.tf a2
  have hk1 := hR1.2.1
  unfold pPla
  by_cases hI : InR k 1 N
  · rw [if_pos hI]
    rw [if_pos hI] at a3 a4
    have hv := hS0.2.2.2.2.1.val hI.1
    have e0 := e0 k.2.2.2 (if_pos hI)
    have hS1 := hS.ch a2.ch (hS0.stepF a2 a3 hS0.2.2.2.2.1.nxt a4)
    cases hat : isWd t (nxt t T k) 2 with
    | true =>
      rw [if_pos rfl]
      obtain ⟨v2, x1, x2, x3⟩ := c_twYes d hS1.1 (j := 2) (by decide) hat
      have hS2 := hS1.ch x2.tkf.ch x3
      have hk2 := x3.2.2.1.2.1
      have e1 : val (90, d + 6, 14, [some (.ref o), some (.ref r), some (.int (b01 nt)), some (.int (nI k.2.2.2))], [.ref 4, .ref o], v1) = val (90, d + 6, 31, [some (.ref o), some (.ref r), some (.int (b01 nt)), some (.int (nI k.2.2.2))], [.int (-1), .int (nI N), .int 1, .ref o, .int (nI k.2.2.2), .int 0, .int (b01 nt), .ref r], v2) := by
        refine (val_call (pc2 := 17) rfl rfl rfl rfl (rcvO hk1 (by decide)) (Nat.le_of_ble_eq_true rfl) (Nat.le_of_ble_eq_true rfl) rfl x1 rfl).trans ?_
        refine (tr_90_17 d v2 o r _ _ _ 8 hk2).trans ?_
        rw [if_neg (show ¬ (1 : Int32) = 0 by decide), x3.2.2.1.2.2.2.2.2.1]
      obtain ⟨v3, b1, b2, b3, b4⟩ := c_within (d + 2) x3.1 x3.2.2.1 x3.2.2.2.1 x3.2.2.2.2.1 none31 x3.2.2.2.2.2.1 (a := 1) (b := N) (by omega) (by omega)
      have hRu3 : RuL v3 r cs := hS2.2.2.2.fr (b2.ch (M := M)) (fun a j h1 h2 _ => fch_off (Or.inl (by omega)) (Or.inl (by have := hS.2.2.1; omega)))
      obtain ⟨v4, g1, g2, g3⟩ := c_require (d + 5) hRu3 hl nt 0 k.2.2.2 (if InR (nxt t T (nxt t T k)) 1 N then (nxt t T (nxt t T k)).2.2.2 else 1)
      have e2 : val (90, d + 6, 0, [some (.ref o), some (.ref r), some (.int (b01 nt)), none], [], w) = some (none, v4) := by
        refine e0.trans (e1.trans ?_)
        refine (val_call (pc2 := 34) rfl rfl rfl rfl (rcvO hk2 (by decide)) (Nat.le_of_ble_eq_true rfl) (Nat.le_of_ble_eq_true rfl) rfl b1 rfl).trans ?_
        refine (val_call (pc2 := 37) rfl rfl rfl rfl (rcvO hRu3.1 (by decide)) (Nat.le_of_ble_eq_true rfl) (Nat.le_of_ble_eq_true rfl) rfl g1 rfl).trans ?_
        exact (tr_90_37 d v4 o r _ _).trans (tr_90_73 d v4 o r _ _)
      have fA : Fr (FCd o M r) w v4 := (((a2.ch (M := M)).trans x2.tkf.ch).trans b2.ch).cr.trans g2.cl
      by_cases hI2 : InR (nxt t T (nxt t T k)) 1 N
      · rw [if_pos hI2]
        rw [if_pos hI2] at b3 b4 g3
        refine ⟨fun q hq => ?_, fun e he => (by cases he)⟩
        cases hq
        exact ⟨v4, e2, fA, (hS2.ch b2.ch (x3.stepF b2 b3 x3.2.2.2.2.1.nxt b4)).ru g2 g3⟩
      · rw [if_neg hI2]
        rw [if_neg hI2] at b4
        refine ⟨fun q hq => (by cases hq), fun e he => ?_⟩
        cases he
        exact ⟨v4, e2, fA, (g2.i o 1 (fru_off (Or.inl hro))).trans b4, (x3.2.2.1.tf b2).ru g2 hro⟩
    | false =>
      rw [if_neg (show ¬ false = true by decide)]
      have e1 : val (90, d + 6, 14, [some (.ref o), some (.ref r), some (.int (b01 nt)), some (.int (nI k.2.2.2))], [.ref 4, .ref o], v1) = val (90, d + 6, 43, [some (.ref o), some (.ref r), some (.int (b01 nt)), some (.int (nI k.2.2.2))], [.ref 5, .ref o], v1) := by
        refine (val_call (pc2 := 17) rfl rfl rfl rfl (rcvO hk1 (by decide)) (Nat.le_of_ble_eq_true rfl) (Nat.le_of_ble_eq_true rfl) rfl (c_twNo d hS1.1 (j := 2) (by decide) hat) rfl).trans ?_
        refine (tr_90_17 d v1 o r _ _ _ 8 hk1).trans ?_
        rw [if_pos (show (0 : Int32) = 0 from rfl)]
      cases hbf : isWd t (nxt t T k) 3 with
      | true =>
        rw [if_pos rfl]
        obtain ⟨v2, x1, x2, x3⟩ := c_twYes d hS1.1 (j := 3) (by decide) hbf
        have hS2 := hS1.ch x2.tkf.ch x3
        have hk2 := x3.2.2.1.2.1
        have e3 : val (90, d + 6, 43, [some (.ref o), some (.ref r), some (.int (b01 nt)), some (.int (nI k.2.2.2))], [.ref 5, .ref o], v1) = val (90, d + 6, 60, [some (.ref o), some (.ref r), some (.int (b01 nt)), some (.int (nI k.2.2.2))], [.int (nI k.2.2.2), .int (nI N), .int 1, .ref o, .int (nI k.2.2.2), .int 1, .int (b01 nt), .ref r], v2) := by
          refine (val_call (pc2 := 46) rfl rfl rfl rfl (rcvO hk1 (by decide)) (Nat.le_of_ble_eq_true rfl) (Nat.le_of_ble_eq_true rfl) rfl x1 rfl).trans ?_
          refine (tr_90_46 d v2 o r _ _ _ 8 hk2).trans ?_
          rw [if_neg (show ¬ (1 : Int32) = 0 by decide), x3.2.2.1.2.2.2.2.2.1]
        obtain ⟨v3, b1, b2, b3, b4⟩ := c_but (d + 1) x3.1 x3.2.2.1 hN x3.2.2.2.1 x3.2.2.2.2.1 none31 x3.2.2.2.2.2.1 (c := k.2.2.2) hv
        have hRu3 : RuL v3 r cs := hS2.2.2.2.fr (b2.ch (M := M)) (fun a j h1 h2 _ => fch_off (Or.inl (by omega)) (Or.inl (by have := hS.2.2.1; omega)))
        obtain ⟨v4, g1, g2, g3⟩ := c_require (d + 5) hRu3 hl nt 1 k.2.2.2 (if InR (nxt t T (nxt t T k)) 1 N ∧ (nxt t T (nxt t T k)).2.2.2 ≠ k.2.2.2 then (nxt t T (nxt t T k)).2.2.2 else 1)
        have e2 : val (90, d + 6, 0, [some (.ref o), some (.ref r), some (.int (b01 nt)), none], [], w) = some (none, v4) := by
          refine e0.trans (e1.trans (e3.trans ?_))
          refine (val_call (pc2 := 63) rfl rfl rfl rfl (rcvO hk2 (by decide)) (Nat.le_of_ble_eq_true rfl) (Nat.le_of_ble_eq_true rfl) rfl b1 rfl).trans ?_
          refine (val_call (pc2 := 66) rfl rfl rfl rfl (rcvO hRu3.1 (by decide)) (Nat.le_of_ble_eq_true rfl) (Nat.le_of_ble_eq_true rfl) rfl g1 rfl).trans ?_
          exact (tr_90_66 d v4 o r _ _).trans (tr_90_73 d v4 o r _ _)
        have fA : Fr (FCd o M r) w v4 := (((a2.ch (M := M)).trans x2.tkf.ch).trans b2.ch).cr.trans g2.cl
        by_cases hI2 : InR (nxt t T (nxt t T k)) 1 N ∧ (nxt t T (nxt t T k)).2.2.2 ≠ k.2.2.2
        · rw [if_pos hI2]
          rw [if_pos hI2] at b3 b4 g3
          refine ⟨fun q hq => ?_, fun e he => (by cases he)⟩
          cases hq
          exact ⟨v4, e2, fA, (hS2.ch b2.ch (x3.stepF b2 b3 x3.2.2.2.2.1.nxt b4)).ru g2 g3⟩
        · rw [if_neg hI2]
          rw [if_neg hI2] at b4
          refine ⟨fun q hq => (by cases hq), fun e he => ?_⟩
          cases he
          exact ⟨v4, e2, fA, (g2.i o 1 (fru_off (Or.inl hro))).trans b4, (x3.2.2.1.tf b2).ru g2 hro⟩
      | false =>
        rw [if_neg (show ¬ false = true by decide)]
        refine ⟨fun q hq => (by cases hq), fun e he => ?_⟩
        cases he
        obtain ⟨v2, x1, x2, x3, x4⟩ := c_ref (d + 5) hS1.1
        refine ⟨v2, e0.trans (e1.trans ?_), (a2.ch.trans x2).cr, x3, x4⟩
        refine (val_call (pc2 := 46) rfl rfl rfl rfl (rcvO hk1 (by decide)) (Nat.le_of_ble_eq_true rfl) (Nat.le_of_ble_eq_true rfl) rfl (c_twNo d hS1.1 (j := 3) (by decide) hbf) rfl).trans ?_
        refine (tr_90_46 d v1 o r _ _ _ 8 hk1).trans ?_
        rw [if_pos (show (0 : Int32) = 0 from rfl)]
        refine (val_call (pc2 := 73) rfl rfl rfl rfl (rcvO hk1 (by decide)) (Nat.le_of_ble_eq_true rfl) (Nat.le_of_ble_eq_true rfl) rfl x1 rfl).trans ?_
        exact tr_90_73 d v2 o r _ _
  · rw [if_neg hI]
    rw [if_neg hI] at a3 a4
    have e0 := e0 1 (if_neg hI)
    refine ⟨fun q hq => (by cases hq), fun e he => ?_⟩
    cases he
    have hW1 := a2.fixO (ftf_lo hS0.2.2.1.1) hS0.1
    have hX1 := a2.txO (ftf_lo hS0.2.2.1.1) hS0.2.1
    have nw2 : ∀ j, isWd t k j = false := fun j => by unfold isWd; rw [decide_eq_false h2]; rfl
    refine ⟨v1, e0.trans ?_, a2.ch.cr, a4, hR1⟩
    refine (val_call (pc2 := 17) rfl rfl rfl rfl (rcvO hk1 (by decide)) (Nat.le_of_ble_eq_true rfl) (Nat.le_of_ble_eq_true rfl) rfl (c_twNoF d hW1 hX1 hR1 a3 hS0.2.2.2.2.1 (j := 2) (by decide) (nw2 2)) rfl).trans ?_
    refine (tr_90_17 d v1 o r _ _ _ 8 hk1).trans ?_
    rw [if_pos (show (0 : Int32) = 0 from rfl)]
    refine (val_call (pc2 := 46) rfl rfl rfl rfl (rcvO hk1 (by decide)) (Nat.le_of_ble_eq_true rfl) (Nat.le_of_ble_eq_true rfl) rfl (c_twNoF d hW1 hX1 hR1 a3 hS0.2.2.2.2.1 (j := 3) (by decide) (nw2 3)) rfl).trans ?_
    refine (tr_90_46 d v1 o r _ _ _ 8 hk1).trans ?_
    rw [if_pos (show (0 : Int32) = 0 from rfl)]
    refine (val_call (pc2 := 73) rfl rfl rfl rfl (rcvO hk1 (by decide)) (Nat.le_of_ble_eq_true rfl) (Nat.le_of_ble_eq_true rfl) rfl (c_refused (d + 5) hR1 a4 (hS0.2.2.2.2.1.at31 hS0.2.2.1)) rfl).trans ?_
    exact tr_90_73 d v1 o r _ _
end CCD
