/-! THE REFERENCE'S conditions -/
abbrev FCm : List (Nat × Option Nat) := [(108, some 6), (108, some 7), (108, some 8), (108, some 9), (108, some 10), (115, none), (116, none), (117, none), (118, none), (119, none)]
/-- one condition -/
def cE (w : Wd) (i : Nat) (c : Cd) : Prop := gI w 116 i = nI c.1 ∧ gI w 117 i = b01 c.2.1 ∧ ((c.1 ≤ 1 ∨ c.1 = 5) → gI w 118 i = nI c.2.2.1 ∧ gI w 119 i = nI c.2.2.2)
/-- the conditions of rule q -/
def CdM (w : Wd) (q : Nat) (cs : List Cd) : Prop := gI w 115 q = nI cs.length ∧ ∀ j, j < cs.length → cE w (8 * q + j) (cs.getD j cd0)
/-- below rule q and condition b nothing has changed -/
def LoC (w v : Wd) (q b : Nat) : Prop := (∀ i, i < q → gI v 115 i = gI w 115 i) ∧ ∀ i, i < b → gI v 116 i = gI w 116 i ∧ gI v 117 i = gI w 117 i ∧ gI v 118 i = gI w 118 i ∧ gI v 119 i = gI w 119 i
theorem LoC.refl (w : Wd) (q b : Nat) : LoC w w q b := ⟨fun _ _ => rfl, fun _ _ => ⟨rfl, rfl, rfl, rfl⟩⟩
theorem LoC.trans {u v w : Wd} {q b b' : Nat} (h : LoC u v q b) (g : LoC v w q b') (hb : b ≤ b') : LoC u w q b := ⟨fun i hi => (g.1 i hi).trans (h.1 i hi), fun i hi => by
  obtain ⟨a1, a2, a3, a4⟩ := h.2 i hi
  obtain ⟨b1, b2, b3, b4⟩ := g.2 i (by omega)
  exact ⟨b1.trans a1, b2.trans a2, b3.trans a3, b4.trans a4⟩⟩
theorem LoC.of {S : List (Nat × Option Nat)} {w v : Wd} (h : Fr S w v) (hs : dj S [(115, none), (116, none), (117, none), (118, none), (119, none)] = true) (q b : Nat) : LoC w v q b := ⟨fun i _ => h.i 115 i (dj_off hs rfl), fun i _ => ⟨h.i 116 i (dj_off hs rfl), h.i 117 i (dj_off hs rfl), h.i 118 i (dj_off hs rfl), h.i 119 i (dj_off hs rfl)⟩⟩
theorem LoC.set {w v : Wd} {q b a i : Nat} (h : LoC w v q b) (x : Int32) (ha : a ≠ 115 ∨ q ≤ i) (hi : a = 115 ∨ b ≤ i) : LoC w (sI v a i x) q b := by
  refine ⟨fun j hj => ?_, fun j hj => ?_⟩
  · rw [gI_sI]
    by_cases e : 115 = a
    · rw [if_pos e, if_neg (by omega)]; exact h.1 j hj
    · rw [if_neg e]; exact h.1 j hj
  · obtain ⟨a1, a2, a3, a4⟩ := h.2 j hj
    have e : ∀ c, c ≠ 115 → gI (sI v a i x) c j = gI v c j := fun c hc => by
      rw [gI_sI]
      by_cases e : c = a
      · rw [if_pos e, if_neg (by omega)]
      · rw [if_neg e]
    exact ⟨(e _ (by decide)).trans a1, (e _ (by decide)).trans a2, (e _ (by decide)).trans a3, (e _ (by decide)).trans a4⟩
theorem CdM.lo {w v : Wd} {q b : Nat} {cs : List Cd} (h : CdM w q cs) (g : LoC w v (q + 1) b) (hb : 8 * q + cs.length ≤ b) : CdM v q cs :=
  ⟨(g.1 q (Nat.lt_succ_self q)).trans h.1, fun j hj => by
    obtain ⟨a1, a2, a3⟩ := h.2 j hj
    obtain ⟨b1, b2, b3, b4⟩ := g.2 (8 * q + j) (by omega)
    exact ⟨b1.trans a1, b2.trans a2, fun hh => ⟨b3.trans (a3 hh).1, b4.trans (a3 hh).2⟩⟩⟩
theorem wd_ex {t : Nat → Int32} {k : Tk} (h : isWd t k 7 = true) : isWd t k 4 = false ∧ isWd t k 5 = false ∧ isWd t k 6 = false := by
  unfold isWd at h ⊢
  rw [Bool.and_eq_true, Bool.and_eq_true] at h
  obtain ⟨h1, h2, h3⟩ := h
  have h2' : k.2.2.1 - k.2.1 = 5 := of_decide_eq_true h2
  have h3' : t k.2.1 = 101 := by
    have h4 : (decide (t k.2.1 = 101) && mWd t (k.2.1 + 1) [118, 101, 114, 121]) = true := h3
    rw [Bool.and_eq_true] at h4
    exact of_decide_eq_true h4.1
  refine ⟨?_, ?_, ?_⟩
  · rw [decide_eq_false (show ¬ k.2.2.1 - k.2.1 = (chs 4).length from fun e => by rw [h2'] at e; exact absurd e (by decide)), Bool.false_and, Bool.and_false]
  · have : mWd t k.2.1 (chs 5) = false := by
      show (decide (t k.2.1 = 114) && mWd t (k.2.1 + 1) [111, 117, 110, 100]) = false
      rw [decide_eq_false (show ¬ t k.2.1 = 114 from fun e => by rw [h3'] at e; exact absurd e (by decide)), Bool.false_and]
    rw [this, Bool.and_false, Bool.and_false]
  · rw [decide_eq_false (show ¬ k.2.2.1 - k.2.1 = (chs 6).length from fun e => by rw [h2'] at e; exact absurd e (by decide)), Bool.false_and, Bool.and_false]
section MCD
variable {T N q : Nat} {t : Nat → Int32} {k : Tk} {w : Wd} {cs : List Cd}
theorem iq {i : Nat} (h : i < 180) : inB (nI i) 180 = true := inB_nI h (by omega)
theorem ic4 {i : Nat} (h : i < 1440) : inB (nI i) 1440 = true := inB_nI h (by omega)
/-- the end of a condition that was read -/
theorem m_cdOk (d : Nat) (hW : Fix w) {l I K : Nat} (hq : q < 180) (hI : I < 1440) (hK : K ≤ 5) (h116 : gI w 116 I = nI K) (h115 : gI w 115 q = nI l) : val (193, d + 5, 320, [some (.ref 108), some (.int (nI q)), some (.int (nI I))], [], w) = some (none, sI w 115 q (nI (l + 1))) := by
  have e0 := tr_193_320 d w hW (nI q) (nI I) (ic4 hI)
  rw [nI_clamp (show I < 2 ^ 31 by omega), h116, if_pos (show ¬ nI K = -9 from n9 (by omega))] at e0
  refine e0.trans ((tr_193_335 d w hW _ _ (iq hq)).trans ?_)
  rw [nI_clamp (show q < 2 ^ 31 by omega), h115, n_succ]
/-- the end of a condition with a fault -/
theorem m_cdBad (d : Nat) (hW : Fix w) {I e : Nat} (hq : q < 180) (hI : I < 1440) (he : gI w 108 10 = nI e) (h31 : e < 2 ^ 31) : ∃ x, val (193, d + 5, 320, [some (.ref 108), some (.int (nI q)), some (.int (nI I))], [], w) = some (none, sI w 115 q x) := by
  refine ⟨gI w 115 q + 1, ?_⟩
  have e5 : val (193, d + 5, 335, [some (.ref 108), some (.int (nI q)), some (.int (nI I))], [], w) = some (none, sI w 115 q (gI w 115 q + 1)) := by
    refine (tr_193_335 d w hW _ _ (iq hq)).trans ?_
    rw [nI_clamp (show q < 2 ^ 31 by omega)]
  refine (tr_193_320 d w hW (nI q) (nI I) (ic4 hI)).trans ?_
  split
  · exact e5
  · refine (val_call (pc2 := 335) rfl rfl rfl rfl (hW.rc _) (Nat.le_of_ble_eq_true rfl) (Nat.le_of_ble_eq_true rfl) rfl (m_wronged (d + 4) hW he h31) rfl).trans ?_
    exact e5
theorem Sm.set {a i : Nat} {x : Int32} (h : Sm w T N t k) (ha : a = 115 ∨ a = 116 ∨ a = 117 ∨ a = 118 ∨ a = 119 ∨ a = 120 ∨ a = 113 ∨ a = 114) : Sm (sI w a i x) T N t k := by
  rcases ha with rfl | rfl | rfl | rfl | rfl | rfl | rfl | rfl
  · exact h.fr (S := [(115, none)]) ((Fr.refl _ w).sI _ _ _ rfl) rfl rfl rfl
  · exact h.fr (S := [(116, none)]) ((Fr.refl _ w).sI _ _ _ rfl) rfl rfl rfl
  · exact h.fr (S := [(117, none)]) ((Fr.refl _ w).sI _ _ _ rfl) rfl rfl rfl
  · exact h.fr (S := [(118, none)]) ((Fr.refl _ w).sI _ _ _ rfl) rfl rfl rfl
  · exact h.fr (S := [(119, none)]) ((Fr.refl _ w).sI _ _ _ rfl) rfl rfl rfl
  · exact h.fr (S := [(120, none)]) ((Fr.refl _ w).sI _ _ _ rfl) rfl rfl rfl
  · exact h.fr (S := [(113, none)]) ((Fr.refl _ w).sI _ _ _ rfl) rfl rfl rfl
  · exact h.fr (S := [(114, none)]) ((Fr.refl _ w).sI _ _ _ rfl) rfl rfl rfl
/-- what a condition comes to, from within: at I, rule q, l conditions before -/
def CdOut (w : Wd) (T N : Nat) (t : Nat → Int32) (q I : Nat) (nt : Bool) (v : Wd) (p : Cd × Tk) : Prop := Fr FCm w v ∧ LoC w v q I ∧ Sm v T N t p.2 ∧ cE v I p.1 ∧ gI v 115 q = gI w 115 q + 1
theorem m_cond1 (d : Nat) (hN : N ≤ 8) (hS : Sm w T N t k) {I l : Nat} (hq : q < 180) (hI : I < 1440) (h115 : gI w 115 q = nI l) (nt : Bool) (h117 : gI w 117 I = b01 nt) :
    (∀ p, pCd1 N t T nt k = .ok p → ∃ v, val (193, d + 5, 55, [some (.ref 108), some (.int (nI q)), some (.int (nI I))], [], w) = some (none, v) ∧ Fr FCm w v ∧ LoC w v q I ∧ Sm v T N t p.2 ∧ cE v I p.1 ∧ gI v 115 q = nI (l + 1)) ∧
    (∀ e, pCd1 N t T nt k = .error e → ∃ v, val (193, d + 5, 55, [some (.ref 108), some (.int (nI q)), some (.int (nI I))], [], w) = some (none, v) ∧ Fr FCm w v ∧ LoC w v q I ∧ gI v 108 10 = nI e ∧ ∃ k'', TkM v k'' ∧ TkIn t T k'') := by
  have iI : (nI I).toNatClampNeg = I := nI_clamp (by omega)
  have hT := hS.2.2.1.2.2.1
  -- what is left when a condition has been read
  have ok119 : ∀ (z x : Wd) (k' : Tk) (K a b : Nat), K ≤ 5 → Fr FMk z x → Sm x T N t k' → gI z 116 I = nI K → gI z 115 q = nI l → Fr FCm w z → LoC w z q I → gI z 117 I = b01 nt → gI z 118 I = nI a → ∃ v, val (193, d + 5, 320, [some (.ref 108), some (.int (nI q)), some (.int (nI I))], [], sI x 119 I (nI b)) = some (none, v) ∧ Fr FCm w v ∧ LoC w v q I ∧ Sm v T N t k' ∧ cE v I (K, nt, a, b) ∧ gI v 115 q = nI (l + 1) := by
    intro z x k' K a b hK hf hx h116 hz hF hL h7 h8
    have hS9 : Sm (sI x 119 I (nI b)) T N t k' := hx.set (by decide)
    refine ⟨_, m_cdOk d hS9.1 hq hI hK ((gI_ne _ _ _ _ (by decide)).trans ((hf.i 116 I rfl).trans h116)) ((gI_ne _ _ _ _ (by decide)).trans ((hf.i 115 q rfl).trans hz)), ?_, ?_, hS9.set (by decide), ⟨?_, ?_, fun _ => ⟨?_, ?_⟩⟩, gI_same _ _ _ _⟩
    · exact ((hF.trans (hf.mono rfl)).sI 119 _ _ rfl).sI 115 _ _ rfl
    · exact ((hL.trans (LoC.of hf rfl q I) (Nat.le_refl I)).set _ (Or.inl (by decide)) (Or.inr (Nat.le_refl I))).set _ (Or.inr (Nat.le_refl q)) (Or.inl rfl)
    · rw [gI_ne _ _ _ _ (by decide), gI_ne _ _ _ _ (by decide), hf.i 116 I rfl]; exact h116
    · rw [gI_ne _ _ _ _ (by decide), gI_ne _ _ _ _ (by decide), hf.i 117 I rfl]; exact h7
    · rw [gI_ne _ _ _ _ (by decide), gI_ne _ _ _ _ (by decide), hf.i 118 I rfl]; exact h8
    · rw [gI_ne _ _ _ _ (by decide), gI_same]
  have bad119 : ∀ (z x : Wd) (e : Nat) (y : Int32), Fr FMf z x → Fix x → gI x 108 10 = nI e → e < 2 ^ 31 → Fr FCm w z → LoC w z q I → (∃ k'', TkM x k'' ∧ TkIn t T k'') → ∃ v, val (193, d + 5, 320, [some (.ref 108), some (.int (nI q)), some (.int (nI I))], [], sI x 119 I y) = some (none, v) ∧ Fr FCm w v ∧ LoC w v q I ∧ gI v 108 10 = nI e ∧ ∃ k'', TkM v k'' ∧ TkIn t T k'' := by
    intro z x e y hf hx he h31 hF hL ⟨k2, t1, t2⟩
    have f9 : Fr FCm w (sI x 119 I y) := (hF.trans (hf.mono rfl)).sI 119 _ _ rfl
    obtain ⟨u, hu⟩ := m_cdBad (w := sI x 119 I y) d (f9.fix rfl hS.1) hq hI ((gI_ne _ _ _ _ (by decide)).trans he) h31
    exact ⟨_, hu, f9.sI 115 _ _ rfl, ((hL.trans (LoC.of hf rfl q I) (Nat.le_refl I)).set _ (Or.inl (by decide)) (Or.inr (Nat.le_refl I))).set _ (Or.inr (Nat.le_refl q)) (Or.inl rfl), (gI_ne _ _ _ _ (by decide)).trans ((gI_ne _ _ _ _ (by decide)).trans he), k2, t1.fr (S := [(119, none), (115, none)]) (((Fr.refl _ x).sI 119 _ _ rfl).sI 115 _ _ rfl) rfl, t2⟩
  have bad320 : ∀ (x : Wd) (e : Nat), gI x 108 10 = nI e → e < 2 ^ 31 → Fr FCm w x → LoC w x q I → (∃ k'', TkM x k'' ∧ TkIn t T k'') → ∃ v, val (193, d + 5, 320, [some (.ref 108), some (.int (nI q)), some (.int (nI I))], [], x) = some (none, v) ∧ Fr FCm w v ∧ LoC w v q I ∧ gI v 108 10 = nI e ∧ ∃ k'', TkM v k'' ∧ TkIn t T k'' := by
    intro x e he h31 hF hL ⟨k2, t1, t2⟩
    obtain ⟨u, hu⟩ := m_cdBad (w := x) d (hF.fix rfl hS.1) hq hI he h31
    exact ⟨_, hu, hF.sI 115 _ _ rfl, hL.set _ (Or.inr (Nat.le_refl q)) (Or.inl rfl), (gI_ne _ _ _ _ (by decide)).trans he, k2, t1.fr (S := [(115, none)]) ((Fr.refl _ x).sI 115 _ _ rfl) rfl, t2⟩
  -- nothing fits
  have none320 : ∀ (x : Wd) (k' : Tk), Sm x T N t k' → gI x 116 I = -9 → Fr FCm w x → LoC w x q I → ∃ v, val (193, d + 5, 320, [some (.ref 108), some (.int (nI q)), some (.int (nI I))], [], x) = some (none, v) ∧ Fr FCm w v ∧ LoC w v q I ∧ gI v 108 10 = nI k'.2.1 ∧ ∃ k'', TkM v k'' ∧ TkIn t T k'' := by
    intro x k' hx h116 hF hL
    obtain ⟨v, v1, v2, v3⟩ := m_wrong (d + 4) hx
    have hWv := v2.fix rfl hx.1
    refine ⟨_, ?_, (hF.trans (v2.mono rfl)).sI 115 q (gI v 115 q + 1) rfl, (hL.trans (LoC.of v2 rfl q I) (Nat.le_refl I)).set _ (Or.inr (Nat.le_refl q)) (Or.inl rfl), (gI_ne _ _ _ _ (by decide)).trans v3, k', (hx.2.2.2.1.fr v2 rfl).fr (S := [(115, none)]) ((Fr.refl _ v).sI 115 _ _ rfl) rfl, hx.2.2.2.2.1⟩
    refine (tr_193_320 d x hx.1 (nI q) (nI I) (ic4 hI)).trans ?_
    rw [iI, h116, if_neg (fun h => h rfl)]
    refine (val_call (pc2 := 335) rfl rfl rfl rfl (hx.1.rc _) (Nat.le_of_ble_eq_true rfl) (Nat.le_of_ble_eq_true rfl) rfl v1 rfl).trans ?_
    refine (tr_193_335 d v hWv _ _ (iq hq)).trans ?_
    rw [nI_clamp (show q < 2 ^ 31 by omega)]
  have e0 := tr_193_55 d w hS.1 (nI q) (nI I) (ic4 hI)
  rw [iI] at e0
  have f1 : Fr FCm w (sI w 116 I (-9)) := (Fr.refl _ w).sI 116 _ _ rfl
  have hS1 : Sm (sI w 116 I (-9)) T N t k := hS.set (by decide)
  have lo1 : LoC w (sI w 116 I (-9)) q I := (LoC.refl w q I).set _ (Or.inl (by decide)) (Or.inr (Nat.le_refl I))
  have g116 : gI (sI w 116 I (-9)) 116 I = -9 := gI_same _ _ _ _
  have g115 : gI (sI w 116 I (-9)) 115 q = nI l := (gI_ne _ _ _ _ (by decide)).trans h115
  have g117 : gI (sI w 116 I (-9)) 117 I = b01 nt := (gI_ne _ _ _ _ (by decide)).trans h117
  generalize sI w 116 I (-9) = w1 at e0 f1 hS1 lo1 g116 g115 g117
  rw [hS1.2.2.2.1.1, hS1.2.2.1.2.1] at e0
  have hk31 : k.2.1 < 2 ^ 31 := by have := hS.2.2.2.2.1.fr; omega
  unfold pCd1
  by_cases h2 : k.1 = 2
  · rw [if_pos h2]
    rw [if_neg (fun h => h (by rw [h2]; rfl))] at e0
    unfold pPla
    obtain ⟨n1, n2⟩ := m_number (d + 3) hS1 (a := 1) (b := N) (by omega) (by omega)
    by_cases hI1 : InR k 1 N
    · rw [if_pos hI1]
      obtain ⟨x, x1, x2, x3⟩ := n1 hI1
      have f2 : Fr FCm w (sI x 118 I (nI k.2.2.2)) := (f1.trans (x2.mono rfl)).sI 118 _ _ rfl
      have hS2 : Sm (sI x 118 I (nI k.2.2.2)) T N t (nxt t T k) := x3.set (by decide)
      have lo2 : LoC w (sI x 118 I (nI k.2.2.2)) q I := (lo1.trans (LoC.of x2 rfl q I) (Nat.le_refl I)).set _ (Or.inl (by decide)) (Or.inr (Nat.le_refl I))
      have q116 : gI (sI x 118 I (nI k.2.2.2)) 116 I = -9 := (gI_ne _ _ _ _ (by decide)).trans ((x2.i 116 I rfl).trans g116)
      have q115 : gI (sI x 118 I (nI k.2.2.2)) 115 q = nI l := (gI_ne _ _ _ _ (by decide)).trans ((x2.i 115 q rfl).trans g115)
      have q117 : gI (sI x 118 I (nI k.2.2.2)) 117 I = b01 nt := (gI_ne _ _ _ _ (by decide)).trans ((x2.i 117 I rfl).trans g117)
      have q118 : gI (sI x 118 I (nI k.2.2.2)) 118 I = nI k.2.2.2 := gI_same _ _ _ _
      have e2 : val (193, d + 5, 55, [some (.ref 108), some (.int (nI q)), some (.int (nI I))], [], w) = val (193, d + 5, 99, [some (.ref 108), some (.int (nI q)), some (.int (nI I))], [.int (b01 (isWd t (nxt t T k) 2))], sI x 118 I (nI k.2.2.2)) := by
        refine e0.trans ?_
        refine (val_call (pc2 := 85) rfl rfl rfl rfl (hS1.1.rc _) (Nat.le_of_ble_eq_true rfl) (Nat.le_of_ble_eq_true rfl) rfl x1 rfl).trans ?_
        refine (tr_193_85 d x x3.1 _ _ _ _ (ic4 hI)).trans ?_
        rw [iI]
        refine (val_call (pc2 := 90) rfl rfl rfl rfl (hS2.1.rc _) (Nat.le_of_ble_eq_true rfl) (Nat.le_of_ble_eq_true rfl) rfl (m_good (d + 4) hS2) rfl).trans ?_
        refine (tr_193_90 d _ _ _ _).trans ?_
        rw [if_neg (show ¬ (1 : Int32) = 0 by decide)]
        refine (val_call (pc2 := 99) rfl rfl rfl rfl (hS2.1.rc _) (Nat.le_of_ble_eq_true rfl) (Nat.le_of_ble_eq_true rfl) rfl (m_isWord d hS2 (j := 2) (by decide)) rfl).trans ?_
        rfl
      generalize sI x 118 I (nI k.2.2.2) = y at f2 hS2 lo2 q116 q115 q117 q118 e2
      have e3 := e2.trans (tr_193_99 d y _ _ _)
      have hv1 : k.2.2.2 < 2 ^ 31 := by have := hI1.2.2; omega
      cases hat : isWd t (nxt t T k) 2 with
      | true =>
        rw [hat, if_neg (show ¬ b01 true = 0 by decide)] at e3
        rw [if_pos rfl]
        obtain ⟨z, z1, z2, z3⟩ := m_nextS (d + 4) hS2
        have hz0 : Sm (sI z 116 I 0) T N t (nxt t T (nxt t T k)) := z3.set (by decide)
        have e4 : val (193, d + 5, 55, [some (.ref 108), some (.int (nI q)), some (.int (nI I))], [], w) = val (193, d + 5, 124, [some (.ref 108), some (.int (nI q)), some (.int (nI I))], [.int (nI N), .int 1, .ref 108, .int (nI I), .ref 119], sI z 116 I 0) := by
          refine e3.trans ?_
          refine (val_call (pc2 := 106) rfl rfl rfl rfl (hS2.1.rc _) (Nat.le_of_ble_eq_true rfl) (Nat.le_of_ble_eq_true rfl) rfl z1 rfl).trans ?_
          refine (tr_193_106 d z z3.1 _ _ (ic4 hI)).trans ?_
          rw [iI, hz0.2.2.1.2.1]
        have fz : Fr FCm w (sI z 116 I 0) := (f2.trans (z2.mono rfl)).sI 116 _ _ rfl
        have loz : LoC w (sI z 116 I 0) q I := (lo2.trans (LoC.of z2 rfl q I) (Nat.le_refl I)).set _ (Or.inl (by decide)) (Or.inr (Nat.le_refl I))
        have r116 : gI (sI z 116 I 0) 116 I = nI 0 := gI_same _ _ _ _
        have r115 : gI (sI z 116 I 0) 115 q = nI l := (gI_ne _ _ _ _ (by decide)).trans ((z2.i 115 q rfl).trans q115)
        have r117 : gI (sI z 116 I 0) 117 I = b01 nt := (gI_ne _ _ _ _ (by decide)).trans ((z2.i 117 I rfl).trans q117)
        have r118 : gI (sI z 116 I 0) 118 I = nI k.2.2.2 := (gI_ne _ _ _ _ (by decide)).trans ((z2.i 118 I rfl).trans q118)
        generalize sI z 116 I 0 = z9 at hz0 e4 fz loz r116 r115 r117 r118
        obtain ⟨m1, m2⟩ := m_number (d + 3) hz0 (a := 1) (b := N) (by omega) (by omega)
        by_cases hI2 : InR (nxt t T (nxt t T k)) 1 N
        · rw [if_pos hI2]
          refine ⟨fun p hp => ?_, fun e he => (by cases he)⟩
          cases hp
          obtain ⟨u, u1, u2, u3⟩ := m1 hI2
          obtain ⟨v, v1, v2⟩ := ok119 z9 u (nxt t T (nxt t T (nxt t T k))) 0 k.2.2.2 (nxt t T (nxt t T k)).2.2.2 (by omega) u2 u3 r116 r115 fz loz r117 r118
          refine ⟨v, e4.trans ?_, v2⟩
          refine (val_call (pc2 := 127) rfl rfl rfl rfl (hz0.1.rc _) (Nat.le_of_ble_eq_true rfl) (Nat.le_of_ble_eq_true rfl) rfl u1 rfl).trans ?_
          refine (tr_193_127 d u u3.1 _ _ _ _ (ic4 hI)).trans ?_
          rw [iI]
          exact v1
        · rw [if_neg hI2]
          refine ⟨fun p hp => (by cases hp), fun e he => ?_⟩
          cases he
          obtain ⟨u, u1, u2, u3⟩ := m2 hI2
          have hWu := u2.fix rfl hz0.1
          obtain ⟨v, v1, v2⟩ := bad119 z9 u _ (nI 1) (u2.mono rfl) hWu u3 (by have := hz0.2.2.2.2.1.fr; omega) fz loz ⟨_, hz0.2.2.2.1.fr u2 rfl, hz0.2.2.2.2.1⟩
          refine ⟨v, e4.trans ?_, v2⟩
          refine (val_call (pc2 := 127) rfl rfl rfl rfl (hz0.1.rc _) (Nat.le_of_ble_eq_true rfl) (Nat.le_of_ble_eq_true rfl) rfl u1 rfl).trans ?_
          refine (tr_193_127 d u hWu _ _ _ _ (ic4 hI)).trans ?_
          rw [iI]
          exact v1
      | false =>
        rw [hat, if_pos (show b01 false = 0 from rfl)] at e3
        rw [if_neg (show ¬ false = true by decide)]
        have e4 : val (193, d + 5, 55, [some (.ref 108), some (.int (nI q)), some (.int (nI I))], [], w) = val (193, d + 5, 144, [some (.ref 108), some (.int (nI q)), some (.int (nI I))], [.int (b01 (isWd t (nxt t T k) 3))], y) := by
          refine e3.trans ?_
          refine (val_call (pc2 := 135) rfl rfl rfl rfl (hS2.1.rc _) (Nat.le_of_ble_eq_true rfl) (Nat.le_of_ble_eq_true rfl) rfl (m_good (d + 4) hS2) rfl).trans ?_
          refine (tr_193_135 d y _ _ _).trans ?_
          rw [if_neg (show ¬ (1 : Int32) = 0 by decide)]
          refine (val_call (pc2 := 144) rfl rfl rfl rfl (hS2.1.rc _) (Nat.le_of_ble_eq_true rfl) (Nat.le_of_ble_eq_true rfl) rfl (m_isWord d hS2 (j := 3) (by decide)) rfl).trans ?_
          rfl
        have e5 := e4.trans (tr_193_144 d y _ _ _)
        cases hbf : isWd t (nxt t T k) 3 with
        | true =>
          rw [hbf, if_neg (show ¬ b01 true = 0 by decide)] at e5
          rw [if_pos rfl]
          obtain ⟨z, z1, z2, z3⟩ := m_nextS (d + 4) hS2
          have hz0 : Sm (sI z 116 I 1) T N t (nxt t T (nxt t T k)) := z3.set (by decide)
          have fz : Fr FCm w (sI z 116 I 1) := (f2.trans (z2.mono rfl)).sI 116 _ _ rfl
          have loz : LoC w (sI z 116 I 1) q I := (lo2.trans (LoC.of z2 rfl q I) (Nat.le_refl I)).set _ (Or.inl (by decide)) (Or.inr (Nat.le_refl I))
          have r116 : gI (sI z 116 I 1) 116 I = nI 1 := gI_same _ _ _ _
          have r115 : gI (sI z 116 I 1) 115 q = nI l := (gI_ne _ _ _ _ (by decide)).trans ((z2.i 115 q rfl).trans q115)
          have r117 : gI (sI z 116 I 1) 117 I = b01 nt := (gI_ne _ _ _ _ (by decide)).trans ((z2.i 117 I rfl).trans q117)
          have r118 : gI (sI z 116 I 1) 118 I = nI k.2.2.2 := (gI_ne _ _ _ _ (by decide)).trans ((z2.i 118 I rfl).trans q118)
          have e6 : val (193, d + 5, 55, [some (.ref 108), some (.int (nI q)), some (.int (nI I))], [], w) = val (193, d + 5, 151, [some (.ref 108), some (.int (nI q)), some (.int (nI I))], [], z) := by
            refine e5.trans ?_
            refine (val_call (pc2 := 151) rfl rfl rfl rfl (hS2.1.rc _) (Nat.le_of_ble_eq_true rfl) (Nat.le_of_ble_eq_true rfl) rfl z1 rfl).trans ?_
            rfl
          have e7 := e6.trans (tr_193_151 d z z3.1 _ _ (by intros; exact ic4 hI) (by intros; exact ic4 hI))
          rw [iI, hz0.2.2.2.1.1, r118] at e7
          generalize sI z 116 I 1 = z9 at hz0 fz loz r116 r115 r117 r118 e7
          have go183 : ∀ x : Wd, Fix x → gI x 108 0 = nI N → val (193, d + 5, 183, [some (.ref 108), some (.int (nI q)), some (.int (nI I))], [], x) = val (193, d + 5, 194, [some (.ref 108), some (.int (nI q)), some (.int (nI I))], [.int (nI N), .int 1, .ref 108, .int (nI I), .ref 119], x) := by
            intro x hx hn
            refine (tr_193_183 d x hx _ _).trans ?_
            rw [hn]
          obtain ⟨m1, m2⟩ := m_number (d + 3) hz0 (a := 1) (b := N) (by omega) (by omega)
          have fail : ¬ InR (nxt t T (nxt t T k)) 1 N → ∃ v, val (193, d + 5, 183, [some (.ref 108), some (.int (nI q)), some (.int (nI I))], [], z9) = some (none, v) ∧ Fr FCm w v ∧ LoC w v q I ∧ gI v 108 10 = nI (nxt t T (nxt t T k)).2.1 ∧ ∃ k'', TkM v k'' ∧ TkIn t T k'' := by
            intro hI2
            obtain ⟨u, u1, u2, u3⟩ := m2 hI2
            have hWu := u2.fix rfl hz0.1
            obtain ⟨v, v1, v2⟩ := bad119 z9 u _ (nI 1) (u2.mono rfl) hWu u3 (by have := hz0.2.2.2.2.1.fr; omega) fz loz ⟨_, hz0.2.2.2.1.fr u2 rfl, hz0.2.2.2.2.1⟩
            refine ⟨v, (go183 z9 hz0.1 hz0.2.2.1.2.1).trans ?_, v2⟩
            refine (val_call (pc2 := 197) rfl rfl rfl rfl (hz0.1.rc _) (Nat.le_of_ble_eq_true rfl) (Nat.le_of_ble_eq_true rfl) rfl u1 rfl).trans ?_
            refine (tr_193_197 d u hWu _ _ _ _ (ic4 hI)).trans ?_
            rw [iI]
            exact v1
          by_cases hk2 : (nxt t T (nxt t T k)).1 = 2
          · have hv3 := hz0.2.2.2.2.1.val hk2
            rw [if_neg (show ¬ ¬ nI (nxt t T (nxt t T k)).1 = 2 from fun h => h (by rw [hk2]; rfl)), hz0.2.2.2.1.2.2.2 hk2] at e7
            by_cases hne : (nxt t T (nxt t T k)).2.2.2 = k.2.2.2
            · rw [if_neg (show ¬ ¬ nI (nxt t T (nxt t T k)).2.2.2 = nI k.2.2.2 from fun h => h (by rw [hne]))] at e7
              rw [if_neg (fun h : InR (nxt t T (nxt t T k)) 1 N ∧ (nxt t T (nxt t T k)).2.2.2 ≠ k.2.2.2 => h.2 hne)]
              refine ⟨fun p hp => (by cases hp), fun e he => ?_⟩
              cases he
              obtain ⟨u, u1, u2, u3⟩ := m_wrong (d + 4) hz0
              have hWu := u2.fix rfl hz0.1
              have h31 : (nxt t T (nxt t T k)).2.1 < 2 ^ 31 := by have := hz0.2.2.2.2.1.fr; omega
              obtain ⟨v, v1, v2⟩ := bad119 z9 u _ (nI 1) (u2.mono rfl) hWu u3 h31 fz loz ⟨_, hz0.2.2.2.1.fr u2 rfl, hz0.2.2.2.2.1⟩
              refine ⟨v, e7.trans ?_, v2⟩
              refine (val_call (pc2 := 183) rfl rfl rfl rfl (hz0.1.rc _) (Nat.le_of_ble_eq_true rfl) (Nat.le_of_ble_eq_true rfl) rfl u1 rfl).trans ?_
              refine (go183 u hWu ((u2.i 108 0 rfl).trans hz0.2.2.1.2.1)).trans ?_
              refine (val_call (pc2 := 197) rfl rfl rfl rfl (hWu.rc _) (Nat.le_of_ble_eq_true rfl) (Nat.le_of_ble_eq_true rfl) rfl (m_numberBad (d + 3) hWu u3 h31 1 (nI N)) rfl).trans ?_
              refine (tr_193_197 d u hWu _ _ _ _ (ic4 hI)).trans ?_
              rw [iI]
              exact v1
            · rw [if_pos (n_ne hne hv3 hv1)] at e7
              by_cases hI2 : InR (nxt t T (nxt t T k)) 1 N
              · rw [if_pos (⟨hI2, hne⟩ : InR (nxt t T (nxt t T k)) 1 N ∧ (nxt t T (nxt t T k)).2.2.2 ≠ k.2.2.2)]
                refine ⟨fun p hp => ?_, fun e he => (by cases he)⟩
                cases hp
                obtain ⟨u, u1, u2, u3⟩ := m1 hI2
                obtain ⟨v, v1, v2⟩ := ok119 z9 u (nxt t T (nxt t T (nxt t T k))) 1 k.2.2.2 (nxt t T (nxt t T k)).2.2.2 (by omega) u2 u3 r116 r115 fz loz r117 r118
                refine ⟨v, e7.trans ((go183 z9 hz0.1 hz0.2.2.1.2.1).trans ?_), v2⟩
                refine (val_call (pc2 := 197) rfl rfl rfl rfl (hz0.1.rc _) (Nat.le_of_ble_eq_true rfl) (Nat.le_of_ble_eq_true rfl) rfl u1 rfl).trans ?_
                refine (tr_193_197 d u u3.1 _ _ _ _ (ic4 hI)).trans ?_
                rw [iI]
                exact v1
              · rw [if_neg (fun h : InR (nxt t T (nxt t T k)) 1 N ∧ (nxt t T (nxt t T k)).2.2.2 ≠ k.2.2.2 => hI2 h.1)]
                refine ⟨fun p hp => (by cases hp), fun e he => ?_⟩
                cases he
                obtain ⟨v, v1, v2⟩ := fail hI2
                exact ⟨v, e7.trans v1, v2⟩
          · rw [if_pos (show ¬ nI (nxt t T (nxt t T k)).1 = 2 from n_ne (b := 2) hk2 (by have := hz0.2.2.2.2.1.1; omega) (by omega))] at e7
            rw [if_neg (fun h : InR (nxt t T (nxt t T k)) 1 N ∧ (nxt t T (nxt t T k)).2.2.2 ≠ k.2.2.2 => hk2 h.1.1)]
            refine ⟨fun p hp => (by cases hp), fun e he => ?_⟩
            cases he
            obtain ⟨v, v1, v2⟩ := fail (fun h => hk2 h.1)
            exact ⟨v, e7.trans v1, v2⟩
        | false =>
          rw [hbf, if_pos (show b01 false = 0 from rfl)] at e5
          rw [if_neg (show ¬ false = true by decide)]
          refine ⟨fun p hp => (by cases hp), fun e he => ?_⟩
          cases he
          obtain ⟨v, v1, v2⟩ := none320 y (nxt t T k) hS2 q116 f2 lo2
          exact ⟨v, e5.trans v1, v2⟩
    · rw [if_neg hI1]
      refine ⟨fun p hp => (by cases hp), fun e he => ?_⟩
      cases he
      obtain ⟨x, x1, x2, x3⟩ := n2 hI1
      have hWx := x2.fix rfl hS1.1
      have f2 : Fr FCm w (sI x 118 I (nI 1)) := (f1.trans (x2.mono rfl)).sI 118 _ _ rfl
      have hW2 := f2.fix rfl hS.1
      have lo2 : LoC w (sI x 118 I (nI 1)) q I := (lo1.trans (LoC.of x2 rfl q I) (Nat.le_refl I)).set _ (Or.inl (by decide)) (Or.inr (Nat.le_refl I))
      have q10 : gI (sI x 118 I (nI 1)) 108 10 = nI k.2.1 := (gI_ne _ _ _ _ (by decide)).trans x3
      obtain ⟨v, v1, v2⟩ := bad320 _ _ q10 hk31 f2 lo2 ⟨k, (hS1.2.2.2.1.fr x2 rfl).fr (S := [(118, none)]) ((Fr.refl _ x).sI 118 _ _ rfl) rfl, hS.2.2.2.2.1⟩
      refine ⟨v, e0.trans ?_, v2⟩
      refine (val_call (pc2 := 85) rfl rfl rfl rfl (hS1.1.rc _) (Nat.le_of_ble_eq_true rfl) (Nat.le_of_ble_eq_true rfl) rfl x1 rfl).trans ?_
      refine (tr_193_85 d x hWx _ _ _ _ (ic4 hI)).trans ?_
      rw [iI]
      generalize sI x 118 I (nI 1) = y at f2 hW2 lo2 q10 v1
      refine (val_call (pc2 := 90) rfl rfl rfl rfl (hW2.rc _) (Nat.le_of_ble_eq_true rfl) (Nat.le_of_ble_eq_true rfl) rfl (m_bad (d + 4) hW2 q10 hk31) rfl).trans ?_
      refine (tr_193_90 d y _ _ _).trans ?_
      rw [if_pos (show (0 : Int32) = 0 from rfl)]
      refine (val_call (pc2 := 135) rfl rfl rfl rfl (hW2.rc _) (Nat.le_of_ble_eq_true rfl) (Nat.le_of_ble_eq_true rfl) rfl (m_bad (d + 4) hW2 q10 hk31) rfl).trans ?_
      refine (tr_193_135 d y _ _ _).trans ?_
      rw [if_pos (show (0 : Int32) = 0 from rfl)]
      exact v1
  rw [if_neg h2]
  rw [if_pos (show ¬ nI k.1 = 2 from n_ne (b := 2) h2 (by have := hS.2.2.2.2.1.1; omega) (by omega))] at e0
  have e1 : val (193, d + 5, 55, [some (.ref 108), some (.int (nI q)), some (.int (nI I))], [], w) = val (193, d + 5, 207, [some (.ref 108), some (.int (nI q)), some (.int (nI I))], [.int (b01 (isWd t k 7))], w1) := by
    refine e0.trans ?_
    refine (val_call (pc2 := 207) rfl rfl rfl rfl (hS1.1.rc _) (Nat.le_of_ble_eq_true rfl) (Nat.le_of_ble_eq_true rfl) rfl (m_isWord d hS1 (j := 7) (by decide)) rfl).trans ?_
    rfl
  have e2 := e1.trans (tr_193_207 d w1 _ _ _)
  cases h7 : isWd t k 7 with
  | true =>
    obtain ⟨w4, w5, w6⟩ := wd_ex h7
    rw [w4, if_neg (show ¬ false = true by decide), w5, if_neg (show ¬ false = true by decide), w6, if_neg (show ¬ false = true by decide), if_pos rfl]
    rw [h7, if_neg (show ¬ b01 true = 0 by decide)] at e2
    obtain ⟨z, z1, z2, z3⟩ := m_nextS (d + 4) hS1
    have hz0 : Sm (sI z 116 I 5) T N t (nxt t T k) := z3.set (by decide)
    have fz : Fr FCm w (sI z 116 I 5) := (f1.trans (z2.mono rfl)).sI 116 _ _ rfl
    have loz : LoC w (sI z 116 I 5) q I := (lo1.trans (LoC.of z2 rfl q I) (Nat.le_refl I)).set _ (Or.inl (by decide)) (Or.inr (Nat.le_refl I))
    have r116 : gI (sI z 116 I 5) 116 I = nI 5 := gI_same _ _ _ _
    have r115 : gI (sI z 116 I 5) 115 q = nI l := (gI_ne _ _ _ _ (by decide)).trans ((z2.i 115 q rfl).trans g115)
    have r117 : gI (sI z 116 I 5) 117 I = b01 nt := (gI_ne _ _ _ _ (by decide)).trans ((z2.i 117 I rfl).trans g117)
    have e3 : val (193, d + 5, 55, [some (.ref 108), some (.int (nI q)), some (.int (nI I))], [], w) = val (193, d + 5, 230, [some (.ref 108), some (.int (nI q)), some (.int (nI I))], [.int 99, .int 1, .ref 108, .int (nI I), .ref 118], sI z 116 I 5) := by
      refine e2.trans ?_
      refine (val_call (pc2 := 214) rfl rfl rfl rfl (hS1.1.rc _) (Nat.le_of_ble_eq_true rfl) (Nat.le_of_ble_eq_true rfl) rfl z1 rfl).trans ?_
      refine (tr_193_214 d z z3.1 _ _ (ic4 hI)).trans ?_
      rw [iI]
    generalize sI z 116 I 5 = z9 at hz0 fz loz r116 r115 r117 e3
    obtain ⟨n1, n2⟩ := m_number (d + 3) hz0 (a := 1) (b := 99) (by omega) (by omega)
    by_cases hI1 : InR (nxt t T k) 1 99
    · rw [if_pos hI1]
      obtain ⟨x, x1, x2, x3⟩ := n1 hI1
      have hv1 := hI1.2.1
      have hv2 := hI1.2.2
      have hx0 : Sm (sI x 118 I (nI (nxt t T k).2.2.2)) T N t (nxt t T (nxt t T k)) := x3.set (by decide)
      have fx : Fr FCm w (sI x 118 I (nI (nxt t T k).2.2.2)) := (fz.trans (x2.mono rfl)).sI 118 _ _ rfl
      have lox : LoC w (sI x 118 I (nI (nxt t T k).2.2.2)) q I := (loz.trans (LoC.of x2 rfl q I) (Nat.le_refl I)).set _ (Or.inl (by decide)) (Or.inr (Nat.le_refl I))
      have s116 : gI (sI x 118 I (nI (nxt t T k).2.2.2)) 116 I = nI 5 := (gI_ne _ _ _ _ (by decide)).trans ((x2.i 116 I rfl).trans r116)
      have s115 : gI (sI x 118 I (nI (nxt t T k).2.2.2)) 115 q = nI l := (gI_ne _ _ _ _ (by decide)).trans ((x2.i 115 q rfl).trans r115)
      have s117 : gI (sI x 118 I (nI (nxt t T k).2.2.2)) 117 I = b01 nt := (gI_ne _ _ _ _ (by decide)).trans ((x2.i 117 I rfl).trans r117)
      have s118 : gI (sI x 118 I (nI (nxt t T k).2.2.2)) 118 I = nI (nxt t T k).2.2.2 := gI_same _ _ _ _
      have e4 : val (193, d + 5, 55, [some (.ref 108), some (.int (nI q)), some (.int (nI I))], [], w) = val (193, d + 5, 249, [some (.ref 108), some (.int (nI q)), some (.int (nI I))], [.int (nI ((nxt t T k).2.2.2 - 1)), .int 0, .ref 108, .int (nI I), .ref 119], sI x 118 I (nI (nxt t T k).2.2.2)) := by
        refine e3.trans ?_
        refine (val_call (pc2 := 233) rfl rfl rfl rfl (hz0.1.rc _) (Nat.le_of_ble_eq_true rfl) (Nat.le_of_ble_eq_true rfl) rfl x1 rfl).trans ?_
        refine (tr_193_233 d x x3.1 _ _ _ _ (ic4 hI) (ic4 hI)).trans ?_
        rw [iI, s118, show nI (nxt t T k).2.2.2 - 1 = nI ((nxt t T k).2.2.2 - 1) from n_sub (b := 1) hv1]
      generalize sI x 118 I (nI (nxt t T k).2.2.2) = y at hx0 fx lox s116 s115 s117 s118 e4
      obtain ⟨m1, m2⟩ := m_number (d + 3) hx0 (a := 0) (b := (nxt t T k).2.2.2 - 1) (by omega) (by omega)
      by_cases hI2 : InR (nxt t T (nxt t T k)) 0 ((nxt t T k).2.2.2 - 1)
      · rw [if_pos hI2]
        refine ⟨fun p hp => ?_, fun e he => (by cases he)⟩
        cases hp
        obtain ⟨u, u1, u2, u3⟩ := m1 hI2
        obtain ⟨v, v1, v2⟩ := ok119 y u (nxt t T (nxt t T (nxt t T k))) 5 (nxt t T k).2.2.2 (nxt t T (nxt t T k)).2.2.2 (by omega) u2 u3 s116 s115 fx lox s117 s118
        refine ⟨v, e4.trans ?_, v2⟩
        refine (val_call (pc2 := 252) rfl rfl rfl rfl (hx0.1.rc _) (Nat.le_of_ble_eq_true rfl) (Nat.le_of_ble_eq_true rfl) rfl u1 rfl).trans ?_
        refine (tr_193_252 d u u3.1 _ _ _ _ (ic4 hI)).trans ?_
        rw [iI]
        exact v1
      · rw [if_neg hI2]
        refine ⟨fun p hp => (by cases hp), fun e he => ?_⟩
        cases he
        obtain ⟨u, u1, u2, u3⟩ := m2 hI2
        have hWu := u2.fix rfl hx0.1
        obtain ⟨v, v1, v2⟩ := bad119 y u _ (nI 0) (u2.mono rfl) hWu u3 (by have := hx0.2.2.2.2.1.fr; omega) fx lox ⟨_, hx0.2.2.2.1.fr u2 rfl, hx0.2.2.2.2.1⟩
        refine ⟨v, e4.trans ?_, v2⟩
        refine (val_call (pc2 := 252) rfl rfl rfl rfl (hx0.1.rc _) (Nat.le_of_ble_eq_true rfl) (Nat.le_of_ble_eq_true rfl) rfl u1 rfl).trans ?_
        refine (tr_193_252 d u hWu _ _ _ _ (ic4 hI)).trans ?_
        rw [iI]
        exact v1
    · rw [if_neg hI1]
      refine ⟨fun p hp => (by cases hp), fun e he => ?_⟩
      cases he
      obtain ⟨x, x1, x2, x3⟩ := n2 hI1
      have hWx := x2.fix rfl hz0.1
      have h31 : (nxt t T k).2.1 < 2 ^ 31 := by have := hz0.2.2.2.2.1.fr; omega
      have fx : Fr FCm w (sI x 118 I (nI 1)) := (fz.trans (x2.mono rfl)).sI 118 _ _ rfl
      have lox : LoC w (sI x 118 I (nI 1)) q I := (loz.trans (LoC.of x2 rfl q I) (Nat.le_refl I)).set _ (Or.inl (by decide)) (Or.inr (Nat.le_refl I))
      have hWy := fx.fix rfl hS.1
      have s10 : gI (sI x 118 I (nI 1)) 108 10 = nI (nxt t T k).2.1 := (gI_ne _ _ _ _ (by decide)).trans x3
      have s118 : gI (sI x 118 I (nI 1)) 118 I = nI 1 := gI_same _ _ _ _
      have tvy : ∃ k'', TkM (sI x 118 I (nI 1)) k'' ∧ TkIn t T k'' := ⟨_, (hz0.2.2.2.1.fr x2 rfl).fr (S := [(118, none)]) ((Fr.refl _ x).sI 118 _ _ rfl) rfl, hz0.2.2.2.2.1⟩
      have e4 : val (193, d + 5, 55, [some (.ref 108), some (.int (nI q)), some (.int (nI I))], [], w) = val (193, d + 5, 249, [some (.ref 108), some (.int (nI q)), some (.int (nI I))], [.int (nI 1 - 1), .int 0, .ref 108, .int (nI I), .ref 119], sI x 118 I (nI 1)) := by
        refine e3.trans ?_
        refine (val_call (pc2 := 233) rfl rfl rfl rfl (hz0.1.rc _) (Nat.le_of_ble_eq_true rfl) (Nat.le_of_ble_eq_true rfl) rfl x1 rfl).trans ?_
        refine (tr_193_233 d x hWx _ _ _ _ (ic4 hI) (ic4 hI)).trans ?_
        rw [iI, s118]
      generalize sI x 118 I (nI 1) = y at fx lox hWy s10 s118 e4 tvy
      obtain ⟨v, v1, v2⟩ := bad119 y y _ 0 (Fr.refl _ y) hWy s10 h31 fx lox tvy
      refine ⟨v, e4.trans ?_, v2⟩
      refine (val_call (pc2 := 252) rfl rfl rfl rfl (hWy.rc _) (Nat.le_of_ble_eq_true rfl) (Nat.le_of_ble_eq_true rfl) rfl (m_numberBad (d + 3) hWy s10 h31 0 (nI 1 - 1)) rfl).trans ?_
      refine (tr_193_252 d y hWy _ _ _ _ (ic4 hI)).trans ?_
      rw [iI]
      exact v1
  | false =>
    rw [h7, if_pos (show b01 false = 0 from rfl)] at e2
    -- one of three words
    have three : ∀ K : Nat, K ≤ 5 → (val (193, d + 5, 291, [some (.ref 108), some (.int (nI q)), some (.int (nI I))], [.ref 6, .ref 108, .int (nI I), .ref 116], w1) = val (193, d + 5, 317, [some (.ref 108), some (.int (nI q)), some (.int (nI I))], [.ref 108], sI w1 116 I (nI K))) → (2 ≤ K ∧ K ≤ 4) → ∃ v, val (193, d + 5, 291, [some (.ref 108), some (.int (nI q)), some (.int (nI I))], [.ref 6, .ref 108, .int (nI I), .ref 116], w1) = some (none, v) ∧ Fr FCm w v ∧ LoC w v q I ∧ Sm v T N t (nxt t T k) ∧ cE v I (K, nt, 0, 0) ∧ gI v 115 q = nI (l + 1) := by
      intro K hK he hK2
      have hz0 : Sm (sI w1 116 I (nI K)) T N t k := hS1.set (by decide)
      obtain ⟨z, z1, z2, z3⟩ := m_nextS (d + 4) hz0
      have r116 : gI z 116 I = nI K := (z2.i 116 I rfl).trans (gI_same _ _ _ _)
      have r115 : gI z 115 q = nI l := (z2.i 115 q rfl).trans ((gI_ne _ _ _ _ (by decide)).trans g115)
      have r117 : gI z 117 I = b01 nt := (z2.i 117 I rfl).trans ((gI_ne _ _ _ _ (by decide)).trans g117)
      have fz : Fr FCm w z := (f1.sI 116 _ _ rfl).trans (z2.mono rfl)
      have loz : LoC w z q I := (lo1.set _ (Or.inl (by decide)) (Or.inr (Nat.le_refl I))).trans (LoC.of z2 rfl q I) (Nat.le_refl I)
      refine ⟨_, he.trans ?_, fz.sI 115 q (nI (l + 1)) rfl, loz.set _ (Or.inr (Nat.le_refl q)) (Or.inl rfl), z3.set (by decide), ⟨(gI_ne _ _ _ _ (by decide)).trans r116, (gI_ne _ _ _ _ (by decide)).trans r117, fun h => absurd h (by dsimp only; omega)⟩, gI_same _ _ _ _⟩
      refine (val_call (pc2 := 320) rfl rfl rfl rfl (hz0.1.rc _) (Nat.le_of_ble_eq_true rfl) (Nat.le_of_ble_eq_true rfl) rfl z1 rfl).trans ?_
      exact m_cdOk d z3.1 hq hI hK r116 r115
    have w291 : val (193, d + 5, 291, [some (.ref 108), some (.int (nI q)), some (.int (nI I))], [.ref 6, .ref 108, .int (nI I), .ref 116], w1) = (if b01 (isWd t k 4) = 0 then val (193, d + 5, 304, [some (.ref 108), some (.int (nI q)), some (.int (nI I))], [.ref 7, .ref 108, .int (nI I), .ref 116], w1) else val (193, d + 5, 317, [some (.ref 108), some (.int (nI q)), some (.int (nI I))], [.ref 108], sI w1 116 I 2)) := by
      refine (val_call (pc2 := 294) rfl rfl rfl rfl (hS1.1.rc _) (Nat.le_of_ble_eq_true rfl) (Nat.le_of_ble_eq_true rfl) rfl (m_isWord d hS1 (j := 4) (by decide)) rfl).trans ?_
      refine (tr_193_294 d w1 hS1.1 _ _ _ _ (by intros; exact ic4 hI)).trans ?_
      rw [iI]
    have w304 : val (193, d + 5, 304, [some (.ref 108), some (.int (nI q)), some (.int (nI I))], [.ref 7, .ref 108, .int (nI I), .ref 116], w1) = (if b01 (isWd t k 5) = 0 then val (193, d + 5, 317, [some (.ref 108), some (.int (nI q)), some (.int (nI I))], [.ref 108], sI w1 116 I 4) else val (193, d + 5, 317, [some (.ref 108), some (.int (nI q)), some (.int (nI I))], [.ref 108], sI w1 116 I 3)) := by
      refine (val_call (pc2 := 307) rfl rfl rfl rfl (hS1.1.rc _) (Nat.le_of_ble_eq_true rfl) (Nat.le_of_ble_eq_true rfl) rfl (m_isWord d hS1 (j := 5) (by decide)) rfl).trans ?_
      refine (tr_193_307 d w1 hS1.1 _ _ _ _ (by intros; exact ic4 hI) (by intros; exact ic4 hI)).trans ?_
      rw [iI]
    have e3 := e2.trans (show val (193, d + 5, 259, [some (.ref 108), some (.int (nI q)), some (.int (nI I))], [.ref 6, .ref 108], w1) = val (193, d + 5, 262, [some (.ref 108), some (.int (nI q)), some (.int (nI I))], [.int (b01 (isWd t k 4))], w1) from by
      refine (val_call (pc2 := 262) rfl rfl rfl rfl (hS1.1.rc _) (Nat.le_of_ble_eq_true rfl) (Nat.le_of_ble_eq_true rfl) rfl (m_isWord d hS1 (j := 4) (by decide)) rfl).trans ?_
      rfl)
    have e3 := e3.trans (tr_193_262 d w1 hS1.1 _ _ _)
    cases h4 : isWd t k 4 with
    | true =>
      rw [if_pos rfl]
      rw [h4, if_pos (show ¬ b01 true = 0 by decide)] at e3
      rw [h4, if_neg (show ¬ b01 true = 0 by decide)] at w291
      refine ⟨fun p hp => ?_, fun e he => (by cases he)⟩
      cases hp
      obtain ⟨v, v1, v2⟩ := three 2 (by omega) w291 (by omega)
      exact ⟨v, e3.trans v1, v2⟩
    | false =>
    rw [if_neg (show ¬ false = true by decide)]
    rw [h4, if_neg (show ¬ ¬ b01 false = 0 from fun h => h rfl)] at e3
    rw [h4, if_pos (show b01 false = 0 from rfl)] at w291
    have e4 := e3.trans (show val (193, d + 5, 268, [some (.ref 108), some (.int (nI q)), some (.int (nI I))], [.ref 7, .ref 108], w1) = val (193, d + 5, 271, [some (.ref 108), some (.int (nI q)), some (.int (nI I))], [.int (b01 (isWd t k 5))], w1) from by
      refine (val_call (pc2 := 271) rfl rfl rfl rfl (hS1.1.rc _) (Nat.le_of_ble_eq_true rfl) (Nat.le_of_ble_eq_true rfl) rfl (m_isWord d hS1 (j := 5) (by decide)) rfl).trans ?_
      rfl)
    have e4 := e4.trans (tr_193_271 d w1 hS1.1 _ _ _)
    cases h5 : isWd t k 5 with
    | true =>
      rw [if_pos rfl]
      rw [h5, if_pos (show ¬ b01 true = 0 by decide)] at e4
      rw [h5, if_neg (show ¬ b01 true = 0 by decide)] at w304
      refine ⟨fun p hp => ?_, fun e he => (by cases he)⟩
      cases hp
      obtain ⟨v, v1, v2⟩ := three 3 (by omega) (w291.trans w304) (by omega)
      exact ⟨v, e4.trans v1, v2⟩
    | false =>
    rw [if_neg (show ¬ false = true by decide)]
    rw [h5, if_neg (show ¬ ¬ b01 false = 0 from fun h => h rfl)] at e4
    rw [h5, if_pos (show b01 false = 0 from rfl)] at w304
    have e5 := e4.trans (show val (193, d + 5, 277, [some (.ref 108), some (.int (nI q)), some (.int (nI I))], [.ref 8, .ref 108], w1) = val (193, d + 5, 280, [some (.ref 108), some (.int (nI q)), some (.int (nI I))], [.int (b01 (isWd t k 6))], w1) from by
      refine (val_call (pc2 := 280) rfl rfl rfl rfl (hS1.1.rc _) (Nat.le_of_ble_eq_true rfl) (Nat.le_of_ble_eq_true rfl) rfl (m_isWord d hS1 (j := 6) (by decide)) rfl).trans ?_
      rfl)
    have e5 := e5.trans (tr_193_280 d w1 hS1.1 _ _ _)
    cases h6 : isWd t k 6 with
    | true =>
      rw [if_pos rfl]
      rw [h6, if_neg (show ¬ b01 true = 0 by decide)] at e5
      refine ⟨fun p hp => ?_, fun e he => (by cases he)⟩
      cases hp
      obtain ⟨v, v1, v2⟩ := three 4 (by omega) (w291.trans w304) (by omega)
      exact ⟨v, e5.trans v1, v2⟩
    | false =>
      rw [if_neg (show ¬ false = true by decide), if_neg (show ¬ false = true by decide)]
      rw [h6, if_pos (show b01 false = 0 from rfl)] at e5
      refine ⟨fun p hp => (by cases hp), fun e he => ?_⟩
      cases he
      obtain ⟨v, v1, v2⟩ := none320 w1 k hS1 g116 f1 lo1
      exact ⟨v, e5.trans v1, v2⟩
end MCD
