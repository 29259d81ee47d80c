/-! THE READER: a rule, and all of them -/
theorem val_aasR {y d pc a b n m : Nat} {ls : List (Option Value)} {st : List Value} {w : Wd} {av : Value} {sw : List (Int32 × Nat)} {j : Int32} (h : mtab y pc = some (.aastore, 1, [], av, sw)) (ha : wK w a = (26, n)) (hb : wK w b = (6, m)) (hj : inB j n = true) : val (y, d, pc, ls, .ref b :: .int j :: .ref a :: st, w) = val (y, d, pc + 1, ls, st, sR w a j.toNatClampNeg (some b)) := by
  rw [val_eq]; unfold stp plan; simp only [h, pst, pln, ha, hb, hj, if_pos]; rfl
theorem val_aasM {y d pc a b n m : Nat} {ls : List (Option Value)} {st : List Value} {w : Wd} {av : Value} {sw : List (Int32 × Nat)} {j : Int32} (h : mtab y pc = some (.aastore, 1, [], av, sw)) (ha : wK w a = (25, n)) (hb : wK w b = (3, m)) (hj : inB j n = true) : val (y, d, pc, ls, .ref b :: .int j :: .ref a :: st, w) = val (y, d, pc + 1, ls, st, sR w a j.toNatClampNeg (some b)) := by
  rw [val_eq]; unfold stp plan; simp only [h, pst, pln, ha, hb, hj, if_pos]; rfl
section CRU2
variable {o M T N c : Nat} {t : Nat → Int32}
theorem c_add (d : Nat) {w : Wd} {r i : Nat} (hM : wK w M = (3, 3)) (hR0 : gR w M 0 = some (M + 1)) (hMA : wK w (M + 1) = (26, 20)) (hr : wK w r = (6, 6)) (hi : gI w M 1 = nI i) (hi20 : i < 20) : val (72, d, 0, [some (.ref M), some (.ref r)], [], w) = some (none, sR (sI w M 1 (nI (i + 1))) (M + 1) i (some r)) := by
  refine (tr_72 d w M r 3 hM (M + 1) hR0).trans ?_
  rw [hi, if_neg (show ¬ (20 : Int32) ≤ nI i from n_nle (a := 20) hi20 (by omega)), n_succ]
  refine (val_aasR (w := sI w M 1 (nI (i + 1))) rfl hMA hr (inB_nI hi20 (by omega))).trans ?_
  rw [nI_clamp (by omega)]
  exact tr_72_26 d _ M r
theorem c_rule (d : Nat) (h3 : 3 ≤ N) (hN : N ≤ 8) {w : Wd} {k : Tk} {i : Nat} (hS : Sc w o M T N t k c) (hc : c ≤ 40) (hb : 151 ≤ wN w) (ho : o < wN w) (hM : M + 1 < wN w) (hoM : o ≠ M + 1) (hMA : wK w (M + 1) = (26, 20)) (hR0 : gR w M 0 = some (M + 1)) (hi : gI w M 1 = nI i) (hi20 : i < 20) :
    (∀ q, pRu N t T c k = .ok q → ∃ v, val (88, d + 19, 0, [some (.ref o), none, none, none], [], w) = some (none, v) ∧ Gw (FRl o M i) 5 38 w v ∧ wN v = wN w + 5 ∧ Sc v o M T N t q.2.2 q.2.1 ∧ RuC v N (wN w) q.1 ∧ gR v (M + 1) i = some (wN w) ∧ gI v M 1 = nI (i + 1)) ∧
    (∀ e, pRu N t T c k = .error e → ∃ v, val (88, d + 19, 0, [some (.ref o), none, none, none], [], w) = some (none, v) ∧ Gw (FRl o M i) 5 38 w v ∧ gI v o 1 = nI e ∧ Rd v o M T N t) := by
  obtain ⟨r, hr⟩ : ∃ r, r = wN w := ⟨_, rfl⟩
  have hg0 := nru_g w
  have hN0 : wN (nru w) = wN w + 5 := rfl
  have e0 := c_newRule (d + 11) hb o
  have hS1 : Sr (nru w) o M T N t k c r [] := ⟨hS.gw hg0 hb ho (by omega), by omega, by omega, by rw [hr]; exact nru_l w⟩
  have eK : wK (nru w) (M + 1) = (26, 20) := (hg0.2.1 _ hM).trans hMA
  have eR : gR (nru w) M 0 = some (M + 1) := (hg0.r (by omega) rfl).trans hR0
  have eI : gI (nru w) M 1 = nI i := (hg0.i (by omega) rfl).trans hi
  rw [← hr] at e0 hN0
  have hMo := hS.2.2.2.2.2.2.2.2.1
  have hro : o < r := by omega
  have hrM : M + 1 < r := by omega
  -- what stays through frames of the reading
  have stay : ∀ {v : Wd}, Fr (FCd o M r) (nru w) v → wK v (M + 1) = (26, 20) ∧ gR v M 0 = some (M + 1) ∧ gI v M 1 = nI i ∧ wK v M = (3, 3) ∧ wK v r = (6, 6) := by
    intro v hv
    have off : ∀ j, j ≠ 2 → inS (FCd o M r) M j = false := fun j hj => inS_app (fru_off (Or.inl (by omega))) (fch_off (Or.inl hMo) (Or.inr hj))
    exact ⟨by rw [hv.k]; exact eK, (hv.r M 0 (off 0 (by omega))).trans eR, (hv.i M 1 (off 1 (by omega))).trans eI, by rw [hv.k]; exact hS1.1.2.2.2.2.2.2.1, by rw [hv.k]; exact hS1.2.2.2.1⟩
  -- the end: the rule is added
  have fin : ∀ {v : Wd} (m : Int32) (l2 l3 : Int32), Fr (FCd o M r) (nru w) v → Rd v o M T N t → ∃ x, val (88, d + 19, 109, [some (.ref o), some (.ref r), some (.int l2), some (.int l3)], [], v) = some (none, x) ∧ x = sR (sI v M 1 (nI (i + 1))) (M + 1) i (some r) ∧ Gw (FRl o M i) 5 38 w x := by
    intro v m l2 l3 hv hR
    obtain ⟨s1, s2, s3, s4, s5⟩ := stay hv
    refine ⟨_, ?_, rfl, ?_⟩
    · refine (tr_88_109 (d + 11) v o r _ _ 8 hR.2.1 M hR.2.2.2.1).trans ?_
      refine (val_call (pc2 := 117) rfl rfl rfl rfl (rcvO s4 (by decide)) (Nat.le_of_ble_eq_true rfl) (Nat.le_of_ble_eq_true rfl) rfl (c_add (d + 18) s4 s2 s1 s5 s3 hi20) rfl).trans ?_
      exact tr_88_117 (d + 11) _ o r _ _
    · have fx : Fr (FCd o M r ++ [(M + 1, some i), (M, some 1)]) (nru w) (sR (sI v M 1 (nI (i + 1))) (M + 1) i (some r)) := (hv.cl.sI M 1 _ (inS_iff.mpr ⟨(M, some 1), List.mem_append_right _ (by simp), rfl, Or.inr rfl⟩)).sR (M + 1) i _ (inS_iff.mpr ⟨(M + 1, some i), List.mem_append_right _ (by simp), rfl, Or.inr rfl⟩)
      have g1 : Gw (FCd o M r ++ [(M + 1, some i), (M, some 1)]) 5 38 w (sR (sI v M 1 (nI (i + 1))) (M + 1) i (some r)) := (hg0.sub (fun x hx => by cases hx)).trans (Gw.of fx)
      refine g1.sub (fun x hx hl => ?_)
      rcases List.mem_append.mp hx with hx | hx
      · rcases List.mem_append.mp hx with hx | hx
        · simp only [List.mem_cons, List.mem_nil_iff, or_false] at hx
          rcases hx with rfl | rfl | rfl | rfl | rfl <;> (dsimp only at hl; omega)
        · simp only [List.mem_cons, List.mem_nil_iff, or_false] at hx ⊢
          rcases hx with rfl | rfl | rfl | rfl | rfl | rfl <;> simp
      · simp only [List.mem_cons, List.mem_nil_iff, or_false] at hx ⊢
        rcases hx with rfl | rfl <;> simp
  -- when
  have wh : (∀ q, pWh N t T k = .ok q → ∃ v l2 l3, val (88, d + 19, 0, [some (.ref o), none, none, none], [], w) = val (88, d + 19, 83, [some (.ref o), some (.ref r), some (.int l2), some (.int l3)], [.int 0, .ref o, .ref r], v) ∧ Fr (FCd o M r) (nru w) v ∧ Sr v o M T N t q.2 c r q.1) ∧
      (∀ e, pWh N t T k = .error e → ∃ v l2 l3, val (88, d + 19, 0, [some (.ref o), none, none, none], [], w) = val (88, d + 19, 109, [some (.ref o), some (.ref r), some (.int l2), some (.int l3)], [], v) ∧ Fr (FCd o M r) (nru w) v ∧ gI v o 1 = nI e ∧ Rd v o M T N t) := by
    have hk1 := hS1.1.2.2.1.2.1
    unfold pWh
    cases hw : isWd t k 0 with
    | true =>
      rw [if_pos rfl]
      obtain ⟨v, x1, x2, x3⟩ := c_twYes (d + 13) hS1.1 (j := 0) (by decide) hw
      have hS2 := hS1.ch x2.tkf.ch x3
      have e1 : val (88, d + 19, 0, [some (.ref o), none, none, none], [], w) = val (88, d + 19, 17, [some (.ref o), some (.ref r), some (.int 1), some (.int (nI ([] : List Cd).length))], [], v) := by
        refine e0.trans ?_
        refine (val_call (pc2 := 14) rfl rfl rfl rfl (rcvO hk1 (by decide)) (Nat.le_of_ble_eq_true rfl) (Nat.le_of_ble_eq_true rfl) rfl x1 rfl).trans ?_
        exact tr_88_14 (d + 11) v o r _
      obtain ⟨b1, b2⟩ := c_conds (d + 11) hN 8 [] v (nxt t T k) rfl hS2
      rw [e1]
      refine ⟨fun q hq => ?_, fun e he => ?_⟩
      · obtain ⟨v2, l2, l3, g1, g2, g3⟩ := b1 q hq
        exact ⟨v2, l2, l3, g1, (x2.tkf.ch (M := M)).cr.trans g2, g3⟩
      · obtain ⟨v2, l2, l3, g1, g2, g3⟩ := b2 e he
        exact ⟨v2, l2, l3, g1, (x2.tkf.ch (M := M)).cr.trans g2, g3⟩
    | false =>
      rw [if_neg (show ¬ false = true by decide)]
      refine ⟨fun q hq => ?_, fun e he => (by cases he)⟩
      cases hq
      refine ⟨nru w, 0, 0, e0.trans ?_, Fr.refl _ _, hS1⟩
      refine (val_call (pc2 := 14) rfl rfl rfl rfl (rcvO hk1 (by decide)) (Nat.le_of_ble_eq_true rfl) (Nat.le_of_ble_eq_true rfl) rfl (c_twNo (d + 13) hS1.1 (j := 0) (by decide) hw) rfl).trans ?_
      refine (tr_88_14 (d + 11) (nru w) o r _).trans ?_
      refine (tr_88_17 (d + 11) (nru w) o r _ _ 8 hk1).trans ?_
      rw [if_neg (show ¬ (8 : Int32) < 0 by decide), if_pos (show (0 : Int32) = 0 from rfl), hS1.1.2.2.2.2.2.1, if_neg (by decide)]
  obtain ⟨wy, wz⟩ := wh
  unfold pRu
  cases hp : pWh N t T k with
  | error er =>
    refine ⟨fun q hq => (by cases hq), fun e he => ?_⟩
    cases he
    obtain ⟨v, l2, l3, x1, x2, x3, x4⟩ := wz er hp
    obtain ⟨x, y1, y2, y3⟩ := fin 0 l2 l3 x2 x4
    have fx : Fr [(M, some 1), (M + 1, some i)] v x := by
      rw [y2]
      exact ((Fr.refl _ v).sI M 1 _ (inS_iff.mpr ⟨(M, some 1), by simp, rfl, Or.inr rfl⟩)).sR (M + 1) i _ (inS_iff.mpr ⟨(M + 1, some i), by simp, rfl, Or.inr rfl⟩)
    have offo : ∀ a j, a ≠ M → a ≠ M + 1 → inS [(M, some 1), (M + 1, some i)] a j = false := fun a j h1 h2 => inS_no (fun s hs e => by
      simp only [List.mem_cons, List.mem_nil_iff, or_false] at hs
      rcases hs with rfl | rfl
      · exact absurd e.symm h1
      · exact absurd e.symm h2)
    exact ⟨x, x1.trans y1, y3, (fx.i o 1 (offo o 1 (Ne.symm hMo) hoM)).trans x3, x4.fr fx (fun j _ _ => offo o j (Ne.symm hMo) hoM) (fun j => offo 65 j (by have := hS.2.2.2.2.2.2.2.1; omega) (by have := hS.2.2.2.2.2.2.2.1; omega))⟩
  | ok p =>
    obtain ⟨v, l2, l3, x1, x2, x3⟩ := wy p hp
    have hkv := x3.1.2.2.1.2.1
    have hTT := x3.1.2.2.1.2.2.2.2.2.2.1
    obtain ⟨cy, cz⟩ := c_change (o := o) (M := M) (T := T) (t := t) h3 hN 6 (Nat.le_refl 6) v c p.2 (d + 18) (by omega) x3.1 hc
    -- after the change: the move
    have mv : ∀ {u : Wd} (s0 : Int32), val (91, d + 18, 0, [some (.ref o), some (.int (nI (6 - 6))), none, none], [], v) = some (some (.int s0), u) → Fr (FCh o M) v u → Rd u o M T N t → val (88, d + 19, 0, [some (.ref o), none, none, none], [], w) = (if (0 : Int32) ≤ gI u o 1 then val (88, d + 19, 109, [some (.ref o), some (.ref r), some (.int l2), some (.int l3)], [], sI u r 5 s0) else val (88, d + 19, 99, [some (.ref o), some (.ref r), some (.int l2), some (.int l3)], [.int 59, .ref o], sI u r 5 s0)) := by
      intro u s0 h1 h2 h4
      have hk6 : wK u r = (6, 6) := by rw [h2.k]; exact x3.2.2.2.1
      refine x1.trans ?_
      refine (val_call (pc2 := 86) rfl rfl rfl rfl (rcvO hkv (by decide)) (Nat.le_of_ble_eq_true rfl) (Nat.le_of_ble_eq_true rfl) rfl h1 rfl).trans ?_
      refine (tr_88_86 (d + 11) u o r _ _ _ r 6 hk6 8 h4.2.1).trans ?_
      rw [gI_ne _ _ _ _ (show o ≠ r by omega)]
    have fm : ∀ {u : Wd} (s0 : Int32), Fr (FCh o M) v u → Fr (FCd o M r ++ [(r, some 5)]) (nru w) (sI u r 5 s0) := fun s0 h => ((x2.trans h.cr).cl).sI r 5 _ (inS_iff.mpr ⟨(r, some 5), List.mem_append_right _ (by simp), rfl, Or.inr rfl⟩)
    have off5 : ∀ a j, a ≠ r → inS [(r, some 5)] a j = false := fun a j h => inS_no (fun s hs e => by rw [List.mem_singleton.mp hs] at e; exact absurd e.symm h)
    have rd5 : ∀ {u : Wd} (s0 : Int32), Rd u o M T N t → Rd (sI u r 5 s0) o M T N t := fun {u} s0 h => h.fr (S := [(r, some 5)]) ((Fr.refl _ u).sI r 5 _ (inS_iff.mpr ⟨(r, some 5), by simp, rfl, Or.inr rfl⟩)) (fun j _ _ => off5 o j (by omega)) (fun j => off5 65 j (by omega))
    -- the end anew, with the move
    have fin2 : ∀ {v2 : Wd}, Fr (FCd o M r ++ [(r, some 5)]) (nru w) v2 → Rd v2 o M T N t → val (88, d + 19, 109, [some (.ref o), some (.ref r), some (.int l2), some (.int l3)], [], v2) = some (none, sR (sI v2 M 1 (nI (i + 1))) (M + 1) i (some r)) ∧ Gw (FRl o M i) 5 38 w (sR (sI v2 M 1 (nI (i + 1))) (M + 1) i (some r)) ∧ wN (sR (sI v2 M 1 (nI (i + 1))) (M + 1) i (some r)) = wN w + 5 := by
      intro v2 hv hR
      have offM : ∀ j, j ≠ 2 → inS (FCd o M r ++ [(r, some 5)]) M j = false := fun j hj => inS_app (inS_app (fru_off (Or.inl (by omega))) (fch_off (Or.inl hMo) (Or.inr hj))) (off5 M j (by omega))
      have s1 : wK v2 (M + 1) = (26, 20) := by rw [hv.k]; exact eK
      have s2 : gR v2 M 0 = some (M + 1) := (hv.r M 0 (offM 0 (by omega))).trans eR
      have s3 : gI v2 M 1 = nI i := (hv.i M 1 (offM 1 (by omega))).trans eI
      have s4 : wK v2 M = (3, 3) := by rw [hv.k]; exact hS1.1.2.2.2.2.2.2.1
      have s5 : wK v2 r = (6, 6) := by rw [hv.k]; exact hS1.2.2.2.1
      refine ⟨?_, ?_, ?_⟩
      · refine (tr_88_109 (d + 11) v2 o r _ _ 8 hR.2.1 M hR.2.2.2.1).trans ?_
        refine (val_call (pc2 := 117) rfl rfl rfl rfl (rcvO s4 (by decide)) (Nat.le_of_ble_eq_true rfl) (Nat.le_of_ble_eq_true rfl) rfl (c_add (d + 18) s4 s2 s1 s5 s3 hi20) rfl).trans ?_
        exact tr_88_117 (d + 11) _ o r _ _
      · have fx : Fr ((FCd o M r ++ [(r, some 5)]) ++ [(M + 1, some i), (M, some 1)]) (nru w) (sR (sI v2 M 1 (nI (i + 1))) (M + 1) i (some r)) := (hv.cl.sI M 1 _ (inS_iff.mpr ⟨(M, some 1), List.mem_append_right _ (by simp), rfl, Or.inr rfl⟩)).sR (M + 1) i _ (inS_iff.mpr ⟨(M + 1, some i), List.mem_append_right _ (by simp), rfl, Or.inr rfl⟩)
        have g1 := (hg0.sub (T := (FCd o M r ++ [(r, some 5)]) ++ [(M + 1, some i), (M, some 1)]) (fun x hx => by cases hx)).trans (Gw.of fx)
        refine g1.sub (fun x hx hl => ?_)
        rcases List.mem_append.mp hx with hx | hx
        · rcases List.mem_append.mp hx with hx | hx
          · rcases List.mem_append.mp hx with hx | hx
            · simp only [List.mem_cons, List.mem_nil_iff, or_false] at hx
              rcases hx with rfl | rfl | rfl | rfl | rfl <;> (dsimp only at hl; omega)
            · simp only [List.mem_cons, List.mem_nil_iff, or_false] at hx ⊢
              rcases hx with rfl | rfl | rfl | rfl | rfl | rfl <;> simp
          · rw [List.mem_singleton.mp hx] at hl
            dsimp only at hl
            omega
        · simp only [List.mem_cons, List.mem_nil_iff, or_false] at hx ⊢
          rcases hx with rfl | rfl <;> simp
      · show wN v2 = _
        rw [hv.1.2.1, hN0, hr]
    have offa : ∀ a j, a ≠ M → a ≠ M + 1 → inS [(M, some 1), (M + 1, some i)] a j = false := fun a j h1 h2 => inS_no (fun s hs e => by
      simp only [List.mem_cons, List.mem_nil_iff, or_false] at hs
      rcases hs with rfl | rfl
      · exact absurd e.symm h1
      · exact absurd e.symm h2)
    have fadd : ∀ v2 : Wd, Fr [(M, some 1), (M + 1, some i)] v2 (sR (sI v2 M 1 (nI (i + 1))) (M + 1) i (some r)) := fun v2 => ((Fr.refl _ v2).sI M 1 _ (inS_iff.mpr ⟨(M, some 1), by simp, rfl, Or.inr rfl⟩)).sR (M + 1) i _ (inS_iff.mpr ⟨(M + 1, some i), by simp, rfl, Or.inr rfl⟩)
    have h150 : 151 ≤ M := hS.2.2.2.2.2.2.2.1
    dsimp only
    cases hq : pCh N t T 6 c p.2 with
    | error er =>
      refine ⟨fun q hq => (by cases hq), fun e he => ?_⟩
      cases he
      obtain ⟨s0, u, z1, z2, z3, z4⟩ := cz er hq
      have hF : (0 : Int32) ≤ gI u o 1 := by
        rw [z3]
        exact n_le (a := 0) (Nat.zero_le er) (by have := pCh_err 6 c p.2 er x3.1.2.2.2.2.1 hq; omega)
      have e1 := mv s0 z1 z2 z4
      rw [if_pos hF] at e1
      obtain ⟨y1, y2, y3⟩ := fin2 (fm s0 z2) (rd5 s0 z4)
      exact ⟨_, e1.trans y1, y2, ((fadd _).i o 1 (offa o 1 (Ne.symm hMo) hoM)).trans ((gI_ne _ _ _ _ (by omega)).trans z3), (rd5 s0 z4).fr (fadd _) (fun j _ _ => offa o j (Ne.symm hMo) hoM) (fun j => offa 65 j (by omega) (by omega))⟩
    | ok s =>
      obtain ⟨u, y1, y2, y3⟩ := cy s hq
      have h1u := y3.2.2.2.2.2.1
      have e1 := mv _ y1 y2 y3.2.2.1
      rw [h1u, if_neg (by decide)] at e1
      have f5 : Fr [(r, some 5)] u (sI u r 5 (nI (pkN N s.1))) := (Fr.refl _ u).sI r 5 _ (inS_iff.mpr ⟨(r, some 5), by simp, rfl, Or.inr rfl⟩)
      have hS5 : Sc (sI u r 5 (nI (pkN N s.1))) o M T N t s.2.2 s.2.1 := by
        obtain ⟨b1, b2, b3, b4, b5, b6, b7, b8, b9, b10⟩ := y3
        have ho5 : ∀ j, gI (sI u r 5 (nI (pkN N s.1))) o j = gI u o j := fun j => gI_ne _ _ _ _ (by omega)
        obtain ⟨k1, k2, k3⟩ := b4
        exact ⟨f5.fixO (fun a j ha => off5 a j (by omega)) b1, f5.txO (fun a j ha => off5 a j (by omega)) b2, rd5 _ b3, ⟨by rw [ho5 5]; exact k1, (ho5 6).trans k2, (ho5 7).trans k3⟩, b5, (ho5 1).trans b6, b7, b8, b9, (gI_ne _ _ _ _ (by omega)).trans b10⟩
      have hRu5 : RuL (sI u r 5 (nI (pkN N s.1))) r p.1 := (x3.2.2.2.fr y2 (fun a j h1 h2 _ => fch_off (Or.inl (by omega)) (Or.inl (by omega)))).fr f5 (fun a j h1 h2 h3 => inS_no (fun q hq e => by
        rw [List.mem_singleton.mp hq] at e ⊢
        refine ⟨fun hh => (by cases hh), fun hh => ?_⟩
        have e2 : r = a := e
        have := h3 e2.symm
        cases hh
        omega))
      have h5 : gI (sI u r 5 (nI (pkN N s.1))) r 5 = nI (pkN N s.1) := gI_same _ _ _ _
      have fm5 := fm (nI (pkN N s.1)) y2
      generalize sI u r 5 (nI (pkN N s.1)) = u5 at e1 hS5 hRu5 h5 fm5
      dsimp only
      cases hs : isSg t s.2.2 59 with
      | true =>
        rw [if_pos rfl]
        refine ⟨fun q hq => ?_, fun e he => (by cases he)⟩
        cases hq
        obtain ⟨x, g1, g2, g3⟩ := c_tsYes (d + 15) hS5 hs
        have fmx : Fr (FCd o M r ++ [(r, some 5)]) (nru w) x := fm5.trans ((g2.tkf.ch (M := M)).cr.cl)
        obtain ⟨q1, q2, q3⟩ := fin2 fmx g3.2.2.1
        have hlo : ∀ a j, r ≤ a → inS (FTk o) a j = false := fun a j ha => ftk_off (Or.inl (by omega))
        have hla : ∀ a j, r ≤ a → inS [(M, some 1), (M + 1, some i)] a j = false := fun a j ha => offa a j (by omega) (by omega)
        refine ⟨_, e1.trans ?_, q2, q3, ?_, ⟨?_, ?_⟩, ?_, ?_⟩
        · refine (val_call (pc2 := 102) rfl rfl rfl rfl (rcvO hS5.2.2.1.2.1 (by decide)) (Nat.le_of_ble_eq_true rfl) (Nat.le_of_ble_eq_true rfl) rfl g1 rfl).trans ?_
          refine (tr_88_102 (d + 11) x o r _ _ _).trans ?_
          rw [if_pos (show ¬ (1 : Int32) = 0 by decide)]
          exact q1
        · obtain ⟨b1, b2, b3, b4, b5, b6, b7, b8, b9, b10⟩ := g3
          have hoa : ∀ j, gI (sR (sI x M 1 (nI (i + 1))) (M + 1) i (some r)) o j = gI x o j := fun j => (fadd x).i o j (offa o j (Ne.symm hMo) hoM)
          obtain ⟨k1, k2, k3⟩ := b4
          exact ⟨(fadd x).fixO (fun a j ha => offa a j (by omega) (by omega)) b1, (fadd x).txO (fun a j ha => offa a j (by omega) (by omega)) b2, b3.fr (fadd x) (fun j _ _ => offa o j (Ne.symm hMo) hoM) (fun j => offa 65 j (by omega) (by omega)), ⟨by rw [hoa 5]; exact k1, (hoa 6).trans k2, (hoa 7).trans k3⟩, b5, (hoa 1).trans b6, b7, b8, b9, (gI_nk _ _ _ (by decide)).trans b10⟩
        · rw [← hr]
          exact (hRu5.fr g2 (fun a j h1 h2 _ => hlo a j h1)).fr (fadd x) (fun a j h1 h2 _ => hla a j h1)
        · rw [← hr]
          exact ((fadd x).i r 5 (hla r 5 (Nat.le_refl r))).trans ((g2.i r 5 (hlo r 5 (Nat.le_refl r))).trans h5)
        · rw [← hr]
          exact gR_same _ _ _ _
        · exact gI_same x M 1 (nI (i + 1))
      | false =>
        rw [if_neg (show ¬ false = true by decide)]
        refine ⟨fun q hq => (by cases hq), fun e he => ?_⟩
        cases he
        obtain ⟨x, g1, g2, g3, g4⟩ := c_ref (d + 18) hS5
        have fmx : Fr (FCd o M r ++ [(r, some 5)]) (nru w) x := fm5.trans g2.cr.cl
        obtain ⟨q1, q2, q3⟩ := fin2 fmx g4
        refine ⟨_, e1.trans ?_, q2, ((fadd _).i o 1 (offa o 1 (Ne.symm hMo) hoM)).trans g3, g4.fr (fadd _) (fun j _ _ => offa o j (Ne.symm hMo) hoM) (fun j => offa 65 j (by omega) (by omega))⟩
        refine (val_call (pc2 := 102) rfl rfl rfl rfl (rcvO hS5.2.2.1.2.1 (by decide)) (Nat.le_of_ble_eq_true rfl) (Nat.le_of_ble_eq_true rfl) rfl (c_tsNo (d + 15) hS5 hs) rfl).trans ?_
        refine (tr_88_102 (d + 11) u5 o r _ _ _).trans ?_
        rw [if_neg (fun h => h rfl)]
        refine (val_call (pc2 := 109) rfl rfl rfl rfl (rcvO hS5.2.2.1.2.1 (by decide)) (Nat.le_of_ble_eq_true rfl) (Nat.le_of_ble_eq_true rfl) rfl g1 rfl).trans ?_
        exact q1
end CRU2
