/-! CALL: go -/
/-- n steps at most, and how many were done -/
def goA (N : Nat) (cl : Nat → Bool) (rs : List Ru) : Nat → RS → Nat × RS
  | 0, s => (0, s)
  | n + 1, s => if 2000 ≤ s.1 then (0, s) else
    match fR N (s.2.1 s.1) s.1 (cl s.1) rs rs.length 0 with
    | none => (0, stS s)
    | some j => ((goA N cl rs n (nxS cl rs s j)).1 + 1, (goA N cl rs n (nxS cl rs s j)).2)
/-- what the reference knows of a run -/
def RMo (w : Wd) (N m : Nat) (cl : Nat → Bool) (s : RS) : Prop := gI w 108 27 = 1 ∧ gI w 108 28 = nI m ∧ gI w 108 29 = nI s.1 ∧ gI w 108 30 = b01 s.2.2.1 ∧ (∀ k, k ≤ s.1 → gI w 127 k = nI (dcN N (s.2.1 k))) ∧ (∀ k, k < 2000 → gI w 128 k = b01 (cl k)) ∧ ∀ k, k ≤ s.1 → gI w 129 k = b01 (s.2.2.2 k)
abbrev FMg : List (Nat × Option Nat) := [(108, some 29), (108, some 30), (127, none), (129, none), (109, none), (110, none), (111, none), (126, none)]
theorem nar_bb (b : Bool) : vp_nar .boolean (b01 b) = b01 b := by cases b <;> decide
section GO
variable {N M m c : Nat} {rs : List Ru} {cl : Nat → Bool}
theorem goA_ok (hr : ∀ j, j < rs.length → RuOK N (rs.getD j ru0)) : ∀ n s, RSok N s → RSok N (goA N cl rs n s).2 ∧ (goA N cl rs n s).1 ≤ n
  | 0, s, h => ⟨h, Nat.le_refl 0⟩
  | n + 1, s, h => by
    unfold goA
    split
    · exact ⟨h, Nat.zero_le _⟩
    · rename_i hS
      cases hf : fR N (s.2.1 s.1) s.1 (cl s.1) rs rs.length 0 with
      | none => exact ⟨h, Nat.zero_le _⟩
      | some j =>
        obtain ⟨-, hj⟩ := fR_lt _ _ _ hf
        obtain ⟨a, b⟩ := goA_ok hr n (nxS cl rs s j) (nxS_ok h (by omega) (hr j (by omega)).2.2)
        exact ⟨a, Nat.succ_le_succ b⟩
theorem c_goOn (h3 : 3 ≤ N) (hN : N ≤ 8) (hr : ∀ j, j < rs.length → RuOK N (rs.getD j ru0)) (d : Nat) {a : Nat} (ha : a ≤ 500) : ∀ n q s (w : Wd), q + n = a → Fix w → MeV w N M rs c → RCl w N M cl s → RSok N s → ∃ w', val (156, d + 6, 5, [some (.ref 67), some (.int (nI a)), some (.int (nI N)), some (.int (nI q)), some (.int 1)], [], w) = some (some (.int (nI (q + (goA N cl rs n s).1))), w') ∧ Fr FGo w w' ∧ RCl w' N M cl (goA N cl rs n s).2 := by
  intro n
  induction n with
  | zero =>
    intro q s w hq hW hM hs ok
    refine ⟨w, (tr_156_5 d w hW _ _ _ _).trans ?_, Fr.refl _ _, hs⟩
    rw [if_neg (by decide), if_pos (n_le (by omega) (by omega))]
    rfl
  | succ n ih =>
    intro q s w hq hW hM hs ok
    have e := tr_156_5 d w hW (nI a) (nI N) (nI q) 1
    rw [if_neg (by decide), if_neg (n_nle (show q < a by omega) (by omega)), hs.2.1] at e
    unfold goA
    by_cases hS : 2000 ≤ s.1
    · rw [if_pos (show (2000 : Int32) ≤ nI s.1 from n_le (a := 2000) hS (by have := ok.1; omega))] at e
      rw [if_pos hS]
      exact ⟨w, e, Fr.refl _ _, hs⟩
    · rw [if_neg (show ¬ (2000 : Int32) ≤ nI s.1 from n_nle (a := 2000) (by omega) (by omega))] at e
      rw [if_neg hS]
      obtain ⟨t1, t2⟩ := c_step h3 hN hW hM hr hs ok (by omega) d
      cases hf : fR N (s.2.1 s.1) s.1 (cl s.1) rs rs.length 0 with
      | none =>
        obtain ⟨w1, e1, f1, s1⟩ := t1 hf
        refine ⟨w1, e.trans ?_, f1, s1⟩
        refine (val_call (pc2 := 30) rfl rfl rfl rfl (rcvO hW.k67 (by decide)) (Nat.le_of_ble_eq_true rfl) (Nat.le_of_ble_eq_true rfl) rfl e1 rfl).trans ?_
        refine (tr_156_30 d w1 _ _ _ _ _).trans ?_
        rw [if_pos rfl]
        refine (tr_156_5 d w1 (f1.fix rfl hW) _ _ _ _).trans ?_
        rw [if_pos rfl]
        rfl
      | some j =>
        obtain ⟨w1, e1, f1, s1⟩ := t2 j hf
        have hW1 := f1.fix rfl hW
        obtain ⟨-, hj⟩ := fR_lt _ _ _ hf
        obtain ⟨w2, e2, f2, s2⟩ := ih (q + 1) (nxS cl rs s j) w1 (by omega) hW1 (hM.gw (Gw.of f1) (fun a k h => hi_off rfl (by have := hM.1; omega))) s1 (nxS_ok ok (by omega) (hr j (by omega)).2.2)
        refine ⟨w2, e.trans ?_, f1.trans f2, s2⟩
        refine (val_call (pc2 := 30) rfl rfl rfl rfl (rcvO hW.k67 (by decide)) (Nat.le_of_ble_eq_true rfl) (Nat.le_of_ble_eq_true rfl) rfl e1 rfl).trans ?_
        refine (tr_156_30 d w1 _ _ _ _ _).trans ?_
        rw [if_neg (by decide), n_succ, e2]
        dsimp only
        rw [Nat.add_right_comm, Nat.add_assoc q]
theorem m_goL (h3 : 3 ≤ N) (hN : N ≤ 8) (hr : ∀ j, j < rs.length → RuOK N (rs.getD j ru0)) (hm8 : m < 8) (h20 : rs.length ≤ 20) (hc40 : c ≤ 40) {d : Nat} (hd : 121 ≤ d) {a : Nat} (ha : a ≤ 500) : ∀ n q s (w : Wd) (l4 : Option Value), q + n = a → Fix w → gI w 108 0 = nI N → MeM w N m rs c → RMo w N m cl s → RSok N s → ∃ w', val (213, d + 4, 28, [some (.ref 108), some (.int (nI a)), some (.int (nI q)), some (.int 1), l4], [], w) = some (some (.int (nI (q + (goA N cl rs n s).1))), w') ∧ Fr FMg w w' ∧ RMo w' N m cl (goA N cl rs n s).2 := by
  intro n
  induction n with
  | zero =>
    intro q s w l4 hq hW hn hM hs ok
    refine ⟨w, (tr_213_28 d w hW _ _ _ l4 (fun _ h => absurd (n_le (by omega) (by omega)) h)).trans ?_, Fr.refl _ _, hs⟩
    rw [if_neg (by decide), if_pos (n_le (by omega) (by omega))]
    rfl
  | succ n ih =>
    intro q s w l4 hq hW hn hM hs ok
    obtain ⟨S, F, st, mk⟩ := s
    obtain ⟨r1, r2, r3, r4, r5, r6, r7⟩ := id hs
    obtain ⟨o1, o2, o3, o4⟩ := id ok
    dsimp only at r3 r4 r5 r7 o1 o2 o3 o4
    have iS : (nI S).toNatClampNeg = S := nI_clamp (by omega)
    have e := tr_213_28 d w hW (nI a) (nI q) 1 l4 (fun _ _ _ => by rw [r3]; exact inB_nI (by omega) (by omega))
    rw [if_neg (by decide), if_neg (n_nle (show q < a by omega) (by omega)), r3, iS] at e
    unfold goA
    dsimp only
    by_cases hS : 2000 ≤ S
    · rw [if_pos (show (2000 : Int32) ≤ nI S from n_le (a := 2000) hS (by omega))] at e
      rw [if_pos hS]
      exact ⟨w, e, Fr.refl _ _, hs⟩
    · rw [if_neg (show ¬ (2000 : Int32) ≤ nI S from n_nle (a := 2000) (by omega) (by omega)), r5 S (Nat.le_refl S)] at e
      rw [if_neg hS]
      have hfS := o2 S (Nat.le_refl S)
      obtain ⟨w1, f1, e1⟩ := m_ruleOf (f := F S) h3 hN ⟨hfS, rfl⟩ hm8 h20 hr (show S < 2000 by omega) d hW hn r2 hM (r6 S (by omega))
      have hW1 := f1.fix rfl hW
      have g29 : ∀ x, gI (sI w1 108 30 x) 108 29 = nI S := fun x => by rw [gI_nk _ _ _ (by decide), f1.i 108 29 rfl, r3]
      have g30 : ∀ x, gI (sI w1 108 30 x) 108 30 = x := fun x => gI_same _ _ _ _
      have e2 := fun s0 => tr_213_64 d w1 hW1 (nI a) (nI q) 1 s0 l4 (fun _ _ => by rw [g29]; exact inB_nI (by omega) (by omega)) (fun _ _ => by rw [g29]; exact inB_nI (by omega) (by omega))
      cases hf : fR N (F S) S (cl S) rs rs.length 0 with
      | none =>
        rw [hf] at e1
        have e2' := e2 (-9)
        rw [if_neg (fun h => h rfl), g30, if_pos (by decide)] at e2'
        have f2 : Fr FMg w (sI w1 108 30 1) := (f1.mono rfl).sI 108 30 _ rfl
        refine ⟨_, e.trans ?_, f2, ?_⟩
        · refine (val_call (pc2 := 64) rfl rfl rfl rfl (hW.rc _) (Nat.le_of_ble_eq_true rfl) (Nat.le_of_ble_eq_true rfl) rfl e1 rfl).trans ?_
          refine e2'.trans ((tr_213_28 d _ (f2.fix rfl hW) _ _ _ _ (fun h => absurd rfl h)).trans ?_)
          rw [if_pos rfl]
          rfl
        · exact ⟨(f2.i 108 27 rfl).trans r1, (f2.i 108 28 rfl).trans r2, g29 1, g30 1, fun k hk => by rw [gI_ne _ _ _ _ (by decide), f1.i 127 k rfl]; exact r5 k hk, fun k hk => (f2.i 128 k rfl).trans (r6 k hk), fun k hk => by rw [gI_ne _ _ _ _ (by decide), f1.i 129 k rfl]; exact r7 k hk⟩
      | some j =>
        rw [hf] at e1
        dsimp only at e1
        obtain ⟨-, hj⟩ := fR_lt _ _ _ hf
        rw [Nat.zero_add] at hj
        have e2' := e2 (nI (20 * m + j))
        rw [if_pos (n9 (show 20 * m + j < 2 ^ 31 by omega)), g30, if_neg (fun h => h rfl), g29, iS, n_succ] at e2'
        obtain ⟨w2, hw2⟩ : ∃ w2, w2 = sI w1 108 30 0 := ⟨_, rfl⟩
        have f2 : Fr FMg w w2 := by rw [hw2]; exact (f1.mono rfl).sI 108 30 _ rfl
        have hW2 := f2.fix rfl hW
        rw [← hw2] at e2'
        have h127 : gI w2 127 S = nI (dcN N (F S)) := by rw [hw2, gI_ne _ _ _ _ (by decide), f1.i 127 S rfl, r5 S (Nat.le_refl S)]
        rw [h127] at e2'
        have hM2 : MeM w2 N m rs c := by
          rw [hw2]
          exact (hM.fa f1.a rfl).fa ((Fr.refl [(108, some 30)] w1).sI 108 30 0 rfl).a rfl
        obtain ⟨w3, e3, f3⟩ := m_changed (d := d) (f := F S) h3 hN hW2 ((f2.i 108 0 rfl).trans hn) (hM2.2 j hj) (by omega) (by omega) ⟨hfS, rfl⟩ hd
        have hW3 := f3.fix rfl hW2
        obtain ⟨x, hx⟩ : ∃ x, x = fun p => F S ((rs.getD j ru0).2 p) := ⟨_, rfl⟩
        rw [← hx] at e3
        have iS1 : (nI (S + 1)).toNatClampNeg = S + 1 := nI_clamp (by omega)
        obtain ⟨w4, hw4⟩ : ∃ w4, w4 = sI w3 127 (S + 1) (nI (dcN N x)) := ⟨_, rfl⟩
        have f4 : Fr FMg w w4 := by rw [hw4]; exact (f2.trans (f3.mono rfl)).sI 127 _ _ rfl
        have g4 : gI w4 108 29 = nI S := by rw [hw4, gI_ne _ _ _ _ (by decide), f3.i 108 29 rfl, hw2]; exact g29 0
        have e4 := tr_213_124 d w3 hW3 (nI a) (nI q) 1 (nI (20 * m + j)) (nI (dcN N x)) (nI (S + 1)) (inB_nI (by omega) (by omega)) (by rw [iS1, ← hw4, g4]; exact inB_nI (by omega) (by omega)) (by rw [iS1, ← hw4, g4, n_succ]; exact inB_nI (by omega) (by omega))
        rw [iS1, ← hw4, g4, iS, n_succ S, iS1, f4.i 128 S rfl, r6 S (by omega), nar_bb] at e4
        obtain ⟨w5, hw5⟩ : ∃ w5, w5 = sI w4 129 (S + 1) (b01 (cl S)) := ⟨_, rfl⟩
        rw [← hw5] at e4
        have g5 : gI w5 108 29 = nI S := by rw [hw5, gI_ne _ _ _ _ (by decide)]; exact g4
        rw [g5, n_succ S] at e4
        obtain ⟨w6, hw6⟩ : ∃ w6, w6 = sI w5 108 29 (nI (S + 1)) := ⟨_, rfl⟩
        rw [← hw6] at e4
        have f6 : Fr FMg w w6 := by rw [hw6, hw5]; exact (f4.sI 129 _ _ rfl).sI 108 29 _ rfl
        have hM6 : MeM w6 N m rs c := hM.fa f6.a rfl
        have s6 : RMo w6 N m cl (nxS cl rs (S, F, st, mk) j) := by
          refine ⟨(f6.i 108 27 rfl).trans r1, (f6.i 108 28 rfl).trans r2, ?_, ?_, ?_, fun k hk => (f6.i 128 k rfl).trans (r6 k hk), ?_⟩
          · rw [hw6, gI_same]; rfl
          · rw [hw6, gI_nk _ _ _ (by decide), hw5, gI_ne _ _ _ _ (by decide), hw4, gI_ne _ _ _ _ (by decide), f3.i 108 30 rfl, hw2, g30]; rfl
          · show ∀ k, k ≤ S + 1 → gI w6 127 k = nI (dcN N (upF F (S + 1) _ k))
            intro k hk
            rw [← hx, hw6, gI_ne _ _ _ _ (by decide), hw5, gI_ne _ _ _ _ (by decide), hw4]
            by_cases hkS : k = S + 1
            · rw [hkS, gI_same, upF_eq]
            · rw [gI_nk _ _ _ hkS, upF_ne _ _ hkS, f3.i 127 k rfl, hw2, gI_ne _ _ _ _ (by decide), f1.i 127 k rfl, r5 k (by omega)]
          · show ∀ k, k ≤ S + 1 → gI w6 129 k = b01 (upF mk (S + 1) (cl S) k)
            intro k hk
            rw [hw6, gI_ne _ _ _ _ (by decide), hw5]
            by_cases hkS : k = S + 1
            · rw [hkS, gI_same, upF_eq]
            · rw [gI_nk _ _ _ hkS, upF_ne _ _ hkS, hw4, gI_ne _ _ _ _ (by decide), f3.i 129 k rfl, hw2, gI_ne _ _ _ _ (by decide), f1.i 129 k rfl, r7 k (by omega)]
        obtain ⟨w7, e7, f7, s7⟩ := ih (q + 1) (nxS cl rs (S, F, st, mk) j) w6 (some (.int (nI (20 * m + j)))) (by omega) (f6.fix rfl hW) ((f6.i 108 0 rfl).trans hn) hM6 s6 (nxS_ok ok (by show S < 2000; omega) (hr j hj).2.2)
        refine ⟨w7, e.trans ?_, f6.trans f7, s7⟩
        refine (val_call (pc2 := 64) rfl rfl rfl rfl (hW.rc _) (Nat.le_of_ble_eq_true rfl) (Nat.le_of_ble_eq_true rfl) rfl e1 rfl).trans ?_
        refine e2'.trans ?_
        refine (val_call (pc2 := 124) rfl rfl rfl rfl (hW2.rc _) (Nat.le_of_ble_eq_true rfl) (Nat.le_of_ble_eq_true rfl) rfl e3 rfl).trans ?_
        refine e4.trans ?_
        rw [n_succ, e7]
        dsimp only
        rw [Nat.add_right_comm, Nat.add_assoc q]
end GO
