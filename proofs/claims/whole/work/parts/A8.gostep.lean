/-! THE RUN: one step of the class's -/
/-- a run: its steps, rows, whether it is stuck, which rows were CALLED when they were made -/
abbrev RS : Type := Nat × (Nat → Nat → Nat) × Bool × (Nat → Bool)
def upF {α : Type} (F : Nat → α) (k : Nat) (x : α) : Nat → α := fun j => if j = k then x else F j
theorem upF_eq {α : Type} (F : Nat → α) (k : Nat) (x : α) : upF F k x k = x := if_pos rfl
theorem upF_ne {α : Type} (F : Nat → α) {k j : Nat} (x : α) (h : j ≠ k) : upF F k x j = F j := if_neg h
def RSok (N : Nat) (s : RS) : Prop := s.1 ≤ 2000 ∧ (∀ k, k ≤ s.1 → IsRow N (s.2.1 k)) ∧ s.2.1 0 = (fun p => p) ∧ s.2.2.2 0 = false
/-- the next row, by rule j -/
def nxS (cl : Nat → Bool) (rs : List Ru) (s : RS) (j : Nat) : RS := (s.1 + 1, upF s.2.1 (s.1 + 1) (fun p => s.2.1 s.1 ((rs.getD j ru0).2 p)), false, upF s.2.2.2 (s.1 + 1) (cl s.1))
def stS (s : RS) : RS := (s.1, s.2.1, true, s.2.2.2)
/-- what the class knows of it -/
def RCl (w : Wd) (N M : Nat) (cl : Nat → Bool) (s : RS) : Prop := gR w 67 0 = some M ∧ gI w 67 9 = nI s.1 ∧ gI w 67 10 = b01 s.2.2.1 ∧ gI w 67 11 = fi N s.2.1 s.1 ∧ (∀ k, k ≤ s.1 → gI w 68 k = nI (pkN N (s.2.1 k))) ∧ (∀ k, k < 2000 → gI w 69 k = b01 (cl k)) ∧ (∀ k, k ≤ s.1 → gI w 70 k = b01 (s.2.2.2 k)) ∧ RC N s.2.1 w s.1
abbrev FGo : List (Nat × Option Nat) := [(67, some 9), (67, some 10), (67, some 11), (67, some 12), (68, none), (70, none), (71, none), (72, none), (73, none), (74, none), (75, none)]
theorem nar_b01 (b : Bool) : vp_nar .byte (b01 b) = b01 b := by cases b <;> decide
theorem nxS_ok {N : Nat} {cl : Nat → Bool} {rs : List Ru} {s : RS} {j : Nat} (h : RSok N s) (hS : s.1 < 2000) (hr : IsRow N (rs.getD j ru0).2) : RSok N (nxS cl rs s j) := by
  obtain ⟨h1, h2, h3, h4⟩ := h
  refine ⟨by show s.1 + 1 ≤ 2000; omega, fun k hk => ?_, ?_, ?_⟩
  · show IsRow N (upF s.2.1 (s.1 + 1) _ k)
    by_cases e : k = s.1 + 1
    · rw [e, upF_eq]; exact (h2 s.1 (Nat.le_refl _)).comp hr
    · rw [upF_ne _ _ e]
      have : k ≤ s.1 + 1 := hk
      exact h2 k (by omega)
  · exact (upF_ne s.2.1 (fun p => s.2.1 s.1 ((rs.getD j ru0).2 p)) (Nat.succ_ne_zero s.1).symm).trans h3
  · exact (upF_ne s.2.2.2 (cl s.1) (Nat.succ_ne_zero s.1).symm).trans h4
section GOSTEP
variable {N M c : Nat} {rs : List Ru} {w : Wd} {cl : Nat → Bool} {s : RS}
theorem RC.fr {F : Nat → Nat → Nat} {S : Nat} {T : List (Nat × Option Nat)} {v : Wd} (h : RC N F w S) (hf : Fr T w v) (ht : dj T [(67, some 12), (71, none), (72, none), (73, none), (74, none), (75, none)] = true) : RC N F v S := by
  obtain ⟨⟨h1, h2⟩, h3, h4⟩ := h
  refine ⟨⟨fun x hx => (hf.i 74 x (dj_off ht rfl)).trans (h1 x hx), fun j j1 j2 => ?_⟩, (hf.i 67 12 (dj_off ht rfl)).trans h3, fun t t1 t2 => (hf.i 73 t (dj_off ht rfl)).trans (h4 t t1 t2)⟩
  obtain ⟨a, b, c⟩ := h2 j j1 j2
  exact ⟨(hf.i 75 j (dj_off ht rfl)).trans a, (hf.i 71 j (dj_off ht rfl)).trans b, (hf.i 72 j (dj_off ht rfl)).trans c⟩
theorem c_step (h3 : 3 ≤ N) (hN : N ≤ 8) (hW : Fix w) (hM : MeV w N M rs c) (hr : ∀ j, j < rs.length → RuOK N (rs.getD j ru0)) (hs : RCl w N M cl s) (ok : RSok N s) (hS : s.1 < 2000) (d : Nat) :
    (fR N (s.2.1 s.1) s.1 (cl s.1) rs rs.length 0 = none → ∃ w', val (157, d + 5, 0, [some (.ref 67), some (.int (nI N)), none, none], [], w) = some (some (.int 0), w') ∧ Fr FGo w w' ∧ RCl w' N M cl (stS s)) ∧
    (∀ j, fR N (s.2.1 s.1) s.1 (cl s.1) rs rs.length 0 = some j → ∃ w', val (157, d + 5, 0, [some (.ref 67), some (.int (nI N)), none, none], [], w) = some (some (.int 1), w') ∧ Fr FGo w w' ∧ RCl w' N M cl (nxS cl rs s j)) := by
  obtain ⟨S, F, st, mk⟩ := s
  obtain ⟨r1, r2, r3, r4, r5, r6, r7, r8⟩ := id hs
  obtain ⟨o1, o2, o3, o4⟩ := id ok
  dsimp only at r2 r3 r4 r5 r7 r8 o1 o2 o3 o4 hS ⊢
  have hO := okn h3 hN
  have iS : (nI S).toNatClampNeg = S := nI_clamp (by omega)
  have hk67 := hW.k67
  have e0 := tr_157 d w hW (nI N) (by rw [r2]; exact inB_nI (by omega) (by omega)) M r1 (by have := hM.1; omega) (by rw [r2]; exact inB_nI hS (by omega))
  rw [r2, iS, r5 S (Nat.le_refl S), r6 S hS] at e0
  have e1 : val (157, d + 5, 0, [some (.ref 67), some (.int (nI N)), none, none], [], w) = val (157, d + 5, 48, [some (.ref 67), some (.int (nI N)), some (.int (nI (pkN N (F S)))), none], [.int (b01 (cl S)), .int (nI S), .int (nI (pkN N (F S))), .int (nI N), .ref M], w) := by
    refine e0.trans ?_
    cases cl S with
    | true => exact if_neg (by decide)
    | false => exact if_pos rfl
  have er := c_ruleFor h3 hN (o2 S (Nat.le_refl S)) hM hr hS (cl S) d
  refine ⟨fun hf => ?_, fun j hf => ?_⟩
  · rw [hf] at er
    have f1 : Fr FGo w (sI w 67 10 1) := (Fr.refl _ w).sI 67 10 _ rfl
    have f1' : Fr [(67, some 10)] w (sI w 67 10 1) := (Fr.refl _ w).sI 67 10 _ rfl
    refine ⟨_, e1.trans ?_, f1, f1.r 67 0 rfl ▸ r1, ?_, gI_same _ _ _ _, ?_, fun k hk => (f1'.i 68 k rfl).trans (r5 k hk), fun k hk => (f1'.i 69 k rfl).trans (r6 k hk), fun k hk => (f1'.i 70 k rfl).trans (r7 k hk), r8.fr f1' rfl⟩
    · refine (val_call (pc2 := 51) rfl rfl rfl rfl (rcvO hM.2.2.1 (by decide)) (Nat.le_of_ble_eq_true rfl) (Nat.le_of_ble_eq_true rfl) rfl er rfl).trans ?_
      exact tr_157_51_n4 d w hW _ _
    · exact (f1'.i 67 9 rfl).trans r2
    · exact (f1'.i 67 11 rfl).trans r4
  · rw [hf] at er
    dsimp only at er
    obtain ⟨-, hjl⟩ := fR_lt _ _ _ hf
    rw [Nat.zero_add] at hjl
    obtain ⟨q1, q2⟩ := hM.2.2.2.2.2.2.2.2 j hjl
    have hu := (hr j hjl).2.2
    obtain ⟨R, hR⟩ : ∃ R, R = M + 2 + 5 * j := ⟨_, rfl⟩
    rw [← hR] at q1 q2 er
    have hR151 : 151 ≤ R := by have := hM.1; omega
    have hS9 : gI (sI w 67 10 0) 67 9 = nI S := (gI_nk _ _ _ (by decide)).trans r2
    have e2 := tr_157_51 d w hW (nI N) (nI (pkN N (F S))) R (by omega) (by rw [hS9]; exact inB_nI hS (by omega)) (by rw [hS9, n_succ]; exact inB_nI (by omega) (by omega)) 6 q2.1.1
    have iS1 : (nI (S + 1)).toNatClampNeg = S + 1 := nI_clamp (by omega)
    rw [hS9, n_succ, iS, iS1, gI_ne w (a := 67) (b := 69) 10 S 0 (by decide), r6 S hS, nar_b01] at e2
    obtain ⟨w1, hw1⟩ : ∃ w1, w1 = sI (sI w 67 10 0) 70 (S + 1) (b01 (cl S)) := ⟨_, rfl⟩
    rw [← hw1] at e2
    have h1 : gI w1 67 9 = nI S := by rw [hw1, gI_ne _ _ _ _ (by decide)]; exact hS9
    rw [h1, n_succ] at e2
    obtain ⟨w2, hw2⟩ : ∃ w2, w2 = sI w1 67 9 (nI (S + 1)) := ⟨_, rfl⟩
    rw [← hw2] at e2
    have h2 : gI w2 67 9 = nI (S + 1) := by rw [hw2, gI_same]
    have h2R : gI w2 R 5 = nI (pkN N (rs.getD j ru0).2) := by
      rw [hw2, gI_ne _ _ _ _ (by omega), hw1, gI_ne _ _ _ _ (by omega), gI_ne _ _ _ _ (by omega)]
      exact q2.2
    rw [h2, h2R] at e2
    have f2 : Fr [(67, some 9), (67, some 10), (70, none)] w w2 := by
      rw [hw2, hw1]
      exact (((Fr.refl _ w).sI 67 10 _ rfl).sI 70 _ _ rfl).sI 67 9 _ rfl
    have hW2 := f2.fix rfl hW
    obtain ⟨x, hx⟩ : ∃ x, x = fun p => F S ((rs.getD j ru0).2 p) := ⟨_, rfl⟩
    have hxr : IsRow N x := by rw [hx]; exact (o2 S (Nat.le_refl S)).comp hu
    have ex : fn_136 (nI N) (nI (pkN N (F S))) (nI (pkN N (rs.getD j ru0).2)) = nI (pkN N x) := by
      rw [r_136 hN (o2 S (Nat.le_refl S)).1 hu.1, hx]
    obtain ⟨w3, hw3⟩ : ∃ w3, w3 = sI w2 68 (S + 1) (nI (pkN N x)) := ⟨_, rfl⟩
    have f3 : Fr [(67, some 9), (67, some 10), (70, none), (68, none)] w w3 := by
      rw [hw3]; exact (f2.mono rfl).sI 68 _ _ rfl
    have hW3 := f3.fix rfl hW
    have g11 : gI w3 67 11 = fi N F S := (f3.i 67 11 rfl).trans r4
    have g9 : gI w3 67 9 = nI (S + 1) := by rw [hw3, gI_ne _ _ _ _ (by decide)]; exact h2
    have g68 : gI w3 68 (S + 1) = nI (pkN N x) := by rw [hw3, gI_same]
    have g680 : gI w3 68 0 = nI (pkN N (fun p => p)) := by
      rw [hw3, gI_nk _ _ _ (by omega), f2.i 68 0 rfl, r5 0 (Nat.zero_le S), o3]
    have e3 := tr_157_118 d w2 hW2 (nI N) (nI (pkN N (F S))) R (nI (pkN N x)) (nI (S + 1)) (inB_nI (by omega) (by omega)) (fun _ => by rw [iS1, ← hw3, g9]; exact inB_nI (by omega) (by omega)) (fun _ => by decide)
    rw [iS1, ← hw3, g11, g9, iS1, g68, show (0 : Int32).toNatClampNeg = 0 from rfl, g680] at e3
    -- the first rounds
    obtain ⟨w4, e4, f4, g4⟩ : ∃ w4, val (157, d + 5, 118, [some (.ref 67), some (.int (nI N)), some (.int (nI (pkN N (F S)))), some (.ref R)], [.int (nI (pkN N x)), .int (nI (S + 1)), .ref 68], w2) = val (157, d + 5, 159, [some (.ref 67), some (.int (nI N)), some (.int (nI (pkN N (F S)))), some (.ref R)], [.int (nI (S + 1)), .ref 67], w4) ∧ Fr [(67, some 11)] w3 w4 ∧ gI w4 67 11 = fi N (upF F (S + 1) x) (S + 1) := by
      have hfi : fi N (upF F (S + 1) x) (S + 1) = if fi N F S = -9 ∧ isId N x = true then nI (S + 1) else fi N F S := by
        show (if fi N (upF F (S + 1) x) S = -9 ∧ isId N (upF F (S + 1) x (S + 1)) = true then nI (S + 1) else fi N (upF F (S + 1) x) S) = _
        rw [upF_eq, fi_congr (G := F) (fun i hi => upF_ne F x (by omega)) S (Nat.le_refl S)]
      by_cases c1 : fi N F S = -9
      · rw [if_neg (fun h => h c1)] at e3
        by_cases c2 : isId N x = true
        · rw [if_neg (fun h => h ((pk_id hN hxr).mpr c2)), gI_nk _ _ _ (by decide), g9] at e3
          exact ⟨_, e3, (Fr.refl _ w3).sI 67 11 _ rfl, by rw [gI_same, hfi, if_pos ⟨c1, c2⟩]⟩
        · rw [if_pos (fun h => c2 ((pk_id hN hxr).mp h))] at e3
          exact ⟨_, e3, Fr.refl _ _, by rw [g11, hfi, if_neg (fun h => c2 h.2)]⟩
      · rw [if_pos c1] at e3
        exact ⟨_, e3, Fr.refl _ _, by rw [g11, hfi, if_neg (fun h => c1 h.1)]⟩
    have hW4 := f4.fix rfl hW3
    have f34 : Fr [(67, some 9), (67, some 10), (67, some 11), (70, none), (68, none)] w w4 := (f3.mono rfl).trans (f4.mono rfl)
    have hF4 : ∀ i, i ≤ S + 1 → IsRow N (upF F (S + 1) x i) ∧ gI w4 68 i = nI (pkN N (upF F (S + 1) x i)) := fun i hi => by
      by_cases e : i = S + 1
      · rw [e, upF_eq]; exact ⟨hxr, (f4.i 68 _ rfl).trans g68⟩
      · rw [upF_ne F x e]
        refine ⟨o2 i (by omega), (f4.i 68 i rfl).trans ?_⟩
        rw [hw3, gI_nk _ _ _ e, f2.i 68 i rfl, r5 i (by omega)]
    have hC4 : RC N (upF F (S + 1) x) w4 S := (r8.fr f34 rfl).congr (fun i hi => (upF_ne F x (by omega)).symm)
    obtain ⟨w5, e5, f5, c5⟩ := c_compare (d + 4) hW4 hN (show S + 1 ≤ 2000 by omega) hF4 hC4
    have f35 : Fr FGo w w5 := (f34.mono rfl).trans (f5.mono rfl)
    refine ⟨w5, e1.trans ?_, f35, (f35.r 67 0 rfl).trans r1, ?_, ?_, ?_, ?_, fun k hk => (f35.i 69 k rfl).trans (r6 k hk), ?_, ?_⟩
    · refine (val_call (pc2 := 51) rfl rfl rfl rfl (rcvO hM.2.2.1 (by decide)) (Nat.le_of_ble_eq_true rfl) (Nat.le_of_ble_eq_true rfl) rfl er rfl).trans ?_
      refine e2.trans ?_
      refine (val_call (pc2 := 118) rfl rfl rfl rfl rfl (Nat.le_of_ble_eq_true rfl) (Nat.le_of_ble_eq_true rfl) rfl (ev_136 (d + 3) w2 (nI N) (nI (pkN N (F S))) (nI (pkN N (rs.getD j ru0).2)) hO) rfl).trans ?_
      rw [ex]
      refine e4.trans ?_
      refine (val_call (pc2 := 162) rfl rfl rfl rfl (rcvO hW4.k67 (by decide)) (Nat.le_of_ble_eq_true rfl) (Nat.le_of_ble_eq_true rfl) rfl e5 rfl).trans ?_
      exact tr_157_162 d w5 _ _ _
    · show gI w5 67 9 = nI (S + 1)
      rw [f5.i 67 9 rfl, f4.i 67 9 rfl, g9]
    · show gI w5 67 10 = b01 false
      rw [f5.i 67 10 rfl, f4.i 67 10 rfl, hw3, gI_ne _ _ _ _ (by decide), hw2, gI_nk _ _ _ (by decide), hw1, gI_ne _ _ _ _ (by decide), gI_same]
      rfl
    · show gI w5 67 11 = fi N (upF F (S + 1) _) (S + 1)
      rw [← hx, f5.i 67 11 rfl, g4]
    · show ∀ k, k ≤ S + 1 → gI w5 68 k = nI (pkN N (upF F (S + 1) _ k))
      intro k hk
      rw [← hx, f5.i 68 k rfl]
      exact (hF4 k hk).2
    · show ∀ k, k ≤ S + 1 → gI w5 70 k = b01 (upF mk (S + 1) (cl S) k)
      intro k hk
      rw [f5.i 70 k rfl, f4.i 70 k rfl, hw3, gI_ne _ _ _ _ (by decide), hw2, gI_ne _ _ _ _ (by decide), hw1]
      by_cases e : k = S + 1
      · rw [e, gI_same, upF_eq]
      · rw [gI_nk _ _ _ e, upF_ne _ _ e, gI_ne _ _ _ _ (by decide)]
        exact r7 k (by omega)
    · show RC N (upF F (S + 1) _) w5 (S + 1)
      rw [← hx]; exact c5
end GOSTEP
