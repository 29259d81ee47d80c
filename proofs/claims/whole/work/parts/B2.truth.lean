/-! CALL: truth -/
def trR (N : Nat) (F : Nat → Nat → Nat) (t : Nat) (sd : Int32) (S : Nat) : Int32 :=
  if fa N F t S = -9 then -9 else if ¬ sd = 0 then nI (lts (sP N F (fa N F t S).toNatClampNeg) ((fa N F t S).toNatClampNeg - 1)) else fa N F t S
theorem fa_stay {N : Nat} {F : Nat → Nat → Nat} {t k : Nat} (h : ¬ fa N F t k = -9) : ∀ j, fa N F t (k + j) = fa N F t k
  | 0 => rfl
  | j + 1 => by
    have ih := fa_stay h j
    show (if fa N F t (k + j) = -9 ∧ oc (sP N F (k + j + 1)) (k + j) = t then nI (k + j + 1) else fa N F t (k + j)) = _
    rw [ih, if_neg (fun hh => h hh.1)]
theorem fa_nI {N : Nat} {F : Nat → Nat → Nat} {t : Nat} : ∀ k, ¬ fa N F t k = -9 → ∃ j, 1 ≤ j ∧ j ≤ k ∧ fa N F t k = nI j
  | 0, h => absurd rfl h
  | k + 1, h => by
    have e : fa N F t (k + 1) = if fa N F t k = -9 ∧ oc (sP N F (k + 1)) k = t then nI (k + 1) else fa N F t k := rfl
    by_cases c : fa N F t k = -9 ∧ oc (sP N F (k + 1)) k = t
    · exact ⟨k + 1, by omega, Nat.le_refl _, by rw [e, if_pos c]⟩
    · rw [e, if_neg c] at h ⊢
      obtain ⟨j, j1, j2, j3⟩ := fa_nI k h
      exact ⟨j, j1, by omega, j3⟩
abbrev ST : List (Nat × Option Nat) := [(109, none), (110, none), (111, none), (130, none), (131, none)]
section TRUTH
variable {N : Nat} {w : Wd}
theorem m_truth0 (d : Nat) (hW : Fix w) (x0 x1 : Int32) : ∃ w', val (217, d + 2, 34, [some (.ref 108), some (.int x0), some (.int x1), some (.int 0), none], [], w) = val (217, d + 2, 55, [some (.ref 108), some (.int x0), some (.int x1), some (.int 1), none], [], w') ∧ Fr [(130, none)] w w' ∧ ∀ k, k < 40320 → gI w' 130 k = 0 := by
  have hL := loopUp (c := fun k v => (217, d + 2, 34, [some (.ref 108), some (.int x0), some (.int x1), some (.int (nI k)), none], [], v)) (P := fun k v => Fr [(130, none)] w v ∧ ∀ i, i < k → gI v 130 i = 0) (R := fun r => ∃ w', r = val (217, d + 2, 55, [some (.ref 108), some (.int x0), some (.int x1), some (.int 1), none], [], w') ∧ Fr [(130, none)] w w' ∧ ∀ k, k < 40320 → gI w' 130 k = 0) (N := 40320) (fun v hv => ⟨v, (tr_217_34 d v (hv.1.fix rfl hW) _ _ _ (fun h => absurd (Int32.le_refl _) h)).trans (if_pos (Int32.le_refl _)), hv.1, hv.2⟩) (fun k v hk hv => Or.inr ⟨sI v 130 k 0, (tr_217_34 d v (hv.1.fix rfl hW) _ _ _ (fun _ => inB_nI hk (by decide))).trans (by
      rw [if_neg (show ¬ (40320 : Int32) ≤ nI k from n_nle (a := 40320) hk (by decide)), n_succ, nI_clamp (by omega)]), hv.1.sI 130 _ _ rfl, fun i hi => by
        by_cases e : i = k
        · rw [e, gI_same]
        · rw [gI_nk _ _ _ e]; exact hv.2 i (by omega)⟩) w ⟨Fr.refl _ _, fun i hi => absurd hi (Nat.not_lt_zero i)⟩
  exact hL
theorem m_truthL (h3 : 3 ≤ N) (hN : N ≤ 8) {S : Nat} {F : Nat → Nat → Nat} (hS : S ≤ 2000) (hF : ∀ k, k ≤ S → IsRow N (F k)) (d : Nat) {t : Nat} (ht1 : 1 ≤ t) (ht : t ≤ 9) (sd : Int32) : ∀ n k (w : Wd) (l4 : Option Value), k + n = S → Fix w → gI w 108 0 = nI N → gI w 108 29 = nI S → (∀ k, k ≤ S → gI w 127 k = nI (dcN N (F k))) → (∀ r, r < 40320 → gI w 130 r = nI (oc (rkP N F r) k) ∧ (0 < oc (rkP N F r) k → gI w 131 r = nI (lts (rkP N F r) k))) → fa N F t k = -9 → ∃ w', val (217, d + 2, 55, [some (.ref 108), some (.int (nI t)), some (.int sd), some (.int (nI (k + 1))), l4], [], w) = some (some (.int (trR N F t sd S)), w') ∧ Fr ST w w' := by
  intro n
  induction n with
  | zero =>
    intro k w l4 hk hW hn h29 h127 h130 hfa
    have hkS : k = S := by omega
    subst hkS
    have e := tr_217_55 d w hW (nI t) sd (nI (k + 1)) l4 (fun h => absurd (by rw [h29]; exact n_lt (by omega) (by omega)) h)
    rw [h29, if_pos (n_lt (by omega) (by omega))] at e
    refine ⟨w, e.trans ?_, Fr.refl _ _⟩
    unfold trR
    rw [if_pos hfa]
  | succ n ih =>
    intro k w l4 hk hW hn h29 h127 h130 hfa
    have ik : (nI (k + 1)).toNatClampNeg = k + 1 := nI_clamp (by omega)
    have hr := hF (k + 1) (by omega)
    have e := tr_217_55 d w hW (nI t) sd (nI (k + 1)) l4 (fun _ => inB_nI (by omega) (by omega))
    rw [h29, if_neg (n_nlt (show k + 1 ≤ S by omega) (by omega)), ik, h127 (k + 1) (by omega)] at e
    obtain ⟨w1, r1, f1⟩ := m_rank h3 hN ⟨hr, rfl⟩ d hW hn
    have hW1 := f1.fix rfl hW
    obtain ⟨hq1, hq2⟩ := rkN_lt hN hr
    obtain ⟨q, hq⟩ : ∃ q, q = rkN N (F (k + 1)) := ⟨_, rfl⟩
    rw [← hq] at r1 hq1
    have iq : (nI q).toNatClampNeg = q := nI_clamp (by omega)
    have hqb : inB (nI q) 40320 = true := inB_nI (by omega) (by decide)
    obtain ⟨g1, g2⟩ := h130 q (by omega)
    have hol : oc (rkP N F q) k ≤ k := oc_le _ _
    have e2 := tr_217_73 d w1 hW1 (nI t) sd (nI (k + 1)) (nI q) l4 hqb (fun _ => hqb) (fun _ _ => hqb)
    rw [iq, f1.i 130 q rfl, g1, n_succ (k + 1), n_succ (oc (rkP N F q) k)] at e2
    have hoc : oc (rkP N F q) k = oc (sP N F (k + 1)) k := by rw [hq, oc_rk hN hF (show k + 1 ≤ S by omega) (show k ≤ S by omega)]
    have hfe : fa N F t (k + 1) = if fa N F t k = -9 ∧ oc (sP N F (k + 1)) k = t then nI (k + 1) else fa N F t k := rfl
    by_cases c : oc (rkP N F q) k = t
    · rw [if_neg (fun h => h (by rw [c]))] at e2
      rw [hfa, ← hoc, if_pos ⟨rfl, c⟩] at hfe
      have hne : ¬ fa N F t (k + 1) = -9 := by rw [hfe]; exact n9 (by omega)
      have hS2 : fa N F t S = nI (k + 1) := by rw [show S = k + 1 + n by omega, fa_stay hne n, hfe]
      refine ⟨w1, e.trans ?_, f1.mono rfl⟩
      refine (val_call (pc2 := 73) rfl rfl rfl rfl (hW.rc _) (Nat.le_of_ble_eq_true rfl) (Nat.le_of_ble_eq_true rfl) rfl r1 rfl).trans ?_
      refine e2.trans ?_
      unfold trR
      rw [hS2, if_neg (n9 (by omega)), ik, Nat.add_sub_cancel, f1.i 131 q rfl, g2 (by omega), hq, lts_rk hN hF (show k + 1 ≤ S by omega) (show k ≤ S by omega)]
      split <;> rfl
    · rw [if_pos (n_ne c (by omega) (by omega))] at e2
      rw [hfa, ← hoc, if_neg (fun h => c h.2)] at hfe
      obtain ⟨w2, hw2⟩ : ∃ z, z = sI (sI w1 130 q (nI (oc (rkP N F q) k + 1))) 131 q (nI (k + 1)) := ⟨_, rfl⟩
      rw [← hw2] at e2
      have f2 : Fr ST w w2 := by rw [hw2]; exact ((f1.mono rfl).sI 130 _ _ rfl).sI 131 _ _ rfl
      obtain ⟨w3, r3, f3⟩ := ih (k + 1) w2 (some (.int (nI q))) (by omega) (f2.fix rfl hW) ((f2.i 108 0 rfl).trans hn) ((f2.i 108 29 rfl).trans h29) (fun j hj => (f2.i 127 j rfl).trans (h127 j hj)) (fun r hr => by
        have ho : oc (rkP N F r) (k + 1) = oc (rkP N F r) k + (rkP N F r (k + 1)).toNat := rfl
        obtain ⟨p1, p2⟩ := h130 r hr
        rw [hw2]
        by_cases c : r = q
        · have hp : rkP N F q (k + 1) = true := decide_eq_true hq.symm
          rw [c, hp] at ho
          rw [c, gI_ne _ _ _ _ (by decide), gI_same, gI_same, ho]
          exact ⟨rfl, fun _ => by rw [show lts (rkP N F q) (k + 1) = k + 1 from if_pos hp]⟩
        · have hp : rkP N F r (k + 1) = false := decide_eq_false (fun h => c (by rw [hq, h]))
          rw [hp] at ho
          rw [gI_ne _ _ _ _ (by decide), gI_nk _ _ _ c, gI_nk _ _ _ c, gI_ne _ _ _ _ (by decide), f1.i 130 r rfl, f1.i 131 r rfl, ho]
          exact ⟨p1, fun h => by rw [show lts (rkP N F r) (k + 1) = lts (rkP N F r) k from if_neg (by rw [hp]; decide)]; exact p2 h⟩) hfe
      refine ⟨w3, e.trans ?_, f2.trans f3⟩
      refine (val_call (pc2 := 73) rfl rfl rfl rfl (hW.rc _) (Nat.le_of_ble_eq_true rfl) (Nat.le_of_ble_eq_true rfl) rfl r1 rfl).trans ?_
      exact e2.trans r3
end TRUTH
theorem a_truth {N : Nat} {w : Wd} (hW : Fix w) (hB : Bl w N) (hR : secR w N) (d : Nat) (x y : Int32) : ∃ r w2, val (20, d + 2, 0, [some (.ref 64), some (.int x), some (.int y), none], [], w) = some (some (.int r), w) ∧ val (217, d + 2, 0, [some (.ref 108), some (.int x), some (.int y), none, none], [], w) = some (some (.int r), w2) ∧ Fr ST w w2 := by
  obtain ⟨h3, hN, hn, hm⟩ := id hB
  have e1 := tr_20 (d + 1) w hW x y
  have e2 := tr_217 d w hW x y
  by_cases h1 : x < 1
  · rw [if_pos h1] at e1 e2
    exact ⟨-1, w, e1, e2, Fr.refl _ _⟩
  by_cases h2 : 9 < x
  · rw [if_neg h1, if_pos h2] at e1 e2
    exact ⟨-1, w, e1, e2, Fr.refl _ _⟩
  by_cases h4 : y < 0
  · rw [if_neg h1, if_neg h2, if_pos h4] at e1 e2
    exact ⟨-1, w, e1, e2, Fr.refl _ _⟩
  by_cases h5 : y ≤ 1
  · rw [if_neg h1, if_neg h2, if_neg h4, if_pos h5] at e1 e2
    obtain ⟨X, hX, rfl⟩ := i_le (x := x) (b := 9) (by decide) (fun h => h1 (Int32.lt_trans h (by decide))) (Int32.not_lt.mp h2)
    have hX1 : 1 ≤ X := by
      by_cases c : X = 0
      · rw [c] at h1; exact absurd (show nI 0 < 1 by decide) h1
      · omega
    have iX : (nI X).toNatClampNeg = X := nI_clamp (by omega)
    rcases hR with hO | ⟨m, M, cl, s, hO⟩
    · rw [hO.2.1, if_neg (fun h => h rfl)] at e2
      refine ⟨-2, w, e1.trans ?_, e2, Fr.refl _ _⟩
      refine (val_call (pc2 := 29) rfl rfl rfl rfl (rcvO hW.k67 (by decide)) (Nat.le_of_ble_eq_true rfl) (Nat.le_of_ble_eq_true rfl) rfl (c152n (d + 1) hW hO.1) rfl).trans ?_
      refine (tr_20_29 (d + 1) w hW _ _ _ (fun h => absurd rfl h) (fun h => absurd rfl h)).trans ?_
      rw [if_neg (fun h => h rfl)]
    · have hon := hO.on
      obtain ⟨hL, hM1, ⟨a1, a2, a3, a4, a5, a6, a7, a8⟩, ⟨b1, b2, b3, b4, b5, b6, b7⟩, s3⟩ := hO
      rw [b1, if_pos (by decide)] at e2
      have hS := s3.1
      have g73 := a8.2.2 X hX1 hX
      have hfa := fun h => fa_nI (N := N) (F := s.2.1) (t := X) s.1 h
      have e1' : val (20, d + 2, 0, [some (.ref 64), some (.int (nI X)), some (.int y), none], [], w) = val (20, d + 2, 29, [some (.ref 64), some (.int (nI X)), some (.int y), none], [.int 1], w) := by
        refine e1.trans ?_
        refine (val_call (pc2 := 29) rfl rfl rfl rfl (rcvO hW.k67 (by decide)) (Nat.le_of_ble_eq_true rfl) (Nat.le_of_ble_eq_true rfl) rfl (c_isOn (d + 1) hW hon) rfl).trans ?_
        rfl
      have e3 := e1'.trans (tr_20_29 (d + 1) w hW (nI X) y 1 (fun _ => inB_nI (by omega) (by decide)) (fun _ h _ => by
        rw [iX, g73] at h ⊢
        obtain ⟨j, j1, j2, j3⟩ := hfa h
        rw [j3]; exact inB_nI (by omega) (by decide)))
      rw [if_pos (by decide), iX, g73] at e3
      obtain ⟨w1, r1, f1, g1⟩ := m_truth0 d hW (nI X) y
      obtain ⟨w2, r2, f2⟩ := m_truthL h3 hN s3.1 s3.2.1 d hX1 hX y s.1 0 w1 none (Nat.zero_add _) (f1.fix rfl hW) ((f1.i 108 0 rfl).trans hm) ((f1.i 108 29 rfl).trans b3) (fun k hk => (f1.i 127 k rfl).trans (b5 k hk)) (fun r hr => ⟨g1 r hr, fun h => absurd h (Nat.lt_irrefl 0)⟩) rfl
      refine ⟨_, w2, e3.trans ?_, e2.trans (r1.trans r2), (f1.mono rfl).trans f2⟩
      unfold trR
      by_cases c : fa N s.2.1 X s.1 = -9
      · rw [if_pos c, if_pos c, c]
      · obtain ⟨j, j1, j2, j3⟩ := hfa c
        rw [if_neg c, if_neg c]
        by_cases hy : y = 0
        · rw [if_neg (fun h => h hy), if_neg (fun h => h hy)]
        · rw [if_pos hy, if_pos hy, j3, nI_clamp (by omega), (a8.1.2 j j1 j2).2.1]
  · rw [if_neg h1, if_neg h2, if_neg h4, if_neg h5] at e1 e2
    exact ⟨-1, w, e1, e2, Fr.refl _ _⟩
