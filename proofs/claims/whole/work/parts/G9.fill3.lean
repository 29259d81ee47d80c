/-! CALL: fill, the whole of it -/
section FILL
variable {N B : Nat} {w : Wd}
theorem fill_tail0 (hW : Fix w) (hS : secS w N) (hB : B < 8) (d : Nat) (x : Int32) : ∃ r, val (44, d + 4, 42, [some (.ref 64), some (.int (nI B)), some (.int x), some (.int (nI 0)), none, none, none], [.int (nI B), .ref 96], w) = some (some (.int r), w) ∧ (if ¬ gI w 145 (nI B).toNatClampNeg = -9 then val (254, d + 4, 63, [some (.ref 108), some (.int (nI B)), some (.int x), some (.int (nI 0)), some (.int 0), none, none, none], [], w) else some (some (.int (-4)), w)) = some (some (.int r), w) := by
  have iB : (nI B).toNatClampNeg = B := nI_clamp (by omega)
  have h162 := c162 hW hB (d + 3)
  rw [iB]
  have h00 : nI 0 ≤ (0 : Int32) := by decide
  rcases hS B hB with ⟨a1, a2⟩ | ⟨s, sz, hs, hsz, b1, b2, b3, b4, b5⟩
  · refine ⟨-4, ?_, ?_⟩
    · rw [a1, if_pos rfl] at h162
      refine (val_call (pc2 := 45) rfl rfl rfl rfl (rcvO (hW.k 96 (by omega) (by omega)) (by decide)) (Nat.le_of_ble_eq_true rfl) (Nat.le_of_ble_eq_true rfl) rfl h162 rfl).trans ?_
      refine (tr_44_45 d w _ _ _ _).trans ?_
      rw [if_neg (by decide)]
    · rw [a2, if_neg (fun h => h rfl)]
  · have hne : ¬ nI s = -1 := fun h => by
      have := congrArg Int32.toInt h
      rw [nI_toInt (by omega), show (-1 : Int32).toInt = -1 by decide] at this
      omega
    refine ⟨0, ?_, ?_⟩
    · rw [b1, if_neg hne] at h162
      refine (val_call (pc2 := 45) rfl rfl rfl rfl (rcvO (hW.k 96 (by omega) (by omega)) (by decide)) (Nat.le_of_ble_eq_true rfl) (Nat.le_of_ble_eq_true rfl) rfl h162 rfl).trans ?_
      refine (tr_44_45 d w _ _ _ _).trans ?_
      rw [if_pos rfl]
      refine (tr_44_54 d w hW _ _ _ _ _ (fun h => absurd h00 h) (fun h => absurd h00 h)).trans ?_
      rw [if_pos h00]
    · rw [b2, if_pos (n9 (by omega))]
      refine (tr_254_63 (d + 1) w hW _ _ _ _ _ _ _ (fun h => absurd h00 h) (fun h => absurd h00 h) (fun h => absurd h00 h)).trans ?_
      rw [if_pos h00]
theorem fill_tail (hW : Fix w) (h3 : 3 ≤ N) (hN8 : N ≤ 8) (hS : secS w N) (hB : B < 8) (d : Nat) {S fr M : Nat} {F : Nat → Nat → Nat} {cb : Nat → Bool} (hc : FlC w N S F cb) (hM : M ≤ 64) (hfr : fr + M ≤ S + 1) : ∃ r w1 w2, val (44, d + 4, 42, [some (.ref 64), some (.int (nI B)), some (.int (nI fr)), some (.int (nI M)), none, none, none], [.int (nI B), .ref 96], w) = some (some (.int r), w1) ∧ (if ¬ gI w1 145 (nI B).toNatClampNeg = -9 then val (254, d + 4, 63, [some (.ref 108), some (.int (nI B)), some (.int (nI fr)), some (.int (nI M)), some (.int 0), none, none, none], [], w1) else some (some (.int (-4)), w1)) = some (some (.int r), w2) ∧ Fr FS w w1 ∧ Fr FFl w1 w2 ∧ secS w2 N := by
  have iB : (nI B).toNatClampNeg = B := nI_clamp (by omega)
  have hBi : inB (nI B) 8 = true := inB_nI hB (by omega)
  have h162 := c162 hW hB (d + 3)
  have hSl := hc.2.2.1
  rcases hS B hB with ⟨a1, a2⟩ | ⟨s, sz, hs, hsz, b1, b2, b3, b4, b5⟩
  · refine ⟨-4, w, w, ?_, ?_, Fr.refl _ _, Fr.refl _ _, hS⟩
    · rw [a1, if_pos rfl] at h162
      refine (val_call (pc2 := 45) rfl rfl rfl rfl (rcvO (hW.k 96 (by omega) (by omega)) (by decide)) (Nat.le_of_ble_eq_true rfl) (Nat.le_of_ble_eq_true rfl) rfl h162 rfl).trans ?_
      refine (tr_44_45 d w _ _ _ _).trans ?_
      rw [if_neg (by decide)]
    · rw [iB, a2, if_neg (fun h => h rfl)]
  · have hne : ¬ nI s = -1 := fun h => by
      have := congrArg Int32.toInt h
      rw [nI_toInt (by omega), show (-1 : Int32).toInt = -1 by decide] at this
      omega
    obtain ⟨K, hK, hP1, hP2⟩ := first_at (fun k => decide (sz ≤ k) || (decide (s = 4) && !cb (fr + k))) M
    have hP : ∀ j, j < K → j < sz ∧ ¬ (s = 4 ∧ cb (fr + j) = false) := by
      intro j hj
      have h := hP1 j hj
      rw [Bool.or_eq_false_iff] at h
      have h1 := of_decide_eq_false h.1
      refine ⟨by omega, fun h2 => ?_⟩
      have h3 := h.2
      rw [decide_eq_true h2.1, h2.2] at h3
      cases h3
    have hKs : K ≤ sz := by
      rcases Nat.eq_zero_or_pos K with h | h
      · omega
      · have := (hP (K - 1) (by omega)).1
        omega
    obtain ⟨w1, l5, r1, f1, x1⟩ := lp_44 (m := M) d h3 hN8 hB hs hsz hM hfr hK hP K 0 w none (by omega) hW hc b1 b3
    have fS := f1.brd hB
    have hW1 := fS.fix rfl hW
    have hc1 := hc.fr fS rfl
    have c1 : gI w1 97 B = nI s := (f1.i 97 B (off_brd (by omega))).trans b1
    have c2 : gI w1 145 B = nI s := (f1.i 145 B (off_brd (by omega))).trans b2
    have c3 : gI w1 98 B = nI sz := (f1.i 98 B (off_brd (by omega))).trans b3
    have c4 : gI w1 146 B = nI sz := (f1.i 146 B (off_brd (by omega))).trans b4
    obtain ⟨w2, l5', l6', l7', r2, f2, y1, y2⟩ := lp_254 (m := M) (d + 1) h3 hN8 hB hs hsz hM hfr hK hP K 0 w1 none none none (by omega) hW1 hc1 c2 c4
    have hW2 := f2.fix rfl hW1
    have hpost := fill_post hS hB hs hsz b1 b2 b3 b4 b5 hKs (fun j hj => ⟨(hc.2.2.2 (fr + j) (by omega)).1, (hP j hj).2⟩) f1 x1 f2 y1 y2
    have cbase : val (44, d + 4, 42, [some (.ref 64), some (.int (nI B)), some (.int (nI fr)), some (.int (nI M)), none, none, none], [.int (nI B), .ref 96], w) = val (44, d + 4, 54, [some (.ref 64), some (.int (nI B)), some (.int (nI fr)), some (.int (nI M)), some (.int (nI K)), l5, none], [], w1) := by
      rw [b1, if_neg hne] at h162
      refine (val_call (pc2 := 45) rfl rfl rfl rfl (rcvO (hW.k 96 (by omega) (by omega)) (by decide)) (Nat.le_of_ble_eq_true rfl) (Nat.le_of_ble_eq_true rfl) rfl h162 rfl).trans ?_
      refine (tr_44_45 d w _ _ _ _).trans ?_
      rw [if_pos rfl]
      exact r1
    have d2 : gI w2 145 B = nI s := (f2.i 145 B rfl).trans c2
    have d4 : gI w2 146 B = nI sz := (f2.i 146 B rfl).trans c4
    have hc2 := hc1.fr f2 rfl
    by_cases hKM : K = M
    · refine ⟨0, w1, w2, cbase.trans ?_, ?_, fS, f2, hpost⟩
      · have hle : nI M ≤ nI K := by rw [hKM]; exact Int32.le_refl _
        refine (tr_44_54 d w1 hW1 _ _ _ _ _ (fun h => absurd hle h) (fun h => absurd hle h)).trans ?_
        rw [if_pos hle]
      · rw [iB, c2, if_pos (n9 (by omega))]
        refine r2.trans ?_
        have hle : nI M ≤ nI K := by rw [hKM]; exact Int32.le_refl _
        refine (tr_254_63 (d + 1) w2 hW2 _ _ _ _ _ _ _ (fun h => absurd hle h) (fun h => absurd hle h) (fun h => absurd hle h)).trans ?_
        rw [if_pos hle]
    · have hKl : K < M := by omega
      have hle : ¬ nI M ≤ nI K := n_nle hKl (by omega)
      have hq : fr + K ≤ S := by omega
      obtain ⟨g1, g2, g3, g4, g5⟩ := hc1.2.2.2 (fr + K) hq
      have hqi : inB (nI fr + nI K) 2001 = true := by rw [n_add]; exact inB_nI (by omega) (by omega)
      have e54 := tr_44_54 d w1 hW1 (nI B) (nI fr) (nI M) (nI K) l5 (fun _ => hBi) (fun _ _ => hBi)
      have e63 := tr_254_63 (d + 1) w2 hW2 (nI B) (nI fr) (nI M) (nI K) l5' l6' l7' (fun _ => hBi) (fun _ _ => hqi) (fun _ _ => hBi)
      rw [if_neg hle, iB, c3] at e54
      rw [if_neg hle, iB, d4] at e63
      by_cases hidx : sz ≤ K
      · refine ⟨-6, w1, w2, cbase.trans ?_, ?_, fS, f2, hpost⟩
        · rw [e54, if_neg (n_nlt hidx (by omega))]
        · rw [iB, c2, if_pos (n9 (by omega))]
          refine r2.trans ?_
          rw [e63, if_neg (n_nlt hidx (by omega))]
      · have hst := hP2 hKl
        rw [decide_eq_false hidx, Bool.false_or, Bool.and_eq_true] at hst
        have hs4 : s = 4 := of_decide_eq_true hst.1
        have hcb : cb (fr + K) = false := by
          cases h : cb (fr + K)
          · rfl
          · rw [h] at hst; exact absurd hst.2 (by decide)
        have hlt : nI K < nI sz := n_lt (by omega) (by omega)
        refine ⟨-8, w1, w2, cbase.trans ?_, ?_, fS, f2, hpost⟩
        · rw [e54, if_pos hlt, c1, n_add]
          refine (val_call (pc2 := 94) rfl rfl rfl rfl (hW1.rb _) (Nat.le_of_ble_eq_true rfl) (Nat.le_of_ble_eq_true rfl) rfl (c_item45 d h3 hN8 hW1 hc1 hs hq) rfl).trans ?_
          refine (tr_44_94 d w1 hW1 _ _ _ _ _ _).trans ?_
          have h166 := c166 hW1 hB (d + 3) (itX N F cb s (fr + K))
          rw [c1, if_pos ((itX_tk h3 hN8 hs g1).mpr ⟨hs4, hcb⟩)] at h166
          refine (val_call (pc2 := 106) rfl rfl rfl rfl (rcvO (hW1.k 96 (by omega) (by omega)) (by decide)) (Nat.le_of_ble_eq_true rfl) (Nat.le_of_ble_eq_true rfl) rfl h166 rfl).trans ?_
          refine (tr_44_106 d w1 hW1 _ _ _ _ _ _).trans ?_
          rw [if_neg (fun h => h rfl)]
        · rw [iB, c2, if_pos (n9 (by omega))]
          refine r2.trans ?_
          have iq : (nI (fr + K)).toNatClampNeg = fr + K := nI_clamp (by omega)
          obtain ⟨-, -, -, -, k5⟩ := hc2.2.2.2 (fr + K) hq
          rw [e63, if_pos hlt, d2, hs4, if_neg (fun h => h rfl), n_add, iq, k5, hcb, if_neg (fun h => h rfl)]
theorem a_fill (hW : Fix w) (hBl : Bl w N) (hR : secR w N) (hS : secS w N) (d : Nat) (b x y : Int32) : ∃ r w1 w2, val (44, d + 4, 0, [some (.ref 64), some (.int b), some (.int x), some (.int y), none, none, none], [], w) = some (some (.int r), w1) ∧ val (254, d + 4, 0, [some (.ref 108), some (.int b), some (.int x), some (.int y), none, none, none, none], [], w1) = some (some (.int r), w2) ∧ Fr FS w w1 ∧ Fr FFl w1 w2 ∧ secS w2 N := by
  obtain ⟨h3, hN8, hn, hm⟩ := hBl
  rcases brd b with ⟨e1, e2⟩ | ⟨B, hB, rfl, e1, e2⟩
  · refine ⟨-1, w, w, ?_, ?_, Fr.refl _ _, Fr.refl _ _, hS⟩
    · refine (tr_44 d w hW _ _ _).trans ?_
      rw [if_pos e1]
    · refine (tr_254 (d + 1) w hW _ _ _ (fun h => absurd e2 h) (fun h => absurd e2 h)).trans ?_
      rw [if_pos e2]
  · have hBi : inB (nI B) 8 = true := inB_nI hB (by omega)
    have iB : (nI B).toNatClampNeg = B := nI_clamp (by omega)
    have E1 := tr_44 d w hW (nI B) x y
    have E2 := fun v (hv : Fix v) => tr_254 (d + 1) v hv (nI B) x y (fun _ _ _ _ => hBi) (fun _ _ _ _ _ _ _ => hBi)
    rw [if_neg (by rw [e1]; decide)] at E1
    have hne2 : ¬ fn_250 (nI B) = 0 := by rw [e2]; decide
    by_cases hy : y < 0
    · refine ⟨-1, w, w, ?_, ?_, Fr.refl _ _, Fr.refl _ _, hS⟩
      · rw [E1, if_pos hy]
      · refine (E2 w hW).trans ?_
        rw [if_neg hne2, if_pos hy]
    · by_cases hy2 : y ≤ 64
      · obtain ⟨M, hM, rfl⟩ := i_le (b := 64) (by decide) hy hy2
        have hy3 : ¬ 64 < nI M := n_nlt (a := 64) hM (by decide)
        by_cases hM0 : M = 0
        · subst hM0
          have hz : nI 0 ≤ (0 : Int32) := by decide
          obtain ⟨r, t1, t2⟩ := fill_tail0 hW hS hB d x
          refine ⟨r, w, w, ?_, ?_, Fr.refl _ _, Fr.refl _ _, hS⟩
          · rw [E1, if_neg hy, if_pos hy2, if_pos hz]
            exact t1
          · refine (E2 w hW).trans ?_
            rw [if_neg hne2, if_neg hy, if_neg hy3, if_pos hz]
            exact t2
        · have hz : ¬ nI M ≤ (0 : Int32) := n_nle0 (by omega) (by omega)
          rw [if_neg hy, if_pos hy2, if_neg hz] at E1
          rcases hR with ⟨o1, o2, o3⟩ | ⟨m, MM, cl, s, hon⟩
          · refine ⟨-1, w, w, E1.trans ?_, ?_, Fr.refl _ _, Fr.refl _ _, hS⟩
            · refine (val_call (pc2 := 32) rfl rfl rfl rfl (rcvO hW.k67 (by decide)) (Nat.le_of_ble_eq_true rfl) (Nat.le_of_ble_eq_true rfl) rfl (c_hasOff (d + 2) hW ⟨o1, o2⟩ x (nI M)) rfl).trans ?_
              refine (tr_44_32 d w hW _ _ _ _).trans ?_
              rw [if_neg (fun h => h rfl)]
            · refine (E2 w hW).trans ?_
              rw [if_neg hne2, if_neg hy, if_neg hy3, if_neg hz, o2, if_pos rfl]
          · have hrun := hon.on
            obtain ⟨l1, l2, l3, l4, l5⟩ := hon
            have hS2 := l5.1
            have hc : FlC w N s.1 s.2.1 s.2.2.2 := ⟨hn, hm, l5.1, fun q hq => ⟨l5.2.1 q hq, l3.2.2.2.2.1 q hq, l4.2.2.2.2.1 q hq, l3.2.2.2.2.2.2.1 q hq, l4.2.2.2.2.2.2 q hq⟩⟩
            have h27 := l4.1
            have h29 : gI w 108 29 = nI s.1 := l4.2.2.1
            have hhas := c_has (d + 2) hW hrun x (c := M) (by omega) (by omega)
            have hcond : (¬ x < 0 ∧ x ≤ nI s.1 + 1 - nI M) ↔ (0 ≤ x.toInt ∧ x.toInt + M ≤ s.1 + 1) := by
              rw [n_succ, Int32.lt_iff_toInt_lt, Int32.le_iff_toInt_le, n_subI (by omega) (by omega), show (0 : Int32).toInt = 0 by decide]
              omega
            by_cases hok : 0 ≤ x.toInt ∧ x.toInt + M ≤ s.1 + 1
            · rw [if_pos hok] at hhas
              obtain ⟨q1, q2⟩ := hcond.mpr hok
              obtain ⟨fr, hfr, rfl⟩ := i_nat q1
              have hx : (nI fr).toInt = fr := nI_toInt (by omega)
              rw [hx] at hok
              obtain ⟨r, w1, w2, t1, t2, t3, t4, t5⟩ := fill_tail (fr := fr) (M := M) hW h3 hN8 hS hB d hc hM (by omega)
              have hW1 := t3.fix rfl hW
              have g27 : gI w1 108 27 = 1 := (t3.i 108 27 rfl).trans h27
              have g29 : gI w1 108 29 = nI s.1 := (t3.i 108 29 rfl).trans h29
              refine ⟨r, w1, w2, E1.trans ?_, ?_, t3, t4, t5⟩
              · refine (val_call (pc2 := 32) rfl rfl rfl rfl (rcvO hW.k67 (by decide)) (Nat.le_of_ble_eq_true rfl) (Nat.le_of_ble_eq_true rfl) rfl hhas rfl).trans ?_
                refine (tr_44_32 d w hW _ _ _ _).trans ?_
                rw [if_pos (by decide)]
                exact t1
              · refine (E2 w1 hW1).trans ?_
                rw [if_neg hne2, if_neg hy, if_neg hy3, if_neg hz, g27, if_neg (by decide), if_neg q1, g29, if_pos q2]
                exact t2
            · rw [if_neg hok] at hhas
              refine ⟨-1, w, w, E1.trans ?_, ?_, Fr.refl _ _, Fr.refl _ _, hS⟩
              · refine (val_call (pc2 := 32) rfl rfl rfl rfl (rcvO hW.k67 (by decide)) (Nat.le_of_ble_eq_true rfl) (Nat.le_of_ble_eq_true rfl) rfl hhas rfl).trans ?_
                refine (tr_44_32 d w hW _ _ _ _).trans ?_
                rw [if_neg (fun h => h rfl)]
              · refine (E2 w hW).trans ?_
                rw [if_neg hne2, if_neg hy, if_neg hy3, if_neg hz, h27, if_neg (by decide), h29]
                by_cases q1 : x < 0
                · rw [if_pos q1]
                · rw [if_neg q1, if_neg (fun q2 => hok (hcond.mp ⟨q1, q2⟩))]
      · refine ⟨-1, w, w, ?_, ?_, Fr.refl _ _, Fr.refl _ _, hS⟩
        · rw [E1, if_neg hy, if_neg hy2]
        · refine (E2 w hW).trans ?_
          rw [if_neg hne2, if_neg hy, if_pos (Int32.not_le.mp hy2)]
end FILL
