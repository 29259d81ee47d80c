/-! THE BAND: ringer, blow, ringing, slips -/
theorem bell_of {N : Nat} (hN : N ≤ 8) (b : Int32) : (b < 1 ∨ nI N < b) ∨ ∃ B, 1 ≤ B ∧ B ≤ N ∧ b = nI B ∧ ¬ b < 1 ∧ ¬ nI N < b := by
  by_cases h1 : b < 1
  · exact Or.inl (Or.inl h1)
  by_cases h2 : nI N < b
  · exact Or.inl (Or.inr h2)
  obtain ⟨B, hB, rfl⟩ := i_nat (v := b) (fun h => h1 (Int32.lt_trans h (by decide)))
  have h3 : ¬ B < 1 := fun h => h1 (n_lt (b := 1) h (by omega))
  have h4 : ¬ N < B := fun h => h2 (n_lt h hB)
  exact Or.inr ⟨B, by omega, by omega, rfl, h1, h2⟩
theorem c_isBell {N : Nat} {w : Wd} (hW : Fix w) (hn : gI w 64 0 = nI N) (d : Nat) (b : Int32) : val (4, d, 0, [some (.ref 64), some (.int b)], [], w) = some (some (.int (if b < 1 ∨ nI N < b then 0 else 1)), w) := by
  refine (tr_4 d w hW b).trans ?_
  rw [hn]
  by_cases h1 : b < 1
  · rw [if_pos h1, if_pos (Or.inl h1)]
  · by_cases h2 : nI N < b
    · rw [if_neg h1, if_pos h2, if_pos (Or.inr h2)]
    · rw [if_neg h1, if_neg h2, if_neg (fun h => h.elim h1 h2)]
theorem a_ringer {N c : Nat} {w : Wd} (hW : Fix w) (hBl : Bl w N) (hB : secB w c) (d : Nat) (b x y : Int32) : ∃ r w1 w2, val (27, d + 1, 0, [some (.ref 64), some (.int b), some (.int x), some (.int y)], [], w) = some (some (.int r), w1) ∧ val (225, d + 1, 0, [some (.ref 108), some (.int b), some (.int x), some (.int y)], [], w1) = some (some (.int r), w2) ∧ Fr FKd w w1 ∧ Fr FKd w1 w2 ∧ secB w2 c := by
  obtain ⟨h3, hN, hn, hm⟩ := hBl
  have c0 : val (27, d + 1, 0, [some (.ref 64), some (.int b), some (.int x), some (.int y)], [], w) = val (27, d + 1, 5, [some (.ref 64), some (.int b), some (.int x), some (.int y)], [.int (if b < 1 ∨ nI N < b then 0 else 1)], w) := by
    refine (tr_27 d w b x y).trans ?_
    refine (val_call (pc2 := 5) rfl rfl rfl rfl (hW.rb _) (Nat.le_of_ble_eq_true rfl) (Nat.le_of_ble_eq_true rfl) rfl (c_isBell hW hn d b) rfl).trans ?_
    rfl
  rcases bell_of hN b with hb | ⟨B, b1, b2, rfl, b3, b4⟩
  · refine ⟨-1, w, w, c0.trans ((tr_27_5 d w hW _ _ _ _).trans ?_), (tr_225 (d + 1) w hW _ _ _ (fun g1 g2 _ _ _ _ => by
      rw [hm] at g2
      exact absurd (hb.elim (fun h => absurd h g1) id) g2)).trans ?_, Fr.refl _ _, Fr.refl _ _, hB⟩
    · rw [if_pos hb, if_pos rfl]
    · rw [hm]
      by_cases h1 : b < 1
      · rw [if_pos h1]
      · rw [if_neg h1, if_pos (hb.elim (fun h => absurd h h1) id)]
  have ib : inB (nI B) 9 = true := inB_nI (by omega) (by omega)
  have eb : (if nI B < 1 ∨ nI N < nI B then (0 : Int32) else 1) = 1 := if_neg (fun h => h.elim b3 b4)
  rw [eb] at c0
  have c1 := c0.trans (tr_27_5 d w hW (nI B) x y 1)
  rw [if_neg (by decide)] at c1
  have m1 := tr_225 (d + 1) w hW (nI B) x y (by intros; exact ib)
  rw [hm, if_neg b3, if_neg b4] at m1
  have bad : val (27, d + 1, 0, [some (.ref 64), some (.int (nI B)), some (.int x), some (.int y)], [], w) = some (some (.int (-1)), w) → val (225, d + 1, 0, [some (.ref 108), some (.int (nI B)), some (.int x), some (.int y)], [], w) = some (some (.int (-1)), w) → ∃ r w1 w2, val (27, d + 1, 0, [some (.ref 64), some (.int (nI B)), some (.int x), some (.int y)], [], w) = some (some (.int r), w1) ∧ val (225, d + 1, 0, [some (.ref 108), some (.int (nI B)), some (.int x), some (.int y)], [], w1) = some (some (.int r), w2) ∧ Fr FKd w w1 ∧ Fr FKd w1 w2 ∧ secB w2 c :=
    fun q1 q2 => ⟨-1, w, w, q1, q2, Fr.refl _ _, Fr.refl _ _, hB⟩
  by_cases x0 : x < 0
  · exact bad (c1.trans (if_pos x0)) (m1.trans (if_pos x0))
  rw [if_neg x0] at c1 m1
  by_cases x4 : 4 < x
  · exact bad (c1.trans (if_pos x4)) (m1.trans (if_pos x4))
  rw [if_neg x4] at c1 m1
  by_cases y0 : y < 0
  · exact bad (c1.trans (if_pos y0)) (m1.trans (if_pos y0))
  rw [if_neg y0] at c1 m1
  by_cases y4 : y ≤ 20
  · rw [if_pos y4] at c1 m1
    obtain ⟨X, hX, rfl⟩ := i_nat x0
    obtain ⟨Y, hY, rfl⟩ := i_nat y0
    have hX4 : X ≤ 4 := by
      have := mt (n_lt_iff (a := 4) (by omega) hX).mpr x4
      omega
    have hY2 : Y ≤ 20 := (n_le_iff (b := 20) hY (by omega)).mp y4
    have hBc : (nI B).toNatClampNeg = B := nI_clamp (by omega)
    obtain ⟨kd, sk, sl, hK, rC, rM, hsl⟩ := hB
    have e50 := tr_50 d w hW (nI B) (nI X) (nI Y) ib
    rw [hBc] at e50 m1
    have f0 : Fr [(85, none), (86, none), (87, none)] w (sI (sI (sI w 85 B (nI X)) 86 B (nI Y)) 87 B 0) := (((Fr.refl _ w).sI 85 _ _ rfl).sI 86 _ _ rfl).sI 87 _ _ rfl
    have f1 : Fr FKd w (sI (sI (sI w 85 B (nI X)) 86 B (nI Y)) 87 B 0) := f0.mono rfl
    have hW1 := f1.fix rfl hW
    have m2 := tr_225 (d + 1) _ hW1 (nI B) (nI X) (nI Y) (by intros; exact ib)
    rw [(f1.i 108 0 rfl).trans hm, if_neg b3, if_neg b4, if_neg x0, if_neg x4, if_neg y0, if_pos y4, hBc] at m2
    have fk : Fr [(137, none), (138, none), (139, none)] (sI (sI (sI w 85 B (nI X)) 86 B (nI Y)) 87 B 0) (sI (sI (sI (sI (sI (sI w 85 B (nI X)) 86 B (nI Y)) 87 B 0) 137 B (nI X)) 138 B (nI Y)) 139 B 0) := (((Fr.refl _ _).sI 137 _ _ rfl).sI 138 _ _ rfl).sI 139 _ _ rfl
    refine ⟨0, _, _, c1.trans ?_, m2, f1, fk.mono rfl, u1 kd B X, u1 sk B Y, u1 sl B 0, ?_, ?_, ?_, ?_⟩
    · refine (val_call (pc2 := 39) rfl rfl rfl rfl (rcvO hW.k84 (by decide)) (Nat.le_of_ble_eq_true rfl) (Nat.le_of_ble_eq_true rfl) rfl e50 rfl).trans ?_
      exact tr_27_39 d _ _ _ _
    · intro q
      show (if q = B then X else kd q) ≤ 4 ∧ (if q = B then Y else sk q) ≤ 20
      obtain ⟨k1, k2⟩ := hK q
      constructor <;> split <;> omega
    · intro q q1 q8
      obtain ⟨r1, r2, r3⟩ := rC q q1 q8
      show _ = nI (if q = B then X else kd q) ∧ _ = nI (if q = B then Y else sk q) ∧ _ = nI (if q = B then 0 else sl q)
      refine ⟨(fk.i 85 q rfl).trans ?_, (fk.i 86 q rfl).trans ?_, (fk.i 87 q rfl).trans ?_⟩
      · rw [gI_ne _ _ _ _ (by decide), gI_ne _ _ _ _ (by decide)]
        by_cases e : q = B
        · rw [e, gI_same, if_pos rfl]
        · rw [gI_nk _ _ _ e, if_neg e, r1]
      · rw [gI_ne _ _ _ _ (by decide)]
        by_cases e : q = B
        · rw [e, gI_same, if_pos rfl]
        · rw [gI_nk _ _ _ e, if_neg e, gI_ne _ _ _ _ (by decide), r2]
      · by_cases e : q = B
        · rw [e, gI_same, if_pos rfl]; rfl
        · rw [gI_nk _ _ _ e, if_neg e, gI_ne _ _ _ _ (by decide), gI_ne _ _ _ _ (by decide), r3]
    · intro q q1 q8
      obtain ⟨r1, r2, r3⟩ := rM q q1 q8
      show _ = nI (if q = B then X else kd q) ∧ _ = nI (if q = B then Y else sk q) ∧ _ = nI (if q = B then 0 else sl q)
      have r1 := (f0.i 137 q rfl).trans r1
      have r2 := (f0.i 138 q rfl).trans r2
      have r3 := (f0.i 139 q rfl).trans r3
      refine ⟨?_, ?_, ?_⟩
      · rw [gI_ne _ _ _ _ (by decide), gI_ne _ _ _ _ (by decide)]
        by_cases e : q = B
        · rw [e, gI_same, if_pos rfl]
        · rw [gI_nk _ _ _ e, if_neg e, r1]
      · rw [gI_ne _ _ _ _ (by decide)]
        by_cases e : q = B
        · rw [e, gI_same, if_pos rfl]
        · rw [gI_nk _ _ _ e, if_neg e, gI_ne _ _ _ _ (by decide), r2]
      · by_cases e : q = B
        · rw [e, gI_same, if_pos rfl]; rfl
        · rw [gI_nk _ _ _ e, if_neg e, gI_ne _ _ _ _ (by decide), gI_ne _ _ _ _ (by decide), r3]
    · intro q
      show (if q = B then 0 else sl q) ≤ _
      split
      · omega
      · exact hsl q
  · exact bad (c1.trans (if_neg y4)) (m1.trans (if_neg y4))
theorem a_ringing {N : Nat} {w : Wd} (hW : Fix w) (hR : secRg w N) (d : Nat) (x : Int32) : ∃ r, val (30, d, 0, [some (.ref 64), some (.int x)], [], w) = some (some (.int r), w) ∧ val (229, d, 0, [some (.ref 108), some (.int x)], [], w) = some (some (.int r), w) := by
  obtain ⟨bg, h1, h2, h3, h4, h5, h6, -⟩ := hR
  have e1 := tr_30 d w hW x
  have e2 := tr_229 d w hW x
  by_cases x0 : x = 0
  · exact ⟨_, e1.trans (if_pos x0), (e2.trans (if_neg (fun h => h x0))).trans (by rw [h4])⟩
  rw [if_neg x0] at e1
  rw [if_pos x0] at e2
  by_cases x1 : x = 1
  · exact ⟨_, e1.trans (if_pos x1), (e2.trans (if_neg (fun h => h x1))).trans (by rw [h5])⟩
  rw [if_neg x1] at e1
  rw [if_pos x1] at e2
  by_cases x2 : x = 2
  · exact ⟨_, e1.trans (if_pos x2), (e2.trans (if_neg (fun h => h x2))).trans (by rw [h2, h3])⟩
  rw [if_neg x2] at e1
  rw [if_pos x2] at e2
  by_cases x3 : x = 3
  · exact ⟨_, e1.trans (if_pos x3), (e2.trans (if_neg (fun h => h x3))).trans (by rw [h6])⟩
  · exact ⟨-1, e1.trans (if_neg x3), e2.trans (if_pos x3)⟩
theorem a_slips {N c : Nat} {w : Wd} (hW : Fix w) (hBl : Bl w N) (hB : secB w c) (d : Nat) (b : Int32) : ∃ r, val (31, d + 1, 0, [some (.ref 64), some (.int b)], [], w) = some (some (.int r), w) ∧ val (230, d + 1, 0, [some (.ref 108), some (.int b)], [], w) = some (some (.int r), w) := by
  obtain ⟨h3, hN, hn, hm⟩ := hBl
  have c0 : val (31, d + 1, 0, [some (.ref 64), some (.int b)], [], w) = val (31, d + 1, 5, [some (.ref 64), some (.int b)], [.int (if b < 1 ∨ nI N < b then 0 else 1)], w) := by
    refine (tr_31 d w b).trans ?_
    refine (val_call (pc2 := 5) rfl rfl rfl rfl (hW.rb _) (Nat.le_of_ble_eq_true rfl) (Nat.le_of_ble_eq_true rfl) rfl (c_isBell hW hn d b) rfl).trans ?_
    rfl
  rcases bell_of hN b with hb | ⟨B, b1, b2, rfl, b3, b4⟩
  · refine ⟨-1, c0.trans ((tr_31_5 d w hW _ _ (fun h => absurd (if_pos hb) h)).trans (if_pos (if_pos hb))), ?_⟩
    by_cases h1 : b < 1
    · exact (tr_230 (d + 1) w hW b (fun g => absurd h1 g)).trans (if_pos h1)
    · have h2 : nI N < b := hb.elim (fun h => absurd h h1) id
      refine (tr_230 (d + 1) w hW b (fun _ g => absurd g (by rw [hm]; exact Int32.not_le.mpr h2))).trans ?_
      rw [if_neg h1, hm, if_neg (Int32.not_le.mpr h2)]
  · have ib : inB (nI B) 9 = true := inB_nI (by omega) (by omega)
    have hBc : (nI B).toNatClampNeg = B := nI_clamp (by omega)
    obtain ⟨kd, sk, sl, hK, rC, rM, hsl⟩ := hB
    refine ⟨nI (sl B), c0.trans ((tr_31_5 d w hW _ _ (fun _ => ib)).trans ?_), (tr_230 (d + 1) w hW _ (fun _ _ => ib)).trans ?_⟩
    · rw [if_neg (by rw [if_neg (fun h => h.elim b3 b4)]; decide), hBc, (rC B b1 (by omega)).2.2]
    · rw [if_neg b3, hm, if_pos (Int32.not_lt.mp b4), hBc, (rM B b1 (by omega)).2.2]
theorem iv_of {N : Nat} {f : Nat → Nat} (hf : IsRow N f) {p : Nat} (hp : p < N) : iv f N (f p) = p := iv_at hf.2 N (Nat.le_refl N) p hp
theorem r_132 {N x : Nat} (h3 : 3 ≤ N) (hN : N ≤ 8) {f : Nat → Nat} (hf : IsRow N f) (hx : x < N) (d : Nat) (w : Wd) : val (132, d + 1, 0, [some (.int (nI N)), some (.int (nI (pkN N f))), some (.int (nI x)), none], [], w) = some (some (.int (nI (iv f N x))), w) := by
  have hi := (hf.iv).1 x hx
  have hfi := hf.at_iv hx
  refine (en_132 d w _ _ _).trans ?_
  refine loopUp (α := Unit) (c := fun k _ => (132, d + 1, 2, [some (.int (nI N)), some (.int (nI (pkN N f))), some (.int (nI x)), some (.int (nI k))], [], w)) (P := fun _ _ => True) (R := fun r => r = some (some (.int (nI (iv f N x))), w)) (N := iv f N x) ?_ ?_ () trivial
  · intro _ _
    refine (lp_132_2 d w _ _ _ _).trans ?_
    rw [show nI N - 1 = nI (N - 1) from n_sub (b := 1) (by omega)]
    by_cases e : N - 1 ≤ iv f N x
    · rw [if_pos (n_le e (by omega))]
    · rw [if_neg (n_nle (by omega) (by omega)), c130f hN hi hf.1, hfi, if_pos rfl]
  · intro k _ hk _
    refine Or.inr ⟨(), (lp_132_2 d w _ _ _ _).trans ?_, trivial⟩
    have hfk := hf.1 k (by omega)
    rw [show nI N - 1 = nI (N - 1) from n_sub (b := 1) (by omega), if_neg (n_nle (by omega) (by omega)), c130f hN (by omega) hf.1, if_neg (n_ne (fun e => by have := iv_of hf (show k < N by omega); rw [e] at this; omega) (by omega) (by omega)), n_succ]
theorem a_blow {N : Nat} {w : Wd} (hW : Fix w) (hBl : Bl w N) (hR : secRg w N) (d : Nat) (k b : Int32) : ∃ r, val (29, d + 3, 0, [some (.ref 64), some (.int k), some (.int b)], [], w) = some (some (.int r), w) ∧ val (228, d + 3, 0, [some (.ref 108), some (.int k), some (.int b)], [], w) = some (some (.int r), w) := by
  obtain ⟨h3, hN, hn, hm⟩ := hBl
  obtain ⟨bg, g1, g2, g3, -, -, -, g7, m, G, -, hmN, g8⟩ := hR
  have c0 : val (29, d + 3, 0, [some (.ref 64), some (.int k), some (.int b)], [], w) = val (29, d + 3, 5, [some (.ref 64), some (.int k), some (.int b)], [.int (if b < 1 ∨ nI N < b then 0 else 1)], w) := by
    refine (tr_29 d w k b).trans ?_
    refine (val_call (pc2 := 5) rfl rfl rfl rfl (hW.rb _) (Nat.le_of_ble_eq_true rfl) (Nat.le_of_ble_eq_true rfl) rfl (c_isBell hW hn (d + 2) b) rfl).trans ?_
    rfl
  by_cases hk : k < 0 ∨ nI bg ≤ k
  · -- no such row
    refine ⟨-1000000, c0.trans ((tr_29_5 d w hW _ _ _).trans ?_), (tr_228 (d + 3) w hW _ _ (fun _ q1 q2 => absurd (hk.elim (fun h => absurd h q1) id) (by rw [g3] at q2; exact q2))).trans ?_⟩
    · by_cases hb : b < 1 ∨ nI N < b
      · rw [if_pos hb, if_pos rfl]
      · rw [if_neg hb, if_neg (by decide), hn]
        have e58 : val (58, d + 2, 0, [some (.ref 84), some (.int (nI N)), some (.int k), some (.int b), none], [], w) = some (some (.int (-1000000)), w) := by
          refine (tr_58 d w hW _ _ _ (fun q1 q2 => absurd (hk.elim (fun h => absurd h q1) id) (by rw [g2] at q2; exact Int32.not_le.mpr q2))).trans ?_
          by_cases h0 : k < 0
          · rw [if_pos h0]
          · have h1 : nI bg ≤ k := hk.elim (fun h => absurd h h0) id
            rw [if_neg h0, g2, if_neg (Int32.not_lt.mpr h1)]
        refine (val_call (pc2 := 21) rfl rfl rfl rfl (rcvO hW.k84 (by decide)) (Nat.le_of_ble_eq_true rfl) (Nat.le_of_ble_eq_true rfl) rfl e58 rfl).trans ?_
        exact tr_29_21 d w _ _ _
    · by_cases h47 : gI w 108 47 = 0
      · rw [if_pos h47]
      · rw [if_neg h47]
        by_cases h0 : k < 0
        · rw [if_pos h0]
        · have h1 : nI bg ≤ k := hk.elim (fun h => absurd h h0) id
          rw [if_neg h0, g3, if_pos h1]
  · have hk0 : ¬ k < 0 := fun h => hk (Or.inl h)
    have hk1 : ¬ nI bg ≤ k := fun h => hk (Or.inr h)
    obtain ⟨V, hV, rfl⟩ := i_nat hk0
    have hVb : V < bg := by
      have := mt (n_le_iff (a := bg) (by omega) hV).mpr hk1
      omega
    have h47 : ¬ gI w 108 47 = 0 := fun h => by have := g7 h; omega
    obtain ⟨r1, r2, r3, r4, r5, r6, r7⟩ := g8 V hVb
    have hmV := hmN V
    rcases bell_of hN b with hb | ⟨B, b1, b2, rfl, b3, b4⟩
    · refine ⟨-1000000, c0.trans ((tr_29_5 d w hW _ _ _).trans ?_), ?_⟩
      · rw [if_pos hb, if_pos rfl]
      · refine (tr_228 (d + 3) w hW _ _ (fun _ _ _ q3 q4 => absurd (hb.elim (fun h => absurd h q3) id) (by rw [hm] at q4; exact q4))).trans ?_
        rw [if_neg h47, if_neg hk0, g3, if_neg hk1, hm]
        by_cases h1 : b < 1
        · rw [if_pos h1]
        · rw [if_neg h1, if_pos (hb.elim (fun h => absurd h h1) id)]
    · have hBN : B - 1 < N := by omega
      have hi := (r1.iv).1 (B - 1) hBN
      have hfi := r1.at_iv hBN
      have e6 := r6 (iv (G V) N (B - 1)) hi
      rw [hfi, show B - 1 + 1 = B by omega] at e6
      have em : val (228, d + 3, 0, [some (.ref 108), some (.int (nI V)), some (.int (nI B))], [], w) = some (some (.int (if iv (G V) N (B - 1) < m V then gI w 90 (8 * V + iv (G V) N (B - 1)) else -1000000)), w) := by
        have e9 : (9 : Int32) * nI V + nI B = nI (9 * V + B) := by rw [show (9 : Int32) = nI 9 from rfl, n_mul, n_add]
        refine (tr_228 (d + 3) w hW _ _ (by intros; rw [e9]; exact inB_nI (by omega) (by omega))).trans ?_
        rw [if_neg h47, if_neg hk0, g3, if_neg hk1, if_neg b3, hm, if_neg b4, e9, nI_clamp (n := 9 * V + B) (by omega), e6]
      refine ⟨_, ?_, em⟩
      refine c0.trans ((tr_29_5 d w hW _ _ _).trans ?_)
      rw [if_neg (show ¬ (if nI B < 1 ∨ nI N < nI B then (0 : Int32) else 1) = 0 by rw [if_neg (fun h => h.elim b3 b4)]; decide), hn]
      have iV : inB (nI V) 400 = true := inB_nI (by omega) (by omega)
      have eV : (nI V).toNatClampNeg = V := nI_clamp hV
      have e8 : nI V * 8 + nI (iv (G V) N (B - 1)) = nI (8 * V + iv (G V) N (B - 1)) := by rw [show (8 : Int32) = nI 8 from rfl, n_mul, n_add, Nat.mul_comm]
      have e58 : val (58, d + 2, 0, [some (.ref 84), some (.int (nI N)), some (.int (nI V)), some (.int (nI B)), none], [], w) = some (some (.int (if iv (G V) N (B - 1) < m V then gI w 90 (8 * V + iv (G V) N (B - 1)) else -1000000)), w) := by
        refine (tr_58 d w hW _ _ _ (by intros; exact iV)).trans ?_
        rw [if_neg hk0, g2, if_pos (Int32.not_le.mp hk1), eV, r3, show nI B - 1 = nI (B - 1) from n_sub (b := 1) (by omega)]
        refine (val_call (pc2 := 28) rfl rfl rfl rfl rfl (Nat.le_of_ble_eq_true rfl) (Nat.le_of_ble_eq_true rfl) rfl (r_132 h3 hN r1 hBN d w) rfl).trans ?_
        refine (tr_58_28 d w hW _ _ _ _ iV (by intros; rw [e8]; exact inB_nI (by omega) (by omega))).trans ?_
        rw [eV, r5, e8, nI_clamp (n := 8 * V + iv (G V) N (B - 1)) (by omega)]
        by_cases e : iv (G V) N (B - 1) < m V
        · rw [if_neg (n_nle e (by omega)), if_pos e]
        · rw [if_pos (n_le (by omega) (by omega)), if_neg e]
      refine (val_call (pc2 := 21) rfl rfl rfl rfl (rcvO hW.k84 (by decide)) (Nat.le_of_ble_eq_true rfl) (Nat.le_of_ble_eq_true rfl) rfl e58 rfl).trans ?_
      exact tr_29_21 d w _ _ _
