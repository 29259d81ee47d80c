/-! THE SHELF: copy, both -/
theorem ItOK.to {N s t : Nat} (n3 : 3 ≤ N) (n8 : N ≤ 8) {x y : Int64} {c : Int32} (h : ItOK N s x y c) (hst : s = t ∨ (3 ≤ s ∧ 3 ≤ t)) (hr : t = 4 → ¬ (¬ y = 0 ∧ nbo c = 0)) : ItOK N t x y (nbo (nbo c)) := by
  refine ⟨fun ht => h.1 (by omega), fun ht => ?_⟩
  rcases h.2 (by omega) with h1 | ⟨f, cc, g1, g2, g3, g4, g5, g6⟩
  · exact Or.inl h1
  · refine Or.inr ⟨f, cc, g1, g2, g3, g4, by rw [g5, nbo1 g2, nbo1 g2], fun e => ?_⟩
    have h2 := hr e
    rw [g5, nbo1 g2, g4] at h2
    by_cases e0 : cc = 0
    · subst e0
      exact absurd ⟨fun hh => by have := (l_inj (b := 0) (Nat.lt_trans (dcN_31 n8 g1) (by decide)) (by omega)).mp hh; have := dc_pos n3 n8 g1; omega, rfl⟩ h2
    · omega
theorem ItOK.rf {N s : Nat} (n3 : 3 ≤ N) (n8 : N ≤ 8) {x y : Int64} {c : Int32} (h : ItOK N s x y c) (hs : 3 ≤ s) : (¬ x = 0 ∧ x &&& 1 = 0) ↔ (¬ y = 0 ∧ nbo c = 0) := by
  rcases h.2 hs with ⟨h1, h2⟩ | ⟨f, cc, g1, g2, g3, g4, g5, g6⟩
  · rw [h1, h2]
    exact ⟨fun hh => absurd rfl hh.1, fun hh => absurd rfl hh.1⟩
  · have hp := pkN_lt n8 g1.1
    have hy : ¬ y = 0 := by
      rw [g4]
      intro hh
      have := (l_inj (b := 0) (Nat.lt_trans (dcN_31 n8 g1) (by decide)) (by omega)).mp hh
      have := dc_pos n3 n8 g1
      omega
    have hx : ¬ x = 0 := by
      rw [g3]
      exact lnL_0 (pk_pos n3 n8 g1) hp g2
    have hb : x &&& 1 = 0 ↔ nbo c = 0 := by
      rw [g3, lnL_1 hp g2, g5, nbo1 g2]
      have : cc = 0 ∨ cc = 1 := by omega
      rcases this with rfl | rfl
      · exact ⟨fun _ => rfl, fun _ => rfl⟩
      · exact ⟨fun h => absurd h (by decide), fun h => absurd h (by decide)⟩
    rw [hb]
    exact ⟨fun hh => ⟨hy, hh.2⟩, fun hh => ⟨hx, hh.2⟩⟩
/-- a copy's outcome in both worlds -/
theorem copy_post {N : Nat} (n3 : 3 ≤ N) (n8 : N ≤ 8) {w w1 w2 : Wd} (hS : secS w N) {A B i j m K sa sb na nb : Nat} (hA : A < 8) (hB : B < 8) (hK : K ≤ m) (hsb : sb ≤ 4) (hnb : nb ≤ 64) (b3 : gI w 97 B = nI sb) (b4 : gI w 145 B = nI sb) (b5 : gI w 98 B = nI nb) (b6 : gI w 146 B = nI nb) (him : i + m ≤ na) (hjm : j + m ≤ nb) (a7 : ∀ k, k < na → ItOK N sa (gL w (100 + A) k) (gL w 147 (64 * A + k)) (gI w 148 (64 * A + k))) (b7 : ∀ k, k < nb → ItOK N sb (gL w (100 + B) k) (gL w 147 (64 * B + k)) (gI w 148 (64 * B + k)))
    (hst : sa = sb ∨ (3 ≤ sa ∧ 3 ≤ sb)) (hr : ∀ k, k < K → sb = 4 → ¬ (¬ gL w 147 (64 * A + i + k) = 0 ∧ nbo (gI w 148 (64 * A + i + k)) = 0))
    (f1 : Fr [(100 + B, none)] w w1) (g1 : ∀ q, gL w1 (100 + B) q = if j ≤ q ∧ q < j + K then gL w (100 + A) (i + (q - j)) else gL w (100 + B) q)
    (f2 : Fr FMC w1 w2) (g2 : ∀ q, gL w2 147 q = (if 64 * B + j ≤ q ∧ q < 64 * B + j + K then gL w1 147 (64 * A + i + (q - (64 * B + j))) else gL w1 147 q) ∧ gI w2 148 q = (if 64 * B + j ≤ q ∧ q < 64 * B + j + K then nbo (nbo (gI w1 148 (64 * A + i + (q - (64 * B + j))))) else gI w1 148 q)) : secS w2 N := by
  have offM : ∀ C k, C < 8 → inS FMC (100 + C) k = false := by
    intro C k hC
    have : C = 0 ∨ C = 1 ∨ C = 2 ∨ C = 3 ∨ C = 4 ∨ C = 5 ∨ C = 6 ∨ C = 7 := by omega
    rcases this with rfl | rfl | rfl | rfl | rfl | rfl | rfl | rfl <;> rfl
  have y1 : ∀ q, gL w1 147 q = gL w 147 q := fun q => f1.l _ _ (off_brd (by omega))
  have y2 : ∀ q, gI w1 148 q = gI w 148 q := fun q => f1.i _ _ (off_brd (by omega))
  intro C hC
  by_cases e : C = B
  · subst e
    refine Or.inr ⟨sb, nb, hsb, hnb, ?_, ?_, ?_, ?_, fun k hk => ?_⟩
    · rw [f2.i 97 _ rfl, f1.i 97 _ (off_brd (by omega)), b3]
    · rw [f2.i 145 _ rfl, f1.i 145 _ (off_brd (by omega)), b4]
    · rw [f2.i 98 _ rfl, f1.i 98 _ (off_brd (by omega)), b5]
    · rw [f2.i 146 _ rfl, f1.i 146 _ (off_brd (by omega)), b6]
    · rw [f2.l (100 + C) k (offM C k hC), g1 k, (g2 _).1, (g2 _).2]
      by_cases h : j ≤ k ∧ k < j + K
      · rw [if_pos h, if_pos (by omega), if_pos (by omega), show 64 * C + k - (64 * C + j) = k - j by omega, y1, y2, Nat.add_assoc]
        refine (a7 (i + (k - j)) (by omega)).to n3 n8 hst (fun h4 => ?_)
        have := hr (k - j) (by omega) h4
        rwa [Nat.add_assoc] at this
      · rw [if_neg h, if_neg (by omega), if_neg (by omega), y1, y2]
        exact b7 k hk
  · refine (hS C hC).keep ?_ ?_ ?_ ?_ (fun k hk => ⟨?_, ?_, ?_⟩)
    · rw [f2.i 97 _ rfl, f1.i 97 _ (off_brd (by omega))]
    · rw [f2.i 98 _ rfl, f1.i 98 _ (off_brd (by omega))]
    · rw [f2.i 145 _ rfl, f1.i 145 _ (off_brd (by omega))]
    · rw [f2.i 146 _ rfl, f1.i 146 _ (off_brd (by omega))]
    · rw [f2.l (100 + C) k (offM C k hC), f1.l _ _ (off_brd (by omega))]
    · rw [(g2 _).1, if_neg (by omega), y1]
    · rw [(g2 _).2, if_neg (by omega), y2]
theorem a_copy {N : Nat} {w : Wd} (hW : Fix w) (hBl : Bl w N) (hS : secS w N) (d : Nat) (a i b j m : Int32) : ∃ r w1 w2, val (46, d + 3, 0, [some (.ref 64), some (.int a), some (.int i), some (.int b), some (.int j), some (.int m)], [], w) = some (some (.int r), w1) ∧ val (255, d + 3, 0, [some (.ref 108), some (.int a), some (.int i), some (.int b), some (.int j), some (.int m), none], [], w1) = some (some (.int r), w2) ∧ Fr FS w w1 ∧ Fr FSC w w2 ∧ secS w2 N := by
  obtain ⟨n3, n8, -, -⟩ := id hBl
  rcases brd a with ⟨p1, p2⟩ | ⟨A, hA, rfl, p1, p2⟩
  · refine ⟨-1, w, w, ?_, ?_, Fr.refl _ _, Fr.refl _ _, hS⟩
    · refine (tr_46 d w hW a i b j m).trans ?_
      rw [if_pos p1]
    · refine (tr_255 (d + 2) w hW a i b j m (by intros; contradiction) (by intros; contradiction) (by intros; contradiction) (by intros; contradiction) (by intros; contradiction) (by intros; contradiction) (by intros; contradiction) (by intros; contradiction) (by intros; contradiction) (by intros; contradiction)).trans ?_
      rw [if_pos p2]
  have iA : inB (nI A) 8 = true := inB_nI hA (by omega)
  have cA : (nI A).toNatClampNeg = A := nI_clamp (by omega)
  have q1 : ¬ fn_39 (nI A) = 0 := by rw [p1]; decide
  have q2 : ¬ fn_250 (nI A) = 0 := by rw [p2]; decide
  rcases brd b with ⟨p3, p4⟩ | ⟨B, hB, rfl, p3, p4⟩
  · refine ⟨-1, w, w, ?_, ?_, Fr.refl _ _, Fr.refl _ _, hS⟩
    · refine (tr_46 d w hW _ i b j m).trans ?_
      rw [if_neg q1, if_neg (fun h => h p3)]
    · refine (tr_255 (d + 2) w hW _ i b j m (by intros; contradiction) (by intros; contradiction) (by intros; contradiction) (by intros; contradiction) (by intros; contradiction) (by intros; contradiction) (by intros; contradiction) (by intros; contradiction) (by intros; contradiction) (by intros; contradiction)).trans ?_
      rw [if_neg q2, if_neg (fun h => h p4)]
  have iB : inB (nI B) 8 = true := inB_nI hB (by omega)
  have cB : (nI B).toNatClampNeg = B := nI_clamp (by omega)
  have q3 : ¬ fn_39 (nI B) = 0 := by rw [p3]; decide
  have q4 : ¬ fn_250 (nI B) = 0 := by rw [p4]; decide
  have cl : ∀ {r w1}, val (168, d + 2, 0, [some (.ref 96), some (.int (nI A)), some (.int i), some (.int (nI B)), some (.int j), some (.int m)], [], w) = some (some (.int r), w1) → val (46, d + 3, 0, [some (.ref 64), some (.int (nI A)), some (.int i), some (.int (nI B)), some (.int j), some (.int m)], [], w) = some (some (.int r), w1) := by
    intro r w1 h
    refine (tr_46 d w hW _ i _ j m).trans ?_
    rw [if_neg q1, if_pos q3]
    refine (val_call (pc2 := 30) rfl rfl rfl rfl (rcvO (hW.k 96 (by omega) (by omega)) (by decide)) (Nat.le_of_ble_eq_true rfl) (Nat.le_of_ble_eq_true rfl) rfl h rfl).trans ?_
    exact tr_46_30 d _ _ _ _ _ _ _
  have ml : ∀ v, Fix v → _ := fun v (hv : Fix v) => tr_255 (d + 2) v hv (nI A) i (nI B) j m (by intros; exact iA) (by intros; exact iB) (by intros; exact iA) (by intros; exact iB) (by intros; exact iA) (by intros; exact iB) (by intros; exact iA) (by intros; exact iB) (by intros; exact iA) (by intros; exact iB)
  have mw := ml w hW
  rw [if_neg q2, if_pos q4, cA, cB] at mw
  have k96 := hW.k 96 (by omega) (by omega)
  rcases hS A hA with ⟨a1, a2⟩ | ⟨sa, na, a1, a2, a3, a4, a5, a6, a7⟩
  · refine ⟨-4, w, w, cl ?_, ?_, Fr.refl _ _, Fr.refl _ _, hS⟩
    · refine (tr_168 d w _ _ _ _ _).trans ?_
      refine (val_call (pc2 := 5) rfl rfl rfl rfl (rcvO k96 (by decide)) (Nat.le_of_ble_eq_true rfl) (Nat.le_of_ble_eq_true rfl) rfl (c162 hW hA (d + 1)) rfl).trans ?_
      refine (tr_168_5 d w _ _ _ _ _ _).trans ?_
      rw [a1, if_pos (by decide)]
    · rw [mw, a2, if_pos rfl]
  have a9 : ¬ nI sa = -9 := n9 (by omega)
  have am : ¬ nI sa = -1 := neg_nn (by omega)
  rcases hS B hB with ⟨b1, b2⟩ | ⟨sb, nb, b1, b2, b3, b4, b5, b6, b7⟩
  · refine ⟨-4, w, w, cl ?_, ?_, Fr.refl _ _, Fr.refl _ _, hS⟩
    · refine (tr_168 d w _ _ _ _ _).trans ?_
      refine (val_call (pc2 := 5) rfl rfl rfl rfl (rcvO k96 (by decide)) (Nat.le_of_ble_eq_true rfl) (Nat.le_of_ble_eq_true rfl) rfl (c162 hW hA (d + 1)) rfl).trans ?_
      refine (tr_168_5 d w _ _ _ _ _ _).trans ?_
      rw [a3, if_neg am, if_neg (fun h => h rfl)]
      refine (val_call (pc2 := 13) rfl rfl rfl rfl (rcvO k96 (by decide)) (Nat.le_of_ble_eq_true rfl) (Nat.le_of_ble_eq_true rfl) rfl (c162 hW hB (d + 1)) rfl).trans ?_
      refine (tr_168_13 d w hW _ _ _ _ _ _ (by intros; exact iA) (by intros; exact iB) (by intros; exact iA) (by intros; exact iB) (by intros; exact iA) (by intros; exact iB) (by intros; exact iA) (by intros; exact iB) (by intros; exact iA) (by intros; exact iB) (by intros; exact iA) (by intros; exact iB)).trans ?_
      rw [b1, if_pos rfl, if_neg (by decide)]
    · rw [mw, a4, if_neg a9, b2, if_neg (fun h => h rfl)]
  have b9 : ¬ nI sb = -9 := n9 (by omega)
  have bm : ¬ nI sb = -1 := neg_nn (by omega)
  have c13 : val (168, d + 2, 0, [some (.ref 96), some (.int (nI A)), some (.int i), some (.int (nI B)), some (.int j), some (.int m)], [], w) = val (168, d + 2, 13, [some (.ref 96), some (.int (nI A)), some (.int i), some (.int (nI B)), some (.int j), some (.int m)], [.int 0], w) := by
    refine (tr_168 d w _ _ _ _ _).trans ?_
    refine (val_call (pc2 := 5) rfl rfl rfl rfl (rcvO k96 (by decide)) (Nat.le_of_ble_eq_true rfl) (Nat.le_of_ble_eq_true rfl) rfl (c162 hW hA (d + 1)) rfl).trans ?_
    refine (tr_168_5 d w _ _ _ _ _ _).trans ?_
    rw [a3, if_neg am, if_neg (fun h => h rfl)]
    refine (val_call (pc2 := 13) rfl rfl rfl rfl (rcvO k96 (by decide)) (Nat.le_of_ble_eq_true rfl) (Nat.le_of_ble_eq_true rfl) rfl (c162 hW hB (d + 1)) rfl).trans ?_
    rw [b3, if_neg bm]
    rfl
  have ch := c13.trans (tr_168_13 d w hW (nI A) i (nI B) j m 0 (by intros; exact iA) (by intros; exact iB) (by intros; exact iA) (by intros; exact iB) (by intros; exact iA) (by intros; exact iB) (by intros; exact iA) (by intros; exact iB) (by intros; exact iA) (by intros; exact iB) (by intros; exact iA) (by intros; exact iB))
  rw [if_pos rfl, cA, cB, a3, b3, a5, b5, fn163 a1, fn163 b1] at ch
  rw [a4, b4, if_neg a9, if_pos b9, a6, b6] at mw
  by_cases hst : sa = sb ∨ (3 ≤ sa ∧ 3 ≤ sb)
  rotate_left
  · have hne : sa ≠ sb := fun h => hst (Or.inl h)
    refine ⟨-8, w, w, cl ?_, ?_, Fr.refl _ _, Fr.refl _ _, hS⟩
    · rw [ch, if_neg (n_ne hne (by omega) (by omega))]
      by_cases h3 : sa ≤ 2
      · rw [if_pos (by rw [if_pos h3])]
      · rw [if_neg (by rw [if_neg h3]; decide), if_neg (fun h => h (by rw [if_pos (by omega)]))]
    · rw [mw, if_neg (n_ne hne (by omega) (by omega))]
      by_cases h3 : sa ≤ 2
      · rw [if_pos (show nI sa < 3 from n_lt (b := 3) (by omega) (by omega))]
      · rw [if_neg (show ¬ nI sa < 3 from n_nlt (b := 3) (by omega) (by omega)), if_neg (show ¬ 3 ≤ nI sb from n_nle (a := 3) (by omega) (by omega))]
  have ch2 : val (168, d + 2, 0, [some (.ref 96), some (.int (nI A)), some (.int i), some (.int (nI B)), some (.int j), some (.int m)], [], w) = (if i < 0 then some (some (.int (-6)), w) else if j < 0 then some (some (.int (-6)), w) else if m < 0 then some (some (.int (-6)), w) else if nI na - i < m then some (some (.int (-6)), w) else if m ≤ nI nb - j then (if ¬ nI sa = nI sb then val (168, d + 2, 151, [some (.ref 96), some (.int (nI A)), some (.int i), some (.int (nI B)), some (.int j), some (.int m)], [.int m, .int j, .int (nI B), .int i, .int (nI A), .ref 96], w) else val (168, d + 2, 125, [some (.ref 96), some (.int (nI A)), some (.int i), some (.int (nI B)), some (.int j), some (.int m)], [.int (nI A), .ref 99], w)) else some (some (.int (-6)), w)) := by
    refine ch.trans ?_
    by_cases e : sa = sb
    · rw [if_pos (by rw [e])]
    · have h33 : 3 ≤ sa ∧ 3 ≤ sb := by
        rcases hst with h | h
        · exact absurd h e
        · exact h
      rw [if_neg (n_ne e (by omega) (by omega)), if_neg (by rw [if_neg (by omega)]; decide), if_pos (by rw [if_neg (by omega)]; decide)]
  have mh : ∀ v, Fix v → gI v 145 A = nI sa → gI v 145 B = nI sb → gI v 146 A = nI na → gI v 146 B = nI nb → val (255, d + 3, 0, [some (.ref 108), some (.int (nI A)), some (.int i), some (.int (nI B)), some (.int j), some (.int m), none], [], v) = (if i < 0 then some (some (.int (-6)), v) else if j < 0 then some (some (.int (-6)), v) else if m < 0 then some (some (.int (-6)), v) else if nI na - m < i then some (some (.int (-6)), v) else if j ≤ nI nb - m then val (255, d + 3, 126, [some (.ref 108), some (.int (nI A)), some (.int i), some (.int (nI B)), some (.int j), some (.int m), some (.int 0)], [], v) else some (some (.int (-6)), v)) := by
    intro v hv v1 v2 v3 v4
    have mv := ml v hv
    rw [if_neg q2, if_pos q4, cA, cB, v1, v2, if_neg a9, if_pos b9, v3, v4] at mv
    refine mv.trans ?_
    by_cases e : sa = sb
    · rw [if_pos (by rw [e])]
    · have h33 : 3 ≤ sa ∧ 3 ≤ sb := by
        rcases hst with h | h
        · exact absurd h e
        · exact h
      rw [if_neg (n_ne e (by omega) (by omega)), if_neg (show ¬ nI sa < 3 from n_nlt (b := 3) (by omega) (by omega)), if_pos (show 3 ≤ nI sb from n_le (a := 3) (by omega) (by omega))]
  have mh0 := mh w hW a4 b4 a6 b6
  have bad : ∀ {P : Prop}, val (168, d + 2, 0, [some (.ref 96), some (.int (nI A)), some (.int i), some (.int (nI B)), some (.int j), some (.int m)], [], w) = some (some (.int (-6)), w) → val (255, d + 3, 0, [some (.ref 108), some (.int (nI A)), some (.int i), some (.int (nI B)), some (.int j), some (.int m), none], [], w) = some (some (.int (-6)), w) → ∃ r w1 w2, val (46, d + 3, 0, [some (.ref 64), some (.int (nI A)), some (.int i), some (.int (nI B)), some (.int j), some (.int m)], [], w) = some (some (.int r), w1) ∧ val (255, d + 3, 0, [some (.ref 108), some (.int (nI A)), some (.int i), some (.int (nI B)), some (.int j), some (.int m), none], [], w1) = some (some (.int r), w2) ∧ Fr FS w w1 ∧ Fr FSC w w2 ∧ secS w2 N := fun h1 h2 => ⟨-6, w, w, cl h1, h2, Fr.refl _ _, Fr.refl _ _, hS⟩
  by_cases i0 : i < 0
  · exact bad (P := True) (by rw [ch2, if_pos i0]) (by rw [mh0, if_pos i0])
  by_cases j0 : j < 0
  · exact bad (P := True) (by rw [ch2, if_neg i0, if_pos j0]) (by rw [mh0, if_neg i0, if_pos j0])
  by_cases m0 : m < 0
  · exact bad (P := True) (by rw [ch2, if_neg i0, if_neg j0, if_pos m0]) (by rw [mh0, if_neg i0, if_neg j0, if_pos m0])
  obtain ⟨I, hI, rfl⟩ := i_nat i0
  obtain ⟨J, hJ, rfl⟩ := i_nat j0
  obtain ⟨M, hM, rfl⟩ := i_nat m0
  rw [if_neg i0, if_neg j0, if_neg m0] at ch2 mh0
  by_cases hA2 : I + M ≤ na
  rotate_left
  · exact bad (P := True) (by rw [ch2, if_pos ((n_sublt (by omega) hI hM).mpr (by omega))]) (by rw [mh0, if_pos ((n_sublt (by omega) hM hI).mpr (by omega))])
  by_cases hB2 : J + M ≤ nb
  rotate_left
  · exact bad (P := True) (by rw [ch2, if_neg (fun h => by have := (n_sublt (by omega) hI hM).mp h; omega), if_neg (fun h => by have := (n_lesub (by omega) hJ hM).mp h; omega)]) (by rw [mh0, if_neg (fun h => by have := (n_sublt (by omega) hM hI).mp h; omega), if_neg (fun h => by have := (n_lesub (by omega) hM hJ).mp h; omega)])
  rw [if_neg (fun h => by have := (n_sublt (by omega) hI hM).mp h; omega), if_pos ((n_lesub (by omega) hJ hM).mpr (by omega))] at ch2
  obtain ⟨u1, u2⟩ := hW.it hA
  obtain ⟨u3, u4⟩ := hW.it hB
  -- the model goes on from any world in which its own cells are as they were
  have go : ∀ {w1 K}, Fr [(100 + B, none)] w w1 → K ≤ M → (∀ k, k < K → ¬ (sb = 4 ∧ ¬ gL w 147 (64 * A + I + k) = 0 ∧ nbo (gI w 148 (64 * A + I + k)) = 0)) → (K < M → (sb = 4 ∧ ¬ gL w 147 (64 * A + I + K) = 0 ∧ nbo (gI w 148 (64 * A + I + K)) = 0)) → (∀ q, gL w1 (100 + B) q = if J ≤ q ∧ q < J + K then gL w (100 + A) (I + (q - J)) else gL w (100 + B) q) → val (168, d + 2, 0, [some (.ref 96), some (.int (nI A)), some (.int (nI I)), some (.int (nI B)), some (.int (nI J)), some (.int (nI M))], [], w) = some (some (.int (if K < M then -8 else 0)), w1) → ∃ r w1 w2, val (46, d + 3, 0, [some (.ref 64), some (.int (nI A)), some (.int (nI I)), some (.int (nI B)), some (.int (nI J)), some (.int (nI M))], [], w) = some (some (.int r), w1) ∧ val (255, d + 3, 0, [some (.ref 108), some (.int (nI A)), some (.int (nI I)), some (.int (nI B)), some (.int (nI J)), some (.int (nI M)), none], [], w1) = some (some (.int r), w2) ∧ Fr FS w w1 ∧ Fr FSC w w2 ∧ secS w2 N := by
    intro w1 K f1 hK r1 r2 g1 e1
    have hW1 := (f1.brd hB).fix rfl hW
    have z1 : ∀ q, gL w1 147 q = gL w 147 q := fun q => f1.l _ _ (off_brd (by omega))
    have z2 : ∀ q, gI w1 148 q = gI w 148 q := fun q => f1.i _ _ (off_brd (by omega))
    have z3 : gI w1 145 B = nI sb := (f1.i _ _ (off_brd (by omega))).trans b4
    have s4 : nI sb = 4 ↔ sb = 4 := ⟨fun h => (n_inj (b := 4) (by omega) (by omega)).mp h, fun h => by rw [h]; rfl⟩
    obtain ⟨w2, e2, f2, g2⟩ := m255 (K := K) (m := M) hW1 hA hB (i := I) (j := J) (by omega) (by omega) hK (fun k hk => by rw [z1, z2, z3, s4]; exact r1 k hk) (fun hk => by rw [z1, z2, z3, s4]; exact r2 hk) (d + 2)
    have m1 := mh w1 hW1 ((f1.i _ _ (off_brd (by omega))).trans a4) z3 ((f1.i _ _ (off_brd (by omega))).trans a6) ((f1.i _ _ (off_brd (by omega))).trans b6)
    rw [if_neg i0, if_neg j0, if_neg m0, if_neg (fun h => by have := (n_sublt (by omega) hM hI).mp h; omega), if_pos ((n_lesub (by omega) hM hJ).mpr (by omega))] at m1
    exact ⟨_, w1, w2, cl e1, m1.trans e2, f1.brd hB, ((f1.brd hB).mono rfl).trans (f2.mono rfl), copy_post n3 n8 hS hA hB hK b1 b2 b3 b4 b5 b6 hA2 hB2 a7 b7 hst (fun k hk h4 hh => r1 k hk ⟨h4, hh⟩) f1 g1 f2 g2⟩
  by_cases e : sa = sb
  · subst e
    rw [if_neg (fun h => h rfl)] at ch2
    refine go (w1 := cpL w (100 + A) I (100 + B) J M) (K := M) (cpL_fr _ _ _ _ _ _) (Nat.le_refl M) (fun k hk hh => ?_) (fun h => absurd h (Nat.lt_irrefl M)) (fun q => cpL_at _ _ _ _ _ _ _) ?_
    · obtain ⟨h4, h5⟩ := hh
      have it := a7 (I + k) (by omega)
      rw [← Nat.add_assoc] at it
      rcases it.2 (by omega) with ⟨_, hy⟩ | ⟨f, cc, t1, t2, t3, t4, t5, t6⟩
      · exact h5.1 hy
      · have h7 := h5.2
        rw [t5, nbo1 t2, t6 h4] at h7
        exact absurd h7 (by decide)
    · refine ch2.trans ?_
      rw [if_neg (Nat.lt_irrefl M)]
      refine (val_aal rfl (hW.k 99 (by omega) (by omega)) rfl iA (by rw [cA]; exact u1)).trans ?_
      refine (tr_168_126 d w hW _ _ _ _ _ _).trans ?_
      refine (val_aal rfl (hW.k 99 (by omega) (by omega)) rfl iB (by rw [cB]; exact u3)).trans ?_
      refine (tr_168_133 d w _ _ _ _ _ _ _ _).trans ?_
      refine (val_acp rfl u2 u4 hI hJ hM (by omega) (by omega)).trans ?_
      exact tr_168_140 d _ _ _ _ _ _
  · have h33 : 3 ≤ sa ∧ 3 ≤ sb := by
      rcases hst with h | h
      · exact absurd h e
      · exact h
    have hAB : A ≠ B := by
      intro h
      subst h
      exact e ((n_inj (by omega) (by omega)).mp (a3.symm.trans b3))
    rw [if_pos (n_ne e (by omega) (by omega))] at ch2
    obtain ⟨K, k1, k2, k3⟩ := first_at (fun k => decide (sb = 4 ∧ ¬ gL w 147 (64 * A + I + k) = 0 ∧ nbo (gI w 148 (64 * A + I + k)) = 0)) M
    have rf : ∀ k, k < M → ((¬ gL w (100 + A) (I + k) = 0 ∧ gL w (100 + A) (I + k) &&& 1 = 0) ↔ (¬ gL w 147 (64 * A + I + k) = 0 ∧ nbo (gI w 148 (64 * A + I + k)) = 0)) := fun k hk => by
      have it := a7 (I + k) (by omega)
      rw [← Nat.add_assoc] at it
      exact it.rf n3 n8 h33.1
    have s4 : nI sb = 4 ↔ sb = 4 := ⟨fun h => (n_inj (b := 4) (by omega) (by omega)).mp h, fun h => by rw [h]; rfl⟩
    obtain ⟨w1, e1, f1, g1⟩ := c169 hW hA hB hAB (i := I) (j := J) (m := M) (K := K) (by omega) (by omega) k1 (fun k hk hh => by
      have := of_decide_eq_false (k2 k hk)
      rw [b3, s4] at hh
      exact this ⟨hh.1, (rf k (by omega)).mp hh.2⟩) (fun hk => by
      have := of_decide_eq_true (k3 hk)
      rw [b3, s4]
      exact ⟨this.1, (rf K (by omega)).mpr this.2⟩) d
    refine go f1 k1 (fun k hk => of_decide_eq_false (k2 k hk)) (fun hk => of_decide_eq_true (k3 hk)) g1 ?_
    refine ch2.trans ?_
    refine (val_call (pc2 := 154) rfl rfl rfl rfl (rcvO k96 (by decide)) (Nat.le_of_ble_eq_true rfl) (Nat.le_of_ble_eq_true rfl) rfl e1 rfl).trans ?_
    exact tr_168_154 d _ _ _ _ _ _ _
