/-! THE SHELF: board, item -/
theorem pk_pos {N : Nat} (h3 : 3 ≤ N) {f : Nat → Nat} (hN : N ≤ 8) (hf : IsRow N f) : 0 < pkN N f := by
  refine Nat.pos_of_ne_zero (fun h => ?_)
  have h1 : dg 16 f N = dg 16 (fun _ => 0) N := by
    rw [dg_zero 16 (fun _ => 0) N (fun _ _ => rfl)]
    exact h
  have h2 := dg_inj (b := 16) (f := f) (g := fun _ => 0) (fun i hi => by have := hf.1 i hi; omega) (fun _ _ => by decide) h1
  have := hf.2 0 1 (by omega) (by omega) ((h2 0 (by omega)).trans (h2 1 (by omega)).symm)
  omega
theorem dc_pos {N : Nat} (h3 : 3 ≤ N) {f : Nat → Nat} (hN : N ≤ 8) (hf : IsRow N f) : 0 < dcN N f := by
  refine Nat.pos_of_ne_zero (fun h => ?_)
  have h1 : dg 10 (fun p => f p + 1) N = dg 10 (fun _ => 0) N := by
    rw [dg_zero 10 (fun _ => 0) N (fun _ _ => rfl)]
    exact h
  have h2 : f 0 + 1 = 0 := dg_inj (b := 10) (f := fun p => f p + 1) (g := fun _ => 0) (fun i hi => by have := hf.1 i hi; show f i + 1 < 10; omega) (fun _ _ => by decide) h1 0 (by omega)
  omega
theorem lI_0 {a : Nat} (h : 0 < a) (ha : a < 2 ^ 64) : ¬ cmpL (lI a) 0 = 0 := fun hh => by
  have := (l_inj (b := 0) ha (by omega)).mp (cmpL_0.mp hh)
  omega
theorem n9 {s : Nat} (hs : s < 2 ^ 31) : ¬ nI s = -9 := by
  intro h
  have h1 := congrArg Int32.toInt h
  rw [nI_toInt hs] at h1
  have h2 : (-9 : Int32).toInt = -9 := by decide
  omega
theorem fn163 {s : Nat} (hs : s ≤ 4) : fn_163 (nI s) = if s ≤ 2 then 0 else 1 := by
  have : ∀ s, s < 5 → fn_163 (nI s) = if s ≤ 2 then 0 else 1 := by decide
  exact this s (by omega)
theorem a_board {N : Nat} {w : Wd} (hW : Fix w) (hS : secS w N) (d : Nat) (b s n : Int32) : ∃ r w1 w2, val (41, d + 2, 0, [some (.ref 64), some (.int b), some (.int s), some (.int n)], [], w) = some (some (.int r), w1) ∧ val (251, d + 2, 0, [some (.ref 108), some (.int b), some (.int s), some (.int n), none], [], w1) = some (some (.int r), w2) ∧ Fr FS w w1 ∧ Fr FS w w2 ∧ secS w2 N := by
  rcases brd b with ⟨h1, h2⟩ | ⟨B, hB, rfl, h1, h2⟩
  · refine ⟨-1, w, w, ?_, ?_, Fr.refl _ _, Fr.refl _ _, hS⟩
    · refine (tr_41 d w hW b s n).trans ?_
      rw [if_pos h1]
    · refine (tr_251 (d + 1) w hW b s n (fun h => absurd h2 h)).trans ?_
      rw [if_pos h2]
  have hi : inB (nI B) 8 = true := inB_nI hB (by omega)
  have hc : (nI B).toNatClampNeg = B := nI_clamp (by omega)
  have b1 : ¬ fn_39 (nI B) = 0 := by rw [h1]; decide
  have b2 : ¬ fn_250 (nI B) = 0 := by rw [h2]; decide
  rcases srt s with ⟨s1, s2⟩ | ⟨T, hT, rfl, s1, s2, s3, s4⟩
  · refine ⟨-1, w, w, ?_, ?_, Fr.refl _ _, Fr.refl _ _, hS⟩
    · refine (tr_41 d w hW _ s n).trans ?_
      rw [if_neg b1, if_pos s1]
    · refine (tr_251 (d + 1) w hW _ s n (fun _ _ _ _ _ => hi)).trans ?_
      rw [if_neg b2]
      rcases s2 with s2 | s2
      · rw [if_pos s2]
      · by_cases s3 : s < 0
        · rw [if_pos s3]
        · rw [if_neg s3, if_pos s2]
  have t1 : ¬ fn_40 (nI T) = 0 := by rw [s1]; decide
  rcases Decidable.em (n ≤ 64) with hn | hn
  rotate_left
  · refine ⟨-1, w, w, ?_, ?_, Fr.refl _ _, Fr.refl _ _, hS⟩
    · refine (tr_41 d w hW _ _ n).trans ?_
      rw [if_neg b1, if_neg t1, if_neg hn]
    · refine (tr_251 (d + 1) w hW _ _ n (fun _ _ _ _ _ => hi)).trans ?_
      rw [if_neg b2, if_neg s2, if_neg s3, if_neg hn]
  rcases Decidable.em (0 ≤ n) with h0 | h0
  rotate_left
  · refine ⟨-5, w, w, ?_, ?_, Fr.refl _ _, Fr.refl _ _, hS⟩
    · refine (tr_41 d w hW _ _ n).trans ?_
      rw [if_neg b1, if_neg t1, if_pos hn, if_neg h0]
    · refine (tr_251 (d + 1) w hW _ _ n (fun _ _ _ _ _ => hi)).trans ?_
      rw [if_neg b2, if_neg s2, if_neg s3, if_pos hn, if_neg h0]
  obtain ⟨m, hm, rfl⟩ := i_nat (v := n) (fun h => by
    have e1 := Int32.lt_iff_toInt_lt.mp h
    have e2 := Int32.le_iff_toInt_le.mp h0
    omega)
  have hm64 : m ≤ 64 := (n_le_iff (b := 64) hm (by omega)).mp hn
  obtain ⟨i1, i2⟩ := hW.it hB
  obtain ⟨w1, e1, f1, g1⟩ := r_fillL (100 + B) 64 (by omega) 0 d (w := sI (sI w 97 B (nI T)) 98 B (nI m)) i2
  have fa : Fr FS w (sI (sI w 97 B (nI T)) 98 B (nI m)) := ((Fr.refl _ w).sI 97 B _ rfl).sI 98 B _ rfl
  have hWa := fa.fix rfl hW
  have f2 : Fr FS w w1 := fa.trans (f1.brd hB)
  have hW1 := f2.fix rfl hW
  have off : ∀ a k, a < 100 ∨ 107 < a → inS [(100 + B, none)] a k = false := by
    intro a k ha
    cases e : inS [(100 + B, none)] a k with
    | false => rfl
    | true =>
      have e2 : (Nat.beq (100 + B) a && true || false) = true := e
      rw [Bool.or_false, Bool.and_true, Nat.beq_eq] at e2
      omega
  have fb : Fr FS w (sI (sI w1 145 B (nI T)) 146 B (nI m)) := (f2.sI 145 B _ rfl).sI 146 B _ rfl
  have el : val (161, d + 1, 0, [some (.ref 96), some (.int (nI B)), some (.int (nI T)), some (.int (nI m))], [], w) = some (none, w1) := by
    refine (tr_161 d w hW _ _ _ hi).trans ?_
    rw [hc]
    refine (val_aal rfl (hWa.k 99 (by omega) (by omega)) rfl hi (by rw [hc]; exact i1)).trans ?_
    refine (tr_161_20 d _ _ _ _ _).trans ?_
    refine (val_call (pc2 := 24) rfl rfl rfl rfl rfl (Nat.le_of_ble_eq_true rfl) (Nat.le_of_ble_eq_true rfl) rfl e1 rfl).trans ?_
    exact tr_161_24 d _ _ _ _
  have hl := loopUp (c := fun k v => (251, d + 2, 48, [some (.ref 108), some (.int (nI B)), some (.int (nI T)), some (.int (nI m)), some (.int (nI k))], [], v)) (P := fun k v => Fr [(147, none), (148, none)] (sI (sI w1 145 B (nI T)) 146 B (nI m)) v ∧ (∀ i, i < k → gL v 147 (64 * B + i) = 0) ∧ ∀ i, ¬ (64 * B ≤ i ∧ i < 64 * B + 64) → gL v 147 i = gL w1 147 i ∧ gI v 148 i = gI w1 148 i) (R := fun r => ∃ v, r = some (some (.int 0), v) ∧ Fr [(147, none), (148, none)] (sI (sI w1 145 B (nI T)) 146 B (nI m)) v ∧ (∀ i, i < m → gL v 147 (64 * B + i) = 0) ∧ ∀ i, ¬ (64 * B ≤ i ∧ i < 64 * B + 64) → gL v 147 i = gL w1 147 i ∧ gI v 148 i = gI w1 148 i) (N := m) ?_ ?_ (sI (sI w1 145 B (nI T)) 146 B (nI m)) ⟨Fr.refl _ _, fun i hi => by omega, fun _ _ => ⟨rfl, gI_ne _ _ _ _ (by decide)⟩⟩
  · obtain ⟨w2, e2, f3, g2, g3⟩ := hl
    refine ⟨0, w1, w2, ?_, ?_, f2, fb.trans (f3.mono rfl), fun C hC => ?_⟩
    · refine (tr_41 d w hW _ _ _).trans ?_
      rw [if_neg b1, if_neg t1, if_pos hn, if_pos h0]
      refine (val_call (pc2 := 39) rfl rfl rfl rfl (rcvO (hW.k 96 (by omega) (by omega)) (by decide)) (Nat.le_of_ble_eq_true rfl) (Nat.le_of_ble_eq_true rfl) rfl el rfl).trans ?_
      exact tr_41_39 d w1 _ _ _
    · refine (tr_251 (d + 1) w1 hW1 _ _ _ (fun _ _ _ _ _ => hi)).trans ?_
      rw [if_neg b2, if_neg s2, if_neg s3, if_pos hn, if_pos h0, hc]
      exact e2
    · by_cases e : C = B
      · subst e
        refine Or.inr ⟨T, m, hT, hm64, ?_, ?_, ?_, ?_, fun k hk => ?_⟩
        · rw [f3.i 97 C rfl, gI_ne _ _ _ _ (by decide), gI_ne _ _ _ _ (by decide), f1.i 97 C (off _ _ (by omega)), gI_ne _ _ _ _ (by decide), gI_same]
        · rw [f3.i 145 C rfl, gI_ne _ _ _ _ (by decide), gI_same]
        · rw [f3.i 98 C rfl, gI_ne _ _ _ _ (by decide), gI_ne _ _ _ _ (by decide), f1.i 98 C (off _ _ (by omega)), gI_same]
        · rw [f3.i 146 C rfl, gI_same]
        · have z1 : gL w2 (100 + C) k = 0 := (f3.l (100 + C) k (by
            have : C = 0 ∨ C = 1 ∨ C = 2 ∨ C = 3 ∨ C = 4 ∨ C = 5 ∨ C = 6 ∨ C = 7 := by omega
            rcases this with rfl | rfl | rfl | rfl | rfl | rfl | rfl | rfl <;> rfl)).trans (g1 k (by omega))
          rw [z1, g2 k hk]
          exact ⟨fun _ => rfl, fun _ => Or.inl ⟨rfl, rfl⟩⟩
      · refine (hS C hC).keep ?_ ?_ ?_ ?_ (fun k hk => ⟨?_, ?_, ?_⟩)
        · rw [f3.i 97 C rfl, gI_ne _ _ _ _ (by decide), gI_ne _ _ _ _ (by decide), f1.i 97 C (off _ _ (by omega)), gI_ne _ _ _ _ (by decide), gI_nk _ _ _ e]
        · rw [f3.i 98 C rfl, gI_ne _ _ _ _ (by decide), gI_ne _ _ _ _ (by decide), f1.i 98 C (off _ _ (by omega)), gI_nk _ _ _ e, gI_ne _ _ _ _ (by decide)]
        · rw [f3.i 145 C rfl, gI_ne _ _ _ _ (by decide), gI_nk _ _ _ e, f1.i 145 C (off _ _ (by omega)), gI_ne _ _ _ _ (by decide), gI_ne _ _ _ _ (by decide)]
        · rw [f3.i 146 C rfl, gI_nk _ _ _ e, gI_ne _ _ _ _ (by decide), f1.i 146 C (off _ _ (by omega)), gI_ne _ _ _ _ (by decide), gI_ne _ _ _ _ (by decide)]
        · have z1 : inS [(100 + B, none)] (100 + C) k = false := by
            cases e3 : inS [(100 + B, none)] (100 + C) k with
            | false => rfl
            | true =>
              have e2 : (Nat.beq (100 + B) (100 + C) && true || false) = true := e3
              rw [Bool.or_false, Bool.and_true, Nat.beq_eq] at e2
              omega
          have z2 : inS [(147, none), (148, none)] (100 + C) k = false := by
            have : C = 0 ∨ C = 1 ∨ C = 2 ∨ C = 3 ∨ C = 4 ∨ C = 5 ∨ C = 6 ∨ C = 7 := by omega
            rcases this with rfl | rfl | rfl | rfl | rfl | rfl | rfl | rfl <;> rfl
          rw [f3.l (100 + C) k z2]
          exact f1.l (100 + C) k z1
        · rw [(g3 (64 * C + k) (by omega)).1]
          exact f1.l 147 _ (off _ _ (by omega))
        · rw [(g3 (64 * C + k) (by omega)).2, f1.i 148 _ (off _ _ (by omega)), gI_ne _ _ _ _ (by decide), gI_ne _ _ _ _ (by decide)]
  · rintro v ⟨p1, p2, p3⟩
    have hWv := (fb.trans (p1.mono rfl)).fix rfl hW
    refine ⟨v, ?_, p1, p2, p3⟩
    refine (tr_251_48 (d + 1) v hWv _ _ _ _ (fun h => absurd (n_le (Nat.le_refl m) hm) h)).trans ?_
    rw [if_pos (n_le (Nat.le_refl m) hm)]
  · rintro k v hk ⟨p1, p2, p3⟩
    have hWv := (fb.trans (p1.mono rfl)).fix rfl hW
    have ei : (64 : Int32) * nI B + nI k = nI (64 * B + k) := by rw [show (64 : Int32) = nI 64 from rfl, n_mul, n_add]
    refine Or.inr ⟨sI (sL v 147 (64 * B + k) 0) 148 (64 * B + k) (vp_nar .boolean 0), ?_, (p1.sL 147 _ _ rfl).sI 148 _ _ rfl, fun i hi => ?_, fun i hi => ⟨?_, ?_⟩⟩
    · refine (tr_251_48 (d + 1) v hWv _ _ _ _ (fun _ => by rw [ei]; exact inB_nI (by omega) (by omega))).trans ?_
      rw [if_neg (n_nle hk hm), ei, nI_clamp (by omega), n_succ]
    · show gL (sL v 147 (64 * B + k) 0) 147 (64 * B + i) = 0
      by_cases e : i = k
      · subst e; exact gL_same _ _ _ _
      · rw [gL_nk _ _ _ (by omega)]
        exact p2 i (by omega)
    · show gL (sL v 147 (64 * B + k) 0) 147 i = gL w1 147 i
      rw [gL_nk _ _ _ (by omega)]
      exact (p3 i hi).1
    · rw [gI_nk _ _ _ (by omega)]
      exact (p3 i hi).2
