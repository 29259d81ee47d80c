/-! CALL: coset -/
section COSET
variable {N : Nat} {w : Wd}
theorem pk_rk {f g : Nat → Nat} (hN : N ≤ 8) (hf : IsRow N f) (hg : IsRow N g) (h : pkN N f ≤ pkN N g) : rkN N f ≤ rkN N g := by
  rcases rk_pk hN hf hg with ⟨-, a, -⟩ | ⟨a, -⟩ | ⟨-, a⟩
  · omega
  · omega
  · omega
theorem c_least {s : GS} {f : Nat → Nat} (h3 : 3 ≤ N) (hN : N ≤ 8) (d : Nat) (hW : Fix w) (hs : CG w N s) (hr : ∀ i, i < s.1 → IsRow N (s.2 i)) (hf : IsRow N f) (hz : s.1 ≤ 720) : ∀ n i (L : Nat → Nat), i + n = s.1 → IsRow N L → (∃ j, j < s.1 ∧ ∀ p, p < N → L p = s.2 j (f p)) → (∀ j, j < i → pkN N L ≤ pkN N (fun p => s.2 j (f p))) → ∃ L', IsRow N L' ∧ (∃ j, j < s.1 ∧ ∀ p, p < N → L' p = s.2 j (f p)) ∧ (∀ j, j < s.1 → pkN N L' ≤ pkN N (fun p => s.2 j (f p))) ∧ val (65, d + 2, 5, [some (.ref 76), some (.int (nI N)), some (.int (nI (pkN N f))), some (.int (nI (pkN N L))), some (.int (nI i))], [], w) = some (some (.int (nI (pkN N L'))), w) := by
  intro n
  induction n with
  | zero =>
    intro i L hi hL hj hle
    refine ⟨L, hL, hj, fun j h => hle j (by omega), (tr_65_5 d w hW _ _ _ _ (fun h => absurd (by rw [hs.1]; exact n_le (by omega) (by omega)) h)).trans ?_⟩
    rw [hs.1, if_pos (n_le (by omega) (by omega))]
  | succ n ih =>
    intro i L hi hL hj hle
    have hiz : i < s.1 := by omega
    have hx : IsRow N (fun p => s.2 i (f p)) := (hr i hiz).comp hf
    have e0 := tr_65_5 d w hW (nI N) (nI (pkN N f)) (nI (pkN N L)) (nI i) (fun _ => inB_nI (by omega) (by omega))
    rw [hs.1, if_neg (n_nle hiz (by omega)), nI_clamp (show i < 2 ^ 31 by omega), hs.2.1 i hiz] at e0
    have e1 : val (65, d + 2, 5, [some (.ref 76), some (.int (nI N)), some (.int (nI (pkN N f))), some (.int (nI (pkN N L))), some (.int (nI i))], [], w) = val (65, d + 2, 5, [some (.ref 76), some (.int (nI N)), some (.int (nI (pkN N f))), some (.int (if nI (pkN N (fun p => s.2 i (f p))) < nI (pkN N L) then nI (pkN N (fun p => s.2 i (f p))) else nI (pkN N L))), some (.int (nI (i + 1)))], [], w) := by
      refine e0.trans ?_
      refine (val_call (pc2 := 27) rfl rfl rfl rfl rfl (Nat.le_of_ble_eq_true rfl) (Nat.le_of_ble_eq_true rfl) rfl (ev_136 d w (nI N) (nI (pkN N (s.2 i))) (nI (pkN N f)) (okn h3 hN)) rfl).trans ?_
      rw [r_136 hN (hr i hiz).1 hf.1]
      refine (tr_65_27 d w _ _ _ _ _ _).trans ?_
      rw [n_succ]
    by_cases c : pkN N (fun p => s.2 i (f p)) < pkN N L
    · rw [if_pos (n_lt c (pkN_lt hN hL.1))] at e1
      obtain ⟨L', a1, a2, a3, a4⟩ := ih (i + 1) (fun p => s.2 i (f p)) (by omega) hx ⟨i, hiz, fun _ _ => rfl⟩ (fun j hj => by
        by_cases e : j = i
        · rw [e]; exact Nat.le_refl _
        · have := hle j (by omega); omega)
      exact ⟨L', a1, a2, a3, e1.trans a4⟩
    · rw [if_neg (n_nlt (by omega) (pkN_lt hN hx.1))] at e1
      obtain ⟨L', a1, a2, a3, a4⟩ := ih (i + 1) L (by omega) hL hj (fun j hj => by
        by_cases e : j = i
        · rw [e]; omega
        · exact hle j (by omega))
      exact ⟨L', a1, a2, a3, e1.trans a4⟩
theorem m_least {t : GS} {x : Int32} {f : Nat → Nat} (h3 : 3 ≤ N) (hN : N ≤ 6) (d : Nat) (hr : ∀ i, i < t.1 → IsRow N (t.2 i)) (hf : IsNum N x f) (hz : t.1 ≤ 720) : ∀ n i (w : Wd) (L : Nat) (l4 : Option Value), i + n = t.1 → Fix w → gI w 108 0 = nI N → MG w N t → L ≤ 5040 → (L = 5040 → i = 0) → (L < 5040 → ∃ j, j < t.1 ∧ L = rkN N (fun p => t.2 j (f p))) → (∀ j, j < i → L ≤ rkN N (fun p => t.2 j (f p))) → ∃ L' w', (L' = 5040 → t.1 = 0) ∧ L' ≤ 5040 ∧ (L' < 5040 → ∃ j, j < t.1 ∧ L' = rkN N (fun p => t.2 j (f p))) ∧ (∀ j, j < t.1 → L' ≤ rkN N (fun p => t.2 j (f p))) ∧ val (222, d + 3, 48, [some (.ref 108), some (.int x), some (.int (nI L)), some (.int (nI i)), l4], [], w) = some (some (.int (nI L')), w') ∧ Fr SC w w' := by
  intro n
  induction n with
  | zero =>
    intro i w L l4 hi hW hn hs hL hL0 hj hle
    refine ⟨L, w, fun h => by have := hL0 h; omega, hL, hj, fun j h => hle j (by omega), (tr_222_48 d w hW _ _ _ l4 (fun h => absurd (by rw [hs.1]; exact n_le (by omega) (by omega)) h)).trans ?_, Fr.refl _ _⟩
    rw [hs.1, if_pos (n_le (by omega) (by omega))]
  | succ n ih =>
    intro i w L l4 hi hW hn hs hL hL0 hj hle
    have hiz : i < t.1 := by omega
    obtain ⟨y, hy⟩ : ∃ y, y = fun p => t.2 i (f p) := ⟨_, rfl⟩
    have hx : IsRow N y := by rw [hy]; exact (hr i hiz).comp hf.1
    have e0 := tr_222_48 d w hW x (nI L) (nI i) l4 (fun _ => inB_nI (by omega) (by omega))
    rw [hs.1, if_neg (n_nle hiz (by omega)), nI_clamp (show i < 2 ^ 31 by omega), hs.2.1 i hiz] at e0
    obtain ⟨w1, r1, f1⟩ := m_times h3 (by omega) (f := t.2 i) (g := f) ⟨hr i hiz, rfl⟩ hf (d + 1) hW hn
    rw [← hy] at r1
    have hW1 := f1.fix rfl hW
    obtain ⟨w2, r2, f2⟩ := m_rank h3 (by omega) (f := y) ⟨hx, rfl⟩ (d + 1) hW1 ((f1.i 108 0 rfl).trans hn)
    have f12 := f1.trans f2
    obtain ⟨q, hq⟩ : ∃ q, q = rkN N y := ⟨_, rfl⟩
    rw [← hq] at r2
    have hq720 : q < 720 := by rw [hq]; have := rkN_fc hx; have := fc6 hN; omega
    have e1 : val (222, d + 3, 48, [some (.ref 108), some (.int x), some (.int (nI L)), some (.int (nI i)), l4], [], w) = (if nI L ≤ nI q then val (222, d + 3, 48, [some (.ref 108), some (.int x), some (.int (nI L)), some (.int (nI (i + 1))), some (.int (nI q))], [], w2) else val (222, d + 3, 48, [some (.ref 108), some (.int x), some (.int (nI q)), some (.int (nI (i + 1))), some (.int (nI q))], [], w2)) := by
      refine e0.trans ?_
      refine (val_call (pc2 := 68) rfl rfl rfl rfl (hW.rc _) (Nat.le_of_ble_eq_true rfl) (Nat.le_of_ble_eq_true rfl) rfl r1 rfl).trans ?_
      refine (val_call (pc2 := 71) rfl rfl rfl rfl (hW1.rc _) (Nat.le_of_ble_eq_true rfl) (Nat.le_of_ble_eq_true rfl) rfl r2 rfl).trans ?_
      refine (tr_222_71 d w2 _ _ _ _ l4).trans ?_
      rw [n_succ]
    by_cases c : L ≤ q
    · rw [if_pos (n_le c (by omega))] at e1
      obtain ⟨L', w', a1, a2, a3, a4, a5, a6⟩ := ih (i + 1) w2 L (some (.int (nI q))) (by omega) (f2.fix rfl hW1) ((f12.i 108 0 rfl).trans hn) (hs.fr f12 rfl) hL (fun h => by omega) hj (fun j hj => by
        by_cases e : j = i
        · rw [e, ← hy, ← hq]; exact c
        · exact hle j (by omega))
      exact ⟨L', w', a1, a2, a3, a4, e1.trans a5, f12.trans a6⟩
    · rw [if_neg (n_nle (by omega) (by omega))] at e1
      obtain ⟨L', w', a1, a2, a3, a4, a5, a6⟩ := ih (i + 1) w2 q (some (.int (nI q))) (by omega) (f2.fix rfl hW1) ((f12.i 108 0 rfl).trans hn) (hs.fr f12 rfl) (by omega) (fun h => by omega) (fun _ => ⟨i, hiz, by rw [← hy, hq]⟩) (fun j hj => by
        by_cases e : j = i
        · rw [e, ← hy, ← hq]; exact Nat.le_refl _
        · have := hle j (by omega); omega)
      exact ⟨L', w', a1, a2, a3, a4, e1.trans a5, f12.trans a6⟩
theorem a_coset (hW : Fix w) (hB : Bl w N) (hG : secG w N) (d : Nat) (x : Int32) : ∃ r w2, val (24, d + 3, 0, [some (.ref 64), some (.int x), none], [], w) = some (some (.int r), w) ∧ val (222, d + 3, 0, [some (.ref 108), some (.int x), none, none, none], [], w) = some (some (.int r), w2) ∧ Fr FSp w w2 := by
  obtain ⟨h3, hN, hn, hm⟩ := hB
  obtain ⟨G, gs, K, ns, g1, g2, g3, g4, g5, g6, g7, g8⟩ := hG
  have hO := okn h3 hN
  have e1 : val (24, d + 3, 0, [some (.ref 64), some (.int x), none], [], w) = val (24, d + 3, 8, [some (.ref 64), some (.int x), none], [.int (fn_134 (nI N) x)], w) := by
    refine (tr_24 d w hW x).trans ?_
    rw [hn]
    refine (val_call (pc2 := 8) rfl rfl rfl rfl rfl (Nat.le_of_ble_eq_true rfl) (Nat.le_of_ble_eq_true rfl) rfl (ev_134 (d + 1) w (nI N) x hO) rfl).trans ?_
    rfl
  have e2 := e1.trans (tr_24_8 d w hW x (fn_134 (nI N) x))
  rw [hn] at e2
  by_cases hx : ∃ f, IsNum N x f
  · obtain ⟨f, hf⟩ := hx
    rw [from_yes hN hf, if_pos (neg_nn (pkN_lt hN hf.1.1))] at e2
    obtain ⟨v1, r1, f1⟩ := m_isRow h3 hN hf (d + 1) hW hm
    have hv1 := f1.fix rfl hW
    have m1 : val (222, d + 3, 0, [some (.ref 108), some (.int x), none, none, none], [], w) = (if nI N ≤ 6 then val (222, d + 3, 23, [some (.ref 108), some (.int x), none, none, none], [.ref 108], v1) else some (some (.int (-2)), v1)) := by
      refine (tr_222 d w x).trans ?_
      refine (val_call (pc2 := 5) rfl rfl rfl rfl (hW.rc _) (Nat.le_of_ble_eq_true rfl) (Nat.le_of_ble_eq_true rfl) rfl r1 rfl).trans ?_
      refine (tr_222_5 d v1 hv1 x _).trans ?_
      rw [if_pos (by decide), f1.i 108 0 rfl, hm]
    by_cases h6 : N ≤ 6
    · rw [if_pos ((sm6 hN).mpr h6)] at e2 m1
      have hgn : ∀ i, i < K → IsRow N (ns i) := fun i hi => (g5.2.2 i hi).1
      have hgg : ∀ i, i < G → IsRow N (gs i) := fun i hi => (g3.2.2 i hi).1
      obtain ⟨s1, s2, s3⟩ := outG_ok (op := opR) (opR_ok hgn) 720 0 gs0 gs0_BI (by have := fc6 h6; omega) (fun i hi => absurd hi (Nat.not_lt_zero i)) (Nat.zero_le _)
      obtain ⟨t1, t2, t3⟩ := outG_ok (op := opL) (opL_ok hgg) 720 0 gs0 gs0_BI (by have := fc6 h6; omega) (fun i hi => absurd hi (Nat.not_lt_zero i)) (Nat.zero_le _)
      have same := grp_same hN hgn hgg s1 s3 t1 t3 g7 g8
      obtain ⟨v2, r2, f2, c2⟩ := m_spread h3 h6 d hv1 ((f1.i 108 0 rfl).trans hm) (g3.fa f1.a rfl)
      have hv2 := f2.fix rfl hv1
      generalize outG N opR ns K 720 0 gs0 = s at *
      generalize outG N opL gs G 720 0 gs0 = t at *
      obtain ⟨v3, r3, f3⟩ := m_rank h3 hN hf (d + 1) hv2 ((f2.i 108 0 rfl).trans ((f1.i 108 0 rfl).trans hm))
      have hv3 := f3.fix rfl hv2
      have c3 := c2.fr f3 rfl
      have hq := rkN_fc hf.1
      have h720 := fc6 h6
      have m2 : val (222, d + 3, 0, [some (.ref 108), some (.int x), none, none, none], [], w) = (if b01 (hasG N t (rkN N f)) = 0 then val (222, d + 3, 48, [some (.ref 108), some (.int x), some (.int 5040), some (.int 0), none], [], v3) else some (some (.int (-10)), v3)) := by
        refine m1.trans ?_
        refine (val_call (pc2 := 26) rfl rfl rfl rfl (hv1.rc _) (Nat.le_of_ble_eq_true rfl) (Nat.le_of_ble_eq_true rfl) rfl r2 rfl).trans ?_
        refine (tr_222_26 d v2 hv2 x).trans ?_
        refine (val_call (pc2 := 35) rfl rfl rfl rfl (hv2.rc _) (Nat.le_of_ble_eq_true rfl) (Nat.le_of_ble_eq_true rfl) rfl r3 rfl).trans ?_
        refine (tr_222_35 d v3 hv3 x _ (inB_nI (by omega) (by omega))).trans ?_
        rw [nI_clamp (by omega), c3.2.2 _ (by omega)]
      have e3 : val (24, d + 3, 0, [some (.ref 64), some (.int x), none], [], w) = val (24, d + 3, 40, [some (.ref 64), some (.int x), some (.int (nI (pkN N f)))], [.int (b01 (hasG N s (rkN N f)))], w) := by
        refine e2.trans ?_
        refine (val_call (pc2 := 40) rfl rfl rfl rfl (rcvO hW.k76 (by decide)) (Nat.le_of_ble_eq_true rfl) (Nat.le_of_ble_eq_true rfl) rfl (c_has2 h3 h6 d hW g6 hf.1) rfl).trans ?_
        rfl
      have e4 := e3.trans (tr_24_40 d w hW _ _ _)
      rw [hn] at e4
      have f123 : Fr FSp w v3 := ((f1.mono rfl).trans f2).trans (f3.mono rfl)
      rw [same (rkN N f)] at e4
      cases hh : hasG N t (rkN N f) with
      | true =>
        rw [hh, if_neg (show ¬ b01 true = 0 by decide)] at e4 m2
        exact ⟨-10, v3, e4.trans (tr_24_67 d w _ _ _), m2, f123⟩
      | false =>
        rw [hh, if_pos (show b01 false = 0 from rfl)] at e4 m2
        have hz1 : s.1 ≤ 720 := by have := s1.le; omega
        have hz2 : t.1 ≤ 720 := by have := t1.le; omega
        obtain ⟨L, a1, ⟨j, a2, a3⟩, a4, a5⟩ := c_least (f := f) h3 hN d hW g6 (fun i hi => (s1.2.2.1 i hi).1) hf.1 hz1 s.1 0 f (Nat.zero_add _) hf.1 ⟨0, s1.1, fun p hp => by rw [s1.2.1]⟩ (fun j hj => absurd hj (Nat.not_lt_zero j))
        obtain ⟨L2, v4, b1, b2, b3, b4, b5, b6⟩ := m_least (t := t) h3 h6 d (fun i hi => (t1.2.2.1 i hi).1) hf hz2 t.1 0 v3 5040 none (Nat.zero_add _) hv3 ((f123.i 108 0 rfl).trans hm) c3 (Nat.le_refl _) (fun _ => rfl) (fun h => absurd h (Nat.lt_irrefl _)) (fun j hj => absurd hj (Nat.not_lt_zero j))
        have hL2 : L2 < 5040 := by
          by_cases c : L2 = 5040
          · have := b1 c; have := t1.1; omega
          · omega
        obtain ⟨k, k1, k2⟩ := b3 hL2
        have hcomp : ∀ i, i < s.1 → IsRow N (fun p => s.2 i (f p)) := fun i hi => (s1.2.2.1 i hi).1.comp hf.1
        -- both are the least of the same ranks
        have eq : rkN N L = L2 := by
          have d1 : L2 ≤ rkN N L := by
            have : hasG N t (rkN N (s.2 j)) = true := by rw [← same]; exact hasG_iff.mpr ⟨j, a2, rfl⟩
            obtain ⟨i, i1, i2⟩ := hasG_iff.mp this
            have ee := rkN_inj hN (t1.2.2.1 i i1).1 (s1.2.2.1 j a2).1 i2
            have := b4 i i1
            rw [rk_eq (g := L) (fun p hp => by rw [a3 p hp]; exact ee _ (hf.1.1 p hp))] at this
            exact this
          have d2 : rkN N L ≤ L2 := by
            have : hasG N s (rkN N (t.2 k)) = true := by rw [same]; exact hasG_iff.mpr ⟨k, k1, rfl⟩
            obtain ⟨i, i1, i2⟩ := hasG_iff.mp this
            have ee := rkN_inj hN (s1.2.2.1 i i1).1 (t1.2.2.1 k k1).1 i2
            have := pk_rk hN a1 (hcomp i i1) (a4 i i1)
            rw [rk_eq (g := fun p => t.2 k (f p)) (fun p hp => ee _ (hf.1.1 p hp)), ← k2] at this
            exact this
          omega
        refine ⟨nI L2, v4, e4.trans ?_, m2.trans b5, f123.trans (b6.mono rfl)⟩
        have a5' := (tr_65 d w (nI N) (nI (pkN N f))).trans a5
        refine (val_call (pc2 := 64) rfl rfl rfl rfl (rcvO hW.k76 (by decide)) (Nat.le_of_ble_eq_true rfl) (Nat.le_of_ble_eq_true rfl) rfl a5' rfl).trans ?_
        refine (val_call (pc2 := 67) rfl rfl rfl rfl rfl (Nat.le_of_ble_eq_true rfl) (Nat.le_of_ble_eq_true rfl) rfl (ev_139 (d + 1) w (nI N) (nI (pkN N L)) hO) rfl).trans ?_
        rw [r_139 hN a1, eq]
        exact tr_24_67 d w _ _ _
    · rw [if_neg (fun h => h6 ((sm6 hN).mp h))] at e2 m1
      exact ⟨-2, v1, e2, m1, f1.mono rfl⟩
  · have hx' : ∀ f, ¬ IsNum N x f := fun f hf => hx ⟨f, hf⟩
    rw [from_no hN (by omega) hx', if_neg (fun h => h rfl)] at e2
    obtain ⟨v1, r1, f1⟩ := m_isRowX h3 hN hx' (d + 1) hW hm
    refine ⟨-1, v1, e2, (tr_222 d w x).trans ?_, f1.mono rfl⟩
    refine (val_call (pc2 := 5) rfl rfl rfl rfl (hW.rc _) (Nat.le_of_ble_eq_true rfl) (Nat.le_of_ble_eq_true rfl) rfl r1 rfl).trans ?_
    refine (tr_222_5 d v1 (f1.fix rfl hW) x _).trans ?_
    rw [if_neg (fun h => h rfl)]
end COSET
