/-! THE BAND: what stays between calls; the call of band -/
def secB (w : Wd) (c : Nat) : Prop := ∃ kd sk sl, KS kd sk ∧ RgC w kd sk sl ∧ RgM w kd sk sl ∧ ∀ b, sl b ≤ 3200 * c
abbrev FKd : List (Nat × Option Nat) := [(85, none), (86, none), (87, none), (137, none), (138, none), (139, none)]
theorem secB.mono {w : Wd} {c e : Nat} (h : secB w c) (he : c ≤ e) : secB w e := by
  obtain ⟨kd, sk, sl, h1, h2, h3, h4⟩ := h
  exact ⟨kd, sk, sl, h1, h2, h3, fun b => Nat.le_trans (h4 b) (Nat.mul_le_mul_left _ he)⟩
theorem secB.fr {S : List (Nat × Option Nat)} {w v : Wd} {c : Nat} (h : secB w c) (hf : Fr S w v) (hs : dj S FKd = true) : secB v c := by
  obtain ⟨kd, sk, sl, h1, h2, h3, h4⟩ := h
  exact ⟨kd, sk, sl, h1, h2.eq (fun c => hf.i 85 c (dj_off hs rfl)) (fun c => hf.i 86 c (dj_off hs rfl)) (fun c => hf.i 87 c (dj_off hs rfl)), h3.eq (fun c => hf.i 137 c (dj_off hs rfl)) (fun c => hf.i 138 c (dj_off hs rfl)) (fun c => hf.i 139 c (dj_off hs rfl)), h4⟩
/-- the latest RINGING, in both -/
def secRg (w : Wd) (N : Nat) : Prop := ∃ bg, bg ≤ 400 ∧ gI w 84 7 = nI bg ∧ gI w 108 49 = nI bg ∧ gI w 84 8 = gI w 108 50 ∧ gI w 84 9 = gI w 108 51 ∧ gI w 84 10 = gI w 108 52 ∧ (gI w 108 47 = 0 → bg = 0) ∧ ∃ (m : Nat → Nat) (G : Nat → Nat → Nat), gI w 84 6 = nI (sm m bg) ∧ (∀ i, m i ≤ N) ∧ ∀ i, i < bg → IsRow N (G i) ∧ 1 ≤ m i ∧ gI w 88 i = nI (pkN N (G i)) ∧ gI w 144 i = nI (dcN N (G i)) ∧ gI w 89 i = nI (m i) ∧ (∀ p, p < N → gI w 140 (9 * i + (G i p + 1)) = if p < m i then gI w 90 (8 * i + p) else -1000000) ∧ ∀ p, p < m i → -15 ≤ (gI w 90 (8 * i + p)).toInt
abbrev FRg : List (Nat × Option Nat) := [(84, some 6), (84, some 7), (84, some 8), (84, some 9), (84, some 10), (88, none), (89, none), (90, none), (108, some 47), (108, some 49), (108, some 50), (108, some 51), (108, some 52), (140, none), (144, none)]
theorem secRg.fr {S : List (Nat × Option Nat)} {w v : Wd} {N : Nat} (h : secRg w N) (hf : Fr S w v) (hs : dj S FRg = true) : secRg v N := by
  obtain ⟨bg, h1, h2, h3, h4, h5, h6, h7, m, G, h8, h9, h10⟩ := h
  have o : ∀ a k, inS FRg a k = true → gI v a k = gI w a k := fun a k hi => hf.i a k (dj_off hs hi)
  refine ⟨bg, h1, (o 84 7 rfl).trans h2, (o 108 49 rfl).trans h3, (o 84 8 rfl).trans (h4.trans (o 108 50 rfl).symm), (o 84 9 rfl).trans (h5.trans (o 108 51 rfl).symm), (o 84 10 rfl).trans (h6.trans (o 108 52 rfl).symm), fun hh => h7 ((o 108 47 rfl).symm.trans hh), m, G, (o 84 6 rfl).trans h8, h9, fun i hi => ?_⟩
  obtain ⟨g1, g2, g3, g4, g5, g6, g7⟩ := h10 i hi
  refine ⟨g1, g2, (o 88 i rfl).trans g3, (o 144 i rfl).trans g4, (o 89 i rfl).trans g5, fun p hp => ?_, fun p hp => ?_⟩
  · rw [o 140 _ rfl, o 90 _ rfl]; exact g6 p hp
  · rw [o 90 _ rfl]; exact g7 p hp
theorem brw_pos {N : Nat} (h3 : 3 ≤ N) {kd sk : Nat → Nat} {seed : Int32} {fr : Nat} {F : Nat → Nat → Nat} {sl0 : Nat → Nat} (i : Nat) : 1 ≤ (brw N kd sk seed fr F sl0 i).2.2.2.2.1 ∧ (brw N kd sk seed fr F sl0 i).2.2.2.2.1 ≤ N := by
  have h := rst_pl (N := N) (kd := kd) (sk := sk) (seed := seed) (r := fr + i) (f := F (fr + i)) (sl0 := (bst N kd sk seed fr F sl0 i).1) (cl0 := (bst N kd sk seed fr F sl0 i).2.1) N
  refine ⟨?_, h.1⟩
  show 1 ≤ (rst N kd sk seed (fr + i) (F (fr + i)) (bst N kd sk seed fr F sl0 i).1 (bst N kd sk seed fr F sl0 i).2.1 N).2.2.2.2.1
  cases he : (rst N kd sk seed (fr + i) (F (fr + i)) (bst N kd sk seed fr F sl0 i).1 (bst N kd sk seed fr F sl0 i).2.1 N).2.2.2.1 with
  | false => rw [h.2.1 he]; omega
  | true => exact h.2.2 he
theorem ring_of {N : Nat} (h3 : 3 ≤ N) (hN : N ≤ 8) {kd sk : Nat → Nat} (hK : KS kd sk) {seed : Int32} {fr : Nat} {F : Nat → Nat → Nat} {sl0 : Nat → Nat} {M K : Nat} (hM : ∀ b, sl0 b ≤ M) (hM2 : M ≤ 2 ^ 21) (hKr : K ≤ 400) (hfr : fr + K ≤ 2001) (hrow : ∀ k, k < K → IsRow N (F (fr + k))) {w : Wd} (hC : CB w N kd sk seed fr F sl0 K) (hm : MB w N kd sk seed fr F sl0 K) (h47 : gI w 108 47 = 1) : secRg w N := by
  obtain ⟨-, c2, c3, c4, c5, c6, c7⟩ := hC
  obtain ⟨-, m2, m3, m4, m5, m6⟩ := hm
  refine ⟨K, hKr, c2, m2, c3.trans m3.symm, c4.trans m4.symm, c5.trans m5.symm, fun h => absurd (h47.symm.trans h) (by decide), fun i => (brw N kd sk seed fr F sl0 i).2.2.2.2.1, fun i => F (fr + i), c6, fun i => (brw_pos h3 i).2, fun i hi => ?_⟩
  obtain ⟨x1, x2, x3⟩ := c7 i hi
  obtain ⟨y1, y2⟩ := m6 i hi
  have hb := brw_pos (kd := kd) (sk := sk) (seed := seed) (fr := fr) (F := F) (sl0 := sl0) h3 i
  refine ⟨hrow i hi, hb.1, x1, y1, x2, fun p hp => ?_, fun p hp => ?_⟩
  · rw [y2 p hp]
    by_cases e : p < (brw N kd sk seed fr F sl0 i).2.2.2.2.1
    · rw [if_pos e, if_pos e, x3 p e]
    · rw [if_neg e, if_neg e]
  · rw [x3 p hp]
    have hpN : p < N := Nat.lt_of_lt_of_le hp hb.2
    obtain ⟨sl, e1, e2⟩ := rst_tt (N := N) (kd := kd) (sk := sk) (seed := seed) (r := fr + i) (f := F (fr + i)) (sl0 := (bst N kd sk seed fr F sl0 i).1) (cl0 := (bst N kd sk seed fr F sl0 i).2.1) N p hpN hp
    obtain ⟨b1, b2, b3⟩ := bst_bd (N := N) (kd := kd) (sk := sk) (seed := seed) (fr := fr) (F := F) hM i
    have h4 := rst_sl (N := N) (kd := kd) (sk := sk) (seed := seed) (r := fr + i) (f := F (fr + i)) (cl0 := (bst N kd sk seed fr F sl0 i).2.1) b1 p (F (fr + i) p + 1)
    have hNk : N * i ≤ 8 * 400 := Nat.mul_le_mul hN (by omega)
    have := hb.2
    show _ ≤ ((rst N kd sk seed (fr + i) (F (fr + i)) (bst N kd sk seed fr F sl0 i).1 (bst N kd sk seed fr F sl0 i).2.1 N).2.2.2.2.2 p).toInt
    rw [e1]
    exact tmb_bd hN seed (by omega) (by omega) (hK _).2 (by rw [e2]; omega)
/-- whether someone leads -/
theorem m_leads {N : Nat} (h3 : 3 ≤ N) (hN : N ≤ 8) {kd sk sl : Nat → Nat} (hK : KS kd sk) {w : Wd} (hW : Fix w) (hn : gI w 108 0 = nI N) (hR : RgM w kd sk sl) (d : Nat) (seed fr rows : Int32) :
    val (227, d + 1, 40, [some (.ref 108), some (.int seed), some (.int fr), some (.int rows), some (.int 0), some (.int 1), none, none, none, none, none, none, none], [], w) = val (227, d + 1, 115, [some (.ref 108), some (.int seed), some (.int fr), some (.int rows), some (.int (if cdr kd N = true then 1 else 0)), some (.int 0), some (.int 0), none, none, none, none, none, none], [], (sI (sI (sI (sI (sI (sI w 108 47 1) 108 48 fr) 108 49 0) 108 50 0) 108 51 0) 108 52 (-9))) := by
  refine loopUp (α := Unit) (c := fun k _ => (227, d + 1, 40, [some (.ref 108), some (.int seed), some (.int fr), some (.int rows), some (.int (if cdr kd k = true then 1 else 0)), some (.int (nI (k + 1))), none, none, none, none, none, none, none], [], w)) (P := fun _ _ => True) (R := fun r => r = val (227, d + 1, 115, [some (.ref 108), some (.int seed), some (.int fr), some (.int rows), some (.int (if cdr kd N = true then 1 else 0)), some (.int 0), some (.int 0), none, none, none, none, none, none], [], (sI (sI (sI (sI (sI (sI w 108 47 1) 108 48 fr) 108 49 0) 108 50 0) 108 51 0) 108 52 (-9)))) (N := N) ?_ ?_ () trivial
  · intro _ _
    refine (tr_227_40 d w hW _ _ _ _ _ (fun h => absurd (by rw [hn]; exact n_lt (Nat.lt_succ_self N) (by omega)) h)).trans ?_
    rw [hn, if_pos (n_lt (Nat.lt_succ_self N) (by omega))]
  · intro k _ hk _
    refine Or.inr ⟨(), ?_, trivial⟩
    refine (tr_227_40 d w hW _ _ _ _ _ (by intros; exact inB_nI (by omega) (by omega))).trans ?_
    obtain ⟨e1, -, -⟩ := hR (k + 1) (by omega) (by omega)
    have hk4 := (hK (k + 1)).1
    rw [hn, if_neg (n_nlt (show k + 1 ≤ N by omega) (by omega)), nI_clamp (n := k + 1) (by omega), e1, n_succ]
    have eq : cdr kd (k + 1) = (cdr kd k || decide (3 ≤ kd (k + 1))) := rfl
    cases hc : cdr kd k with
    | true =>
      rw [hc] at eq
      rw [if_pos (by rw [if_pos rfl]; decide), if_pos (show cdr kd (k + 1) = true by rw [eq]; rfl)]
    | false =>
      rw [hc, Bool.false_or] at eq
      rw [if_neg (by rw [if_neg (by decide)]; decide)]
      by_cases h : 3 ≤ kd (k + 1)
      · rw [if_neg (show ¬ nI (kd (k + 1)) ≤ 2 from n_nle (b := 2) (by omega) (by omega)), if_pos (show cdr kd (k + 1) = true by rw [eq]; exact decide_eq_true h)]
      · rw [if_pos (show nI (kd (k + 1)) ≤ 2 from n_le (b := 2) (by omega) (by omega)), if_neg (show ¬ cdr kd (k + 1) = true by rw [eq]; exact fun hh => h (of_decide_eq_true hh))]
theorem m_leads0 {kd : Nat → Nat} : (if cdr kd 0 = true then (1 : Int32) else 0) = 0 := rfl
abbrev FBm2 : List (Nat × Option Nat) := [(108, some 47), (108, some 48), (108, some 49), (108, some 50), (108, some 51), (108, some 52), (126, none), (139, none), (140, none), (144, none)]
theorem CB.fr {S : List (Nat × Option Nat)} {N : Nat} {kd sk : Nat → Nat} {seed : Int32} {fr : Nat} {F : Nat → Nat → Nat} {sl0 : Nat → Nat} {k : Nat} {w v : Wd} (h : CB w N kd sk seed fr F sl0 k) (hf : Fr S w v) (hs : dj S [(84, some 6), (84, some 7), (84, some 8), (84, some 9), (84, some 10), (85, none), (86, none), (87, none), (88, none), (89, none), (90, none)] = true) : CB v N kd sk seed fr F sl0 k := by
  obtain ⟨c1, c2, c3, c4, c5, c6, c7⟩ := h
  refine ⟨c1.eq (fun c => hf.i 85 c (dj_off hs rfl)) (fun c => hf.i 86 c (dj_off hs rfl)) (fun c => hf.i 87 c (dj_off hs rfl)), (hf.i 84 7 (dj_off hs rfl)).trans c2, (hf.i 84 8 (dj_off hs rfl)).trans c3, (hf.i 84 9 (dj_off hs rfl)).trans c4, (hf.i 84 10 (dj_off hs rfl)).trans c5, (hf.i 84 6 (dj_off hs rfl)).trans c6, fun i hi => ?_⟩
  obtain ⟨x1, x2, x3⟩ := c7 i hi
  exact ⟨(hf.i 88 i (dj_off hs rfl)).trans x1, (hf.i 89 i (dj_off hs rfl)).trans x2, fun p hp => (hf.i 90 _ (dj_off hs rfl)).trans (x3 p hp)⟩
theorem a_band {N c : Nat} {w : Wd} (hW : Fix w) (hBl : Bl w N) (hV : secV w N) (hB : secB w c) (hc : c ≤ 512) (hR : secRg w N) (d : Nat) (seed x y : Int32) : ∃ r w1 w2, val (28, d + 3, 0, [some (.ref 64), some (.int seed), some (.int x), some (.int y), none, none], [], w) = some (some (.int r), w1) ∧ val (227, d + 3, 0, [some (.ref 108), some (.int seed), some (.int x), some (.int y), none, none, none, none, none, none, none, none, none], [], w1) = some (some (.int r), w2) ∧ Fr FBc w w1 ∧ Fr FBm2 w1 w2 ∧ secB w2 (c + 1) ∧ secRg w2 N := by
  have bad : ∀ q1 : val (28, d + 3, 0, [some (.ref 64), some (.int seed), some (.int x), some (.int y), none, none], [], w) = some (some (.int (-1)), w), val (227, d + 3, 0, [some (.ref 108), some (.int seed), some (.int x), some (.int y), none, none, none, none, none, none, none, none, none], [], w) = some (some (.int (-1)), w) → ∃ r w1 w2, val (28, d + 3, 0, [some (.ref 64), some (.int seed), some (.int x), some (.int y), none, none], [], w) = some (some (.int r), w1) ∧ val (227, d + 3, 0, [some (.ref 108), some (.int seed), some (.int x), some (.int y), none, none, none, none, none, none, none, none, none], [], w1) = some (some (.int r), w2) ∧ Fr FBc w w1 ∧ Fr FBm2 w1 w2 ∧ secB w2 (c + 1) ∧ secRg w2 N :=
    fun q1 q2 => ⟨-1, w, w, q1, q2, Fr.refl _ _, Fr.refl _ _, hB.mono (Nat.le_succ c), hR⟩
  by_cases y1 : y < 1
  · refine bad ((tr_28 d w hW _ _ _).trans ?_) ((tr_227 (d + 2) w _ _ _).trans ?_)
    · rw [if_pos y1]
    · rw [if_pos y1]
  by_cases y4 : 400 < y
  · refine bad ((tr_28 d w hW _ _ _).trans ?_) ((tr_227 (d + 2) w _ _ _).trans ?_)
    · rw [if_neg y1, if_pos y4]
    · rw [if_neg y1, if_pos y4]
  obtain ⟨R, hR31, rfl⟩ := i_nat (v := y) (fun h => y1 (Int32.lt_trans h (by decide)))
  have hR1 : 1 ≤ R := by
    rcases Nat.eq_zero_or_pos R with h | h
    · subst h; exact absurd (by decide) y1
    · exact h
  have hR4 : R ≤ 400 := by
    have := mt (n_lt_iff (a := 400) (by omega) hR31).mpr y4
    omega
  have c0 : val (28, d + 3, 0, [some (.ref 64), some (.int seed), some (.int x), some (.int (nI R)), none, none], [], w) = val (28, d + 3, 18, [some (.ref 64), some (.int seed), some (.int x), some (.int (nI R)), none, none], [.int (nI R), .int x, .ref 67], w) := by
    refine (tr_28 d w hW _ _ _).trans ?_
    rw [if_neg y1, if_neg y4]
  have m0 : val (227, d + 3, 0, [some (.ref 108), some (.int seed), some (.int x), some (.int (nI R)), none, none, none, none, none, none, none, none, none], [], w) = val (227, d + 3, 14, [some (.ref 108), some (.int seed), some (.int x), some (.int (nI R)), none, none, none, none, none, none, none, none, none], [.int x, .ref 108], w) := by
    refine (tr_227 (d + 2) w _ _ _).trans ?_
    rw [if_neg y1, if_neg y4]
  rcases hV with hV | ⟨S, F, hV⟩
  · refine bad (c0.trans ?_) (m0.trans ?_)
    · refine (val_call (pc2 := 21) rfl rfl rfl rfl (rcvO hW.k67 (by decide)) (Nat.le_of_ble_eq_true rfl) (Nat.le_of_ble_eq_true rfl) rfl (c_hasOff (d + 1) hW hV x (nI R)) rfl).trans ?_
      refine (tr_28_21 d w hW _ _ _ _).trans ?_
      rw [if_neg (by decide)]
    · refine (val_call (pc2 := 17) rfl rfl rfl rfl (hW.rc _) (Nat.le_of_ble_eq_true rfl) (Nat.le_of_ble_eq_true rfl) rfl (m_isAtOff (d + 2) hW hV x) rfl).trans ?_
      refine (tr_227_17 (d + 2) w hW _ _ _ _).trans ?_
      rw [if_pos rfl]
  have hV2 := hV
  obtain ⟨-, -, s1, s2, s3, s4⟩ := hV2
  by_cases hin : 0 ≤ x.toInt ∧ x.toInt + R ≤ S + 1
  · obtain ⟨V, hv, rfl, hv2⟩ := i_of hin.1
    obtain ⟨h3, hN, hn, hm⟩ := id hBl
    obtain ⟨kd, sk, sl, hK, rC, rM, hsl⟩ := hB
    have hM2 : 3200 * c ≤ 2 ^ 21 := by omega
    obtain ⟨K, k1, k2, k3⟩ := first_at (fun k => (bst N kd sk seed V F sl (k + 1)).2.2.2.2) R
    have hrow : ∀ k, k < R → IsRow N (F (V + k)) ∧ gI w 68 (V + k) = nI (pkN N (F (V + k))) := fun k hk => by
      obtain ⟨g1, g2, -⟩ := s4 (V + k) (by omega)
      exact ⟨g1, g2⟩
    have f1 : Fr FBc w (sI (sI (sI (sI (sI w 84 6 0) 84 7 0) 84 8 0) 84 9 0) 84 10 (-9)) := (((((Fr.refl _ w).sI 84 6 _ rfl).sI 84 7 _ rfl).sI 84 8 _ rfl).sI 84 9 _ rfl).sI 84 10 _ rfl
    have hW1 := f1.fix rfl hW
    have cb0 : CB (sI (sI (sI (sI (sI w 84 6 0) 84 7 0) 84 8 0) 84 9 0) 84 10 (-9)) N kd sk seed V F sl 0 := by
      refine ⟨rC.eq (fun c => f1.i 85 c rfl) (fun c => f1.i 86 c rfl) (fun c => ?_), ?_, ?_, ?_, ?_, ?_, fun i hi => absurd hi (Nat.not_lt_zero i)⟩
      · rw [gI_ne _ _ _ _ (by decide), gI_ne _ _ _ _ (by decide), gI_ne _ _ _ _ (by decide), gI_ne _ _ _ _ (by decide), gI_ne _ _ _ _ (by decide)]
      · rw [gI_nk _ _ _ (by decide), gI_nk _ _ _ (by decide), gI_nk _ _ _ (by decide), gI_same]; rfl
      · rw [gI_nk _ _ _ (by decide), gI_nk _ _ _ (by decide), gI_same]; rfl
      · rw [gI_nk _ _ _ (by decide), gI_same]; rfl
      · rw [gI_same]; rfl
      · rw [gI_nk _ _ _ (by decide), gI_nk _ _ _ (by decide), gI_nk _ _ _ (by decide), gI_nk _ _ _ (by decide), gI_same]; rfl
    obtain ⟨w1, e1, e2, e3⟩ := c_bandL (K := K) (rows := R) h3 hN hK hsl hM2 hR4 (by omega) k1 k2 k3 hW1 ((f1.i 64 0 rfl).trans hn) (fun k hk => ⟨(hrow k hk).1, (f1.i 68 _ rfl).trans (hrow k hk).2⟩) cb0 d
    have fw1 := f1.trans e3
    have hWw1 := fw1.fix rfl hW
    have hm1 := (fw1.i 108 0 rfl).trans hm
    have hV1 := hV.fr fw1 rfl
    have rM1 : RgM w1 kd sk sl := rM.eq (fun c => fw1.i 137 c rfl) (fun c => fw1.i 138 c rfl) (fun c => fw1.i 139 c rfl)
    have f2 : Fr FBm2 w1 (sI (sI (sI (sI (sI (sI w1 108 47 1) 108 48 (nI V)) 108 49 0) 108 50 0) 108 51 0) 108 52 (-9)) := ((((((Fr.refl _ w1).sI 108 47 _ rfl).sI 108 48 _ rfl).sI 108 49 _ rfl).sI 108 50 _ rfl).sI 108 51 _ rfl).sI 108 52 _ rfl
    have hW2 := f2.fix rfl hWw1
    have mb0 : MB (sI (sI (sI (sI (sI (sI w1 108 47 1) 108 48 (nI V)) 108 49 0) 108 50 0) 108 51 0) 108 52 (-9)) N kd sk seed V F sl 0 := by
      refine ⟨rM1.eq (fun c => ?_) (fun c => ?_) (fun c => ?_), ?_, ?_, ?_, ?_, fun i hi => absurd hi (Nat.not_lt_zero i)⟩
      · exact f2.i 137 c rfl
      · exact f2.i 138 c rfl
      · rw [gI_ne _ _ _ _ (by decide), gI_ne _ _ _ _ (by decide), gI_ne _ _ _ _ (by decide), gI_ne _ _ _ _ (by decide), gI_ne _ _ _ _ (by decide), gI_ne _ _ _ _ (by decide)]
      · rw [gI_nk _ _ _ (by decide), gI_nk _ _ _ (by decide), gI_nk _ _ _ (by decide), gI_same]; rfl
      · rw [gI_nk _ _ _ (by decide), gI_nk _ _ _ (by decide), gI_same]; rfl
      · rw [gI_nk _ _ _ (by decide), gI_same]; rfl
      · rw [gI_same]; rfl
    have hrow1 : ∀ k, k < R → IsRow N (F (V + k)) ∧ gI w1 127 (V + k) = nI (dcN N (F (V + k))) := fun k hk => by
      obtain ⟨g1, -, g3⟩ := s4 (V + k) (by omega)
      exact ⟨g1, (fw1.i 127 _ rfl).trans g3⟩
    obtain ⟨w2, e4, e5, e6⟩ := m_bandL (K := K) (rows := R) h3 hN hK hsl hM2 hR4 (by omega) k1 k2 k3 hW2 ((f2.i 108 0 rfl).trans hm1) (fun k hk => ⟨(hrow1 k hk).1, (f2.i 127 _ rfl).trans (hrow1 k hk).2⟩) mb0 (d + 2)
    have h47 : gI w2 108 47 = 1 := by
      exact (e6.i 108 47 rfl).trans (by rw [gI_nk _ _ _ (by decide), gI_nk _ _ _ (by decide), gI_nk _ _ _ (by decide), gI_nk _ _ _ (by decide), gI_nk _ _ _ (by decide), gI_same])
    refine ⟨(if K = R then nI R else -10 - nI K), w1, w2, ?_, ?_, fw1, f2.trans (e6.mono rfl), ?_, ?_⟩
    · refine c0.trans ?_
      refine (val_call (pc2 := 21) rfl rfl rfl rfl (rcvO hW.k67 (by decide)) (Nat.le_of_ble_eq_true rfl) (Nat.le_of_ble_eq_true rfl) rfl (c_has (d + 1) hW hV (nI V) (c := R) hR1 (by omega)) rfl).trans ?_
      refine (tr_28_21 d w hW _ _ _ _).trans ?_
      rw [if_pos (by rw [if_pos hin]; decide)]
      refine (val_call (pc2 := 33) rfl rfl rfl rfl (rcvO hW.k84 (by decide)) (Nat.le_of_ble_eq_true rfl) (Nat.le_of_ble_eq_true rfl) rfl (tr_51 (d + 2) w hW) rfl).trans ?_
      refine (tr_28_33 d _ _ _ _).trans ?_
      exact e1
    · have m1 : val (227, d + 3, 0, [some (.ref 108), some (.int seed), some (.int (nI V)), some (.int (nI R)), none, none, none, none, none, none, none, none, none], [], w1) = val (227, d + 3, 14, [some (.ref 108), some (.int seed), some (.int (nI V)), some (.int (nI R)), none, none, none, none, none, none, none, none, none], [.int (nI V), .ref 108], w1) := by
        refine (tr_227 (d + 2) w1 _ _ _).trans ?_
        rw [if_neg y1, if_neg y4]
      refine m1.trans ?_
      refine (val_call (pc2 := 17) rfl rfl rfl rfl (hWw1.rc _) (Nat.le_of_ble_eq_true rfl) (Nat.le_of_ble_eq_true rfl) rfl (m_isAt (d + 2) hWw1 hV1 (nI V)) rfl).trans ?_
      refine (tr_227_17 (d + 2) w1 hWw1 _ _ _ _).trans ?_
      rw [if_neg (by rw [if_pos (by omega)]; decide), (fw1.i 108 29 rfl).trans s3, n_succ, n_sub (by omega), if_pos (n_le (show V ≤ S + 1 - R by omega) (by omega))]
      exact (m_leads h3 hN hK hWw1 hm1 rM1 (d + 2) seed (nI V) (nI R)).trans e4
    · have hlim : ∀ b, (bst N kd sk seed V F sl (if K = R then K else K + 1)).1 b ≤ 3200 * (c + 1) := by
        intro b
        have h1 := (bst_bd (N := N) (kd := kd) (sk := sk) (seed := seed) (fr := V) (F := F) hsl (if K = R then K else K + 1)).1 b
        have h2 : N * (if K = R then K else K + 1) ≤ 8 * 400 := Nat.mul_le_mul hN (by split <;> omega)
        omega
      refine ⟨kd, sk, _, hK, e2.1.eq (fun c => ?_) (fun c => ?_) (fun c => ?_), e5.1, hlim⟩
      · exact (f2.trans (e6.mono rfl)).i 85 c rfl
      · exact (f2.trans (e6.mono rfl)).i 86 c rfl
      · exact (f2.trans (e6.mono rfl)).i 87 c rfl
    · have hK4 : (if K = R then K else K + 1) ≤ R := by split <;> omega
      refine ring_of h3 hN hK hsl hM2 (K := if K = R then K else K + 1) (by omega) (by omega) (fun k hk => (hrow k (by omega)).1) (w := w2) ?_ e5 h47
      exact e2.fr (f2.trans (e6.mono rfl)) rfl
  · refine bad (c0.trans ?_) (m0.trans ?_)
    · refine (val_call (pc2 := 21) rfl rfl rfl rfl (rcvO hW.k67 (by decide)) (Nat.le_of_ble_eq_true rfl) (Nat.le_of_ble_eq_true rfl) rfl (c_has (d + 1) hW hV x (c := R) hR1 (by omega)) rfl).trans ?_
      refine (tr_28_21 d w hW _ _ _ _).trans ?_
      rw [if_neg (by rw [if_neg hin]; decide)]
    · refine (val_call (pc2 := 17) rfl rfl rfl rfl (hW.rc _) (Nat.le_of_ble_eq_true rfl) (Nat.le_of_ble_eq_true rfl) rfl (m_isAt (d + 2) hW hV x) rfl).trans ?_
      refine (tr_227_17 (d + 2) w hW _ _ _ _).trans ?_
      by_cases hat : 0 ≤ x.toInt ∧ x.toInt ≤ S
      · obtain ⟨V, hv, rfl, hv2⟩ := i_of hat.1
        rw [if_pos hat, if_neg (by decide), s3, n_succ, if_neg]
        intro hh
        rw [Int32.le_iff_toInt_le, n_subI (by omega) (by omega)] at hh
        omega
      · rw [if_neg hat, if_pos rfl]
