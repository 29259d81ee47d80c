/-! CALL: listen, in both -/
theorem i_never {x : Int32} (h : -15 ≤ x.toInt) : ¬ x = -1000000 := by
  intro e
  rw [e, show (-1000000 : Int32).toInt = -1000000 by decide] at h
  omega
section LISTEN
variable {N C : Nat} {T bl : Nat → Nat}
/-- the reference counts the blows of a row -/
theorem lp_233b (d : Nat) (hN8 : N ≤ 8) {w : Wd} (hW : Fix w) (hn : gI w 108 0 = nI N) {k : Nat} (hk : k < 400) {P : Nat → Bool} (hP : ∀ b, b < N → P b = decide (¬ gI w 140 (9 * k + (b + 1)) = -1000000)) (B0 : Nat) (n : Nat) : ∀ (b : Nat), b + n = N → val (233, d + 1, 14, [some (.ref 108), some (.int (nI (B0 + cn P b))), some (.int (nI k)), some (.int (nI (b + 1))), none], [], w) = val (233, d + 1, 4, [some (.ref 108), some (.int (nI (B0 + cn P N))), some (.int (nI (k + 1))), some (.int (nI (N + 1))), none], [], w) := by
  induction n with
  | zero =>
    intro b hb
    have e : b = N := hb
    subst e
    have hlt : gI w 108 0 < nI (b + 1) := by rw [hn]; exact n_lt (by omega) (by omega)
    refine (tr_233_14 d w hW _ _ _ (fun h => absurd hlt h)).trans ?_
    rw [if_pos hlt, n_succ]
  | succ n ih =>
    intro b hb
    have hlt : ¬ gI w 108 0 < nI (b + 1) := by rw [hn]; exact n_nlt (by omega) (by omega)
    have i9 : (9 : Int32) * nI k + nI (b + 1) = nI (9 * k + (b + 1)) := by
      rw [show (9 : Int32) = nI 9 from rfl, n_mul, n_add]
    have i9c : (nI (9 * k + (b + 1))).toNatClampNeg = 9 * k + (b + 1) := nI_clamp (by omega)
    have hc : cn P (b + 1) = cn P b + (P b).toNat := rfl
    have hcl := cn_le P b
    refine (tr_233_14 d w hW _ _ _ (fun _ => by rw [i9]; exact inB_nI (by omega) (by omega))).trans ?_
    rw [if_neg hlt, i9, i9c, n_succ]
    have hPb := hP b (by omega)
    by_cases c : gI w 140 (9 * k + (b + 1)) = -1000000
    · rw [if_pos c]
      have h0 : P b = false := by rw [hPb]; exact decide_eq_false (fun h => h c)
      have e0 : nI (B0 + cn P b) + 0 = nI (B0 + cn P (b + 1)) := by
        rw [hc, h0]
        exact n_add _ 0
      rw [e0]
      exact ih (b + 1) (by omega)
    · rw [if_neg c]
      have h0 : P b = true := by rw [hPb]; exact decide_eq_true c
      have e0 : nI (B0 + cn P b) + 1 = nI (B0 + cn P (b + 1)) := by
        rw [hc, h0, n_succ]
        rfl
      rw [e0]
      exact ih (b + 1) (by omega)
theorem cn_blows {m : Nat} {G : Nat → Nat} (hG : IsRow N G) (hm : m ≤ N) {P : Nat → Bool} (h : ∀ p, p < N → P (G p) = decide (p < m)) : cn P N = m := by
  rw [← cn_perm hG, cn_congr N h, cn_below m N hm]
/-- the reference counts all blows -/
theorem lp_233a (d : Nat) (hN8 : N ≤ 8) {w : Wd} (hW : Fix w) (hn : gI w 108 0 = nI N) {bg : Nat} (hbg : bg ≤ 400) (h49 : gI w 108 49 = nI bg) {m : Nat → Nat} {G : Nat → Nat → Nat} (hG : ∀ k, k < bg → IsRow N (G k)) (hm : ∀ k, m k ≤ N) (h140 : ∀ k, k < bg → ∀ p, p < N → (gI w 140 (9 * k + (G k p + 1)) = -1000000 ↔ ¬ p < m k)) (n : Nat) : ∀ (k : Nat) (l3 : Option Value), k + n = bg → ∃ l3', val (233, d + 1, 4, [some (.ref 108), some (.int (nI (sm m k))), some (.int (nI k)), l3, none], [], w) = if gI w 108 54 + nI (sm m bg) ≤ 300 then val (233, d + 1, 76, [some (.ref 108), some (.int (nI (sm m bg))), some (.int 0), l3', none], [], w) else some (some (.int (-3)), w) := by
  induction n with
  | zero =>
    intro k l3 hk
    have e : k = bg := hk
    subst e
    refine ⟨l3, ?_⟩
    refine (tr_233_4 d w hW _ _ _).trans ?_
    rw [h49, if_pos (Int32.le_refl _)]
  | succ n ih =>
    intro k l3 hk
    obtain ⟨l3', hl⟩ := ih (k + 1) (some (.int (nI (N + 1)))) (by omega)
    refine ⟨l3', ?_⟩
    refine (tr_233_4 d w hW _ _ _).trans ?_
    rw [h49, if_neg (n_nle (by omega) (by omega))]
    have hb := lp_233b d hN8 hW hn (k := k) (by omega) (P := fun b => decide (¬ gI w 140 (9 * k + (b + 1)) = -1000000)) (fun _ _ => rfl) (sm m k) N 0 (by omega)
    have hcnt : cn (fun b => decide (¬ gI w 140 (9 * k + (b + 1)) = -1000000)) N = m k := cn_blows (hG k (by omega)) (hm k) (fun p hp => by
      have := h140 k (by omega) p hp
      by_cases c : p < m k
      · rw [decide_eq_true c]
        exact decide_eq_true (fun h => (this.mp h) c)
      · rw [decide_eq_false c]
        exact decide_eq_false (fun h => h (this.mpr c)))
    rw [hcnt] at hb
    exact hb.trans hl
abbrev FLs : List (Nat × Option Nat) := [(126, none), (108, some 54), (141, none), (142, none)]
/-- the reference: one row -/
theorem lp_233d (d : Nat) (h3 : 3 ≤ N) (hN8 : N ≤ 8) {k M C0 : Nat} {G : Nat → Nat} (hk : k < 400) (hG : IsRow N G) (hM : M ≤ N) (hC0 : C0 + M ≤ 300) (l1 : Int32) {τ : Nat → Int32} (n : Nat) : ∀ (p : Nat) (w : Wd) (l4 : Option Value), p + n = N → Fix w → gI w 108 0 = nI N → gI w 144 k = nI (dcN N G) → (∀ p, p < N → gI w 140 (9 * k + (G p + 1)) = if p < M then τ p else -1000000) → (∀ p, p < M → -15 ≤ (τ p).toInt) → NM w (C0 + min p M) (rT T C0 (fun p => secs (τ p)) (min p M)) (rT bl C0 (fun p => G p + 1) (min p M)) → ∃ w' l3' l4', val (233, d + 1, 86, [some (.ref 108), some (.int l1), some (.int (nI k)), some (.int (nI (p + 1))), l4], [], w) = val (233, d + 1, 76, [some (.ref 108), some (.int l1), some (.int (nI (k + 1))), l3', l4'], [], w') ∧ Fr FLs w w' ∧ NM w' (C0 + M) (rT T C0 (fun p => secs (τ p)) M) (rT bl C0 (fun p => G p + 1) M) := by
  have ik : (nI k).toNatClampNeg = k := nI_clamp (by omega)
  induction n with
  | zero =>
    intro p w l4 hp hW hn h144 h140 h15 hm
    have e : p = N := hp
    subst e
    rw [Nat.min_eq_right hM] at hm
    refine ⟨w, some (.int (nI (p + 1))), l4, ?_, Fr.refl _ _, hm⟩
    have hlt : gI w 108 0 < nI (p + 1) := by rw [hn]; exact n_lt (by omega) (by omega)
    refine (tr_233_86 d w hW _ _ _ _ (fun h => absurd hlt h)).trans ?_
    rw [if_pos hlt, n_succ]
  | succ n ih =>
    intro p w l4 hp hW hn h144 h140 h15 hm
    have hlt : ¬ gI w 108 0 < nI (p + 1) := by rw [hn]; exact n_nlt (by omega) (by omega)
    obtain ⟨w1, r1, f1, g126⟩ := m_into h3 hN8 (v := gI w 144 k) (f := G) ⟨hG, h144⟩ d 126 (by decide) (by decide) hW (hW.k 126 (by omega) (by omega)) hn
    have hW1 := f1.fix rfl hW
    have hm1 := hm.fa f1.a rfl
    have ip : (nI (p + 1)).toNatClampNeg = p + 1 := nI_clamp (by omega)
    have hgp := hG.1 p (by omega)
    have hb : gI w1 126 (p + 1) = nI (G p + 1) := g126 p (by omega)
    have i9 : (9 : Int32) * nI k + nI (G p + 1) = nI (9 * k + (G p + 1)) := by
      rw [show (9 : Int32) = nI 9 from rfl, n_mul, n_add]
    have i9c : (nI (9 * k + (G p + 1))).toNatClampNeg = 9 * k + (G p + 1) := nI_clamp (by omega)
    have h140' : gI w1 140 (9 * k + (G p + 1)) = if p < M then τ p else -1000000 := (f1.i 140 _ rfl).trans (h140 p (by omega))
    have base : val (233, d + 1, 86, [some (.ref 108), some (.int l1), some (.int (nI k)), some (.int (nI (p + 1))), l4], [], w) = val (233, d + 1, 108, [some (.ref 108), some (.int l1), some (.int (nI k)), some (.int (nI (p + 1))), l4], [.int 1], w1) := by
      refine (tr_233_86 d w hW _ _ _ _ (fun _ => by exact inB_nI hk (by omega))).trans ?_
      rw [if_neg hlt, ik]
      refine (val_call (pc2 := 108) rfl rfl rfl rfl (hW.rc _) (Nat.le_of_ble_eq_true rfl) (Nat.le_of_ble_eq_true rfl) rfl r1 rfl).trans ?_
      rfl
    by_cases c : p < M
    · rw [if_pos c] at h140'
      have hne := i_never (h15 p c)
      have hmin : min p M = p := Nat.min_eq_left (by omega)
      have hmin1 : min (p + 1) M = p + 1 := Nat.min_eq_left (by omega)
      rw [hmin] at hm1
      have h54 : gI w1 108 54 = nI (C0 + p) := hm1.1
      have i54 : (nI (C0 + p)).toNatClampNeg = C0 + p := nI_clamp (by omega)
      have hs := secs_num (τ p)
      have hf : Rl (Jvm.FP.Core.fromInt Jvm.FP.Core.b64 (τ p).toInt) := fi_rl
      have hdiv : FP.ddiv (FP.i2d (τ p)) 4652007308841189376 = UInt64.ofNat (secs (τ p)) := by
        have h1 : FP.i2d (τ p) = UInt64.ofNat (Jvm.FP.Core.fromInt Jvm.FP.Core.b64 (τ p).toInt) := rfl
        rw [h1]
        refine (u_div (b := 4652007308841189376) hf.1 (by decide)).trans ?_
        unfold secs
        rw [num_1000]
      obtain ⟨w2, hw2⟩ : ∃ z, z = sI w1 141 (C0 + p) (nI (G p + 1)) := ⟨_, rfl⟩
      obtain ⟨w3, hw3⟩ : ∃ z, z = sI (sD w2 142 (C0 + p) (UInt64.ofNat (secs (τ p)))) 108 54 (nI (C0 + p + 1)) := ⟨_, rfl⟩
      have f3 : Fr FLs w w3 := by
        rw [hw3, hw2]
        exact ((((f1.mono rfl : Fr FLs w w1)).sI 141 _ _ rfl).sD 142 _ _ rfl).sI 108 54 _ rfl
      have hW3 := f3.fix rfl hW
      have g140 : gI w2 140 (9 * k + (G p + 1)) = τ p := by
        rw [hw2, gI_ne _ _ _ _ (by decide)]
        exact h140'
      have g54 : gI w2 108 54 = nI (C0 + p) := by
        rw [hw2, gI_ne _ _ _ _ (by decide)]
        exact h54
      have hm3 : NM w3 (C0 + p + 1) (rT T C0 (fun p => secs (τ p)) (p + 1)) (rT bl C0 (fun p => G p + 1) (p + 1)) := by
        refine hm1.add ?_ (fun i => ?_) (fun i => ?_)
        · rw [hw3, gI_same]
        · rw [hw3, gI_ne _ _ _ _ (by decide)]
          show gI w2 141 i = _
          rw [hw2]
          by_cases ci : i = C0 + p
          · rw [if_pos ci, ci, gI_same]
          · rw [if_neg ci, gI_nk _ _ _ ci]
        · rw [hw3]
          show gD (sD w2 142 (C0 + p) (UInt64.ofNat (secs (τ p)))) 142 i = _
          by_cases ci : i = C0 + p
          · rw [if_pos ci, ci, gD_same, cn_num hs.2]
          · rw [if_neg ci, gD_nk _ _ _ ci, hw2]
            rfl
      obtain ⟨w', l3', l4', e1, e2, e3⟩ := ih (p + 1) w3 (some (.int (nI (G p + 1)))) (by omega) hW3 ((f3.i 108 0 rfl).trans hn) ((f3.i 144 k rfl).trans h144) (fun q hq => (f3.i 140 _ rfl).trans (h140 q hq)) h15 (by rw [hmin1]; exact hm3)
      refine ⟨w', l3', l4', base.trans ?_, f3.trans e2, e3⟩
      have e108 := tr_233_108 d w1 hW1 l1 (nI k) (nI (p + 1)) 1 l4 (inB_nI (by omega) (by omega)) (by rw [ip, hb, i9]; exact inB_nI (by omega) (by omega)) (fun _ => by rw [h54]; exact inB_nI (by omega) (by omega)) (fun _ => by rw [ip, hb, i9]; exact inB_nI (by omega) (by omega)) (fun _ => by
        rw [ip, hb, i9, i9c, h54, i54, ← hw2, g140, hdiv]
        exact nN_num hs) (fun _ => by rw [ip, hb, h54, i54, ← hw2, g54]; exact inB_nI (by omega) (by omega))
      rw [ip, hb, i9, i9c, h54, i54, ← hw2, g140, g54, i54, hdiv, h140', if_neg hne] at e108
      have g54' : gI (sD w2 142 (C0 + p) (UInt64.ofNat (secs (τ p)))) 108 54 = nI (C0 + p) := g54
      rw [g54', n_succ (C0 + p), ← hw3, n_succ (p + 1)] at e108
      exact e108.trans e1
    · rw [if_neg c] at h140'
      have hmin : min p M = M := Nat.min_eq_right (by omega)
      have hmin1 : min (p + 1) M = M := Nat.min_eq_right (by omega)
      rw [hmin] at hm1
      have f1' : Fr FLs w w1 := f1.mono rfl
      obtain ⟨w', l3', l4', e1, e2, e3⟩ := ih (p + 1) w1 (some (.int (nI (G p + 1)))) (by omega) hW1 ((f1'.i 108 0 rfl).trans hn) ((f1'.i 144 k rfl).trans h144) (fun q hq => (f1'.i 140 _ rfl).trans (h140 q hq)) h15 (by rw [hmin1]; exact hm1)
      refine ⟨w', l3', l4', base.trans ?_, f1'.trans e2, e3⟩
      have hq : gI w1 140 (9 * nI k + gI w1 126 (nI (p + 1)).toNatClampNeg).toNatClampNeg = -1000000 := by rw [ip, hb, i9, i9c]; exact h140'
      refine (tr_233_108 d w1 hW1 l1 (nI k) (nI (p + 1)) 1 l4 (inB_nI (by omega) (by omega)) (by rw [ip, hb, i9]; exact inB_nI (by omega) (by omega)) (fun h => absurd hq h) (fun h => absurd hq h) (fun h => absurd hq h) (fun h => absurd hq h)).trans ?_
      rw [if_pos hq, ip, hb, n_succ (p + 1)]
      exact e1
/-- the reference: the rows -/
theorem lp_233c (d : Nat) (h3 : 3 ≤ N) (hN8 : N ≤ 8) {bg : Nat} (hbg : bg ≤ 400) {m : Nat → Nat} {G : Nat → Nat → Nat} {τ : Nat → Nat → Int32} (hG : ∀ k, k < bg → IsRow N (G k)) (hm : ∀ k, m k ≤ N) (hC : C + sm m bg ≤ 300) (l1 : Int32) (n : Nat) : ∀ (k : Nat) (w : Wd) (l3 l4 : Option Value), k + n = bg → Fix w → gI w 108 0 = nI N → gI w 108 49 = nI bg → (∀ k, k < bg → gI w 144 k = nI (dcN N (G k)) ∧ (∀ p, p < N → gI w 140 (9 * k + (G k p + 1)) = if p < m k then τ k p else -1000000) ∧ ∀ p, p < m k → -15 ≤ (τ k p).toInt) → NM w (C + sm m k) (aT T C (fun k p => secs (τ k p)) m k) (aT bl C (fun k p => G k p + 1) m k) → ∃ w', val (233, d + 1, 76, [some (.ref 108), some (.int l1), some (.int (nI k)), l3, l4], [], w) = some (some (.int l1), w') ∧ Fr FLs w w' ∧ NM w' (C + sm m bg) (aT T C (fun k p => secs (τ k p)) m bg) (aT bl C (fun k p => G k p + 1) m bg) := by
  induction n with
  | zero =>
    intro k w l3 l4 hk hW hn h49 hb hm'
    have e : k = bg := hk
    subst e
    refine ⟨w, ?_, Fr.refl _ _, hm'⟩
    refine (tr_233_76 d w hW _ _ _ _).trans ?_
    rw [h49, if_pos (Int32.le_refl _)]
  | succ n ih =>
    intro k w l3 l4 hk hW hn h49 hb hm'
    have hsm : sm m (k + 1) = sm m k + m k := rfl
    have hle : sm m (k + 1) ≤ sm m bg := by
      have key : ∀ j, k + 1 + j ≤ bg → sm m (k + 1) ≤ sm m (k + 1 + j) := by
        intro j
        induction j with
        | zero => exact fun _ => Nat.le_refl _
        | succ j ihj =>
          intro hj
          have : sm m (k + 1 + (j + 1)) = sm m (k + 1 + j) + m (k + 1 + j) := rfl
          have := ihj (by omega)
          omega
      have := key (bg - (k + 1)) (by omega)
      rwa [show k + 1 + (bg - (k + 1)) = bg by omega] at this
    obtain ⟨b1, b2, b3⟩ := hb k (by omega)
    have ea : C + sm m k + m k = C + sm m (k + 1) := by rw [hsm, Nat.add_assoc]
    obtain ⟨w1, l3', l4', r1, f1, m1⟩ := lp_233d (T := aT T C (fun k p => secs (τ k p)) m k) (bl := aT bl C (fun k p => G k p + 1) m k) d h3 hN8 (k := k) (M := m k) (C0 := C + sm m k) (G := G k) (by omega) (hG k (by omega)) (hm k) (by omega) l1 (τ := τ k) N 0 w l4 (by omega) hW hn b1 b2 b3 (by rw [Nat.zero_min]; exact hm')
    have hW1 := f1.fix rfl hW
    have m1' : NM w1 (C + sm m k + m k) (aT T C (fun k p => secs (τ k p)) m (k + 1)) (aT bl C (fun k p => G k p + 1) m (k + 1)) := m1
    rw [ea] at m1'
    obtain ⟨w', e1, e2, e3⟩ := ih (k + 1) w1 l3' l4' (by omega) hW1 ((f1.i 108 0 rfl).trans hn) ((f1.i 108 49 rfl).trans h49) (fun j hj => by
      obtain ⟨a1, a2, a3⟩ := hb j hj
      exact ⟨(f1.i 144 j rfl).trans a1, fun p hp => (f1.i 140 _ rfl).trans (a2 p hp), a3⟩) m1'
    refine ⟨w', ?_, f1.trans e2, e3⟩
    refine (tr_233_76 d w hW _ _ _ _).trans ?_
    rw [h49, if_neg (n_nle (by omega) (by omega))]
    exact r1.trans e1
theorem a_listen {w : Wd} (hW : Fix w) (hB : Bl w N) (hR : secRg w N) (hN : NOK N C T bl) (hc : NC w C T bl) (hmm : NM w C T bl) (d : Nat) : ∃ r w1 w2 C' T' bl', val (34, d + 5, 0, [some (.ref 64), none, none, none, none, none, none], [], w) = some (some (.int r), w1) ∧ val (233, d + 5, 0, [some (.ref 108), none, none, none, none], [], w1) = some (some (.int r), w2) ∧ Fr FAd w w1 ∧ Fr FLs w1 w2 ∧ NOK N C' T' bl' ∧ NC w2 C' T' bl' ∧ NM w2 C' T' bl' ∧ KP w w2 T C T' C' := by
  obtain ⟨h3, hN8, hn, hmn⟩ := hB
  obtain ⟨bg, hbg, h7, h49, -, -, -, -, m, G, h6, hm, hrow⟩ := hR
  have hCl := hN.1
  have hsm : sm m bg ≤ N * bg := sm_bd hm bg
  have hNb : N * bg ≤ 8 * 400 := Nat.mul_le_mul hN8 hbg
  have hG : ∀ k, k < bg → IsRow N (G k) := fun k hk => (hrow k hk).1
  have hcount : ∀ (w' : Wd), Fix w' → gI w' 108 0 = nI N → gI w' 108 49 = nI bg → (∀ a, gI w' 140 a = gI w 140 a) → ∃ l3', val (233, d + 5, 0, [some (.ref 108), none, none, none, none], [], w') = if gI w' 108 54 + nI (sm m bg) ≤ 300 then val (233, d + 5, 76, [some (.ref 108), some (.int (nI (sm m bg))), some (.int 0), l3', none], [], w') else some (some (.int (-3)), w') := by
    intro w' hW' a1 a2 a3
    obtain ⟨l3', hl⟩ := lp_233a (d + 4) hN8 hW' a1 hbg a2 (m := m) (G := G) hG hm (fun k hk p hp => by
      obtain ⟨-, -, -, -, -, g6, g7⟩ := hrow k hk
      rw [a3, g6 p hp]
      by_cases c : p < m k
      · rw [if_pos c]
        exact ⟨fun h => absurd h (i_never (g7 p c)), fun h => absurd c h⟩
      · rw [if_neg c]
        exact ⟨fun _ => c, fun _ => rfl⟩) bg 0 none (by omega)
    exact ⟨l3', (tr_233 (d + 4) w').trans hl⟩
  have i54 : nI C + nI (sm m bg) ≤ 300 ↔ C + sm m bg ≤ 300 := by
    rw [n_add]
    exact n_le_iff (b := 300) (by omega) (by decide)
  have i4 : gI w 84 6 ≤ 300 - gI w 91 4 ↔ C + sm m bg ≤ 300 := by
    rw [h6, hc.1, show (300 : Int32) - nI C = nI (300 - C) from n_sub (a := 300) hCl]
    refine (n_le_iff (by omega) (by omega)).trans ?_
    omega
  by_cases hfit : C + sm m bg ≤ 300
  · obtain ⟨w1, r1, f1, n1, c1, p1⟩ := lp_34a (C := C) (T := T) (bl := bl) d h3 hN8 hbg (m := m) (G := G) (τ := fun k p => gI w 90 (8 * k + p)) hG hm hfit bg 0 w none none (by omega) hW hn h7 (fun k hk => by
      obtain ⟨-, -, g3, -, g5, -, -⟩ := hrow k hk
      exact ⟨g3, g5, fun p _ => rfl⟩) hN hc
    have hW1 := f1.fix rfl hW
    obtain ⟨l3', hl⟩ := hcount w1 hW1 ((f1.i 108 0 rfl).trans hmn) ((f1.i 108 49 rfl).trans h49) (fun a => f1.i 140 a rfl)
    obtain ⟨w2, r2, f2, m2⟩ := lp_233c (C := C) (T := T) (bl := bl) (d + 4) h3 hN8 hbg (m := m) (G := G) (τ := fun k p => gI w 90 (8 * k + p)) hG hm hfit (nI (sm m bg)) bg 0 w1 l3' none (by omega) hW1 ((f1.i 108 0 rfl).trans hmn) ((f1.i 108 49 rfl).trans h49) (fun k hk => by
      obtain ⟨-, -, -, g4, -, g6, g7⟩ := hrow k hk
      exact ⟨(f1.i 144 k rfl).trans g4, fun p hp => (f1.i 140 _ rfl).trans (g6 p hp), g7⟩) (hmm.fa f1.a rfl)
    refine ⟨nI (sm m bg), w1, w2, _, _, _, ?_, ?_, f1, f2, n1, c1.fa f2.a rfl, m2, ?_⟩
    · refine (tr_34 d w hW).trans ?_
      rw [if_pos (i4.mpr hfit)]
      refine (val_call (pc2 := 30) rfl rfl rfl rfl rfl (Nat.le_of_ble_eq_true rfl) (Nat.le_of_ble_eq_true rfl) rfl (c_fi (d + 2) w (n := 1000) (by decide)) rfl).trans ?_
      refine (tr_34_30 d w _).trans ?_
      rw [h6] at r1
      exact r1
    · rw [hl, if_pos (by rw [f1.i 108 54 rfl, hmm.1]; exact i54.mpr hfit)]
      exact r2
    · rcases p1 with p | ⟨p2, p3, p4⟩
      · exact Or.inl ((f2.i 91 6 rfl).trans p)
      · exact Or.inr ⟨(f2.i 91 6 rfl).trans p2, p3, p4⟩
  · obtain ⟨l3', hl⟩ := hcount w hW hmn h49 (fun _ => rfl)
    refine ⟨-3, w, w, C, T, bl, ?_, ?_, Fr.refl _ _, Fr.refl _ _, hN, hc, hmm, KP.refl _ _ _⟩
    · refine (tr_34 d w hW).trans ?_
      rw [if_neg (fun h => hfit (i4.mp h))]
    · rw [hl, if_neg (by rw [hmm.1]; exact fun h => hfit (i54.mp h))]
end LISTEN
