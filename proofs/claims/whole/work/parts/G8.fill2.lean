/-! CALL: fill, in both -/
section FILL
variable {N S B fr m s sz : Nat} {F : Nat → Nat → Nat} {cb : Nat → Bool}
abbrev FFl : List (Nat × Option Nat) := [(109, none), (110, none), (111, none), (126, none), (147, none), (148, none)]
/-- one item of the reference -/
theorem m_item (d : Nat) (h3 : 3 ≤ N) (hN8 : N ≤ 8) (hB : B < 8) (hs : s ≤ 4) {k : Nat} (hk : k < 64) {w : Wd} (hW : Fix w) (hc : FlC w N S F cb) (h145 : gI w 145 B = nI s) (hq : fr + k ≤ S) (m : Int32) (l7 : Option Value) : ∃ w' l7', val (254, d + 3, 130, [some (.ref 108), some (.int (nI B)), some (.int (nI fr)), some (.int m), some (.int (nI k)), some (.int (nI (dcN N (F (fr + k))))), some (.int (b01 (cb (fr + k)))), l7], [.int (nI (dcN N (F (fr + k)))), .ref 109, .ref 108], w) = val (254, d + 3, 63, [some (.ref 108), some (.int (nI B)), some (.int (nI fr)), some (.int m), some (.int (nI (k + 1))), some (.int (nI (dcN N (F (fr + k))))), some (.int (b01 (cb (fr + k)))), l7'], [], w') ∧ Fr FFl w w' ∧ (∀ j, gL w' 147 j = if j = 64 * B + k then itY N F s (fr + k) else gL w 147 j) ∧ ∀ j, gI w' 148 j = if j = 64 * B + k then b01 (cb (fr + k)) else gI w 148 j := by
  have hS := hc.2.2.1
  obtain ⟨g1, g2, g3, g4, g5⟩ := hc.2.2.2 (fr + k) hq
  obtain ⟨w1, r1, f1, g109⟩ := m_into h3 hN8 (v := nI (dcN N (F (fr + k)))) (f := F (fr + k)) ⟨g1, rfl⟩ (d + 2) 109 (by decide) (by decide) hW (hW.k 109 (by decide) (by decide)) hc.2.1
  have hW1 := f1.fix rfl hW
  have f1' : Fr FFl w w1 := f1.mono rfl
  have hBi : inB (nI B) 8 = true := inB_nI hB (by omega)
  have iB : (nI B).toNatClampNeg = B := nI_clamp (by omega)
  have ie : (64 : Int32) * nI B + nI k = nI (64 * B + k) := by
    rw [show (64 : Int32) = nI 64 from rfl, n_mul, n_add]
  have iec : (nI (64 * B + k)).toNatClampNeg = 64 * B + k := nI_clamp (by omega)
  have hei : inB (nI (64 * B + k)) 512 = true := inB_nI (by omega) (by omega)
  have h1 : inB (1 : Int32) 9 = true := by decide
  have hone : gI w1 109 (1 : Int32).toNatClampNeg = nI (F (fr + k) 0 + 1) := g109 0 (by omega)
  have hf0 := g1.1 0 (by omega)
  have h145' : gI w1 145 (nI B).toNatClampNeg = nI s := by rw [iB, f1.i 145 B rfl]; exact h145
  have hdc := dcN_31 hN8 g1
  have hrk := (rkN_lt hN8 g1).1
  have hrk2 := (rkN_lt hN8 g1).2
  have e133 := tr_254_133 d w1 hW1 (nI B) (nI fr) m (nI k) (nI (dcN N (F (fr + k)))) (b01 (cb (fr + k))) 1 l7 h1 hBi (fun _ => hBi) (fun _ _ => hBi) (fun _ _ _ => by rw [ie]; exact hei) (fun _ => by rw [ie]; exact hei)
  rw [h145', ie, iec, hone, nar_bb, n_succ] at e133
  have post : ∀ {v : Wd} {y : Int64}, Fr FFl w v → (∀ j, gL v 147 j = gL w 147 j) → (∀ j, gI v 148 j = gI w 148 j) → Fr FFl w (sI (sL v 147 (64 * B + k) y) 148 (64 * B + k) (b01 (cb (fr + k)))) ∧ (∀ j, gL (sI (sL v 147 (64 * B + k) y) 148 (64 * B + k) (b01 (cb (fr + k)))) 147 j = if j = 64 * B + k then y else gL w 147 j) ∧ ∀ j, gI (sI (sL v 147 (64 * B + k) y) 148 (64 * B + k) (b01 (cb (fr + k)))) 148 j = if j = 64 * B + k then b01 (cb (fr + k)) else gI w 148 j := by
    intro v y hv a1 a2
    refine ⟨(hv.sL 147 _ _ rfl).sI 148 _ _ rfl, fun j => ?_, fun j => ?_⟩
    · show gL (sL v 147 (64 * B + k) y) 147 j = _
      by_cases c : j = 64 * B + k
      · rw [if_pos c, c, gL_same]
      · rw [if_neg c, gL_nk _ _ _ c]; exact a1 j
    · by_cases c : j = 64 * B + k
      · rw [if_pos c, c, gI_same]
      · rw [if_neg c, gI_nk _ _ _ c]; exact a2 j
  have base : val (254, d + 3, 130, [some (.ref 108), some (.int (nI B)), some (.int (nI fr)), some (.int m), some (.int (nI k)), some (.int (nI (dcN N (F (fr + k))))), some (.int (b01 (cb (fr + k)))), l7], [.int (nI (dcN N (F (fr + k)))), .ref 109, .ref 108], w) = val (254, d + 3, 133, [some (.ref 108), some (.int (nI B)), some (.int (nI fr)), some (.int m), some (.int (nI k)), some (.int (nI (dcN N (F (fr + k))))), some (.int (b01 (cb (fr + k)))), l7], [.int 1], w1) := by
    refine (val_call (pc2 := 133) rfl rfl rfl rfl (hW.rc _) (Nat.le_of_ble_eq_true rfl) (Nat.le_of_ble_eq_true rfl) rfl r1 rfl).trans ?_
    rfl
  rcases s_cases hs with e | e | e | ⟨e, e0, e1, e2⟩
  · subst e
    rw [if_neg (show ¬ ¬ nI 0 = 0 by decide), l_ofI (show F (fr + k) 0 + 1 < 2 ^ 31 by omega)] at e133
    exact ⟨_, _, base.trans e133, post f1' (fun j => f1.l 147 j rfl) (fun j => f1.i 148 j rfl)⟩
  · subst e
    rw [if_pos (show ¬ nI 1 = 0 by decide), if_neg (show ¬ ¬ nI 1 = 1 by decide)] at e133
    obtain ⟨w2, r2, f2⟩ := m_rank h3 hN8 (v := nI (dcN N (F (fr + k)))) (f := F (fr + k)) ⟨g1, rfl⟩ (d + 1) hW1 ((f1.i 108 0 rfl).trans hc.2.1)
    have hW2 := f2.fix rfl hW1
    have e184 := tr_254_184 d w2 hW2 (nI B) (nI fr) m (nI k) (nI (dcN N (F (fr + k)))) (b01 (cb (fr + k))) (nI (F (fr + k) 0 + 1)) (nI (rkN N (F (fr + k)))) (nI (64 * B + k)) hei (by rw [ie]; exact hei)
    rw [ie, iec, nar_bb, n_succ, l_ofI (show rkN N (F (fr + k)) < 2 ^ 31 by omega)] at e184
    refine ⟨_, some (.int (nI (F (fr + k) 0 + 1))), base.trans (e133.trans ?_), post (f1'.trans (f2.mono rfl)) (fun j => (f2.l 147 j rfl).trans (f1.l 147 j rfl)) (fun j => (f2.i 148 j rfl).trans (f1.i 148 j rfl))⟩
    refine (val_call (pc2 := 184) rfl rfl rfl rfl (hW1.rc _) (Nat.le_of_ble_eq_true rfl) (Nat.le_of_ble_eq_true rfl) rfl r2 rfl).trans ?_
    exact e184
  · subst e
    rw [if_pos (show ¬ nI 2 = 0 by decide), if_pos (show ¬ nI 2 = 1 by decide), if_neg (show ¬ ¬ nI 2 = 2 by decide)] at e133
    obtain ⟨w2, r2, f2⟩ := m_rank h3 hN8 (v := nI (dcN N (F (fr + k)))) (f := F (fr + k)) ⟨g1, rfl⟩ (d + 1) hW1 ((f1.i 108 0 rfl).trans hc.2.1)
    have hW2 := f2.fix rfl hW1
    have hrl : Rl (fD (fI (rkN N (F (fr + k)))) (fI (fr + k))) := rl_div fi_rl.1 fi_rl.1
    have e216 := tr_254_216 d w2 hW2 (nI B) (nI fr) m (nI k) (nI (dcN N (F (fr + k)))) (b01 (cb (fr + k))) (nI (F (fr + k) 0 + 1)) (lI (fD (fI (rkN N (F (fr + k)))) (fI (fr + k)))) (nI (64 * B + k)) hei (by rw [ie]; exact hei)
    rw [ie, iec, nar_bb, n_succ] at e216
    refine ⟨_, some (.int (nI (F (fr + k) 0 + 1))), base.trans (e133.trans ?_), post (f1'.trans (f2.mono rfl)) (fun j => (f2.l 147 j rfl).trans (f1.l 147 j rfl)) (fun j => (f2.i 148 j rfl).trans (f1.i 148 j rfl))⟩
    refine (val_call (pc2 := 204) rfl rfl rfl rfl (hW1.rc _) (Nat.le_of_ble_eq_true rfl) (Nat.le_of_ble_eq_true rfl) rfl r2 rfl).trans ?_
    refine (tr_254_204 d w2 _ _ _ _ _ _ _ _ _).trans ?_
    rw [n_add, u_i2dn (show fr + k < 2 ^ 31 by omega), u_i2dn (show rkN N (F (fr + k)) < 2 ^ 31 by omega)]
    refine (val_call (pc2 := 213) rfl rfl rfl rfl rfl (Nat.le_of_ble_eq_true rfl) (Nat.le_of_ble_eq_true rfl) rfl (m_over d w2 (fi_rl (z := (rkN N (F (fr + k)) : Int))).1 (fi_rl (z := ((fr + k : Nat) : Int))).1) rfl).trans ?_
    have hb := m_bits (d + 1) w2 hrl.1
    have hcn : cnB (fD (fI (rkN N (F (fr + k)))) (fI (fr + k))) = fD (fI (rkN N (F (fr + k)))) (fI (fr + k)) := by
      rcases hrl.2 with h | h
      · exact cn_num h
      · rw [h]; exact cn_nan
    rw [hcn] at hb
    refine (val_call (pc2 := 216) rfl rfl rfl rfl rfl (Nat.le_of_ble_eq_true rfl) (Nat.le_of_ble_eq_true rfl) rfl hb rfl).trans ?_
    exact e216
  · have k0 : ¬ nI s = 0 := n_ne0 e0 (by omega)
    have k1 : ¬ nI s = 1 := n_ne (b := 1) e1 (by omega) (by decide)
    have k2 : ¬ nI s = 2 := n_ne (b := 2) e2 (by omega) (by decide)
    have hy : itY N F s (fr + k) = lI (dcN N (F (fr + k))) := by
      unfold itY
      rw [if_neg e0, if_neg e1, if_neg e2]
    rw [if_pos k0, if_pos k1, if_pos k2, l_ofI hdc, ← hy] at e133
    exact ⟨_, _, base.trans e133, post f1' (fun j => f1.l 147 j rfl) (fun j => f1.i 148 j rfl)⟩
theorem lp_254 (d : Nat) (h3 : 3 ≤ N) (hN8 : N ≤ 8) (hB : B < 8) (hs : s ≤ 4) (hsz : sz ≤ 64) (hm : m ≤ 64) (hfr : fr + m ≤ S + 1) {K : Nat} (hK : K ≤ m) (hP : ∀ j, j < K → j < sz ∧ ¬ (s = 4 ∧ cb (fr + j) = false)) (n : Nat) : ∀ (k : Nat) (w : Wd) (l5 l6 l7 : Option Value), k + n = K → Fix w → FlC w N S F cb → gI w 145 B = nI s → gI w 146 B = nI sz → ∃ w' l5' l6' l7', val (254, d + 3, 63, [some (.ref 108), some (.int (nI B)), some (.int (nI fr)), some (.int (nI m)), some (.int (nI k)), l5, l6, l7], [], w) = val (254, d + 3, 63, [some (.ref 108), some (.int (nI B)), some (.int (nI fr)), some (.int (nI m)), some (.int (nI K)), l5', l6', l7'], [], w') ∧ Fr FFl w w' ∧ (∀ j, gL w' 147 j = if 64 * B + k ≤ j ∧ j < 64 * B + K then itY N F s (fr + (j - 64 * B)) else gL w 147 j) ∧ ∀ j, gI w' 148 j = if 64 * B + k ≤ j ∧ j < 64 * B + K then b01 (cb (fr + (j - 64 * B))) else gI w 148 j := by
  have iB : (nI B).toNatClampNeg = B := nI_clamp (by omega)
  have hBi : inB (nI B) 8 = true := inB_nI hB (by omega)
  induction n with
  | zero =>
    intro k w l5 l6 l7 hk hW hc h145 h146
    have e : k = K := hk
    subst e
    exact ⟨w, l5, l6, l7, rfl, Fr.refl _ _, fun j => by rw [if_neg (by omega)], fun j => by rw [if_neg (by omega)]⟩
  | succ n ih =>
    intro k w l5 l6 l7 hk hW hc h145 h146
    obtain ⟨p1, p2⟩ := hP k (by omega)
    have hS := hc.2.2.1
    obtain ⟨g1, g2, g3, g4, g5⟩ := hc.2.2.2 (fr + k) (by omega)
    have iq : (nI (fr + k)).toNatClampNeg = fr + k := nI_clamp (by omega)
    have hqi : inB (nI fr + nI k) 2001 = true := by rw [n_add]; exact inB_nI (by omega) (by omega)
    obtain ⟨w1, l7a, r1, f1, a1, a2⟩ := m_item (fr := fr) d h3 hN8 hB hs (k := k) (by omega) hW hc h145 (by omega) (nI m) l7
    have hW1 := f1.fix rfl hW
    obtain ⟨w', l5', l6', l7', e1, e2, e3, e4⟩ := ih (k + 1) w1 (some (.int (nI (dcN N (F (fr + k)))))) (some (.int (b01 (cb (fr + k))))) l7a (by omega) hW1 (hc.fr f1 rfl) ((f1.i 145 B rfl).trans h145) ((f1.i 146 B rfl).trans h146)
    refine ⟨w', l5', l6', l7', ?_, f1.trans e2, fun j => ?_, fun j => ?_⟩
    · refine (tr_254_63 d w hW _ _ _ _ _ _ _ (fun _ => hBi) (fun _ _ => hqi) (fun _ _ => hBi)).trans ?_
      rw [if_neg (n_nle (by omega) (by omega)), iB, h146, if_pos (n_lt p1 (by omega)), h145, n_add, iq, g3, g5]
      by_cases c4 : nI s = 4
      · have hs4 : s = 4 := (n_inj (b := 4) (by omega) (by decide)).mp c4
        have hcb : cb (fr + k) = true := by
          cases h : cb (fr + k)
          · exact absurd ⟨hs4, h⟩ p2
          · rfl
        rw [if_neg (fun h => h c4), if_pos (by rw [hcb]; decide)]
        exact r1.trans e1
      · rw [if_pos c4]
        exact r1.trans e1
    · rw [e3 j, a1 j]
      by_cases c1 : 64 * B + (k + 1) ≤ j ∧ j < 64 * B + K
      · rw [if_pos c1, if_pos (by omega)]
      · rw [if_neg c1]
        by_cases c2 : j = 64 * B + k
        · rw [if_pos c2, if_pos (by omega), c2, show 64 * B + k - 64 * B = k by omega]
        · rw [if_neg c2, if_neg (by omega)]
    · rw [e4 j, a2 j]
      by_cases c1 : 64 * B + (k + 1) ≤ j ∧ j < 64 * B + K
      · rw [if_pos c1, if_pos (by omega)]
      · rw [if_neg c1]
        by_cases c2 : j = 64 * B + k
        · rw [if_pos c2, if_pos (by omega), c2, show 64 * B + k - 64 * B = k by omega]
        · rw [if_neg c2, if_neg (by omega)]
theorem fill_post {w w1 w2 : Wd} (hS : secS w N) (hB : B < 8) (hs : s ≤ 4) (hsz : sz ≤ 64) (b1 : gI w 97 B = nI s) (b2 : gI w 145 B = nI s) (b3 : gI w 98 B = nI sz) (b4 : gI w 146 B = nI sz) (b5 : ∀ k, k < sz → ItOK N s (gL w (100 + B) k) (gL w 147 (64 * B + k)) (gI w 148 (64 * B + k))) {K : Nat} (hK : K ≤ sz) (hr : ∀ j, j < K → IsRow N (F (fr + j)) ∧ ¬ (s = 4 ∧ cb (fr + j) = false)) (f1 : Fr [(100 + B, none)] w w1) (x1 : ∀ j, gL w1 (100 + B) j = if 0 ≤ j ∧ j < K then itX N F cb s (fr + j) else gL w (100 + B) j) (f2 : Fr FFl w1 w2) (y1 : ∀ j, gL w2 147 j = if 64 * B + 0 ≤ j ∧ j < 64 * B + K then itY N F s (fr + (j - 64 * B)) else gL w1 147 j) (y2 : ∀ j, gI w2 148 j = if 64 * B + 0 ≤ j ∧ j < 64 * B + K then b01 (cb (fr + (j - 64 * B))) else gI w1 148 j) : secS w2 N := by
  have hX : ∀ {C k : Nat}, C < 8 → gL w2 (100 + C) k = gL w1 (100 + C) k := fun {C k} hC => f2.l (100 + C) k (by
    have : C = 0 ∨ C = 1 ∨ C = 2 ∨ C = 3 ∨ C = 4 ∨ C = 5 ∨ C = 6 ∨ C = 7 := by omega
    rcases this with rfl | rfl | rfl | rfl | rfl | rfl | rfl | rfl <;> rfl)
  have hI : ∀ a k, 100 + B ≠ a → inS FFl a k = false → gI w2 a k = gI w a k := fun a k h1 h2 => (f2.i a k h2).trans (f1.i a k (off_brd h1))
  intro C hC
  by_cases e : C = B
  · subst e
    refine Or.inr ⟨s, sz, hs, hsz, (hI 97 C (by omega) rfl).trans b1, (hI 145 C (by omega) rfl).trans b2, (hI 98 C (by omega) rfl).trans b3, (hI 146 C (by omega) rfl).trans b4, fun k hk => ?_⟩
    rw [hX hC, x1, y1, y2, show 64 * C + k - 64 * C = k by omega]
    by_cases c : k < K
    · rw [if_pos ⟨Nat.zero_le _, c⟩, if_pos (by omega), if_pos (by omega)]
      obtain ⟨r1, r2⟩ := hr k c
      refine ⟨fun h2 => ?_, fun h3 => Or.inr ⟨F (fr + k), (cb (fr + k)).toNat, r1, Bool.toNat_le _, ?_, ?_, b01_n _, fun h4 => ?_⟩⟩
      · unfold itX itY
        by_cases e0 : s = 0
        · rw [if_pos e0, if_pos e0]
        · rw [if_neg e0, if_neg e0]
          by_cases e1 : s = 1
          · rw [if_pos e1, if_pos e1]
          · rw [if_neg e1, if_neg e1, if_pos (by omega), if_pos (by omega)]
      · unfold itX
        rw [if_neg (by omega), if_neg (by omega), if_neg (by omega)]
      · unfold itY
        rw [if_neg (by omega), if_neg (by omega), if_neg (by omega)]
      · cases h : cb (fr + k)
        · exact absurd ⟨h4, h⟩ r2
        · rfl
    · rw [if_neg (by omega), if_neg (by omega), if_neg (by omega)]
      have := b5 k hk
      rw [← f1.l 147 (64 * C + k) (off_brd (by omega)), ← f1.i 148 (64 * C + k) (off_brd (by omega))] at this
      exact this
  · refine (hS C hC).keep (hI 97 C (by omega) rfl) (hI 98 C (by omega) rfl) (hI 145 C (by omega) rfl) (hI 146 C (by omega) rfl) (fun k hk => ⟨?_, ?_, ?_⟩)
    · rw [hX hC]
      exact f1.l (100 + C) k (off_brd (by omega))
    · rw [y1, if_neg (by omega)]
      exact f1.l 147 _ (off_brd (by omega))
    · rw [y2, if_neg (by omega)]
      exact f1.i 148 _ (off_brd (by omega))
end FILL
