/-! HEADS: the class's marks, a bit for each rank -/
def BS (w : Wd) (P : Nat → Bool) : Prop := ∀ i, i < 630 → ∃ X, X < 2 ^ 64 ∧ gL w 82 i = lI X ∧ ∀ k, k < 64 → X.testBit k = P (64 * i + k)
def insP (P : Nat → Bool) (q : Nat) (r : Nat) : Bool := P r || decide (r = q)
theorem insP_iff {P : Nat → Bool} {q r : Nat} : insP P q r = true ↔ P r = true ∨ r = q := by
  unfold insP
  rw [Bool.or_eq_true, decide_eq_true_iff]
theorem cn_insP (P : Nat → Bool) (q : Nat) : ∀ n, cn (insP P q) n ≤ cn P n + (if q < n then 1 else 0)
  | 0 => Nat.zero_le _
  | n + 1 => by
    have ih := cn_insP P q n
    show cn (insP P q) n + (insP P q n).toNat ≤ cn P n + (P n).toNat + _
    by_cases c : n = q
    · have h1 := tn_le (insP P q n)
      rw [if_neg (by omega)] at ih
      rw [if_pos (by omega)]
      omega
    · have : insP P q n = P n := by unfold insP; rw [decide_eq_false c, Bool.or_false]
      rw [this]
      split at ih
      · rw [if_pos (by omega)]; omega
      · rw [if_neg (by omega)]; omega
theorem cn_insP1 (P : Nat → Bool) (q n : Nat) : cn (insP P q) n ≤ cn P n + 1 := by
  have := cn_insP P q n
  split at this <;> omega
theorem Fix.k80 {w : Wd} (h : Fix w) : wK w 80 = (2, 4) := h.k 80 (by omega) (by omega)
section MARK
variable {N : Nat} {w : Wd} {P : Nat → Bool}
theorem c_mark (h3 : 3 ≤ N) (hN : N ≤ 8) (d : Nat) (hW : Fix w) (hb : BS w P) {x : Nat → Nat} (hx : IsRow N x) : ∃ w', val (68, d + 2, 0, [some (.ref 80), some (.int (nI N)), some (.int (nI (pkN N x))), none], [], w) = some (none, w') ∧ Fr [(82, none)] w w' ∧ BS w' (insP P (rkN N x)) := by
  obtain ⟨hq1, hq2⟩ := rkN_lt hN hx
  obtain ⟨q, hq⟩ : ∃ q, q = rkN N x := ⟨_, rfl⟩
  rw [← hq] at hq1 ⊢
  have e1 : nI q >>> ((6 : Int32) &&& 31) = nI (q / 64) := by
    rw [show (6 : Int32) = nI 6 from rfl, n_shr (by omega) (by decide), Nat.shiftRight_eq_div_pow]
  have e2 : nI q &&& 63 = nI (q % 64) := by
    rw [show (63 : Int32) = nI 63 from rfl, n_and, show (63 : Nat) = 2 ^ 6 - 1 from rfl, Nat.and_two_pow_sub_one_eq_mod]
  have hi : q / 64 < 630 := by omega
  have hk : q % 64 < 64 := Nat.mod_lt _ (by decide)
  obtain ⟨X, x1, x2, x3⟩ := hb (q / 64) hi
  have e3 := tr_68_5 d w hW (nI N) (nI (pkN N x)) (nI q) (by rw [e1]; exact inB_nI hi (by omega))
  rw [e1, e2, nI_clamp (by omega), x2, show (1 : Int64) = lI 1 from rfl, l_shl hk, l_or] at e3
  have hY : X ||| 1 <<< (q % 64) < 2 ^ 64 := by
    refine Nat.or_lt_two_pow x1 ?_
    rw [Nat.one_shiftLeft]
    exact Nat.pow_lt_pow_right (by decide) hk
  refine ⟨sL w 82 (q / 64) (lI (X ||| 1 <<< (q % 64))), (tr_68 d w _ _).trans ?_, (Fr.refl _ w).sL 82 _ _ rfl, fun i hi2 => ?_⟩
  · refine (val_call (pc2 := 5) rfl rfl rfl rfl rfl (Nat.le_of_ble_eq_true rfl) (Nat.le_of_ble_eq_true rfl) rfl (ev_139 d w (nI N) (nI (pkN N x)) (okn h3 hN)) rfl).trans ?_
    rw [r_139 hN hx, ← hq]
    exact e3
  · by_cases c : i = q / 64
    · refine ⟨_, hY, by rw [c, gL_same], fun k hk2 => ?_⟩
      rw [Nat.testBit_or, Nat.one_shiftLeft, Nat.testBit_two_pow, x3 k hk2, c]
      unfold insP
      have : (q % 64 = k) ↔ (64 * (q / 64) + k = q) := by omega
      rw [decide_eq_decide.mpr this]
    · obtain ⟨Y, y1, y2, y3⟩ := hb i hi2
      refine ⟨Y, y1, by rw [gL_nk _ _ _ c]; exact y2, fun k hk2 => ?_⟩
      rw [y3 k hk2]
      unfold insP
      rw [decide_eq_false (by omega), Bool.or_false]
/-- the ranks found below m -/
def Gs (w : Wd) (P : Nat → Bool) (m : Nat) : Prop := gI w 80 1 = nI (cn P m) ∧ ∀ r, r < m → P r = true → gI w 81 (cn P r) = nI r
theorem cn_lt {P : Nat → Bool} {m r : Nat} (h : r < m) (hr : P r = true) : cn P r < cn P m := by
  have h1 : cn P (r + 1) = cn P r + (P r).toNat := rfl
  rw [hr] at h1
  have h2 : cn P (r + 1) ≤ cn P m := by
    obtain ⟨j, rfl⟩ : ∃ j, m = (r + 1) + j := ⟨m - (r + 1), by omega⟩
    rw [cn_split P (r + 1) j]; omega
  have : true.toNat = 1 := rfl
  omega
theorem Gs.stay {m m' : Nat} (h : Gs w P m) (hm : m ≤ m') (hp : ∀ r, m ≤ r → r < m' → P r = false) : Gs w P m' := by
  have e : cn P m' = cn P m := by
    obtain ⟨j, rfl⟩ : ∃ j, m' = m + j := ⟨m' - m, by omega⟩
    rw [cn_split P m j, cn_none j (fun i hi => hp (m + i) (by omega) (by omega))]
    rfl
  refine ⟨by rw [h.1, e], fun r hr hpr => ?_⟩
  by_cases c : r < m
  · exact h.2 r c hpr
  · rw [hp r (by omega) hr] at hpr; cases hpr
theorem c_gatherI (d : Nat) (hb : ∀ m, cn P m ≤ 3541) {i : Nat} (hi : i < 630) (l1 : Int32) : ∀ n k Y (w : Wd), k + n = 64 → Fix w → Y < 2 ^ 64 → (∀ j, k ≤ j → j < 64 → Y.testBit (j - k) = P (64 * i + j)) → (Y = 0 → ∀ j, k ≤ j → j < 64 → P (64 * i + j) = false) → Gs w P (64 * i + k) → ∃ w' x3 x5, val (70, d, 25, [some (.ref 80), some (.int l1), some (.int (nI (64 * i))), some (.long (lI Y)), none, some (.int (nI k))], [], w) = val (70, d, 7, [some (.ref 80), some (.int l1), some (.int (nI (64 * (i + 1)))), x3, none, x5], [], w') ∧ Fr [(80, some 1), (81, none)] w w' ∧ Gs w' P (64 * (i + 1)) := by
  intro n
  induction n with
  | zero =>
    intro k Y w hk hW hY hbit h0 hG
    have e := tr_70_25 d w hW l1 (nI (64 * i)) (lI Y) (nI k) (fun h => absurd (n_le (a := 64) (show 64 ≤ k by omega) (by omega)) h)
    rw [if_pos (show (64 : Int32) ≤ nI k from n_le (a := 64) (by omega) (by omega)), show (64 : Int32) = nI 64 from rfl, n_add] at e
    exact ⟨w, _, _, e, Fr.refl _ _, by rw [show 64 * (i + 1) = 64 * i + k by omega]; exact hG⟩
  | succ n ih =>
    intro k Y w hk hW hY hbit h0 hG
    have hc := hb (64 * i + k)
    have e := tr_70_25 d w hW l1 (nI (64 * i)) (lI Y) (nI k) (fun _ _ _ _ => by rw [hG.1]; exact inB_nI (by omega) (by omega))
    rw [if_neg (show ¬ (64 : Int32) ≤ nI k from n_nle (a := 64) (by omega) (by omega))] at e
    by_cases y0 : Y = 0
    · rw [if_pos (cmpL_0.mpr (by rw [y0]; rfl)), show (64 : Int32) = nI 64 from rfl, n_add] at e
      refine ⟨w, _, _, e, Fr.refl _ _, ?_⟩
      refine hG.stay (by omega) (fun r h1 h2 => ?_)
      have := h0 y0 (r - 64 * i) (by omega) (by omega)
      rw [show 64 * i + (r - 64 * i) = r by omega] at this
      exact this
    · have hlow : Y.testBit 0 = P (64 * i + k) := by
        have := hbit k (Nat.le_refl k) (by omega)
        rwa [Nat.sub_self] at this
      have hand : lI Y &&& 1 = lI (Y % 2) := by
        rw [show (1 : Int64) = lI 1 from rfl, l_and, show (1 : Nat) = 2 ^ 1 - 1 from rfl, Nat.and_two_pow_sub_one_eq_mod]
      have hshr : ushL (lI Y) 1 = lI (Y / 2) := by
        rw [show (1 : Int32) = nI 1 from rfl, l_ush hY (by decide), Nat.shiftRight_eq_div_pow]
      rw [if_neg (show ¬ cmpL (lI Y) 0 = 0 from fun h => y0 ((l_inj (b := 0) hY (by decide)).mp (cmpL_0.mp h))), hand, hshr, hG.1, nI_clamp (show cn P (64 * i + k) < 2 ^ 31 by omega), n_succ k, n_succ (cn P (64 * i + k)), n_add] at e
      have hbit' : ∀ j, k + 1 ≤ j → j < 64 → (Y / 2).testBit (j - (k + 1)) = P (64 * i + j) := fun j j1 j2 => by
        rw [← hbit j (by omega) j2, Nat.testBit_div_two, show j - (k + 1) + 1 = j - k by omega]
      have h0' : Y / 2 = 0 → ∀ j, k + 1 ≤ j → j < 64 → P (64 * i + j) = false := fun hz j j1 j2 => by
        rw [← hbit' j j1 j2, hz, Nat.zero_testBit]
      have hm : cn P (64 * i + (k + 1)) = cn P (64 * i + k) + (P (64 * i + k)).toNat := rfl
      by_cases hp : P (64 * i + k) = true
      · rw [hp] at hlow hm
        have hodd : ¬ Y % 2 = 0 := by
          intro h
          rw [Nat.testBit_zero] at hlow
          have := of_decide_eq_true hlow
          omega
        rw [if_neg (show ¬ cmpL (lI (Y % 2)) 0 = 0 from fun h => hodd ((l_inj (b := 0) (by omega) (by decide)).mp (cmpL_0.mp h))), if_neg (show ¬ Int32.ofNat 3600 ≤ nI (cn P (64 * i + k)) from n_nle (a := 3600) (by omega) (by omega))] at e
        obtain ⟨w1, hw1⟩ : ∃ z, z = sI (sI w 80 1 (nI (cn P (64 * i + k) + 1))) 81 (cn P (64 * i + k)) (nI (64 * i + k)) := ⟨_, rfl⟩
        rw [← hw1] at e
        have f1 : Fr [(80, some 1), (81, none)] w w1 := by rw [hw1]; exact ((Fr.refl _ w).sI 80 1 _ rfl).sI 81 _ _ rfl
        obtain ⟨w2, x3, x5, e2, f2, g2⟩ := ih (k + 1) (Y / 2) w1 (by omega) (f1.fix rfl hW) (by omega) hbit' h0' ⟨by rw [hw1, gI_ne _ _ _ _ (by decide), gI_same, hm]; rfl, fun r hr hpr => by
          rw [hw1]
          by_cases c : r = 64 * i + k
          · rw [c, gI_same]
          · have := cn_lt (P := P) (m := 64 * i + k) (r := r) (by omega) hpr
            rw [gI_nk _ _ _ (by omega), gI_ne _ _ _ _ (by decide)]
            exact hG.2 r (by omega) hpr⟩
        exact ⟨w2, x3, x5, e.trans e2, f1.trans f2, g2⟩
      · have hp2 : P (64 * i + k) = false := by simpa using hp
        rw [hp2] at hlow hm
        have heven : Y % 2 = 0 := by
          rw [Nat.testBit_zero] at hlow
          have := of_decide_eq_false hlow
          omega
        rw [if_pos (cmpL_0.mpr (by rw [heven]; rfl))] at e
        obtain ⟨w2, x3, x5, e2, f2, g2⟩ := ih (k + 1) (Y / 2) w (by omega) hW (by omega) hbit' h0' (hG.stay (by omega) (fun r r1 r2 => by rw [show r = 64 * i + k by omega]; exact hp2))
        exact ⟨w2, x3, x5, e.trans e2, f2, g2⟩
theorem BS.fr {T : List (Nat × Option Nat)} {v : Wd} (h : BS w P) (hf : Fr T w v) (ht : dj T [(82, none)] = true) : BS v P := fun i hi => by
  obtain ⟨X, x1, x2, x3⟩ := h i hi
  exact ⟨X, x1, (hf.l 82 i (dj_off ht rfl)).trans x2, x3⟩
theorem c_gatherL (hN : N ≤ 8) (d : Nat) (hb : ∀ m, cn P m ≤ 3541) (hP : ∀ r, fc N ≤ r → P r = false) : ∀ n i (w : Wd) (l3 l5 : Option Value), i + n = 630 → Fix w → BS w P → Gs w P (64 * i) → ∃ w', val (70, d, 7, [some (.ref 80), some (.int (nI (fc N))), some (.int (nI (64 * i))), l3, none, l5], [], w) = some (none, w') ∧ Fr [(80, some 1), (81, none)] w w' ∧ Gs w' P (fc N) := by
  have hfc := fc_lt hN
  have done : ∀ {w : Wd} {i : Nat}, Gs w P (64 * i) → fc N ≤ 64 * i → Gs w P (fc N) := by
    intro w i hG hi
    have e : cn P (64 * i) = cn P (fc N) := by
      obtain ⟨j, hj⟩ : ∃ j, 64 * i = fc N + j := ⟨64 * i - fc N, by omega⟩
      rw [hj, cn_split P (fc N) j, cn_none j (fun k _ => hP (fc N + k) (by omega))]
      rfl
    exact ⟨by rw [← e]; exact hG.1, fun r hr hpr => hG.2 r (by omega) hpr⟩
  intro n
  induction n with
  | zero =>
    intro i w l3 l5 hi hW hS hG
    refine ⟨w, (tr_70_7 d w hW _ _ l3 l5 (fun h => absurd (n_le (show fc N ≤ 64 * i by omega) (by omega)) h)).trans (if_pos (n_le (by omega) (by omega))), Fr.refl _ _, done hG (by omega)⟩
  | succ n ih =>
    intro i w l3 l5 hi hW hS hG
    have e1 : nI (64 * i) >>> ((6 : Int32) &&& 31) = nI i := by
      rw [show (6 : Int32) = nI 6 from rfl, n_shr (by omega) (by decide), Nat.shiftRight_eq_div_pow, show 64 * i / 2 ^ 6 = i by omega]
    have e := tr_70_7 d w hW (nI (fc N)) (nI (64 * i)) l3 l5 (fun _ => by rw [e1]; exact inB_nI (by omega) (by omega))
    by_cases c : fc N ≤ 64 * i
    · rw [if_pos (n_le c (by omega))] at e
      exact ⟨w, e, Fr.refl _ _, done hG c⟩
    · obtain ⟨X, x1, x2, x3⟩ := hS i (by omega)
      rw [if_neg (n_nle (by omega) (by omega)), e1, nI_clamp (show i < 2 ^ 31 by omega), x2] at e
      obtain ⟨w1, y3, y5, e2, f2, g2⟩ := c_gatherI (P := P) d hb (show i < 630 by omega) (nI (fc N)) 64 0 X w rfl hW x1 (fun j _ hj => x3 j hj) (fun hz j _ hj => by rw [← x3 j hj, hz, Nat.zero_testBit]) hG
      obtain ⟨w2, e3, f3, g3⟩ := ih (i + 1) w1 y3 y5 (by omega) (f2.fix rfl hW) (hS.fr f2 rfl) g2
      exact ⟨w2, e.trans (e2.trans e3), f2.trans f3, g3⟩
theorem c_gather (hN : N ≤ 8) (d : Nat) (hb : ∀ m, cn P m ≤ 3541) (hP : ∀ r, fc N ≤ r → P r = false) (hW : Fix w) (hS : BS w P) : ∃ w', val (70, d, 0, [some (.ref 80), some (.int (nI (fc N))), none, none, none, none], [], w) = some (none, w') ∧ Fr [(80, some 1), (81, none)] w w' ∧ Gs w' P (fc N) := by
  have f0 : Fr [(80, some 1), (81, none)] w (sI w 80 1 0) := (Fr.refl _ w).sI 80 1 _ rfl
  obtain ⟨w', e, f, g⟩ := c_gatherL hN d hb hP 630 0 (sI w 80 1 0) none none rfl (f0.fix rfl hW) (hS.fr f0 rfl) ⟨gI_same _ _ _ _, fun r hr => absurd hr (Nat.not_lt_zero r)⟩
  exact ⟨w', (tr_70 d w hW _).trans e, f0.trans f, g⟩
end MARK
