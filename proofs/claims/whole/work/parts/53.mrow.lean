/-! NUMBERS THAT ARE ROWS; the reference's into, asRow, rounds, times, back, isRow -/
theorem n_lt {a b : Nat} (h : a < b) (hb : b < 2 ^ 31) : nI a < nI b := (n_lt_iff (by omega) hb).mpr h
theorem n_nlt {a b : Nat} (h : b ≤ a) (ha : a < 2 ^ 31) : ¬ nI a < nI b := fun hh => by have := (n_lt_iff ha (by omega)).mp hh; omega
theorem n_le {a b : Nat} (h : a ≤ b) (hb : b < 2 ^ 31) : nI a ≤ nI b := (n_le_iff (by omega) hb).mpr h
theorem n_nle {a b : Nat} (h : b < a) (ha : a < 2 ^ 31) : ¬ nI a ≤ nI b := fun hh => by have := (n_le_iff ha (by omega)).mp hh; omega
theorem n_ne {a b : Nat} (h : a ≠ b) (ha : a < 2 ^ 31) (hb : b < 2 ^ 31) : ¬ nI a = nI b := fun hh => h ((n_inj ha hb).mp hh)
theorem n_ne0 {a : Nat} (h : a ≠ 0) (ha : a < 2 ^ 31) : ¬ nI a = 0 := n_ne (b := 0) h ha (by omega)
theorem n_nle0 {a : Nat} (h : 0 < a) (ha : a < 2 ^ 31) : ¬ nI a ≤ 0 := n_nle (b := 0) h ha
theorem i_nat {v : Int32} (h : ¬ v < 0) : ∃ V, V < 2 ^ 31 ∧ v = nI V := by
  have h1 : 0 ≤ v.toInt := by
    have := mt Int32.lt_iff_toInt_lt.mpr h
    have h2 : (0 : Int32).toInt = 0 := by decide
    omega
  have h3 := Int32.toInt_lt v
  refine ⟨v.toInt.toNat, by omega, ?_⟩
  apply Int32.toInt_inj.mp
  rw [nI_toInt (by omega)]
  omega
/-- v is the number of the row f -/
def IsNum (N : Nat) (v : Int32) (f : Nat → Nat) : Prop := IsRow N f ∧ v = nI (dcN N f)
theorem dcN_31 {N : Nat} {f : Nat → Nat} (hN : N ≤ 8) (hf : IsRow N f) : dcN N f < 2 ^ 31 := Nat.lt_trans (dcN_lt hN hf.1) (pow_lt31 hN)
theorem Gd.isNum {N V : Nat} (h : Gd N V) : IsNum N (nI V) (rw1 N V) := ⟨h.row, by rw [h.num]⟩
theorem IsNum.gd {N V : Nat} {f : Nat → Nat} (hN : N ≤ 8) (hV : V < 2 ^ 31) (h : IsNum N (nI V) f) : Gd N V ∧ V = dcN N f := by
  have e := (n_inj hV (dcN_31 hN h.1)).mp h.2
  exact ⟨e ▸ gd_dc hN h.1, e⟩
theorem rw1_dc {N : Nat} {f : Nat → Nat} (hN : N ≤ 8) (hf : IsRow N f) {p : Nat} (hp : p < N) : rw1 N (dcN N f) p = f p := by
  unfold rw1
  rw [bl_dc hN hf hp]
  rfl
theorem from_yes {N : Nat} {v : Int32} {f : Nat → Nat} (hN : N ≤ 8) (h : IsNum N v f) : fn_134 (nI N) v = nI (pkN N f) := by
  rw [h.2, (r_134 hN (dcN_31 hN h.1)).1 (gd_dc hN h.1)]
  congr 1
  exact dg_congr (fun i hi => rw1_dc hN h.1 hi)
theorem from_no {N : Nat} {v : Int32} (hN : N ≤ 8) (h0 : 0 < N) (h : ∀ f, ¬ IsNum N v f) : fn_134 (nI N) v = -1 := by
  by_cases hv : v < 0
  · exact r_134n hN h0 hv
  · obtain ⟨V, hV, rfl⟩ := i_nat hv
    exact (r_134 hN hV).2 (fun hg => h _ hg.isNum)
theorem IsNum.uniq {N : Nat} {v : Int32} {f g : Nat → Nat} (hN : N ≤ 8) (hf : IsNum N v f) (hg : IsNum N v g) : ∀ p, p < N → f p = g p := by
  intro p hp
  have e := (n_inj (dcN_31 hN hf.1) (dcN_31 hN hg.1)).mp (hf.2.symm.trans hg.2)
  have := rw1_dc hN hf.1 hp
  rw [e, rw1_dc hN hg.1 hp] at this
  exact this.symm
theorem neg_dig {v : Int32} (hv : v < 0) : v - v / 10 * 10 < 1 := by
  have hx : v.toInt < 0 := Int32.lt_iff_toInt_lt.mp hv
  have hl : -2147483648 ≤ v.toInt := Int32.le_toInt v
  have h2 : v.toInt.tdiv 10 = -((-v.toInt) / 10) := by
    rw [← Int.neg_neg v.toInt, Int.neg_tdiv, Int.neg_neg, Int.tdiv_eq_ediv_of_nonneg (by omega)]
  have h10 : (10 : Int32).toInt = 10 := by decide
  have eq1 : (v / 10).toInt = v.toInt.tdiv 10 := by
    rw [Int32.toInt_div, h10]
    exact Int.bmod_eq_of_le (by omega) (by omega)
  have eq2 : (v / 10 * 10).toInt = v.toInt.tdiv 10 * 10 := by
    rw [Int32.toInt_mul, eq1, h10]
    exact Int.bmod_eq_of_le (by omega) (by omega)
  have eq3 : (v - v / 10 * 10).toInt = v.toInt - v.toInt.tdiv 10 * 10 := by
    rw [Int32.toInt_sub, eq2]
    exact Int.bmod_eq_of_le (by omega) (by omega)
  refine Int32.lt_iff_toInt_lt.mpr ?_
  rw [eq3]
  have h1 : (1 : Int32).toInt = 1 := by decide
  rw [h1]
  omega
/-- a loop that goes up to N; what comes of it is R -/
theorem loopUp {α : Type} {c : Nat → α → Cfg} {P : Nat → α → Prop} {R : Rs → Prop} {N : Nat} (hN : ∀ a, P N a → R (val (c N a))) (hs : ∀ k a, k < N → P k a → R (val (c k a)) ∨ ∃ a', val (c k a) = val (c (k + 1) a') ∧ P (k + 1) a') : ∀ a, P 0 a → R (val (c 0 a)) := by
  refine downN (P := fun k => ∀ a, P k a → R (val (c k a))) (N := N) hN (fun k hk ih a ha => ?_)
  rcases hs k a hk ha with h | ⟨a', h1, h2⟩
  · exact h
  · rw [h1]; exact ih a' h2
section INTO
variable {N : Nat}
theorem m_intoN (h3 : 3 ≤ N) (hN : N ≤ 8) {V : Nat} (hV : V < 2 ^ 31) (d a : Nat) (ha : a ≠ 108) (ha1 : a ≠ 1) {w : Wd} (hW : Fix w) (hk : wK w a = (20, 9)) (hn : gI w 108 0 = nI N) :
    ∃ r w', val (171, d, 0, [some (.ref 108), some (.ref a), some (.int (nI V)), none, none, none], [], w) = some (some (.int r), w') ∧ Fr [(a, none)] w w' ∧ ((Gd N V ∧ r = 1 ∧ ∀ p, p < N → gI w' a (p + 1) = nI (bl N V p)) ∨ (¬ Gd N V ∧ r = 0)) := by
  obtain ⟨r, w', e1, e2, e3⟩ := m171L (N := N) (V := V) hN (by omega) hV d a ha ha1 N (Nat.le_refl N) ⟨fun p _ _ => by omega, fun p q _ _ _ => by omega⟩ 0 (by decide) (fun i => by
    rw [Nat.zero_testBit]
    constructor
    · intro h; cases h
    · rintro ⟨p, p1, p2, _⟩; omega) w hW hk hn (fun p p1 p2 => by omega)
  rw [Nat.sub_self, Nat.pow_zero, Nat.div_one] at e1
  refine ⟨r, w', ?_, .of_only e2, e3⟩
  refine (tr_171 d w hW a (nI V)).trans ?_
  rw [hn]
  exact e1
theorem m_into (h3 : 3 ≤ N) (hN : N ≤ 8) {v : Int32} {f : Nat → Nat} (hf : IsNum N v f) (d a : Nat) (ha : a ≠ 108) (ha1 : a ≠ 1) {w : Wd} (hW : Fix w) (hk : wK w a = (20, 9)) (hn : gI w 108 0 = nI N) :
    ∃ w', val (171, d, 0, [some (.ref 108), some (.ref a), some (.int v), none, none, none], [], w) = some (some (.int 1), w') ∧ Fr [(a, none)] w w' ∧ ∀ p, p < N → gI w' a (p + 1) = nI (f p + 1) := by
  obtain ⟨r, w', e1, e2, e3⟩ := m_intoN h3 hN (dcN_31 hN hf.1) d a ha ha1 hW hk hn
  rw [← hf.2] at e1
  rcases e3 with ⟨hg, rfl, hc⟩ | ⟨hg, _⟩
  · exact ⟨w', e1, e2, fun p hp => (hc p hp).trans (congrArg nI (bl_dc hN hf.1 hp))⟩
  · exact absurd (gd_dc hN hf.1) hg
theorem m_intoX (h3 : 3 ≤ N) (hN : N ≤ 8) {v : Int32} (hf : ∀ f, ¬ IsNum N v f) (d a : Nat) (ha : a ≠ 108) (ha1 : a ≠ 1) {w : Wd} (hW : Fix w) (hk : wK w a = (20, 9)) (hn : gI w 108 0 = nI N) :
    ∃ w', val (171, d, 0, [some (.ref 108), some (.ref a), some (.int v), none, none, none], [], w) = some (some (.int 0), w') ∧ Fr [(a, none)] w w' := by
  by_cases hv : v < 0
  · refine ⟨sI w a N (v - v / 10 * 10), ?_, (Fr.refl _ w).sI a N _ ?_⟩
    · refine (tr_171 d w hW a v).trans ?_
      rw [hn, m171 d w hW a ha hk v v 0 N (by omega) hN, if_pos (neg_dig hv)]
    · show (Nat.beq a a && true || false) = true
      rw [Nat.beq_refl]; rfl
  · obtain ⟨V, hV, rfl⟩ := i_nat hv
    obtain ⟨r, w', e1, e2, e3⟩ := m_intoN h3 hN hV d a ha ha1 hW hk hn
    rcases e3 with ⟨hg, _⟩ | ⟨_, rfl⟩
    · exact absurd hg.isNum (hf _)
    · exact ⟨w', e1, e2⟩
theorem m_asRow {f : Nat → Nat} (hN : N ≤ 8) (d a : Nat) {w : Wd} (hW : Fix w) (hk : wK w a = (20, 9)) (hn : gI w 108 0 = nI N) (hc : ∀ p, p < N → gI w a (p + 1) = nI (f p + 1)) : val (172, d, 0, [some (.ref 108), some (.ref a), none, none], [], w) = some (some (.int (nI (dcN N f))), w) := by
  refine (tr_172 d w a).trans ?_
  refine downN (P := fun k => val (172, d, 4, [some (.ref 108), some (.ref a), some (.int (nI (dg 10 (fun p => f p + 1) k))), some (.int (nI (k + 1)))], [], w) = some (some (.int (nI (dcN N f))), w)) (N := N) ?_ (fun k hk1 ih => ?_)
  · refine (tr_172_4 d w hW a _ _ 9 hk (fun h => ?_)).trans ?_
    · rw [hn] at h
      exact absurd (n_lt (Nat.lt_succ_self N) (by omega)) h
    · rw [hn, if_pos (n_lt (Nat.lt_succ_self N) (by omega))]
      rfl
  · refine (tr_172_4 d w hW a _ _ 9 hk (fun _ => inB_nI (by omega) (by omega))).trans ?_
    rw [hn, if_neg (n_nlt (by omega) (by omega)), nI_clamp (by omega), hc k hk1, n_succ, show (10 : Int32) = nI 10 from rfl, n_mul, n_add]
    exact ih
theorem m_rounds (hN : N ≤ 8) (d : Nat) {w : Wd} (hW : Fix w) (hn : gI w 108 0 = nI N) : val (173, d, 0, [some (.ref 108), none, none], [], w) = some (some (.int (nI (dcN N (fun p => p)))), w) := by
  refine (tr_173 d w).trans ?_
  refine downN (P := fun k => val (173, d, 4, [some (.ref 108), some (.int (nI (dg 10 (fun p => p + 1) k))), some (.int (nI (k + 1)))], [], w) = some (some (.int (nI (dcN N (fun p => p)))), w)) (N := N) ?_ (fun k hk1 ih => ?_)
  · refine (tr_173_4 d w hW _ _).trans ?_
    rw [hn, if_pos (n_lt (Nat.lt_succ_self N) (by omega))]
    rfl
  · refine (tr_173_4 d w hW _ _).trans ?_
    rw [hn, if_neg (n_nlt (by omega) (by omega)), n_succ, show (10 : Int32) = nI 10 from rfl, n_mul, n_add]
    exact ih
/-- the reference's scratch rows -/
abbrev SC : List (Nat × Option Nat) := [(109, none), (110, none), (111, none)]
theorem m_times (h3 : 3 ≤ N) (hN : N ≤ 8) {u v : Int32} {f g : Nat → Nat} (hf : IsNum N u f) (hg : IsNum N v g) (d : Nat) {w : Wd} (hW : Fix w) (hn : gI w 108 0 = nI N) :
    ∃ w', val (174, d + 1, 0, [some (.ref 108), some (.int u), some (.int v), none], [], w) = some (some (.int (nI (dcN N (fun p => f (g p))))), w') ∧ Fr SC w w' := by
  obtain ⟨w1, e1, f1, c1⟩ := m_into h3 hN hf d 109 (by decide) (by decide) hW (hW.k 109 (by decide) (by decide)) hn
  have hW1 := f1.fix rfl hW
  have hn1 := (f1.i 108 0 rfl).trans hn
  obtain ⟨w2, e2, f2, c2⟩ := m_into h3 hN hg d 110 (by decide) (by decide) hW1 (hW1.k 110 (by decide) (by decide)) hn1
  have hW2 := f2.fix rfl hW1
  have hn2 := (f2.i 108 0 rfl).trans hn1
  have c3 : ∀ p, p < N → gI w2 109 (p + 1) = nI (f p + 1) := fun p hp => (f2.i 109 (p + 1) rfl).trans (c1 p hp)
  have hk := loopUp (c := fun k x => (174, d + 1, 22, [some (.ref 108), some (.int u), some (.int v), some (.int (nI (k + 1)))], [], x)) (P := fun k x => Fr [(111, none)] w2 x ∧ ∀ p, p < k → gI x 111 (p + 1) = nI (f (g p) + 1)) (R := fun r => ∃ w', r = some (some (.int (nI (dcN N (fun p => f (g p))))), w') ∧ Fr [(111, none)] w2 w') (N := N) ?_ ?_ w2 ⟨Fr.refl _ _, fun p hp => by omega⟩
  · obtain ⟨w', h1, h2⟩ := hk
    refine ⟨w', ?_, ((f1.mono rfl).trans (f2.mono rfl)).trans (h2.mono rfl)⟩
    refine (tr_174 d w hW u v).trans ?_
    refine (val_call (pc2 := 9) rfl rfl rfl rfl (hW.rc _) (Nat.le_of_ble_eq_true rfl) (Nat.le_of_ble_eq_true rfl) rfl e1 rfl).trans ?_
    refine (tr_174_9 d w1 hW1 u v _).trans ?_
    refine (val_call (pc2 := 19) rfl rfl rfl rfl (hW1.rc _) (Nat.le_of_ble_eq_true rfl) (Nat.le_of_ble_eq_true rfl) rfl e2 rfl).trans ?_
    refine (tr_174_19 d w2 u v _).trans ?_
    exact h1
  · rintro x ⟨hx, hc⟩
    have hWx := hx.fix rfl hW2
    have hnx := (hx.i 108 0 rfl).trans hn2
    refine ⟨x, ?_, hx⟩
    refine (tr_174_22 d x hWx u v (nI (N + 1)) (fun h => ?_) (fun h => ?_)).trans ?_
    · rw [hnx] at h
      exact absurd (n_lt (Nat.lt_succ_self N) (by omega)) h
    · rw [hnx] at h
      exact absurd (n_lt (Nat.lt_succ_self N) (by omega)) h
    · rw [hnx, if_pos (n_lt (Nat.lt_succ_self N) (by omega))]
      refine (val_call (pc2 := 61) rfl rfl rfl rfl (hWx.rc _) (Nat.le_of_ble_eq_true rfl) (Nat.le_of_ble_eq_true rfl) rfl (m_asRow (f := fun p => f (g p)) hN d 111 hWx (hWx.k 111 (by decide) (by decide)) hnx hc) rfl).trans ?_
      exact tr_174_61 d x u v _ _
  · rintro k x hk ⟨hx, hc⟩
    have hWx := hx.fix rfl hW2
    have hnx := (hx.i 108 0 rfl).trans hn2
    have c2x : gI x 110 (k + 1) = nI (g k + 1) := (hx.i 110 (k + 1) rfl).trans (c2 k hk)
    have hgk := hg.1.1 k hk
    have c1x : gI x 109 (g k + 1) = nI (f (g k) + 1) := (hx.i 109 (g k + 1) rfl).trans (c3 (g k) hgk)
    refine Or.inr ⟨sI x 111 (k + 1) (nI (f (g k) + 1)), ?_, hx.sI 111 _ _ rfl, fun p hp => ?_⟩
    · refine (tr_174_22 d x hWx u v (nI (k + 1)) (fun _ => inB_nI (by omega) (by omega)) (fun _ => ?_)).trans ?_
      · rw [nI_clamp (by omega), c2x]
        exact inB_nI (by omega) (by omega)
      · rw [hnx, if_neg (n_nlt (by omega) (by omega)), nI_clamp (n := k + 1) (by omega), c2x, nI_clamp (by omega), c1x, n_succ]
    · by_cases e : p = k
      · subst e; exact gI_same _ _ _ _
      · exact (gI_nk x 111 _ (by omega)).trans (hc p (by omega))
theorem m_back (h3 : 3 ≤ N) (hN : N ≤ 8) {u : Int32} {f : Nat → Nat} (hf : IsNum N u f) (d : Nat) {w : Wd} (hW : Fix w) (hn : gI w 108 0 = nI N) :
    ∃ w', val (175, d + 1, 0, [some (.ref 108), some (.int u), none], [], w) = some (some (.int (nI (dcN N (iv f N)))), w') ∧ Fr SC w w' := by
  obtain ⟨w1, e1, f1, c1⟩ := m_into h3 hN hf d 109 (by decide) (by decide) hW (hW.k 109 (by decide) (by decide)) hn
  have hW1 := f1.fix rfl hW
  have hn1 := (f1.i 108 0 rfl).trans hn
  have hk := loopUp (c := fun k x => (175, d + 1, 12, [some (.ref 108), some (.int u), some (.int (nI (k + 1)))], [], x)) (P := fun k x => Fr [(111, none)] w1 x ∧ ∀ p, p < k → gI x 111 (f p + 1) = nI (p + 1)) (R := fun r => ∃ w', r = some (some (.int (nI (dcN N (iv f N)))), w') ∧ Fr [(111, none)] w1 w') (N := N) ?_ ?_ w1 ⟨Fr.refl _ _, fun p hp => by omega⟩
  · obtain ⟨w', h1, h2⟩ := hk
    refine ⟨w', ?_, (f1.mono rfl).trans (h2.mono rfl)⟩
    refine (tr_175 d w hW u).trans ?_
    refine (val_call (pc2 := 9) rfl rfl rfl rfl (hW.rc _) (Nat.le_of_ble_eq_true rfl) (Nat.le_of_ble_eq_true rfl) rfl e1 rfl).trans ?_
    refine (tr_175_9 d w1 u _).trans ?_
    exact h1
  · rintro x ⟨hx, hc⟩
    have hWx := hx.fix rfl hW1
    have hnx := (hx.i 108 0 rfl).trans hn1
    refine ⟨x, ?_, hx⟩
    refine (tr_175_12 d x hWx u (nI (N + 1)) (fun h => ?_) (fun h => ?_)).trans ?_
    · rw [hnx] at h
      exact absurd (n_lt (Nat.lt_succ_self N) (by omega)) h
    · rw [hnx] at h
      exact absurd (n_lt (Nat.lt_succ_self N) (by omega)) h
    · rw [hnx, if_pos (n_lt (Nat.lt_succ_self N) (by omega))]
      refine (val_call (pc2 := 46) rfl rfl rfl rfl (hWx.rc _) (Nat.le_of_ble_eq_true rfl) (Nat.le_of_ble_eq_true rfl) rfl (m_asRow (f := iv f N) hN d 111 hWx (hWx.k 111 (by decide) (by decide)) hnx (fun p hp => by have := hc (iv f N p) (hf.1.iv.1 p hp); rwa [hf.1.at_iv hp] at this)) rfl).trans ?_
      exact tr_175_46 d x u _ _
  · rintro k x hk ⟨hx, hc⟩
    have hWx := hx.fix rfl hW1
    have hnx := (hx.i 108 0 rfl).trans hn1
    have hfk := hf.1.1 k hk
    have c1x : gI x 109 (k + 1) = nI (f k + 1) := (hx.i 109 (k + 1) rfl).trans (c1 k hk)
    refine Or.inr ⟨sI x 111 (f k + 1) (nI (k + 1)), ?_, hx.sI 111 _ _ rfl, fun p hp => ?_⟩
    · refine (tr_175_12 d x hWx u (nI (k + 1)) (fun _ => inB_nI (by omega) (by omega)) (fun _ => ?_)).trans ?_
      · rw [nI_clamp (by omega), c1x]
        exact inB_nI (by omega) (by omega)
      · rw [hnx, if_neg (n_nlt (by omega) (by omega)), nI_clamp (n := k + 1) (by omega), c1x, nI_clamp (by omega), n_succ]
    · by_cases e : p = k
      · subst e; exact gI_same _ _ _ _
      · have hne : f p + 1 ≠ f k + 1 := fun hh => e (hf.1.2 p k (by omega) hk (by omega))
        exact (gI_nk x 111 _ hne).trans (hc p (by omega))
theorem m_isRow (h3 : 3 ≤ N) (hN : N ≤ 8) {v : Int32} {f : Nat → Nat} (hf : IsNum N v f) (d : Nat) {w : Wd} (hW : Fix w) (hn : gI w 108 0 = nI N) :
    ∃ w', val (176, d + 1, 0, [some (.ref 108), some (.int v)], [], w) = some (some (.int 1), w') ∧ Fr SC w w' := by
  obtain ⟨w1, e1, f1, -⟩ := m_into h3 hN hf d 109 (by decide) (by decide) hW (hW.k 109 (by decide) (by decide)) hn
  refine ⟨w1, ?_, f1.mono rfl⟩
  refine (tr_176 d w hW v).trans ?_
  refine (val_call (pc2 := 9) rfl rfl rfl rfl (hW.rc _) (Nat.le_of_ble_eq_true rfl) (Nat.le_of_ble_eq_true rfl) rfl e1 rfl).trans ?_
  exact tr_176_9 d w1 v 1 rfl
theorem m_isRowX (h3 : 3 ≤ N) (hN : N ≤ 8) {v : Int32} (hf : ∀ f, ¬ IsNum N v f) (d : Nat) {w : Wd} (hW : Fix w) (hn : gI w 108 0 = nI N) :
    ∃ w', val (176, d + 1, 0, [some (.ref 108), some (.int v)], [], w) = some (some (.int 0), w') ∧ Fr SC w w' := by
  obtain ⟨w1, e1, f1⟩ := m_intoX h3 hN hf d 109 (by decide) (by decide) hW (hW.k 109 (by decide) (by decide)) hn
  refine ⟨w1, ?_, f1.mono rfl⟩
  refine (tr_176 d w hW v).trans ?_
  refine (val_call (pc2 := 9) rfl rfl rfl rfl (hW.rc _) (Nat.le_of_ble_eq_true rfl) (Nat.le_of_ble_eq_true rfl) rfl e1 rfl).trans ?_
  exact tr_176_9 d w1 v 0 rfl
end INTO
