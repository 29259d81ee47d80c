/-! THE SHELF: board, clear, items, copy, item -/
theorem brd (b : Int32) : (fn_39 b = 0 ∧ fn_250 b = 0) ∨ ∃ B, B < 8 ∧ b = nI B ∧ fn_39 b = 1 ∧ fn_250 b = 1 := by
  unfold fn_39 fn_250
  by_cases h : b < 0
  · rw [if_pos h]; exact Or.inl ⟨rfl, rfl⟩
  · rw [if_neg h]
    obtain ⟨V, hV, rfl⟩ := i_nat h
    by_cases h8 : (8 : Int32) ≤ nI V
    · rw [if_pos h8]; exact Or.inl ⟨rfl, rfl⟩
    · rw [if_neg h8]
      refine Or.inr ⟨V, ?_, rfl, rfl, rfl⟩
      have := mt (n_le_iff (a := 8) (b := V) (by omega) hV).mpr h8
      omega
theorem srt (s : Int32) : (fn_40 s = 0 ∧ (s < 0 ∨ 4 < s)) ∨ ∃ S, S ≤ 4 ∧ s = nI S ∧ fn_40 s = 1 ∧ ¬ s < 0 ∧ ¬ 4 < s ∧ s ≤ 4 := by
  unfold fn_40
  by_cases h : s < 0
  · rw [if_pos h]; exact Or.inl ⟨rfl, Or.inl h⟩
  · rw [if_neg h]
    by_cases h4 : 4 < s
    · rw [if_pos h4]; exact Or.inl ⟨rfl, Or.inr h4⟩
    · rw [if_neg h4]
      obtain ⟨V, hV, rfl⟩ := i_nat h
      have := mt (n_lt_iff (a := 4) (b := V) (by omega) hV).mpr h4
      exact Or.inr ⟨V, by omega, rfl, rfl, h, h4, n_le (b := 4) (by omega) (by omega)⟩
theorem Fix.it {w : Wd} (hW : Fix w) {B : Nat} (hB : B < 8) : gR w 99 B = some (100 + B) ∧ wK w (100 + B) = (23, 64) := by
  have : B = 0 ∨ B = 1 ∨ B = 2 ∨ B = 3 ∨ B = 4 ∨ B = 5 ∨ B = 6 ∨ B = 7 := by omega
  rcases this with rfl | rfl | rfl | rfl | rfl | rfl | rfl | rfl
  · exact ⟨hW.r 99 0 100 rfl, hW.k 100 (by decide) (by decide)⟩
  · exact ⟨hW.r 99 1 101 rfl, hW.k 101 (by decide) (by decide)⟩
  · exact ⟨hW.r 99 2 102 rfl, hW.k 102 (by decide) (by decide)⟩
  · exact ⟨hW.r 99 3 103 rfl, hW.k 103 (by decide) (by decide)⟩
  · exact ⟨hW.r 99 4 104 rfl, hW.k 104 (by decide) (by decide)⟩
  · exact ⟨hW.r 99 5 105 rfl, hW.k 105 (by decide) (by decide)⟩
  · exact ⟨hW.r 99 6 106 rfl, hW.k 106 (by decide) (by decide)⟩
  · exact ⟨hW.r 99 7 107 rfl, hW.k 107 (by decide) (by decide)⟩
def ItOK (N s : Nat) (x y : Int64) (c : Int32) : Prop := (s ≤ 2 → x = y) ∧ (3 ≤ s → (x = 0 ∧ y = 0) ∨ ∃ f cc, IsRow N f ∧ cc ≤ 1 ∧ x = lnL (pkN N f) cc ∧ y = lI (dcN N f) ∧ c = nI cc ∧ (s = 4 → cc = 1))
def ShB (w : Wd) (N B : Nat) : Prop := (gI w 97 B = -1 ∧ gI w 145 B = -9) ∨ ∃ s n, s ≤ 4 ∧ n ≤ 64 ∧ gI w 97 B = nI s ∧ gI w 145 B = nI s ∧ gI w 98 B = nI n ∧ gI w 146 B = nI n ∧ ∀ k, k < n → ItOK N s (gL w (100 + B) k) (gL w 147 (64 * B + k)) (gI w 148 (64 * B + k))
/-- the shelves are alike -/
def secS (w : Wd) (N : Nat) : Prop := ∀ B, B < 8 → ShB w N B
abbrev FS : List (Nat × Option Nat) := [(97, none), (98, none), (100, none), (101, none), (102, none), (103, none), (104, none), (105, none), (106, none), (107, none), (145, none), (146, none), (147, none), (148, none)]
abbrev FSs : List (Nat × Option Nat) := [(149, none), (150, none)]
theorem FS_in {B k : Nat} (hB : B < 8) : inS FS (100 + B) k = true := by
  have : B = 0 ∨ B = 1 ∨ B = 2 ∨ B = 3 ∨ B = 4 ∨ B = 5 ∨ B = 6 ∨ B = 7 := by omega
  rcases this with rfl | rfl | rfl | rfl | rfl | rfl | rfl | rfl <;> rfl
/-- a board stays as it is, if its own places stay -/
theorem ShB.keep {w v : Wd} {N B : Nat} (h : ShB w N B) (h1 : gI v 97 B = gI w 97 B) (h2 : gI v 98 B = gI w 98 B) (h3 : gI v 145 B = gI w 145 B) (h4 : gI v 146 B = gI w 146 B) (h5 : ∀ k, k < 64 → gL v (100 + B) k = gL w (100 + B) k ∧ gL v 147 (64 * B + k) = gL w 147 (64 * B + k) ∧ gI v 148 (64 * B + k) = gI w 148 (64 * B + k)) : ShB v N B := by
  rcases h with ⟨a1, a2⟩ | ⟨s, n, a1, a2, a3, a4, a5, a6, a7⟩
  · exact Or.inl ⟨h1.trans a1, h3.trans a2⟩
  · refine Or.inr ⟨s, n, a1, a2, h1.trans a3, h3.trans a4, h2.trans a5, h4.trans a6, fun k hk => ?_⟩
    obtain ⟨b1, b2, b3⟩ := h5 k (by omega)
    rw [b1, b2, b3]
    exact a7 k hk
theorem secS.fr {S : List (Nat × Option Nat)} {w v : Wd} {N : Nat} (h : secS w N) (hf : Fr S w v) (hs : dj S FS = true) : secS v N := fun B hB =>
  (h B hB).keep (hf.i 97 B (dj_off hs rfl)) (hf.i 98 B (dj_off hs rfl)) (hf.i 145 B (dj_off hs rfl)) (hf.i 146 B (dj_off hs rfl)) (fun k _ => ⟨hf.l (100 + B) k (dj_off hs (FS_in hB)), hf.l 147 _ (dj_off hs rfl), hf.i 148 _ (dj_off hs rfl)⟩)
theorem Fr.brd {B : Nat} (hB : B < 8) {w v : Wd} (h : Fr [(100 + B, none)] w v) : Fr FS w v := by
  refine ⟨h.1, fun a k hs => h.2 a k ?_⟩
  cases e : inS [(100 + B, none)] a k with
  | false => rfl
  | true =>
    have e2 : (Nat.beq (100 + B) a && true || false) = true := e
    rw [Bool.or_false, Bool.and_true, Nat.beq_eq] at e2
    rw [← e2, FS_in hB] at hs
    cases hs
theorem a_clear {N : Nat} {w : Wd} (hW : Fix w) (hS : secS w N) (d : Nat) (b : Int32) : ∃ r w1 w2, val (42, d + 1, 0, [some (.ref 64), some (.int b)], [], w) = some (some (.int r), w1) ∧ val (252, d + 1, 0, [some (.ref 108), some (.int b)], [], w1) = some (some (.int r), w2) ∧ Fr FS w w1 ∧ Fr FS w w2 ∧ secS w2 N := by
  rcases brd b with ⟨h1, h2⟩ | ⟨B, hB, rfl, h1, h2⟩
  · refine ⟨-1, w, w, ?_, ?_, Fr.refl _ _, Fr.refl _ _, hS⟩
    · refine (tr_42 d w hW b (fun h => absurd h1 h)).trans ?_
      rw [if_neg (fun h => h h1)]
    · refine (tr_252 d w hW b (fun h => absurd h2 h)).trans ?_
      rw [if_neg (fun h => h h2)]
  · have f1 : Fr FS w (sI w 97 B (-1)) := (Fr.refl _ w).sI 97 B _ rfl
    have hW1 := f1.fix rfl hW
    have hi : inB (nI B) 8 = true := inB_nI hB (by omega)
    refine ⟨0, sI w 97 B (-1), sI (sI w 97 B (-1)) 145 B (-9), ?_, ?_, f1, f1.sI 145 B _ rfl, fun C hC => ?_⟩
    · refine (tr_42 d w hW _ (fun _ => hi)).trans ?_
      rw [if_pos (by rw [h1]; decide), nI_clamp (by omega)]
    · refine (tr_252 d _ hW1 _ (fun _ => hi)).trans ?_
      rw [if_pos (by rw [h2]; decide), nI_clamp (by omega)]
    · by_cases e : C = B
      · subst e
        exact Or.inl ⟨(gI_ne _ _ _ _ (by decide)).trans (gI_same _ _ _ _), gI_same _ _ _ _⟩
      · refine (hS C hC).keep ?_ rfl ?_ rfl (fun k _ => ⟨rfl, rfl, rfl⟩)
        · exact (gI_ne _ _ _ _ (by decide)).trans (gI_nk w 97 _ e)
        · exact (gI_nk _ 145 _ e).trans (gI_ne _ _ _ _ (by decide))
theorem a_items {N : Nat} {w : Wd} (hW : Fix w) (hS : secS w N) (d : Nat) (b : Int32) : ∃ r, val (43, d + 1, 0, [some (.ref 64), some (.int b)], [], w) = some (some (.int r), w) ∧ val (253, d + 1, 0, [some (.ref 108), some (.int b)], [], w) = some (some (.int r), w) := by
  rcases brd b with ⟨h1, h2⟩ | ⟨B, hB, rfl, h1, h2⟩
  · refine ⟨-1, ?_, ?_⟩
    · refine (tr_43 d w hW b).trans ?_
      rw [if_neg (fun h => h h1)]
    · refine (tr_253 d w hW b (fun h => absurd h2 h) (fun h => absurd h2 h)).trans ?_
      rw [if_neg (fun h => h h2)]
  · have hi : inB (nI B) 8 = true := inB_nI hB (by omega)
    have hc : (nI B).toNatClampNeg = B := nI_clamp (by omega)
    rcases hS B hB with ⟨a1, a2⟩ | ⟨s, n, a1, a2, a3, a4, a5, a6, a7⟩
    · refine ⟨-4, ?_, ?_⟩
      · refine (tr_43 d w hW _).trans ?_
        rw [if_pos (by rw [h1]; decide)]
        refine (val_call (pc2 := 17) rfl rfl rfl rfl (rcvO (hW.k 96 (by omega) (by omega)) (by decide)) (Nat.le_of_ble_eq_true rfl) (Nat.le_of_ble_eq_true rfl) rfl ((tr_162 d w hW _ hi).trans (by rw [hc, a1, if_neg (fun h => h rfl)])) rfl).trans ?_
        refine (tr_43_17 d w hW _ _ (fun _ => hi)).trans ?_
        rw [if_neg (by decide)]
      · refine (tr_253 d w hW _ (fun _ => hi) (fun _ _ => hi)).trans ?_
        rw [if_pos (by rw [h2]; decide), hc, a2, if_neg (fun h => h rfl)]
    · refine ⟨nI n, ?_, ?_⟩
      · refine (tr_43 d w hW _).trans ?_
        rw [if_pos (by rw [h1]; decide)]
        refine (val_call (pc2 := 17) rfl rfl rfl rfl (rcvO (hW.k 96 (by omega) (by omega)) (by decide)) (Nat.le_of_ble_eq_true rfl) (Nat.le_of_ble_eq_true rfl) rfl ((tr_162 d w hW _ hi).trans (by rw [hc, a3, if_pos (neg_nn (by omega))])) rfl).trans ?_
        refine (tr_43_17 d w hW _ _ (fun _ => hi)).trans ?_
        rw [if_pos rfl, hc, a5]
      · refine (tr_253 d w hW _ (fun _ => hi) (fun _ _ => hi)).trans ?_
        have : ¬ nI s = -9 := by
          intro h
          have h1 := congrArg Int32.toInt h
          rw [nI_toInt (by omega)] at h1
          have h2 : (-9 : Int32).toInt = -9 := by decide
          omega
        rw [if_pos (by rw [h2]; decide), hc, a4, if_pos this, a6]
