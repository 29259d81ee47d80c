/-! THE RUN as others see it: its rows -/
theorem val_inN {y d pc t : Nat} {ls : List (Option Value)} {r : List Value} {w : Wd} {av : Value} {sw : List (Int32 × Nat)} {o : Int} (h : mtab y pc = some (.ifnull o, 3, [t], av, sw)) : val (y, d, pc, ls, .null :: r, w) = val (y, d, t, ls, r, w) := by
  refine val_g ?_
  unfold plan
  simp only [h, pst, pln]
  rfl
theorem val_nnN {y d pc t : Nat} {ls : List (Option Value)} {r : List Value} {w : Wd} {av : Value} {sw : List (Int32 × Nat)} {o : Int} (h : mtab y pc = some (.ifnonnull o, 3, [t], av, sw)) : val (y, d, pc, ls, .null :: r, w) = val (y, d, pc + 3, ls, r, w) := by
  refine val_g ?_
  unfold plan
  simp only [h, pst, pln]
  rfl
theorem fvN {w : Wd} {a k : Nat} (h : gR w a k = none) : fval w a k 3 = .null := by
  show va_rf (gR w a k) = _
  rw [h]; rfl
theorem c152n (d : Nat) {w : Wd} (hW : Fix w) (hr : gR w 67 0 = none) : val (152, d, 0, [some (.ref 67)], [], w) = some (some (.int 0), w) := by
  refine (val_g (c2 := (152, d, 1, [some (.ref 67)], [.ref 67], w)) rfl).trans ?_
  refine (val_gf rfl (hW.k 67 (Nat.le_of_ble_eq_true rfl) (Nat.le_of_ble_eq_true rfl)) (fvN hr)).trans ?_
  refine (val_inN rfl).trans ?_
  refine (val_g (c2 := (152, d, 12, [some (.ref 67)], [.int 0], w)) rfl).trans ?_
  exact val_r rfl
def RunOn (w : Wd) (N S : Nat) (F : Nat → Nat → Nat) : Prop := (∃ A, gR w 67 0 = some A ∧ 64 ≤ A) ∧ gI w 108 27 = 1 ∧ S ≤ 2000 ∧ gI w 67 9 = nI S ∧ gI w 108 29 = nI S ∧ ∀ k, k ≤ S → IsRow N (F k) ∧ gI w 68 k = nI (pkN N (F k)) ∧ gI w 127 k = nI (dcN N (F k))
def RunOff (w : Wd) : Prop := gR w 67 0 = none ∧ gI w 108 27 = 0
/-- what others see of the run -/
def secV (w : Wd) (N : Nat) : Prop := RunOff w ∨ ∃ S F, RunOn w N S F
abbrev FV : List (Nat × Option Nat) := [(67, some 0), (67, some 9), (108, some 27), (108, some 29), (68, none), (127, none)]
theorem RunOn.fr {S : List (Nat × Option Nat)} {w v : Wd} {N n : Nat} {F : Nat → Nat → Nat} (h : RunOn w N n F) (hf : Fr S w v) (hs : dj S FV = true) : RunOn v N n F := by
  obtain ⟨⟨A, a1, a2⟩, b, c, d, e, f⟩ := h
  refine ⟨⟨A, (hf.r 67 0 (dj_off hs rfl)).trans a1, a2⟩, (hf.i 108 27 (dj_off hs rfl)).trans b, c, (hf.i 67 9 (dj_off hs rfl)).trans d, (hf.i 108 29 (dj_off hs rfl)).trans e, fun k hk => ?_⟩
  obtain ⟨g1, g2, g3⟩ := f k hk
  exact ⟨g1, (hf.i 68 k (dj_off hs rfl)).trans g2, (hf.i 127 k (dj_off hs rfl)).trans g3⟩
theorem RunOff.fr {S : List (Nat × Option Nat)} {w v : Wd} (h : RunOff w) (hf : Fr S w v) (hs : dj S FV = true) : RunOff v :=
  ⟨(hf.r 67 0 (dj_off hs rfl)).trans h.1, (hf.i 108 27 (dj_off hs rfl)).trans h.2⟩
theorem c_isOn (d : Nat) {w : Wd} (hW : Fix w) {N S : Nat} {F : Nat → Nat → Nat} (h : RunOn w N S F) : val (152, d, 0, [some (.ref 67)], [], w) = some (some (.int 1), w) := by
  obtain ⟨⟨A, a1, a2⟩, -⟩ := h
  exact tr_152 d w hW A a1 a2
theorem Fix.k67 {w : Wd} (h : Fix w) : wK w 67 = (7, 13) := h.k 67 (by omega) (by omega)
theorem c_hasOff (d : Nat) {w : Wd} (hW : Fix w) (h : RunOff w) (x c : Int32) : val (155, d + 1, 0, [some (.ref 67), some (.int x), some (.int c)], [], w) = some (some (.int 0), w) := by
  refine (tr_155 d w x c).trans ?_
  refine (val_call (pc2 := 4) rfl rfl rfl rfl (rcvO hW.k67 (by decide)) (Nat.le_of_ble_eq_true rfl) (Nat.le_of_ble_eq_true rfl) rfl (c152n d hW h.1) rfl).trans ?_
  refine (tr_155_4 d w hW x c _).trans ?_
  rw [if_pos rfl]
theorem c_has (d : Nat) {w : Wd} (hW : Fix w) {N S : Nat} {F : Nat → Nat → Nat} (h : RunOn w N S F) (x : Int32) {c : Nat} (hc1 : 1 ≤ c) (hc : c ≤ 2001) : val (155, d + 1, 0, [some (.ref 67), some (.int x), some (.int (nI c))], [], w) = some (some (.int (if 0 ≤ x.toInt ∧ x.toInt + c ≤ S + 1 then 1 else 0)), w) := by
  refine (tr_155 d w x _).trans ?_
  refine (val_call (pc2 := 4) rfl rfl rfl rfl (rcvO hW.k67 (by decide)) (Nat.le_of_ble_eq_true rfl) (Nat.le_of_ble_eq_true rfl) rfl (c_isOn d hW h) rfl).trans ?_
  refine (tr_155_4 d w hW x _ _).trans ?_
  obtain ⟨-, -, c1, c2, -⟩ := h
  rw [if_neg (by decide), c2, n_succ]
  have h0 : (0 : Int32).toInt = 0 := by decide
  by_cases hx : x < 0
  · have := Int32.lt_iff_toInt_lt.mp hx
    rw [if_pos hx, if_neg (by omega)]
  · have hx' := mt Int32.lt_iff_toInt_lt.mpr hx
    rw [if_neg hx]
    have e : (nI (S + 1) - nI c < x) ↔ (S + 1 : Int) - c < x.toInt := by
      rw [Int32.lt_iff_toInt_lt, n_subI (by omega) (by omega)]
      omega
    by_cases hy : nI (S + 1) - nI c < x
    · have := e.mp hy
      rw [if_pos hy, if_neg (by omega)]
    · have := mt e.mpr hy
      rw [if_neg hy, if_pos (by omega)]
theorem m_isAtOff (d : Nat) {w : Wd} (hW : Fix w) (h : RunOff w) (x : Int32) : val (214, d, 0, [some (.ref 108), some (.int x)], [], w) = some (some (.int 0), w) := by
  refine (tr_214 d w hW x).trans ?_
  rw [if_pos h.2]
theorem m_isAt (d : Nat) {w : Wd} (hW : Fix w) {N S : Nat} {F : Nat → Nat → Nat} (h : RunOn w N S F) (x : Int32) : val (214, d, 0, [some (.ref 108), some (.int x)], [], w) = some (some (.int (if 0 ≤ x.toInt ∧ x.toInt ≤ S then 1 else 0)), w) := by
  obtain ⟨-, b, c1, -, c3, -⟩ := h
  refine (tr_214 d w hW x).trans ?_
  rw [b, if_neg (by decide), c3]
  have h0 : (0 : Int32).toInt = 0 := by decide
  by_cases hx : x < 0
  · have := Int32.lt_iff_toInt_lt.mp hx
    rw [if_pos hx, if_neg (by omega)]
  · have hx' := mt Int32.lt_iff_toInt_lt.mpr hx
    rw [if_neg hx]
    have e : (nI S < x) ↔ (S : Int) < x.toInt := by
      rw [Int32.lt_iff_toInt_lt, nI_toInt (by omega)]
    by_cases hy : nI S < x
    · have := e.mp hy
      rw [if_pos hy, if_neg (by omega)]
    · have := mt e.mpr hy
      rw [if_neg hy, if_pos (by omega)]
theorem i_of {x : Int32} (h : 0 ≤ x.toInt) : ∃ V : Nat, V < 2 ^ 31 ∧ x = nI V ∧ x.toInt = V := by
  have h0 : (0 : Int32).toInt = 0 := by decide
  obtain ⟨V, hV, rfl⟩ := i_nat (v := x) (fun hh => by have := Int32.lt_iff_toInt_lt.mp hh; omega)
  exact ⟨V, hV, rfl, nI_toInt hV⟩
theorem a_rowAt {N : Nat} {w : Wd} (hW : Fix w) (hB : Bl w N) (hV : secV w N) (d : Nat) (k : Int32) : ∃ r, val (18, d + 3, 0, [some (.ref 64), some (.int k)], [], w) = some (some (.int r), w) ∧ val (215, d + 3, 0, [some (.ref 108), some (.int k)], [], w) = some (some (.int r), w) := by
  rcases hV with hV | ⟨S, F, hV⟩
  · refine ⟨-1, ?_, ?_⟩
    · refine (tr_18 d w hW k).trans ?_
      refine (val_call (pc2 := 9) rfl rfl rfl rfl (rcvO hW.k67 (by decide)) (Nat.le_of_ble_eq_true rfl) (Nat.le_of_ble_eq_true rfl) rfl (c_hasOff (d + 1) hW hV k 1) rfl).trans ?_
      refine (tr_18_9 d w hW k _ (fun h => absurd rfl h)).trans ?_
      rw [if_pos rfl]
    · refine (tr_215 (d + 2) w k).trans ?_
      refine (val_call (pc2 := 5) rfl rfl rfl rfl (hW.rc _) (Nat.le_of_ble_eq_true rfl) (Nat.le_of_ble_eq_true rfl) rfl (m_isAtOff (d + 2) hW hV k) rfl).trans ?_
      refine (tr_215_5 (d + 2) w hW k _ (fun h => absurd rfl h)).trans ?_
      rw [if_pos rfl]
  · have hV2 := hV
    obtain ⟨-, -, c1, -, -, c2⟩ := hV2
    by_cases h : 0 ≤ k.toInt ∧ k.toInt ≤ S
    · obtain ⟨V, hv, rfl, hv2⟩ := i_of h.1
      obtain ⟨g1, g2, g3⟩ := c2 V (by omega)
      refine ⟨nI (dcN N (F V)), ?_, ?_⟩
      · refine (tr_18 d w hW _).trans ?_
        refine (val_call (pc2 := 9) rfl rfl rfl rfl (rcvO hW.k67 (by decide)) (Nat.le_of_ble_eq_true rfl) (Nat.le_of_ble_eq_true rfl) rfl (c_has (d + 1) hW hV (nI V) (c := 1) (by omega) (by omega)) rfl).trans ?_
        refine (tr_18_9 d w hW _ _ (fun _ => inB_nI (by omega) (by omega))).trans ?_
        rw [if_neg (by rw [if_pos (by omega)]; decide), nI_clamp hv, g2]
        refine (val_call (pc2 := 25) rfl rfl rfl rfl (hW.rb _) (Nat.le_of_ble_eq_true rfl) (Nat.le_of_ble_eq_true rfl) rfl (c_numberOf hW hB g1.1 d) rfl).trans ?_
        exact tr_18_25 d w _ _
      · refine (tr_215 (d + 2) w _).trans ?_
        refine (val_call (pc2 := 5) rfl rfl rfl rfl (hW.rc _) (Nat.le_of_ble_eq_true rfl) (Nat.le_of_ble_eq_true rfl) rfl (m_isAt (d + 2) hW hV (nI V)) rfl).trans ?_
        refine (tr_215_5 (d + 2) w hW _ _ (fun _ => inB_nI (by omega) (by omega))).trans ?_
        rw [if_neg (by rw [if_pos h]; decide), nI_clamp hv, g3]
    · refine ⟨-1, ?_, ?_⟩
      · refine (tr_18 d w hW _).trans ?_
        refine (val_call (pc2 := 9) rfl rfl rfl rfl (rcvO hW.k67 (by decide)) (Nat.le_of_ble_eq_true rfl) (Nat.le_of_ble_eq_true rfl) rfl (c_has (d + 1) hW hV k (c := 1) (by omega) (by omega)) rfl).trans ?_
        refine (tr_18_9 d w hW _ _ (fun hh => absurd (if_neg (by omega)) hh)).trans ?_
        rw [if_pos (if_neg (by omega))]
      · refine (tr_215 (d + 2) w _).trans ?_
        refine (val_call (pc2 := 5) rfl rfl rfl rfl (hW.rc _) (Nat.le_of_ble_eq_true rfl) (Nat.le_of_ble_eq_true rfl) rfl (m_isAt (d + 2) hW hV k) rfl).trans ?_
        refine (tr_215_5 (d + 2) w hW _ _ (fun hh => absurd (if_neg h) hh)).trans ?_
        rw [if_pos (if_neg h)]
