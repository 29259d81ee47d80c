/-! THE RUN: conditions -/
/-- what a condition says of row f at step s -/
def cV (N : Nat) (f : Nat → Nat) (s : Nat) (cl : Bool) (c : Cd) : Bool :=
  if c.1 = 0 then decide (iv f N (c.2.2.1 - 1) + 1 = c.2.2.2)
  else if c.1 = 1 then decide (iv f N (c.2.2.1 - 1) < iv f N (c.2.2.2 - 1))
  else if c.1 = 2 then decide (pr f N % 2 = 0)
  else if c.1 = 3 then isId N f
  else if c.1 = 4 then cl
  else decide ((nI s - nI c.2.2.2) - (nI s - nI c.2.2.2) / nI c.2.2.1 * nI c.2.2.1 = 0)
theorem b01_d {p : Prop} [Decidable p] : b01 (decide p) = if p then 1 else 0 := by
  unfold b01
  by_cases h : p
  · rw [if_pos h, if_pos (decide_eq_true h)]
  · rw [if_neg h, if_neg (by rw [decide_eq_false h]; decide)]
theorem pI_1 {x : Nat} (h : 1 ≤ x) : nI x - 1 = nI (x - 1) := n_sub (b := 1) h
section HOLDS
variable {N : Nat} {f : Nat → Nat}
theorem c_isSo (h3 : 3 ≤ N) (hN : N ≤ 8) (hf : IsRow N f) {w : Wd} {o : Nat} {cs : List Cd} (hR : RuL w o cs) {i : Nat} (hi : i < cs.length) (hc : CdOK N (cs.getD i cd0)) {s : Nat} (hs : s < 2000) (cl : Bool) (d : Nat) : val (150, d + 2, 0, [some (.ref o), some (.int (nI i)), some (.int (nI N)), some (.int (nI (pkN N f))), some (.int (nI s)), some (.int (b01 cl)), none, none], [], w) = some (some (.int (b01 (cV N f s cl (cs.getD i cd0)))), w) := by
  obtain ⟨k1, ⟨q0, q1, q2, q3⟩, ⟨k2, k3, k4, k5⟩, l8, g4, g5⟩ := hR
  obtain ⟨e0, e1, e2, e3⟩ := g5 i hi
  generalize cs.getD i cd0 = c at e0 e1 e2 e3 hc ⊢
  obtain ⟨K, nt, a, b⟩ := c
  dsimp only at e0 e1 e2 e3 hc
  have hO := okn h3 hN
  have ii : (nI i).toNatClampNeg = i := nI_clamp (by omega)
  have ib : inB (nI i) 8 = true := inB_nI (by omega) (by omega)
  obtain ⟨hK, h01, h5⟩ := hc
  dsimp only at hK h01 h5
  have e := tz_150 d w o (nI i) (nI N) (nI (pkN N f)) (nI s) (b01 cl) 6 k1 (o + 3) q2 8 k4 ib (o + 4) q3 8 k5 ib (o + 1) q0 8 k2 ib (by intros; exact b01_nar cl) (by rw [ii, e0, e2]; intro a0 a1 a2 a3 a4 a5 a6; exact a5 (by rw [a6]; decide))
  rw [ii, e0, e2, e3] at e
  refine e.trans ?_
  unfold cV
  rcases (show K = 0 ∨ K = 1 ∨ K = 2 ∨ K = 3 ∨ K = 4 ∨ K = 5 by omega) with rfl | rfl | rfl | rfl | rfl | rfl
  · obtain ⟨a1, a2, a3, a4⟩ := h01 (by omega)
    rw [if_pos (show nI 0 = 0 from rfl), if_pos (show (0 : Nat) = 0 from rfl), pI_1 a1, pI_1 a3, c130f hN (show b - 1 < N by omega) hf.1, b01_d]
    dsimp only
    have hb := hf.1 (b - 1) (by omega)
    by_cases h : f (b - 1) = a - 1
    · have := iv_of hf (show b - 1 < N by omega)
      rw [h] at this
      rw [if_neg (fun hh => hh (by rw [h])), if_pos (by omega)]
    · rw [if_pos (n_ne h (by omega) (by omega)), if_neg (fun hh => h ?_)]
      have := hf.at_iv (show a - 1 < N by omega)
      rw [show iv f N (a - 1) = b - 1 by omega] at this
      exact this
  · obtain ⟨a1, a2, a3, a4⟩ := h01 (by omega)
    rw [if_neg (show ¬ nI 1 = 0 by decide), if_pos (show nI 1 = 1 from rfl), if_neg (show ¬ (1 : Nat) = 0 by decide), if_pos (show (1 : Nat) = 1 from rfl), pI_1 a1, b01_d]
    refine (val_call (pc2 := 87) rfl rfl rfl rfl rfl (Nat.le_of_ble_eq_true rfl) (Nat.le_of_ble_eq_true rfl) rfl (r_132 h3 hN hf (show a - 1 < N by omega) d w) rfl).trans ?_
    refine (tz_150_87 d w o _ _ _ _ _ _ _ _).trans ?_
    rw [pI_1 a3]
    refine (val_call (pc2 := 96) rfl rfl rfl rfl rfl (Nat.le_of_ble_eq_true rfl) (Nat.le_of_ble_eq_true rfl) rfl (r_132 h3 hN hf (show b - 1 < N by omega) d w) rfl).trans ?_
    refine (tz_150_96 d w o _ _ _ _ _ _ _ _ _).trans ?_
    dsimp only
    have h1 := (hf.iv).1 (a - 1) (by omega)
    have h2 := (hf.iv).1 (b - 1) (by omega)
    by_cases h : iv f N (a - 1) < iv f N (b - 1)
    · rw [if_neg (n_nle h (by omega)), if_pos h]
    · rw [if_pos (n_le (by omega) (by omega)), if_neg h]
  · rw [if_neg (show ¬ nI 2 = 0 by decide), if_neg (show ¬ nI 2 = 1 by decide), if_pos (show nI 2 = 2 from rfl), if_neg (show ¬ (2 : Nat) = 0 by decide), if_neg (show ¬ (2 : Nat) = 1 by decide), if_pos (show (2 : Nat) = 2 from rfl), b01_d]
    refine (val_call (pc2 := 110) rfl rfl rfl rfl rfl (Nat.le_of_ble_eq_true rfl) (Nat.le_of_ble_eq_true rfl) rfl (ev_142 d w (nI N) (nI (pkN N f)) hO) rfl).trans ?_
    rw [r_142 hN hf]
    refine (tz_150_110 d w o _ _ _ _ _ _ _ _ (by split <;> decide)).trans ?_
    split <;> rfl
  · rw [if_neg (show ¬ nI 3 = 0 by decide), if_neg (show ¬ nI 3 = 1 by decide), if_neg (show ¬ nI 3 = 2 by decide), if_pos (show nI 3 = 3 from rfl), if_neg (show ¬ (3 : Nat) = 0 by decide), if_neg (show ¬ (3 : Nat) = 1 by decide), if_neg (show ¬ (3 : Nat) = 2 by decide), if_pos (show (3 : Nat) = 3 from rfl)]
    refine (val_call (pc2 := 116) rfl rfl rfl rfl rfl (Nat.le_of_ble_eq_true rfl) (Nat.le_of_ble_eq_true rfl) rfl (ev_133 (d + 1) w (nI N) hO) rfl).trans ?_
    rw [r_133 hN]
    refine (tz_150_116 d w o _ _ _ _ _ _ _ _ _).trans ?_
    cases h : isId N f with
    | true => rw [if_neg (fun hh => hh ((pk_id hN hf).mpr h))]; rfl
    | false => rw [if_pos (fun hh => by rw [(pk_id hN hf).mp hh] at h; cases h)]; rfl
  · rw [if_neg (show ¬ nI 4 = 0 by decide), if_neg (show ¬ nI 4 = 1 by decide), if_neg (show ¬ nI 4 = 2 by decide), if_neg (show ¬ nI 4 = 3 by decide), if_pos (show nI 4 = 4 from rfl), if_neg (show ¬ (4 : Nat) = 0 by decide), if_neg (show ¬ (4 : Nat) = 1 by decide), if_neg (show ¬ (4 : Nat) = 2 by decide), if_neg (show ¬ (4 : Nat) = 3 by decide), if_pos (show (4 : Nat) = 4 from rfl)]
  · obtain ⟨a1, a2, a3⟩ := h5 rfl
    rw [if_neg (show ¬ nI 5 = 0 by decide), if_neg (show ¬ nI 5 = 1 by decide), if_neg (show ¬ nI 5 = 2 by decide), if_neg (show ¬ nI 5 = 3 by decide), if_neg (show ¬ nI 5 = 4 by decide), if_neg (n_nle0 (by omega) (by omega)), if_neg (show ¬ (5 : Nat) = 0 by decide), if_neg (show ¬ (5 : Nat) = 1 by decide), if_neg (show ¬ (5 : Nat) = 2 by decide), if_neg (show ¬ (5 : Nat) = 3 by decide), if_neg (show ¬ (5 : Nat) = 4 by decide), b01_d]
    dsimp only
    by_cases h : nI s - nI b - (nI s - nI b) / nI a * nI a = 0
    · rw [if_neg (fun hh => hh h), if_pos h]
    · rw [if_pos h, if_neg h]
theorem m_placeL (h3 : 3 ≤ N) (hN : N ≤ 8) (hf : IsRow N f) {w : Wd} (hW : Fix w) (hl : ∀ p, p < N → gI w 109 (p + 1) = nI (f p + 1)) {x : Nat} (hx : x < N) (d : Nat) (v : Int32) : ∀ n p, p + n = iv f N x → val (210, d + 1, 12, [some (.ref 108), some (.int v), some (.int (nI (x + 1))), some (.int (nI (p + 1)))], [], w) = some (some (.int (nI (iv f N x + 1))), w)
  | 0, p, h => by
    have hi := hf.iv.1 x hx
    refine (tr_210_12 d w hW _ _ _ (inB_nI (by omega) (by omega))).trans ?_
    rw [nI_clamp (by omega), hl p (by omega), show p = iv f N x by omega, hf.at_iv hx, if_pos rfl]
  | n + 1, p, h => by
    have hi := hf.iv.1 x hx
    have hp : p < N := by omega
    refine (tr_210_12 d w hW _ _ _ (inB_nI (by omega) (by omega))).trans ?_
    rw [nI_clamp (by omega), hl p hp, if_neg (n_ne (fun e => ?_) (by have := hf.1 p hp; omega) (by omega)), n_succ]
    · exact m_placeL h3 hN hf hW hl hx d v n (p + 1) (by omega)
    · have := iv_of hf hp
      rw [show f p = x by omega] at this
      omega
theorem m_placeOf (h3 : 3 ≤ N) (hN : N ≤ 8) {v : Int32} (hf : IsNum N v f) {w : Wd} (hW : Fix w) (hn : gI w 108 0 = nI N) {x : Nat} (hx : x < N) (d : Nat) : ∃ w', val (210, d + 1, 0, [some (.ref 108), some (.int v), some (.int (nI (x + 1))), none], [], w) = some (some (.int (nI (iv f N x + 1))), w') ∧ Fr SC w w' := by
  obtain ⟨w1, e1, f1, l1⟩ := m_into h3 hN hf d 109 (by decide) (by decide) hW (hW.k 109 (by decide) (by decide)) hn
  have hW1 := f1.fix rfl hW
  refine ⟨w1, (tr_210 d w hW _ _).trans ?_, f1.mono rfl⟩
  refine (val_call (pc2 := 9) rfl rfl rfl rfl (hW.rc _) (Nat.le_of_ble_eq_true rfl) (Nat.le_of_ble_eq_true rfl) rfl e1 rfl).trans ?_
  refine (tr_210_9 d w1 _ _ _).trans ?_
  exact m_placeL h3 hN hf.1 hW1 l1 hx d v _ 0 (Nat.zero_add _)
/-- both ways of a condition -/
theorem b01_ne {a b : Bool} : ¬ b01 a = b01 b ↔ (a != b) = true := by cases a <;> cases b <;> decide
theorem b1 {b : Bool} : b01 b = 1 ↔ b = true := by cases b <;> decide
theorem m_holds (h3 : 3 ≤ N) (hN : N ≤ 8) {v : Int32} (hf : IsNum N v f) {w : Wd} (hW : Fix w) (hn : gI w 108 0 = nI N) {I : Nat} (hI : I < 1440) {c : Cd} (hE : cE w I c) (hc : CdOK N c) {s : Nat} (hs : s < 2000) {cl : Bool} (h128 : gI w 128 s = b01 cl) (d : Nat) : ∃ w', val (211, d + 2, 0, [some (.ref 108), some (.int (nI I)), some (.int v), some (.int (nI s)), none, none], [], w) = some (some (.int (b01 (cV N f s cl c != c.2.1))), w') ∧ Fr SC w w' := by
  obtain ⟨K, nt, a, b⟩ := c
  obtain ⟨e0, e1, e2⟩ := hE
  obtain ⟨hK, h01, h5⟩ := hc
  dsimp only at e0 e1 e2 hK h01 h5
  have iI : (nI I).toNatClampNeg = I := nI_clamp (by omega)
  have iS : (nI s).toNatClampNeg = s := nI_clamp (by omega)
  have bI : inB (nI I) 1440 = true := inB_nI (by omega) (by omega)
  have nz : K = 5 → ¬ nI a = 0 := fun h => by obtain ⟨a1, a2, a3⟩ := h5 h; exact n_ne0 (by omega) (by omega)
  have e := tr_211 d w hW (nI I) v (nI s) bI (by intros; exact bI) (by
    rw [iI, e0]
    intro a0 a1 a2 a3 a4
    rcases (show K = 0 ∨ K = 1 ∨ K = 2 ∨ K = 3 ∨ K = 4 ∨ K = 5 by omega) with rfl | rfl | rfl | rfl | rfl | rfl
    · exact absurd rfl a0
    · exact absurd rfl a1
    · exact absurd rfl a2
    · exact absurd rfl a3
    · exact absurd rfl a4
    · rw [(e2 (Or.inr rfl)).1]; exact nz rfl) (by intros; exact bI) (by intros; exact bI) (by intros; exact inB_nI (by omega) (by omega)) (by intros; exact bI) (by intros; exact bI) (by intros; exact bI)
  rw [iI, iS, e0, e1, h128] at e
  unfold cV
  dsimp only
  rcases (show K = 0 ∨ K = 1 ∨ K = 2 ∨ K = 3 ∨ K = 4 ∨ K = 5 by omega) with rfl | rfl | rfl | rfl | rfl | rfl
  · obtain ⟨a1, a2, a3, a4⟩ := h01 (by omega)
    obtain ⟨g1, g2⟩ := e2 (Or.inl (by omega))
    rw [if_neg (show ¬ ¬ nI 0 = 0 from fun h => h rfl), g1, show a = (a - 1) + 1 by omega] at e
    obtain ⟨w1, r1, f1⟩ := m_placeOf h3 hN hf hW hn (show a - 1 < N by omega) d
    have hW1 := f1.fix rfl hW
    refine ⟨w1, e.trans ?_, f1⟩
    refine (val_call (pc2 := 24) rfl rfl rfl rfl (hW.rc _) (Nat.le_of_ble_eq_true rfl) (Nat.le_of_ble_eq_true rfl) rfl r1 rfl).trans ?_
    refine (tr_211_24 d w1 hW1 _ _ _ _ _ (by intros; exact bI) (by intros; exact bI) (by intros; exact bI)).trans ?_
    rw [iI, (f1.i 119 I rfl).trans g2, (f1.i 117 I rfl).trans e1]
    have hi := (hf.1.iv).1 (a - 1) (by omega)
    rw [if_pos (show (0 : Nat) = 0 from rfl)]
    by_cases h : iv f N (a - 1) + 1 = b
    · rw [if_neg (fun hh => hh (by rw [h])), decide_eq_true h]
      cases nt <;> rfl
    · rw [if_pos (n_ne h (by omega) (by omega)), decide_eq_false h]
      cases nt <;> rfl
  · obtain ⟨a1, a2, a3, a4⟩ := h01 (by omega)
    obtain ⟨g1, g2⟩ := e2 (Or.inl (by omega))
    rw [if_pos (show ¬ nI 1 = 0 by decide), if_neg (show ¬ ¬ nI 1 = 1 from fun h => h rfl), g1, show a = (a - 1) + 1 by omega] at e
    obtain ⟨w1, r1, f1⟩ := m_placeOf h3 hN hf hW hn (show a - 1 < N by omega) d
    have hW1 := f1.fix rfl hW
    obtain ⟨w2, r2, f2⟩ := m_placeOf h3 hN hf hW1 ((f1.i 108 0 rfl).trans hn) (show b - 1 < N by omega) d
    have hW2 := f2.fix rfl hW1
    refine ⟨w2, e.trans ?_, f1.trans f2⟩
    refine (val_call (pc2 := 58) rfl rfl rfl rfl (hW.rc _) (Nat.le_of_ble_eq_true rfl) (Nat.le_of_ble_eq_true rfl) rfl r1 rfl).trans ?_
    refine (tr_211_58 d w1 hW1 _ _ _ _ _ bI).trans ?_
    rw [iI, (f1.i 119 I rfl).trans g2, show b = (b - 1) + 1 by omega]
    refine (val_call (pc2 := 69) rfl rfl rfl rfl (hW1.rc _) (Nat.le_of_ble_eq_true rfl) (Nat.le_of_ble_eq_true rfl) rfl r2 rfl).trans ?_
    refine (tr_211_69 d w2 hW2 _ _ _ _ _ _ (by intros; exact bI) (by intros; exact bI)).trans ?_
    rw [iI, ((f1.trans f2).i 117 I rfl).trans e1]
    have h1 := (hf.1.iv).1 (a - 1) (by omega)
    have h2 := (hf.1.iv).1 (b - 1) (by omega)
    rw [if_neg (show ¬ (1 : Nat) = 0 by decide), if_pos (show (1 : Nat) = 1 from rfl), show b - 1 + 1 - 1 = b - 1 by omega]
    by_cases h : iv f N (a - 1) < iv f N (b - 1)
    · rw [if_neg (n_nle (show iv f N (a - 1) + 1 < iv f N (b - 1) + 1 by omega) (by omega)), decide_eq_true h]
      cases nt <;> rfl
    · rw [if_pos (n_le (show iv f N (b - 1) + 1 ≤ iv f N (a - 1) + 1 by omega) (by omega)), decide_eq_false h]
      cases nt <;> rfl
  · rw [if_pos (show ¬ nI 2 = 0 by decide), if_pos (show ¬ nI 2 = 1 by decide), if_neg (show ¬ ¬ nI 2 = 2 from fun h => h rfl)] at e
    obtain ⟨w1, r1, f1⟩ := m_isEven h3 hN hf d hW hn
    have hW1 := f1.fix rfl hW
    refine ⟨w1, e.trans ?_, f1⟩
    refine (val_call (pc2 := 91) rfl rfl rfl rfl (hW.rc _) (Nat.le_of_ble_eq_true rfl) (Nat.le_of_ble_eq_true rfl) rfl r1 rfl).trans ?_
    refine (tr_211_91 d w1 hW1 _ _ _ _ _ bI).trans ?_
    rw [iI, (f1.i 117 I rfl).trans e1, if_neg (show ¬ (2 : Nat) = 0 by decide), if_neg (show ¬ (2 : Nat) = 1 by decide), if_pos (show (2 : Nat) = 2 from rfl)]
    by_cases h : pr f N % 2 = 0
    · rw [if_pos h, decide_eq_true h]
      cases nt <;> rfl
    · rw [if_neg h, decide_eq_false h]
      cases nt <;> rfl
  · rw [if_pos (show ¬ nI 3 = 0 by decide), if_pos (show ¬ nI 3 = 1 by decide), if_pos (show ¬ nI 3 = 2 by decide), if_neg (show ¬ ¬ nI 3 = 3 from fun h => h rfl)] at e
    refine ⟨w, e.trans ?_, Fr.refl _ _⟩
    refine (val_call (pc2 := 105) rfl rfl rfl rfl (hW.rc _) (Nat.le_of_ble_eq_true rfl) (Nat.le_of_ble_eq_true rfl) rfl (m_rounds hN (d + 1) hW hn) rfl).trans ?_
    refine (tr_211_105 d w hW _ _ _ _ _ _ (by intros; exact bI) (by intros; exact bI)).trans ?_
    rw [iI, e1, hf.2, if_neg (show ¬ (3 : Nat) = 0 by decide), if_neg (show ¬ (3 : Nat) = 1 by decide), if_neg (show ¬ (3 : Nat) = 2 by decide), if_pos (show (3 : Nat) = 3 from rfl)]
    cases h : isId N f with
    | true => rw [if_neg (fun hh => hh ((dc_id hN hf.1).mpr h))]; cases nt <;> rfl
    | false => rw [if_pos (fun hh => by rw [(dc_id hN hf.1).mp hh] at h; cases h)]; cases nt <;> rfl
  · rw [if_pos (show ¬ nI 4 = 0 by decide), if_pos (show ¬ nI 4 = 1 by decide), if_pos (show ¬ nI 4 = 2 by decide), if_pos (show ¬ nI 4 = 3 by decide), if_neg (show ¬ ¬ nI 4 = 4 from fun h => h rfl)] at e
    refine ⟨w, e.trans ?_, Fr.refl _ _⟩
    rw [if_neg (show ¬ (4 : Nat) = 0 by decide), if_neg (show ¬ (4 : Nat) = 1 by decide), if_neg (show ¬ (4 : Nat) = 2 by decide), if_neg (show ¬ (4 : Nat) = 3 by decide), if_pos (show (4 : Nat) = 4 from rfl)]
    cases nt <;> cases cl <;> rfl
  · obtain ⟨a1, a2, a3⟩ := h5 rfl
    obtain ⟨g1, g2⟩ := e2 (Or.inr rfl)
    rw [if_pos (show ¬ nI 5 = 0 by decide), if_pos (show ¬ nI 5 = 1 by decide), if_pos (show ¬ nI 5 = 2 by decide), if_pos (show ¬ nI 5 = 3 by decide), if_pos (show ¬ nI 5 = 4 by decide), g1, g2] at e
    refine ⟨w, e.trans ?_, Fr.refl _ _⟩
    rw [if_neg (show ¬ (5 : Nat) = 0 by decide), if_neg (show ¬ (5 : Nat) = 1 by decide), if_neg (show ¬ (5 : Nat) = 2 by decide), if_neg (show ¬ (5 : Nat) = 3 by decide), if_neg (show ¬ (5 : Nat) = 4 by decide)]
    by_cases h : nI s - nI b - (nI s - nI b) / nI a * nI a = 0
    · rw [if_neg (fun hh => hh h), decide_eq_true h]
      cases nt <;> rfl
    · rw [if_pos h, decide_eq_false h]
      cases nt <;> rfl
end HOLDS
