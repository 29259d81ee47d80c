/-! THE RUN: the first rule that does -/
/-- all conditions, from the i-th on -/
def cA (N : Nat) (f : Nat → Nat) (s : Nat) (cl : Bool) (cs : List Cd) : Nat → Nat → Bool
  | 0, _ => true
  | n + 1, i => (cV N f s cl (cs.getD i cd0) != (cs.getD i cd0).2.1) && cA N f s cl cs n (i + 1)
/-- the first rule from the i-th on whose conditions hold -/
def fR (N : Nat) (f : Nat → Nat) (s : Nat) (cl : Bool) (rs : List Ru) : Nat → Nat → Option Nat
  | 0, _ => none
  | n + 1, i => if cA N f s cl (rs.getD i ru0).1 (rs.getD i ru0).1.length 0 = true then some i else fR N f s cl rs n (i + 1)
theorem fR_lt {N : Nat} {f : Nat → Nat} {s : Nat} {cl : Bool} {rs : List Ru} : ∀ n i j, fR N f s cl rs n i = some j → i ≤ j ∧ j < i + n
  | 0, _, _, h => by cases h
  | n + 1, i, j, h => by
    unfold fR at h
    split at h
    · cases h; omega
    · have := fR_lt n (i + 1) j h; omega
theorem getD_mem {α : Type} {l : List α} {x : α} : ∀ {i : Nat}, i < l.length → l.getD i x ∈ l := by
  intro i hi
  rw [List.getD_eq_getElem?_getD, List.getElem?_eq_getElem hi]
  exact List.getElem_mem hi
section RULEOF
variable {N : Nat} {f : Nat → Nat}
theorem c_holdsL (h3 : 3 ≤ N) (hN : N ≤ 8) (hf : IsRow N f) {w : Wd} {o : Nat} {cs : List Cd} (hR : RuL w o cs) (hc : ∀ x, x ∈ cs → CdOK N x) {s : Nat} (hs : s < 2000) (cl : Bool) (d : Nat) : ∀ n i, i + n = cs.length → val (149, d + 3, 3, [some (.ref o), some (.int (nI N)), some (.int (nI (pkN N f))), some (.int (nI s)), some (.int (b01 cl)), some (.int (nI i))], [], w) = some (some (.int (b01 (cA N f s cl cs n i))), w)
  | 0, i, h => by
    refine (tz_149_3 d w o _ _ _ _ _ 6 hR.1).trans ?_
    rw [hR.2.2.2.2.1, if_pos (n_le (by omega) (by have := hR.2.2.2.1; omega))]
    rfl
  | n + 1, i, h => by
    have h8 := hR.2.2.2.1
    obtain ⟨k1, ⟨q0, q1, q2, q3⟩, ⟨k2, k3, k4, k5⟩, l8, g4, g5⟩ := id hR
    refine (tz_149_3 d w o _ _ _ _ _ 6 k1).trans ?_
    rw [g4, if_neg (n_nle (show i < cs.length by omega) (by omega))]
    have hi : i < cs.length := by omega
    refine (val_call (pc2 := 23) rfl rfl rfl rfl (rcvO k1 (by decide)) (Nat.le_of_ble_eq_true rfl) (Nat.le_of_ble_eq_true rfl) rfl (c_isSo h3 hN hf hR hi (hc _ (getD_mem hi)) hs cl d) rfl).trans ?_
    refine (tz_149_23 d w o _ _ _ _ _ _ 6 k1 (o + 2) q1 8 k3 (inB_nI (by omega) (by omega))).trans ?_
    rw [nI_clamp (by omega), (g5 i hi).2.1]
    unfold cA
    cases hx : (cV N f s cl (cs.getD i cd0) != (cs.getD i cd0).2.1) with
    | true =>
      rw [if_pos (b01_ne.mpr hx), n_succ, Bool.true_and]
      exact c_holdsL h3 hN hf hR hc hs cl d n (i + 1) (by omega)
    | false =>
      rw [if_neg (fun hh => by rw [b01_ne.mp hh] at hx; cases hx), Bool.false_and]
      rfl
theorem c_ruleForL (h3 : 3 ≤ N) (hN : N ≤ 8) (hf : IsRow N f) {w : Wd} {M c : Nat} {rs : List Ru} (hM : MeV w N M rs c) (hr : ∀ j, j < rs.length → RuOK N (rs.getD j ru0)) {s : Nat} (hs : s < 2000) (cl : Bool) (d : Nat) : ∀ n i, i + n = rs.length → val (73, d + 4, 3, [some (.ref M), some (.int (nI N)), some (.int (nI (pkN N f))), some (.int (nI s)), some (.int (b01 cl)), some (.int (nI i))], [], w) = some (some (match fR N f s cl rs n i with | some j => .ref (M + 2 + 5 * j) | none => .null), w)
  | 0, i, h => by
    refine (tr_73_3 d w M _ _ _ _ _ 3 hM.2.2.1 (M + 1) hM.2.2.2.2.1).trans ?_
    rw [hM.2.2.2.2.2.1, if_pos (n_le (by omega) (by have := hM.2.2.2.2.2.2.2.1; omega))]
    rfl
  | n + 1, i, h => by
    have hk := hM.2.2.1
    have hr0 := hM.2.2.2.2.1
    have h20 := hM.2.2.2.2.2.2.2.1
    have hi : i < rs.length := by omega
    obtain ⟨q1, q2⟩ := hM.2.2.2.2.2.2.2.2 i hi
    have hi2 : (nI i).toNatClampNeg = i := nI_clamp (by omega)
    refine (tr_73_3 d w M _ _ _ _ _ 3 hk (M + 1) hr0).trans ?_
    rw [hM.2.2.2.2.2.1, if_neg (n_nle hi (by omega))]
    refine (val_aal rfl hM.2.2.2.1 rfl (inB_nI (by omega) (by omega)) (by rw [hi2]; exact q1)).trans ?_
    refine (tr_73_19 d w M _ _ _ _ _ _).trans ?_
    have e0 := c_holdsL h3 hN hf q2.1 (hr i hi).1 hs cl d (rs.getD i ru0).1.length 0 (Nat.zero_add _)
    have e1 := (tz_149 d w (M + 2 + 5 * i) (nI N) (nI (pkN N f)) (nI s) (b01 cl)).trans e0
    refine (val_call (pc2 := 27) rfl rfl rfl rfl (rcvO q2.1.1 (by decide)) (Nat.le_of_ble_eq_true rfl) (Nat.le_of_ble_eq_true rfl) rfl e1 rfl).trans ?_
    refine (tr_73_27 d w M _ _ _ _ _ _ 3 hk (M + 1) hr0).trans ?_
    unfold fR
    cases hx : cA N f s cl (rs.getD i ru0).1 (rs.getD i ru0).1.length 0 with
    | true =>
      rw [if_neg (by decide), if_pos rfl]
      refine (val_aal rfl hM.2.2.2.1 rfl (inB_nI (by omega) (by omega)) (by rw [hi2]; exact q1)).trans ?_
      exact tr_73_37 d w M _ _ _ _ _ _
    | false =>
      rw [if_pos (show b01 false = 0 from rfl), if_neg (show ¬ false = true by decide), n_succ]
      exact c_ruleForL h3 hN hf hM hr hs cl d n (i + 1) (by omega)
theorem c_ruleFor (h3 : 3 ≤ N) (hN : N ≤ 8) (hf : IsRow N f) {w : Wd} {M c : Nat} {rs : List Ru} (hM : MeV w N M rs c) (hr : ∀ j, j < rs.length → RuOK N (rs.getD j ru0)) {s : Nat} (hs : s < 2000) (cl : Bool) (d : Nat) : val (73, d + 4, 0, [some (.ref M), some (.int (nI N)), some (.int (nI (pkN N f))), some (.int (nI s)), some (.int (b01 cl)), none], [], w) = some (some (match fR N f s cl rs rs.length 0 with | some j => .ref (M + 2 + 5 * j) | none => .null), w) :=
  (tr_73 d w M _ _ _ _).trans (c_ruleForL h3 hN hf hM hr hs cl d rs.length 0 (Nat.zero_add _))
theorem m_allL (h3 : 3 ≤ N) (hN : N ≤ 8) {v : Int32} (hf : IsNum N v f) {q : Nat} (hq : q < 180) {cs : List Cd} (h8 : cs.length ≤ 8) (hc : ∀ x, x ∈ cs → CdOK N x) {s : Nat} (hs : s < 2000) {cl : Bool} (d : Nat) : ∀ n i (w : Wd) (al : Bool), Fix w → gI w 108 0 = nI N → CdM w q cs → gI w 128 s = b01 cl → i + n = cs.length → ∃ w' l5, Fr SC w w' ∧ val (212, d + 3, 35, [some (.ref 108), some (.int v), some (.int (nI s)), some (.int (nI q)), some (.int (b01 al)), some (.int (nI i))], [], w) = (if (al && cA N f s cl cs n i) = true then some (some (.int (nI q)), w') else val (212, d + 3, 8, [some (.ref 108), some (.int v), some (.int (nI s)), some (.int (nI (q + 1))), some (.int 0), l5], [], w'))
  | 0, i, w, al, hW, hn, hC, h128, h => by
    have e := tr_212_35 d w hW v (nI s) (nI q) (b01 al) (nI i) (inB_nI (by omega) (by omega))
    rw [nI_clamp (by omega), hC.1, if_pos (n_le (by omega) (by omega)), n_succ] at e
    refine ⟨w, some (.int (nI i)), Fr.refl _ _, e.trans ?_⟩
    cases al with
    | true => rw [if_neg (show ¬ b01 true = 0 by decide), if_pos (show (true && cA N f s cl cs 0 i) = true from rfl)]
    | false => rw [if_pos (show b01 false = 0 from rfl), if_neg (show ¬ (false && cA N f s cl cs 0 i) = true by rw [Bool.false_and]; decide)]; rfl
  | n + 1, i, w, al, hW, hn, hC, h128, h => by
    have e := tr_212_35 d w hW v (nI s) (nI q) (b01 al) (nI i) (inB_nI (by omega) (by omega))
    rw [nI_clamp (by omega), hC.1, if_neg (n_nle (show i < cs.length by omega) (by omega)), n_succ] at e
    cases al with
    | false =>
      refine ⟨w, some (.int (nI i)), Fr.refl _ _, e.trans ?_⟩
      rw [if_pos (show b01 false = 0 from rfl), if_pos (show b01 false = 0 from rfl), Bool.false_and, if_neg (show ¬ false = true by decide)]
      rfl
    | true =>
      rw [if_neg (by decide), show (8 : Int32) = nI 8 from rfl, n_mul, n_add] at e
      have hi : i < cs.length := by omega
      obtain ⟨w1, e1, f1⟩ := m_holds h3 hN hf hW hn (show 8 * q + i < 1440 by omega) (hC.2 i hi) (hc _ (getD_mem hi)) hs h128 d
      have hW1 := f1.fix rfl hW
      have hC1 : CdM w1 q cs := ⟨(f1.i 115 q rfl).trans hC.1, fun j hj => by
        obtain ⟨a1, a2, a3⟩ := hC.2 j hj
        exact ⟨(f1.i 116 _ rfl).trans a1, (f1.i 117 _ rfl).trans a2, fun hh => ⟨(f1.i 118 _ rfl).trans (a3 hh).1, (f1.i 119 _ rfl).trans (a3 hh).2⟩⟩⟩
      obtain ⟨w2, l5, f2, e2⟩ := m_allL h3 hN hf hq h8 hc hs (cl := cl) d n (i + 1) w1 (cV N f s cl (cs.getD i cd0) != (cs.getD i cd0).2.1) hW1 ((f1.i 108 0 rfl).trans hn) hC1 ((f1.i 128 s rfl).trans h128) (by omega)
      refine ⟨w2, l5, f1.trans f2, e.trans ?_⟩
      refine (val_call (pc2 := 64) rfl rfl rfl rfl (hW.rc _) (Nat.le_of_ble_eq_true rfl) (Nat.le_of_ble_eq_true rfl) rfl e1 rfl).trans ?_
      refine (tr_212_64 d w1 _ _ _ _ _ _).trans ?_
      rw [n_succ, Bool.true_and]
      exact e2
theorem m_ruleOfL (h3 : 3 ≤ N) (hN : N ≤ 8) {v : Int32} (hf : IsNum N v f) {m c : Nat} {rs : List Ru} (hm8 : m < 8) (h20 : rs.length ≤ 20) (hr : ∀ j, j < rs.length → RuOK N (rs.getD j ru0)) {s : Nat} (hs : s < 2000) {cl : Bool} (d : Nat) : ∀ n i (w : Wd) (l4 l5 : Option Value), Fix w → gI w 108 0 = nI N → gI w 108 28 = nI m → MeM w N m rs c → gI w 128 s = b01 cl → i + n = rs.length → ∃ w', Fr SC w w' ∧ val (212, d + 3, 8, [some (.ref 108), some (.int v), some (.int (nI s)), some (.int (nI (20 * m + i))), l4, l5], [], w) = some (some (.int (match fR N f s cl rs n i with | some j => nI (20 * m + j) | none => -9)), w')
  | 0, i, w, l4, l5, hW, hn, hm, hM, h128, h => by
    have e := tr_212_8 d w hW v (nI s) (nI (20 * m + i)) l4 l5 (by rw [hm]; exact inB_nI (by omega) (by omega))
    rw [hm, nI_clamp (by omega), hM.1, show (20 : Int32) = nI 20 from rfl, n_mul, n_add, if_pos (n_le (by omega) (by omega))] at e
    exact ⟨w, Fr.refl _ _, e⟩
  | n + 1, i, w, l4, l5, hW, hn, hm, hM, h128, h => by
    have e := tr_212_8 d w hW v (nI s) (nI (20 * m + i)) l4 l5 (by rw [hm]; exact inB_nI (by omega) (by omega))
    rw [hm, nI_clamp (by omega), hM.1, show (20 : Int32) = nI 20 from rfl, n_mul, n_add, if_neg (n_nle (by omega) (by omega))] at e
    have hi : i < rs.length := by omega
    obtain ⟨w1, x5, f1, e1⟩ := m_allL h3 hN hf (q := 20 * m + i) (by omega) (hr i hi).2.1 (hr i hi).1 hs (cl := cl) d (rs.getD i ru0).1.length 0 w true hW hn (hM.2 i hi).1 h128 (Nat.zero_add _)
    rw [Bool.true_and] at e1
    unfold fR
    by_cases hx : cA N f s cl (rs.getD i ru0).1 (rs.getD i ru0).1.length 0 = true
    · rw [if_pos hx] at e1 ⊢
      exact ⟨w1, f1, e.trans e1⟩
    · rw [if_neg hx] at e1 ⊢
      obtain ⟨w2, f2, e2⟩ := m_ruleOfL h3 hN hf hm8 h20 hr hs (c := c) (cl := cl) d n (i + 1) w1 (some (.int 0)) x5 (f1.fix rfl hW) ((f1.i 108 0 rfl).trans hn) ((f1.i 108 28 rfl).trans hm) (hM.fa f1.a rfl) ((f1.i 128 s rfl).trans h128) (by omega)
      exact ⟨w2, f1.trans f2, e.trans (e1.trans e2)⟩
theorem m_ruleOf (h3 : 3 ≤ N) (hN : N ≤ 8) {v : Int32} (hf : IsNum N v f) {m c : Nat} {rs : List Ru} (hm8 : m < 8) (h20 : rs.length ≤ 20) (hr : ∀ j, j < rs.length → RuOK N (rs.getD j ru0)) {s : Nat} (hs : s < 2000) {cl : Bool} (d : Nat) {w : Wd} (hW : Fix w) (hn : gI w 108 0 = nI N) (hm : gI w 108 28 = nI m) (hM : MeM w N m rs c) (h128 : gI w 128 s = b01 cl) : ∃ w', Fr SC w w' ∧ val (212, d + 3, 0, [some (.ref 108), some (.int v), some (.int (nI s)), none, none, none], [], w) = some (some (.int (match fR N f s cl rs rs.length 0 with | some j => nI (20 * m + j) | none => -9)), w') := by
  obtain ⟨w', f', e⟩ := m_ruleOfL h3 hN hf hm8 h20 hr hs (c := c) (cl := cl) d rs.length 0 w none none hW hn hm hM h128 (Nat.zero_add _)
  refine ⟨w', f', (tr_212 d w hW _ _).trans ?_⟩
  rw [hm, show (20 : Int32) = nI 20 from rfl, n_mul]
  exact e
end RULEOF
