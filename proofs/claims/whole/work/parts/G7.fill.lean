/-! CALL: fill -/
def itX (N : Nat) (F : Nat → Nat → Nat) (cb : Nat → Bool) (s q : Nat) : Int64 := if s = 0 then lI (F q 0 + 1) else if s = 1 then lI (rkN N (F q)) else if s = 2 then lI (fD (fI (rkN N (F q))) (fI q)) else lnL (pkN N (F q)) (cb q).toNat
def itY (N : Nat) (F : Nat → Nat → Nat) (s q : Nat) : Int64 := if s = 0 then lI (F q 0 + 1) else if s = 1 then lI (rkN N (F q)) else if s = 2 then lI (fD (fI (rkN N (F q))) (fI q)) else lI (dcN N (F q))
def FlC (w : Wd) (N S : Nat) (F : Nat → Nat → Nat) (cb : Nat → Bool) : Prop := gI w 64 0 = nI N ∧ gI w 108 0 = nI N ∧ S ≤ 2000 ∧ ∀ q, q ≤ S → IsRow N (F q) ∧ gI w 68 q = nI (pkN N (F q)) ∧ gI w 127 q = nI (dcN N (F q)) ∧ gI w 70 q = b01 (cb q) ∧ gI w 129 q = b01 (cb q)
theorem FlC.fr {T : List (Nat × Option Nat)} {w v : Wd} {N S : Nat} {F : Nat → Nat → Nat} {cb : Nat → Bool} (h : FlC w N S F cb) (hf : Fr T w v) (hs : dj T [(64, some 0), (108, some 0), (68, none), (70, none), (127, none), (129, none)] = true) : FlC v N S F cb := by
  obtain ⟨h1, h2, h3, h4⟩ := h
  refine ⟨(hf.i 64 0 (dj_off hs rfl)).trans h1, (hf.i 108 0 (dj_off hs rfl)).trans h2, h3, fun q hq => ?_⟩
  obtain ⟨g1, g2, g3, g4, g5⟩ := h4 q hq
  exact ⟨g1, (hf.i 68 q (dj_off hs rfl)).trans g2, (hf.i 127 q (dj_off hs rfl)).trans g3, (hf.i 70 q (dj_off hs rfl)).trans g4, (hf.i 129 q (dj_off hs rfl)).trans g5⟩
theorem b01_n (b : Bool) : b01 b = nI b.toNat := by cases b <;> rfl
section FILL
variable {N S B fr m s sz : Nat} {F : Nat → Nat → Nat} {cb : Nat → Bool}
theorem s_cases (hs : s ≤ 4) : s = 0 ∨ s = 1 ∨ s = 2 ∨ (3 ≤ s ∧ ¬ s = 0 ∧ ¬ s = 1 ∧ ¬ s = 2) := by omega
theorem c_item45 (d : Nat) (h3 : 3 ≤ N) (hN8 : N ≤ 8) {w : Wd} (hW : Fix w) (h : FlC w N S F cb) (hs : s ≤ 4) {q : Nat} (hq : q ≤ S) : val (45, d + 3, 0, [some (.ref 64), some (.int (nI s)), some (.int (nI q)), none], [], w) = some (some (.long (itX N F cb s q)), w) := by
  obtain ⟨h1, h2, hS, hrow⟩ := h
  obtain ⟨g1, g2, g3, g4, g5⟩ := hrow q hq
  have iq : (nI q).toNatClampNeg = q := nI_clamp (by omega)
  have hqi : inB (nI q) 2001 = true := inB_nI (by omega) (by omega)
  have hrk := (rkN_lt hN8 g1).1
  have hrk2 := (rkN_lt hN8 g1).2
  have hrank : ∀ w, val (139, d + 2, 0, [some (.int (nI N)), some (.int (nI (pkN N (F q)))), none, none, none, none, none], [], w) = some (some (.int (nI (rkN N (F q)))), w) := by
    intro w
    have := ev_139 (d + 1) w (nI N) (nI (pkN N (F q))) (okn h3 hN8)
    rwa [r_139 hN8 g1] at this
  refine (tr_45 d w hW _ _ hqi (fun _ _ _ => hqi)).trans ?_
  rw [iq, g2, h1, g4]
  rcases s_cases hs with e | e | e | ⟨e, e0, e1, e2⟩
  · subst e
    have hf0 := g1.1 0 (by omega)
    rw [show itX N F cb 0 q = lI (F q 0 + 1) from rfl, if_pos (show nI 0 = 0 from rfl), show (0 : Int32) = nI 0 from rfl, c130f hN8 (by omega) g1.1, n_succ, l_ofI (by omega)]
  · subst e
    rw [show itX N F cb 1 q = lI (rkN N (F q)) from rfl, if_neg (show ¬ nI 1 = 0 by decide), if_pos (show nI 1 = 1 from rfl)]
    refine (val_call (pc2 := 57) rfl rfl rfl rfl rfl (Nat.le_of_ble_eq_true rfl) (Nat.le_of_ble_eq_true rfl) rfl (hrank w) rfl).trans ?_
    refine (tr_45_57 d w _ _ _ _).trans ?_
    rw [l_ofI (by omega)]
  · subst e
    rw [show itX N F cb 2 q = lI (fD (fI (rkN N (F q))) (fI q)) from rfl, if_neg (show ¬ nI 2 = 0 by decide), if_neg (show ¬ nI 2 = 1 by decide), if_pos (show nI 2 = 2 from rfl)]
    refine (val_call (pc2 := 67) rfl rfl rfl rfl rfl (Nat.le_of_ble_eq_true rfl) (Nat.le_of_ble_eq_true rfl) rfl (hrank w) rfl).trans ?_
    refine (val_call (pc2 := 70) rfl rfl rfl rfl rfl (Nat.le_of_ble_eq_true rfl) (Nat.le_of_ble_eq_true rfl) rfl (c_fi d w (n := rkN N (F q)) (by omega)) rfl).trans ?_
    refine (tr_45_70 d w _ _ _ _).trans ?_
    refine (val_call (pc2 := 74) rfl rfl rfl rfl rfl (Nat.le_of_ble_eq_true rfl) (Nat.le_of_ble_eq_true rfl) rfl (c_fi d w (n := q) (by omega)) rfl).trans ?_
    refine (val_call (pc2 := 77) rfl rfl rfl rfl rfl (Nat.le_of_ble_eq_true rfl) (Nat.le_of_ble_eq_true rfl) rfl (c_div d w (fi_rl (z := (rkN N (F q) : Int))).1 (fi_rl (z := (q : Int))).1) rfl).trans ?_
    exact tr_45_77 d w _ _ _ _
  · have k0 : ¬ nI s = 0 := n_ne0 e0 (by omega)
    have k1 : ¬ nI s = 1 := n_ne (b := 1) e1 (by omega) (by decide)
    have k2 : ¬ nI s = 2 := n_ne (b := 2) e2 (by omega) (by decide)
    have hp := pkN_lt hN8 g1.1
    have hx : itX N F cb s q = lnL (pkN N (F q)) (cb q).toNat := by
      unfold itX
      rw [if_neg e0, if_neg e1, if_neg e2]
    rw [if_neg k0, if_neg k1, if_neg k2, hx]
    cases hcb : cb q
    · rw [if_pos (show b01 false = 0 from rfl), show fn_164 (nI (pkN N (F q))) 0 = lnL (pkN N (F q)) 0 from fn164 (c := 0) hp (by decide)]
      rfl
    · rw [if_neg (show ¬ b01 true = 0 by decide), show fn_164 (nI (pkN N (F q))) 1 = lnL (pkN N (F q)) 1 from fn164 (c := 1) hp (by decide)]
      rfl
/-- what a board of called lines takes -/
theorem itX_tk (h3 : 3 ≤ N) (hN8 : N ≤ 8) (hs : s ≤ 4) {q : Nat} (hf : IsRow N (F q)) : (nI s = 4 ∧ ¬ itX N F cb s q = 0 ∧ itX N F cb s q &&& 1 = 0) ↔ (s = 4 ∧ cb q = false) := by
  have hp := pkN_lt hN8 hf.1
  have hp0 := pk_pos h3 hN8 hf
  have e4 : nI s = 4 ↔ s = 4 := n_inj (b := 4) (by omega) (by decide)
  have hx : s = 4 → itX N F cb s q = lnL (pkN N (F q)) (cb q).toNat := by
    intro h
    unfold itX
    rw [if_neg (by omega), if_neg (by omega), if_neg (by omega)]
  have hct : (cb q).toNat ≤ 1 := Bool.toNat_le _
  constructor
  · rintro ⟨a1, a2, a3⟩
    have h4 := e4.mp a1
    refine ⟨h4, ?_⟩
    rw [hx h4, lnL_1 hp hct] at a3
    cases hcb : cb q
    · rfl
    · rw [hcb] at a3
      exact absurd a3 (by decide)
  · rintro ⟨a1, a2⟩
    refine ⟨e4.mpr a1, ?_, ?_⟩
    · rw [hx a1]
      exact lnL_0 hp0 hp hct
    · rw [hx a1, lnL_1 hp hct, a2]
      rfl
theorem lp_44 (d : Nat) (h3 : 3 ≤ N) (hN8 : N ≤ 8) (hB : B < 8) (hs : s ≤ 4) (hsz : sz ≤ 64) (hm : m ≤ 64) (hfr : fr + m ≤ S + 1) {K : Nat} (hK : K ≤ m) (hP : ∀ j, j < K → j < sz ∧ ¬ (s = 4 ∧ cb (fr + j) = false)) (n : Nat) : ∀ (k : Nat) (w : Wd) (l5 : Option Value), k + n = K → Fix w → FlC w N S F cb → gI w 97 B = nI s → gI w 98 B = nI sz → ∃ w' l5', val (44, d + 4, 54, [some (.ref 64), some (.int (nI B)), some (.int (nI fr)), some (.int (nI m)), some (.int (nI k)), l5, none], [], w) = val (44, d + 4, 54, [some (.ref 64), some (.int (nI B)), some (.int (nI fr)), some (.int (nI m)), some (.int (nI K)), l5', none], [], w') ∧ Fr [(100 + B, none)] w w' ∧ ∀ j, gL w' (100 + B) j = if k ≤ j ∧ j < K then itX N F cb s (fr + j) else gL w (100 + B) j := by
  have iB : (nI B).toNatClampNeg = B := nI_clamp (by omega)
  have hBi : inB (nI B) 8 = true := inB_nI hB (by omega)
  induction n with
  | zero =>
    intro k w l5 hk hW hc h97 h98
    have e : k = K := hk
    subst e
    exact ⟨w, l5, rfl, Fr.refl _ _, fun j => by rw [if_neg (by omega)]⟩
  | succ n ih =>
    intro k w l5 hk hW hc h97 h98
    obtain ⟨p1, p2⟩ := hP k (by omega)
    obtain ⟨it1, it2⟩ := hW.it hB
    have ik : (nI k).toNatClampNeg = k := nI_clamp (by omega)
    have hS := hc.2.2.1
    have hrow := (hc.2.2.2 (fr + k) (by omega)).1
    obtain ⟨w1, hw1⟩ : ∃ z, z = sL w (100 + B) k (itX N F cb s (fr + k)) := ⟨_, rfl⟩
    have f1 : Fr [(100 + B, none)] w w1 := by
      rw [hw1]
      exact (Fr.refl _ w).sL _ _ _ (by show (Nat.beq (100 + B) (100 + B) && true || false) = true; rw [Nat.beq_refl]; rfl)
    have fS := f1.brd hB
    have hW1 := fS.fix rfl hW
    obtain ⟨w', l5', e1, e2, e3⟩ := ih (k + 1) w1 (some (.long (itX N F cb s (fr + k)))) (by omega) hW1 (hc.fr fS rfl) ((f1.i 97 B (off_brd (by omega))).trans h97) ((f1.i 98 B (off_brd (by omega))).trans h98)
    refine ⟨w', l5', ?_, f1.trans e2, fun j => ?_⟩
    · refine (tr_44_54 d w hW _ _ _ _ _ (fun _ => hBi) (fun _ _ => hBi)).trans ?_
      rw [if_neg (n_nle (by omega) (by omega)), iB, h98, if_pos (n_lt p1 (by omega)), h97, n_add]
      refine (val_call (pc2 := 94) rfl rfl rfl rfl (hW.rb _) (Nat.le_of_ble_eq_true rfl) (Nat.le_of_ble_eq_true rfl) rfl (c_item45 d h3 hN8 hW hc hs (q := fr + k) (by omega)) rfl).trans ?_
      refine (tr_44_94 d w hW _ _ _ _ _ _).trans ?_
      have h166 := c166 hW hB (d + 3) (itX N F cb s (fr + k))
      rw [h97, if_neg (fun h => p2 ((itX_tk h3 hN8 hs hrow).mp h))] at h166
      refine (val_call (pc2 := 106) rfl rfl rfl rfl (rcvO (hW.k 96 (by omega) (by omega)) (by decide)) (Nat.le_of_ble_eq_true rfl) (Nat.le_of_ble_eq_true rfl) rfl h166 rfl).trans ?_
      refine (tr_44_106 d w hW _ _ _ _ _ _).trans ?_
      rw [if_pos (by decide)]
      refine (val_aal (b := 100 + B) rfl (hW.k 99 (by omega) (by omega)) rfl hBi (by rw [iB]; exact it1)).trans ?_
      refine (tr_44_121 d w _ _ _ _ _ _ 64 it2 (inB_nI (by omega) (by omega))).trans ?_
      rw [ik, ← hw1, n_succ]
      exact e1
    · rw [e3 j]
      by_cases c1 : k + 1 ≤ j ∧ j < K
      · rw [if_pos c1, if_pos (by omega)]
      · rw [if_neg c1, hw1]
        by_cases c2 : j = k
        · rw [c2, gL_same, if_pos (by omega)]
        · rw [gL_nk _ _ _ c2, if_neg (by omega)]
end FILL
