/-! GROUPS: the reference's spread -/
/-- the reference's members -/
def MG (w : Wd) (N : Nat) (s : GS) : Prop := gI w 108 40 = nI s.1 ∧ (∀ i, i < s.1 → gI w 134 i = nI (dcN N (s.2 i))) ∧ ∀ r, r < 5040 → gI w 133 r = b01 (hasG N s r)
/-- the reference's generators -/
def MN (w : Wd) (N G : Nat) (gs : Nat → Nat → Nat) : Prop := G ≤ 6 ∧ gI w 108 36 = nI G ∧ ∀ g, g < G → IsRow N (gs g) ∧ gI w 132 g = nI (dcN N (gs g))
abbrev FSp : List (Nat × Option Nat) := [(108, some 40), (133, none), (134, none), (109, none), (110, none), (111, none)]
theorem MN.fa {T : List (Nat × Option Nat)} {w v : Wd} {N G : Nat} {gs : Nat → Nat → Nat} (h : MN w N G gs) (hf : FrA T w v) (ht : dj T [(108, some 36), (132, none)] = true) : MN v N G gs := ⟨h.1, (hf.i ht 108 36 (by decide) rfl).trans h.2.1, fun g hg => ⟨(h.2.2 g hg).1, (hf.i ht 132 g (by decide) rfl).trans (h.2.2 g hg).2⟩⟩
theorem MG.fr {T : List (Nat × Option Nat)} {w v : Wd} {N : Nat} {s : GS} (h : MG w N s) (hf : Fr T w v) (ht : dj T [(108, some 40), (133, none), (134, none)] = true) : MG v N s := ⟨(hf.i 108 40 (dj_off ht rfl)).trans h.1, fun i hi => (hf.i 134 i (dj_off ht rfl)).trans (h.2.1 i hi), fun r hr => (hf.i 133 r (dj_off ht rfl)).trans (h.2.2 r hr)⟩
section MGR
variable {N G : Nat} {gs : Nat → Nat → Nat}
theorem m_spreadI (h3 : 3 ≤ N) (hN : N ≤ 6) (d : Nat) {i : Nat} (hi : i < 720) : ∀ n g s (w : Wd) (l3 l4 : Option Value), Fix w → gI w 108 0 = nI N → MN w N G gs → MG w N s → BI N gs G s → i < s.1 → g + n = G → ∃ w' k3 k4 k2, val (220, d + 2, 56, [some (.ref 108), some (.int (nI i)), some (.int (nI g)), l3, l4], [], w) = val (220, d + 2, 46, [some (.ref 108), some (.int (nI (i + 1))), k2, k3, k4], [], w') ∧ Fr FSp w w' ∧ MG w' N (inn N opL gs i n g s) ∧ BI N gs G (inn N opL gs i n g s) := by
  intro n
  induction n with
  | zero =>
    intro g s w l3 l4 hW hn hC hs hb his hg
    have h6 := hC.1
    refine ⟨w, l3, l4, some (.int (nI g)), (tr_220_56 d w hW _ _ l3 l4 (fun h => absurd (by rw [hC.2.1]; exact n_le (by omega) (by omega)) h) (fun _ => inB_nI (by omega) (by omega))).trans ?_, Fr.refl _ _, hs, hb⟩
    rw [hC.2.1, if_pos (n_le (by omega) (by omega)), n_succ]
  | succ n ih =>
    intro g s w l3 l4 hW hn hC hs hb his hg
    have h6 := hC.1
    have hg6 : g < G := by omega
    have hgr := (hC.2.2 g hg6).1
    have hir := (hb.2.2.1 i his).1
    have e0 := tr_220_56 d w hW (nI i) (nI g) l3 l4 (fun _ => inB_nI (by omega) (by omega)) (fun _ => inB_nI (by omega) (by omega))
    rw [hC.2.1, if_neg (n_nle hg6 (by omega)), nI_clamp (show g < 2 ^ 31 by omega), nI_clamp (show i < 2 ^ 31 by omega), (hC.2.2 g hg6).2, hs.2.1 i his] at e0
    have hx : IsRow N (opL (s.2 i) (gs g)) := hgr.comp hir
    obtain ⟨x, hxe⟩ : ∃ x, x = opL (s.2 i) (gs g) := ⟨_, rfl⟩
    rw [← hxe] at hx
    have hle := hb.le
    have h720 := fc6 hN
    obtain ⟨w1, r1, f1⟩ := m_times h3 (by omega) (f := gs g) (g := s.2 i) ⟨hgr, rfl⟩ ⟨hir, rfl⟩ d hW hn
    rw [show (fun p => gs g (s.2 i p)) = x from hxe.symm] at r1
    have hW1 := f1.fix rfl hW
    obtain ⟨w2, r2, f2⟩ := m_rank h3 (by omega) (f := x) ⟨hx, rfl⟩ d hW1 ((f1.i 108 0 rfl).trans hn)
    have hW2 := f2.fix rfl hW1
    have f12 := f1.trans f2
    have hs2 := hs.fr f12 rfl
    obtain ⟨q, hq⟩ : ∃ q, q = rkN N x := ⟨_, rfl⟩
    rw [← hq] at r2
    have hq720 : q < 720 := by rw [hq]; have := rkN_fc hx; omega
    have iq : (nI q).toNatClampNeg = q := nI_clamp (by omega)
    have hqb : inB (nI q) 5040 = true := inB_nI (by omega) (by omega)
    have g40 : gI (sI w2 133 q (vp_nar .boolean 1)) 108 40 = nI s.1 := by rw [gI_ne _ _ _ _ (by decide)]; exact hs2.1
    have e2 := tr_220_86 d w2 hW2 (nI i) (nI g) (nI (dcN N x)) (nI q) l4 hqb (fun _ => hqb) (fun _ => by rw [iq, g40]; exact inB_nI (by omega) (by omega))
    rw [iq, g40, nI_clamp (show s.1 < 2 ^ 31 by omega), hs2.2.2 q (by omega), n_succ g] at e2
    -- the row is laid down, if it is new
    obtain ⟨w3, e3, f3, c3⟩ : ∃ w3, val (220, d + 2, 86, [some (.ref 108), some (.int (nI i)), some (.int (nI g)), some (.int (nI (dcN N x))), l4], [.int (nI q)], w2) = val (220, d + 2, 56, [some (.ref 108), some (.int (nI i)), some (.int (nI (g + 1))), some (.int (nI (dcN N x))), some (.int (nI q))], [], w3) ∧ Fr FSp w2 w3 ∧ MG w3 N (icl N s x) := by
      by_cases hm : hasG N s q = true
      · have hic : icl N s x = s := if_pos (by rw [← hq]; exact hm)
        rw [hm, if_pos (by decide)] at e2
        exact ⟨w2, e2, Fr.refl _ _, by rw [hic]; exact hs2⟩
      · have hm2 : hasG N s q = false := by simpa using hm
        have hmx : ¬ hasG N s (rkN N x) = true := by rw [← hq]; exact hm
        have hic : icl N s x = (s.1 + 1, upF s.2 s.1 x) := if_neg hmx
        rw [hm2, if_neg (fun h => h rfl)] at e2
        refine ⟨_, e2, (((Fr.refl _ w2).sI 133 _ _ rfl).sI 134 _ _ rfl).sI 108 40 _ rfl, ?_, fun j hj => ?_, fun r hr => ?_⟩
        · rw [hic, gI_same, gI_ne _ _ _ _ (by decide), g40, n_succ]
        · rw [hic] at hj ⊢
          have hj' : j < s.1 + 1 := hj
          show _ = nI (dcN N (upF s.2 s.1 x j))
          rw [gI_ne _ _ _ _ (by decide)]
          by_cases c : j = s.1
          · rw [c, gI_same, upF_eq]
          · rw [gI_nk _ _ _ c, gI_ne _ _ _ _ (by decide), upF_ne _ _ c]; exact hs2.2.1 j (by omega)
        · rw [hasG_icl hmx, ← hq, gI_ne _ _ _ _ (by decide), gI_ne _ _ _ _ (by decide)]
          by_cases c : r = q
          · rw [c, gI_same, decide_eq_true rfl, Bool.or_true]; rfl
          · rw [gI_nk _ _ _ c, decide_eq_false c, Bool.or_false]; exact hs2.2.2 r hr
    have hb1 : BI N gs G (icl N s x) := by
      rw [hxe]
      exact icl_BI hb (by rw [← hxe]; exact hx) (opL_ok (fun i hi => (hC.2.2 i hi).1) _ hir (hb.2.2.1 i his).2 g hg6).2
    have f03 : Fr FSp w w3 := (f12.mono rfl).trans f3
    obtain ⟨w4, x3, x4, x2, e4, f4, c4, b4⟩ := ih (g + 1) (icl N s x) w3 (some (.int (nI (dcN N x)))) (some (.int (nI q))) (f3.fix rfl hW2) ((f03.i 108 0 rfl).trans hn) (hC.fa f03.a rfl) c3 hb1 (Nat.lt_of_lt_of_le his (icl_ext _).1) (by omega)
    rw [hxe] at c4 b4
    refine ⟨w4, x3, x4, x2, e0.trans ?_, f03.trans f4, c4, b4⟩
    refine (val_call (pc2 := 80) rfl rfl rfl rfl (hW.rc _) (Nat.le_of_ble_eq_true rfl) (Nat.le_of_ble_eq_true rfl) rfl r1 rfl).trans ?_
    refine (tr_220_80 d w1 _ _ _ l3 l4).trans ?_
    refine (val_call (pc2 := 86) rfl rfl rfl rfl (hW1.rc _) (Nat.le_of_ble_eq_true rfl) (Nat.le_of_ble_eq_true rfl) rfl r2 rfl).trans ?_
    exact e3.trans e4
theorem m_spreadL (h3 : 3 ≤ N) (hN : N ≤ 6) (d : Nat) : ∀ n i s (w : Wd) (l2 l3 l4 : Option Value), Fix w → gI w 108 0 = nI N → MN w N G gs → MG w N s → BI N gs G s → i + n = 720 → ∃ w', val (220, d + 2, 46, [some (.ref 108), some (.int (nI i)), l2, l3, l4], [], w) = some (none, w') ∧ Fr FSp w w' ∧ MG w' N (outG N opL gs G n i s) := by
  intro n
  induction n with
  | zero =>
    intro i s w l2 l3 l4 hW hn hC hs hb hi
    have := hb.le
    have := fc6 hN
    refine ⟨w, (tr_220_46 d w hW _ l2 l3 l4).trans ?_, Fr.refl _ _, hs⟩
    rw [hs.1, if_pos (n_le (by omega) (by omega))]
  | succ n ih =>
    intro i s w l2 l3 l4 hW hn hC hs hb hi
    have hle := hb.le
    have h720 := fc6 hN
    unfold outG
    have e0 := tr_220_46 d w hW (nI i) l2 l3 l4
    by_cases c : i < s.1
    · rw [if_pos c]
      rw [hs.1, if_neg (n_nle c (by omega))] at e0
      obtain ⟨w1, x3, x4, x2, e1, f1, c1, b1⟩ := m_spreadI h3 hN d (by omega) G 0 s w l3 l4 hW hn hC hs hb c (Nat.zero_add G)
      obtain ⟨w2, e2, f2, c2⟩ := ih (i + 1) _ w1 x2 x3 x4 (f1.fix rfl hW) ((f1.i 108 0 rfl).trans hn) (hC.fa f1.a rfl) c1 b1 (by omega)
      exact ⟨w2, e0.trans (e1.trans e2), f1.trans f2, c2⟩
    · rw [if_neg c]
      rw [hs.1, if_pos (n_le (by omega) (by omega))] at e0
      exact ⟨w, e0, Fr.refl _ _, hs⟩
theorem m_spread (h3 : 3 ≤ N) (hN : N ≤ 6) (d : Nat) {w : Wd} (hW : Fix w) (hn : gI w 108 0 = nI N) (hC : MN w N G gs) : ∃ w', val (220, d + 2, 0, [some (.ref 108), none, none, none, none], [], w) = some (none, w') ∧ Fr FSp w w' ∧ MG w' N (outG N opL gs G 720 0 gs0) := by
  have hL := loopUp (c := fun k v => (220, d + 2, 2, [some (.ref 108), some (.int (nI k)), none, none, none], [], v)) (P := fun k v => Fr [(133, none)] w v ∧ ∀ i, i < k → gI v 133 i = 0) (R := fun r => ∃ w' l1, r = val (220, d + 2, 28, [some (.ref 108), some (.int l1), none, none, none], [.ref 108, .int 0, .ref 134], w') ∧ Fr [(133, none)] w w' ∧ ∀ k, k < 5040 → gI w' 133 k = 0) (N := 5040) (fun v hv => ⟨v, nI 5040, (tr_220_2 d v (hv.1.fix rfl hW) _ (fun h => absurd (Int32.le_refl _) h)).trans (if_pos (Int32.le_refl _)), hv.1, hv.2⟩) (fun k v hk hv => Or.inr ⟨sI v 133 k 0, (tr_220_2 d v (hv.1.fix rfl hW) _ (fun _ => inB_nI hk (by decide))).trans (by
      rw [if_neg (show ¬ (5040 : Int32) ≤ nI k from n_nle (a := 5040) hk (by decide)), n_succ, nI_clamp (by omega), show vp_nar .boolean 0 = 0 from rfl]), hv.1.sI 133 _ _ rfl, fun i hi => by
        by_cases e : i = k
        · rw [e, gI_same]
        · rw [gI_nk _ _ _ e]; exact hv.2 i (by omega)⟩) w ⟨Fr.refl _ _, fun i hi => absurd hi (Nat.not_lt_zero i)⟩
  obtain ⟨wa, l1, e1, fa, ga⟩ := hL
  have hWa := fa.fix rfl hW
  have e2 := m_rounds (N := N) (by omega) (d + 1) hWa ((fa.i 108 0 rfl).trans hn)
  have e3 := tr_220_31 d wa hWa l1 (nI (dcN N (fun p => p))) 0 (by decide) (by decide)
  obtain ⟨wb, hwb⟩ : ∃ z, z = sI (sI (sI wa 134 0 (nI (dcN N (fun p => p)))) 133 0 1) 108 40 1 := ⟨_, rfl⟩
  rw [show (0 : Int32).toNatClampNeg = 0 from rfl, show vp_nar .boolean 1 = 1 from rfl, ← hwb] at e3
  have fb : Fr FSp w wb := by rw [hwb]; exact (((fa.mono rfl).sI 134 _ _ rfl).sI 133 _ _ rfl).sI 108 40 _ rfl
  have hg0 : ∀ r, hasG N gs0 r = decide (r = 0) := fun r => by
    show (false || decide (r = rkN N (fun p => p))) = _
    rw [rkN_id, Bool.false_or]
  have cb : MG wb N gs0 := ⟨by rw [hwb, gI_same]; rfl, fun i hi => by
    have hi' : i < 1 := hi
    have : i = 0 := by omega
    rw [this, hwb, gI_ne _ _ _ _ (by decide), gI_ne _ _ _ _ (by decide), gI_same]; rfl, fun r hr => by
    rw [hg0, hwb, gI_ne _ _ _ _ (by decide)]
    by_cases c : r = 0
    · rw [c, gI_same]; rfl
    · rw [gI_nk _ _ _ c, gI_ne _ _ _ _ (by decide), ga r hr, decide_eq_false c]; rfl⟩
  obtain ⟨wc, e4, f4, c4⟩ := m_spreadL h3 hN d 720 0 gs0 wb none none none (fb.fix rfl hW) ((fb.i 108 0 rfl).trans hn) (hC.fa fb.a rfl) cb gs0_BI rfl
  refine ⟨wc, (tr_220 d w).trans (e1.trans ?_), fb.trans f4, c4⟩
  refine (val_call (pc2 := 31) rfl rfl rfl rfl (hWa.rc _) (Nat.le_of_ble_eq_true rfl) (Nat.le_of_ble_eq_true rfl) rfl e2 rfl).trans ?_
  exact e3.trans e4
end MGR
