/-! CALLS: generator, free, group, coset -/
/-- the group -/
def secG (w : Wd) (N : Nat) : Prop := ∃ G gs K ns, (6 < N → G = 0) ∧ K ≤ G ∧ MN w N G gs ∧ gI w 76 5 = nI G ∧ CN w N K ns ∧ CG w N (outG N opR ns K 720 0 gs0) ∧ (∀ g, g < K → InG N G gs (ns g)) ∧ ∀ g, g < G → InG N K ns (gs g)
abbrev FG : List (Nat × Option Nat) := [(76, some 3), (76, some 4), (76, some 5), (77, none), (78, none), (79, none), (108, some 36), (132, none)]
theorem secG.fa {T : List (Nat × Option Nat)} {w v : Wd} {N : Nat} (h : secG w N) (hf : FrA T w v) (ht : dj T FG = true) (ht1 : dj T [(108, some 36), (132, none)] = true := by rfl) (ht2 : dj T [(76, some 3), (79, none)] = true := by rfl) (ht3 : dj T FGr = true := by rfl) : secG v N := by
  obtain ⟨G, gs, K, ns, h1, h2, h3, h4, h5, h6, h7⟩ := h
  exact ⟨G, gs, K, ns, h1, h2, h3.fa hf ht1, (hf.i ht 76 5 (by decide) rfl).trans h4, h5.fa hf ht2, h6.fa hf ht3, h7⟩
theorem grp_same {N K G : Nat} {ns gs : Nat → Nat → Nat} {s t : GS} (hN : N ≤ 8) (hn : ∀ i, i < K → IsRow N (ns i)) (hg : ∀ i, i < G → IsRow N (gs i)) (hs : BI N ns K s) (cs : ∀ i g, ClG N opR ns K s i g) (ht : BI N gs G t) (ct : ∀ i g, ClG N opL gs G t i g) (a : ∀ g, g < K → InG N G gs (ns g)) (b : ∀ g, g < G → InG N K ns (gs g)) (r : Nat) : hasG N s r = hasG N t r := by
  have e1 : hasG N s r = true → hasG N t r = true := fun h => by
    obtain ⟨i, i1, i2⟩ := hasG_iff.mp h
    obtain ⟨p, q⟩ := hs.2.2.1 i i1
    rw [← i2]
    exact (grpL hN hg ht ct p).mpr (q.sub hn a)
  have e2 : hasG N t r = true → hasG N s r = true := fun h => by
    obtain ⟨i, i1, i2⟩ := hasG_iff.mp h
    obtain ⟨p, q⟩ := ht.2.2.1 i i1
    rw [← i2]
    exact (grpR hN hn hs cs p).mpr (q.sub hg b)
  exact Bool.eq_iff_iff.mpr ⟨e1, e2⟩
theorem outG_0 (N : Nat) (op : (Nat → Nat) → (Nat → Nat) → Nat → Nat) (ns : Nat → Nat → Nat) : outG N op ns 0 720 0 gs0 = gs0 := by
  have h1 : outG N op ns 0 720 0 gs0 = outG N op ns 0 719 1 gs0 := if_pos (show 0 < 1 by decide)
  rw [h1]
  exact if_neg (show ¬ 1 < 1 by decide)
section GAPI
variable {N : Nat} {w : Wd}
theorem c_has2 {s : GS} {f : Nat → Nat} (h3 : 3 ≤ N) (hN : N ≤ 6) (d : Nat) (hW : Fix w) (hs : CG w N s) (hf : IsRow N f) : val (61, d + 2, 0, [some (.ref 76), some (.int (nI N)), some (.int (nI (pkN N f))), none], [], w) = some (some (.int (b01 (hasG N s (rkN N f)))), w) := by
  have hq := rkN_fc hf
  have h720 := fc6 hN
  refine (tr_61 d w _ _).trans ?_
  refine (val_call (pc2 := 5) rfl rfl rfl rfl rfl (Nat.le_of_ble_eq_true rfl) (Nat.le_of_ble_eq_true rfl) rfl (ev_139 d w (nI N) (nI (pkN N f)) (okn h3 (by omega))) rfl).trans ?_
  rw [r_139 (by omega) hf]
  refine (tr_61_5 d w hW _ _ _ (fun _ => inB_nI (by omega) (by omega))).trans ?_
  rw [if_neg (show ¬ (720 : Int32) ≤ nI (rkN N f) from n_nle (a := 720) (by omega) (by omega)), nI_clamp (by omega), hs.2.2 _ (by omega)]
  cases hasG N s (rkN N f) with
  | true => exact if_neg (by decide)
  | false => exact if_pos rfl
theorem c_dissolve (h3 : 3 ≤ N) (hN : N ≤ 8) (d : Nat) (hW : Fix w) : ∃ w', val (60, d + 4, 0, [some (.ref 76), some (.int (nI N))], [], w) = some (none, w') ∧ Fr [(76, some 3), (76, some 4), (76, some 5), (77, none), (78, none)] w w' ∧ gI w' 76 5 = 0 ∧ gI w' 76 3 = 0 ∧ CG w' N gs0 := by
  obtain ⟨wa, hwa⟩ : ∃ z, z = sI (sI w 76 5 0) 76 3 0 := ⟨_, rfl⟩
  have fa : Fr [(76, some 3), (76, some 5)] w wa := by rw [hwa]; exact ((Fr.refl _ w).sI 76 5 _ rfl).sI 76 3 _ rfl
  have hWa := fa.fix rfl hW
  obtain ⟨w', e1, f1, c1⟩ := c_close (K := 0) (ns := fun _ p => p) h3 hN (Or.inl rfl) d hWa ⟨by omega, by rw [hwa, gI_same]; rfl, fun g hg => absurd hg (Nat.not_lt_zero g)⟩
  rw [outG_0] at c1
  refine ⟨w', (tr_60 d w hW _).trans ?_, (fa.mono rfl).trans (f1.mono rfl), ?_, ?_, c1⟩
  · rw [← hwa]
    refine (val_call (pc2 := 15) rfl rfl rfl rfl (rcvO hWa.k76 (by decide)) (Nat.le_of_ble_eq_true rfl) (Nat.le_of_ble_eq_true rfl) rfl e1 rfl).trans ?_
    exact tr_60_15 d w' _
  · rw [f1.i 76 5 rfl, hwa, gI_nk _ _ _ (by decide), gI_same]
  · rw [f1.i 76 3 rfl, hwa, gI_same]
theorem a_free (hW : Fix w) (hB : Bl w N) (hG : secG w N) (d : Nat) : ∃ r w1 w2, val (22, d + 5, 0, [some (.ref 64), none], [], w) = some (some (.int r), w1) ∧ val (219, d + 5, 0, [some (.ref 108), none], [], w1) = some (some (.int r), w2) ∧ Fr [(76, some 3), (76, some 4), (76, some 5), (77, none), (78, none)] w w1 ∧ Fr [(108, some 36)] w1 w2 ∧ secG w2 N := by
  obtain ⟨h3, hN, hn, hm⟩ := hB
  obtain ⟨G, gs, K, ns, g1, g2, g3, g4, g5, g6, g7, g8⟩ := hG
  obtain ⟨w1, e1, f1, a1, a2, a3⟩ := c_dissolve h3 hN d hW
  have hW1 := f1.fix rfl hW
  have f2 : Fr [(108, some 36)] w1 (sI w1 108 36 0) := (Fr.refl _ w1).sI 108 36 _ rfl
  refine ⟨nI G, w1, sI w1 108 36 0, (tr_22 d w hW).trans ?_, (tr_219 (d + 5) w1 hW1).trans ?_, f1, f2, 0, fun _ p => p, 0, fun _ p => p, fun _ => rfl, Nat.le_refl 0, ⟨by omega, gI_same _ _ _ _, fun g hg => absurd hg (Nat.not_lt_zero g)⟩, (f2.i 76 5 rfl).trans a1, ⟨by omega, (f2.i 76 3 rfl).trans a2, fun g hg => absurd hg (Nat.not_lt_zero g)⟩, by rw [outG_0]; exact a3.fa f2.a rfl, fun g hg => absurd hg (Nat.not_lt_zero g), fun g hg => absurd hg (Nat.not_lt_zero g)⟩
  · rw [g4, hn]
    refine (val_call (pc2 := 19) rfl rfl rfl rfl (rcvO hW.k76 (by decide)) (Nat.le_of_ble_eq_true rfl) (Nat.le_of_ble_eq_true rfl) rfl e1 rfl).trans ?_
    exact tr_22_19 d w1 _
  · rw [f1.i 108 36 rfl, g3.2.1]
theorem sm6 (hN : N ≤ 8) : (nI N ≤ 6) ↔ N ≤ 6 := n_le_iff (b := 6) (by omega) (by decide)
theorem a_group (hW : Fix w) (hB : Bl w N) (hG : secG w N) (d : Nat) : ∃ r w2, val (23, d + 3, 0, [some (.ref 64)], [], w) = some (some (.int r), w) ∧ val (221, d + 3, 0, [some (.ref 108)], [], w) = some (some (.int r), w2) ∧ Fr FSp w w2 := by
  obtain ⟨h3, hN, hn, hm⟩ := hB
  obtain ⟨G, gs, K, ns, g1, g2, g3, g4, g5, g6, g7, g8⟩ := hG
  have e1 := tr_23 (d + 3) w hW
  have e2 := tr_221 d w hW
  rw [hn] at e1
  rw [hm] at e2
  by_cases h6 : N ≤ 6
  · rw [if_pos ((sm6 hN).mpr h6)] at e1 e2
    obtain ⟨w2, e3, f3, c3⟩ := m_spread h3 h6 d hW hm g3
    refine ⟨_, w2, e1, e2.trans ?_, f3⟩
    refine (val_call (pc2 := 16) rfl rfl rfl rfl (hW.rc _) (Nat.le_of_ble_eq_true rfl) (Nat.le_of_ble_eq_true rfl) rfl e3 rfl).trans ?_
    refine (tr_221_16 d w2 (f3.fix rfl hW)).trans ?_
    obtain ⟨s1, s2, s3⟩ := outG_ok (op := opR) (opR_ok (fun i hi => (g5.2.2 i hi).1)) 720 0 gs0 gs0_BI (by have := fc6 h6; omega) (fun i hi => absurd hi (Nat.not_lt_zero i)) (Nat.zero_le _)
    obtain ⟨t1, t2, t3⟩ := outG_ok (op := opL) (opL_ok (fun i hi => (g3.2.2 i hi).1)) 720 0 gs0 gs0_BI (by have := fc6 h6; omega) (fun i hi => absurd hi (Nat.not_lt_zero i)) (Nat.zero_le _)
    rw [c3.1, g6.1, s1.many, t1.many, cn_congr (fc N) (fun r _ => grp_same hN (fun i hi => (g5.2.2 i hi).1) (fun i hi => (g3.2.2 i hi).1) s1 s3 t1 t3 g7 g8 r)]
  · rw [if_neg (fun h => h6 ((sm6 hN).mp h))] at e1 e2
    exact ⟨-2, w, e1, e2, Fr.refl _ _⟩
theorem a_generator (hW : Fix w) (hB : Bl w N) (hG : secG w N) (d : Nat) (x : Int32) : ∃ r w1 w2, val (21, d + 5, 0, [some (.ref 64), some (.int x), none], [], w) = some (some (.int r), w1) ∧ val (218, d + 5, 0, [some (.ref 108), some (.int x)], [], w1) = some (some (.int r), w2) ∧ Fr [(76, some 3), (76, some 4), (76, some 5), (77, none), (78, none), (79, none)] w w1 ∧ Fr [(108, some 36), (132, none), (109, none), (110, none), (111, none)] w1 w2 ∧ secG w2 N := by
  have hG0 := hG
  obtain ⟨h3, hN, hn, hm⟩ := hB
  obtain ⟨G, gs, K, ns, g1, g2, g3, g4, g5, g6, g7, g8⟩ := hG
  have hO := okn h3 hN
  have e1 : val (21, d + 5, 0, [some (.ref 64), some (.int x), none], [], w) = val (21, d + 5, 8, [some (.ref 64), some (.int x), none], [.int (fn_134 (nI N) x)], w) := by
    refine (tr_21 d w hW x).trans ?_
    rw [hn]
    refine (val_call (pc2 := 8) rfl rfl rfl rfl rfl (Nat.le_of_ble_eq_true rfl) (Nat.le_of_ble_eq_true rfl) rfl (ev_134 (d + 3) w (nI N) x hO) rfl).trans ?_
    rfl
  have e2 := e1.trans (tr_21_8 d w hW x (fn_134 (nI N) x))
  rw [hn, g4] at e2
  have G6 := g3.1
  by_cases hx : ∃ f, IsNum N x f
  · obtain ⟨f, hf⟩ := hx
    rw [from_yes hN hf, if_pos (neg_nn (pkN_lt hN hf.1.1))] at e2
    -- the reference's first test
    have m1 : ∀ v, Fix v → gI v 108 0 = nI N → gI v 108 36 = nI G → ∃ v1, Fr SC v v1 ∧ val (218, d + 5, 0, [some (.ref 108), some (.int x)], [], v) = (if nI N ≤ 6 then (if ¬ nI G = 6 then some (some (.int (nI (G + 1))), sI (sI v1 132 G x) 108 36 (nI (G + 1))) else some (some (.int (-3)), v1)) else some (some (.int (-2)), v1)) := by
      intro v hv hmv h36
      obtain ⟨v1, r1, f1⟩ := m_isRow h3 hN hf (d + 3) hv hmv
      have hv1 := f1.fix rfl hv
      have h36' : gI v1 108 36 = nI G := (f1.i 108 36 rfl).trans h36
      have g36 : gI (sI v1 132 G x) 108 36 = nI G := by rw [gI_ne _ _ _ _ (by decide)]; exact h36'
      refine ⟨v1, f1, (tr_218 (d + 3) v x).trans ?_⟩
      refine (val_call (pc2 := 5) rfl rfl rfl rfl (hv.rc _) (Nat.le_of_ble_eq_true rfl) (Nat.le_of_ble_eq_true rfl) rfl r1 rfl).trans ?_
      refine (tr_218_5 (d + 3) v1 hv1 x _ (fun _ _ h => by
        rw [h36'] at h ⊢
        exact inB_nI (by
          by_cases c : G = 6
          · exact absurd (by rw [c]; rfl) h
          · omega) (by omega))).trans ?_
      rw [if_pos (by decide), f1.i 108 0 rfl, hmv, h36', nI_clamp (show G < 2 ^ 31 by omega), g36, n_succ, gI_same]
    by_cases h6 : N ≤ 6
    · rw [if_pos ((sm6 hN).mpr h6)] at e2
      by_cases hG6 : G = 6
      · rw [hG6, if_neg (by decide)] at e2
        obtain ⟨v1, f1, r1⟩ := m1 w hW hm g3.2.1
        rw [if_pos ((sm6 hN).mpr h6), hG6, if_neg (fun h => h rfl)] at r1
        exact ⟨-3, w, v1, e2, r1, Fr.refl _ _, f1.mono rfl, hG0.fa f1.a rfl⟩
      · rw [if_pos (show nI G < 6 from n_lt (b := 6) (by omega) (by omega))] at e2
        -- it lets in
        have hgn : ∀ i, i < K → IsRow N (ns i) := fun i hi => (g5.2.2 i hi).1
        have hgg : ∀ i, i < G → IsRow N (gs i) := fun i hi => (g3.2.2 i hi).1
        obtain ⟨s1, s2, s3⟩ := outG_ok (op := opR) (opR_ok hgn) 720 0 gs0 gs0_BI (by have := fc6 h6; omega) (fun i hi => absurd hi (Nat.not_lt_zero i)) (Nat.zero_le _)
        obtain ⟨wa, hwa⟩ : ∃ z, z = sI w 76 5 (nI (G + 1)) := ⟨_, rfl⟩
        have fa : Fr [(76, some 5)] w wa := by rw [hwa]; exact (Fr.refl _ w).sI 76 5 _ rfl
        have hWa := fa.fix rfl hW
        have eh := c_has2 h3 h6 (d + 1) hWa (g6.fa fa.a rfl) hf.1
        have ea : val (63, d + 4, 0, [some (.ref 76), some (.int (nI N)), some (.int (nI (pkN N f)))], [], w) = val (63, d + 4, 16, [some (.ref 76), some (.int (nI N)), some (.int (nI (pkN N f)))], [.int (b01 (hasG N (outG N opR ns K 720 0 gs0) (rkN N f)))], wa) := by
          refine (tr_63 d w hW _ _).trans ?_
          rw [g4, n_succ, ← hwa]
          refine (val_call (pc2 := 16) rfl rfl rfl rfl (rcvO hWa.k76 (by decide)) (Nat.le_of_ble_eq_true rfl) (Nat.le_of_ble_eq_true rfl) rfl eh rfl).trans ?_
          rfl
        have ea2 := ea.trans (tr_63_16 d wa hWa (nI N) (nI (pkN N f)) _ (fun _ h => by
          rw [fa.i 76 3 rfl, g5.2.1] at h ⊢
          exact inB_nI (by omega) (by omega)))
        rw [fa.i 76 3 rfl, g5.2.1, n_succ, nI_clamp (show K < 2 ^ 31 by omega)] at ea2
        have up : ∀ {h}, InG N G gs h → InG N (G + 1) (upF gs G f) h := fun {h} hh => hh.up hgg (by omega) (fun i hi => upF_ne _ _ (by omega))
        have key : ∃ w1 K' ns', val (63, d + 4, 0, [some (.ref 76), some (.int (nI N)), some (.int (nI (pkN N f)))], [], w) = some (none, w1) ∧ Fr [(76, some 3), (76, some 4), (76, some 5), (77, none), (78, none), (79, none)] w w1 ∧ gI w1 76 5 = nI (G + 1) ∧ K' ≤ G + 1 ∧ CN w1 N K' ns' ∧ CG w1 N (outG N opR ns' K' 720 0 gs0) ∧ (∀ g, g < K' → InG N (G + 1) (upF gs G f) (ns' g)) ∧ ∀ g, g < G + 1 → InG N K' ns' (upF gs G f g) := by
          by_cases hm2 : hasG N (outG N opR ns K 720 0 gs0) (rkN N f) = true
          · rw [hm2, if_pos (show ¬ b01 true = 0 by decide)] at ea2
            refine ⟨wa, K, ns, ea2, fa.mono rfl, by rw [hwa, gI_same], by omega, g5.fa fa.a rfl, g6.fa fa.a rfl, fun g hg => up (g7 g hg), fun g hg => ?_⟩
            by_cases c : g = G
            · rw [c, upF_eq]; exact (grpR hN hgn s1 s3 hf.1).mp hm2
            · rw [upF_ne _ _ c]; exact g8 g (by omega)
          · have hm3 : hasG N (outG N opR ns K 720 0 gs0) (rkN N f) = false := by simpa using hm2
            rw [hm3, if_neg (show ¬ ¬ b01 false = 0 from fun h => h rfl), if_pos (show nI K < 6 from n_lt (b := 6) (by omega) (by omega))] at ea2
            obtain ⟨wb, hwb⟩ : ∃ z, z = sI (sI wa 76 3 (nI (K + 1))) 79 K (nI (pkN N f)) := ⟨_, rfl⟩
            rw [← hwb] at ea2
            have fb : Fr [(76, some 3), (76, some 5), (79, none)] w wb := by rw [hwb]; exact ((fa.mono rfl).sI 76 3 _ rfl).sI 79 _ _ rfl
            have hWb := fb.fix rfl hW
            have hCb : CN wb N (K + 1) (upF ns K f) := ⟨by omega, by rw [hwb, gI_ne _ _ _ _ (by decide), gI_same], fun g hg => by
              by_cases c : g = K
              · rw [c, upF_eq, hwb, gI_same]; exact ⟨hf.1, rfl⟩
              · rw [upF_ne _ _ c, hwb, gI_nk _ _ _ c, gI_ne _ _ _ _ (by decide), fa.i 79 g rfl]; exact g5.2.2 g (by omega)⟩
            obtain ⟨wc, e5, f5, c5⟩ := c_close h3 hN (Or.inr h6) (d) hWb hCb
            refine ⟨wc, K + 1, upF ns K f, ea2.trans ?_, (fb.mono rfl).trans (f5.mono rfl), ?_, by omega, hCb.fa f5.a rfl, c5, fun g hg => ?_, fun g hg => ?_⟩
            · refine (val_call (pc2 := 51) rfl rfl rfl rfl (rcvO hWb.k76 (by decide)) (Nat.le_of_ble_eq_true rfl) (Nat.le_of_ble_eq_true rfl) rfl e5 rfl).trans ?_
              exact tr_63_51 d wc _ _
            · rw [f5.i 76 5 rfl, hwb, gI_ne _ _ _ _ (by decide), gI_nk _ _ _ (by decide), hwa, gI_same]
            · by_cases c : g = K
              · rw [c, upF_eq]
                have := InG.gen (N := N) (K := G + 1) (gs := upF gs G f) (i := G) (by omega)
                rw [upF_eq] at this
                exact this
              · rw [upF_ne _ _ c]; exact up (g7 g (by omega))
            · by_cases c : g = G
              · rw [c, upF_eq]
                have := InG.gen (N := N) (K := K + 1) (gs := upF ns K f) (i := K) (by omega)
                rw [upF_eq] at this
                exact this
              · rw [upF_ne _ _ c]; exact (g8 g (by omega)).up hgn (by omega) (fun i hi => upF_ne _ _ (by omega))
        obtain ⟨w1, K', ns', k1, k2, k3, k4, k5, k6, k7, k8⟩ := key
        have hW1 := k2.fix rfl hW
        obtain ⟨v1, f1, r1⟩ := m1 w1 hW1 ((k2.i 108 0 rfl).trans hm) ((k2.i 108 36 rfl).trans g3.2.1)
        rw [if_pos ((sm6 hN).mpr h6), if_pos (show ¬ nI G = 6 from n_ne (b := 6) hG6 (by omega) (by omega))] at r1
        obtain ⟨w2, hw2⟩ : ∃ z, z = sI (sI v1 132 G x) 108 36 (nI (G + 1)) := ⟨_, rfl⟩
        rw [← hw2] at r1
        have f2 : Fr [(108, some 36), (132, none), (109, none), (110, none), (111, none)] w1 w2 := by rw [hw2]; exact ((f1.mono rfl).sI 132 _ _ rfl).sI 108 36 _ rfl
        refine ⟨nI (G + 1), w1, w2, e2.trans ?_, r1, k2, f2, G + 1, upF gs G f, K', ns', fun h => absurd h (by omega), k4, ⟨by omega, by rw [hw2, gI_same], fun g hg => ?_⟩, (f2.i 76 5 rfl).trans k3, k5.fa f2.a rfl, k6.fa f2.a rfl, k7, k8⟩
        · refine (val_call (pc2 := 55) rfl rfl rfl rfl (rcvO hW.k76 (by decide)) (Nat.le_of_ble_eq_true rfl) (Nat.le_of_ble_eq_true rfl) rfl k1 rfl).trans ?_
          refine (tr_21_55 d w1 hW1 _ _).trans ?_
          rw [k3]
        · by_cases c : g = G
          · rw [c, upF_eq, hw2, gI_ne _ _ _ _ (by decide), gI_same]; exact ⟨hf.1, hf.2⟩
          · rw [upF_ne _ _ c, hw2, gI_ne _ _ _ _ (by decide), gI_nk _ _ _ c, f1.i 132 g rfl, k2.i 132 g rfl]; exact g3.2.2 g (by omega)
    · rw [if_neg (fun h => h6 ((sm6 hN).mp h))] at e2
      obtain ⟨v1, f1, r1⟩ := m1 w hW hm g3.2.1
      rw [if_neg (fun h => h6 ((sm6 hN).mp h))] at r1
      exact ⟨-2, w, v1, e2, r1, Fr.refl _ _, f1.mono rfl, hG0.fa f1.a rfl⟩
  · have hx' : ∀ f, ¬ IsNum N x f := fun f hf => hx ⟨f, hf⟩
    rw [from_no hN (by omega) hx', if_neg (fun h => h rfl)] at e2
    obtain ⟨v1, r1, f1⟩ := m_isRowX h3 hN hx' (d + 3) hW hm
    refine ⟨-1, w, v1, e2, (tr_218 (d + 3) w x).trans ?_, Fr.refl _ _, f1.mono rfl, hG0.fa f1.a rfl⟩
    refine (val_call (pc2 := 5) rfl rfl rfl rfl (hW.rc _) (Nat.le_of_ble_eq_true rfl) (Nat.le_of_ble_eq_true rfl) rfl r1 rfl).trans ?_
    refine (tr_218_5 (d + 3) v1 (f1.fix rfl hW) x _ (fun h => absurd rfl h)).trans ?_
    rw [if_neg (fun h => h rfl)]
end GAPI
