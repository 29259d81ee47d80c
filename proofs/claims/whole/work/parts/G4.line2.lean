/-! CALLS: line, along, in both -/
section API
variable {w : Wd} {N C : Nat} {T bl : Nat → Nat}
abbrev FRn : List (Nat × Option Nat) := [(91, some 4), (91, some 5), (92, none), (93, none), (94, none)]
theorem i_gt3 {x : Int32} (h0 : ¬ x < 0) (h : x ≤ 3) : x = 0 ∨ x = 1 ∨ x = 2 ∨ x = 3 := by
  obtain ⟨X, hX, rfl⟩ := i_le (b := 3) (by decide) h0 h
  have : X = 0 ∨ X = 1 ∨ X = 2 ∨ X = 3 := by omega
  rcases this with rfl | rfl | rfl | rfl
  · exact Or.inl rfl
  · exact Or.inr (Or.inl rfl)
  · exact Or.inr (Or.inr (Or.inl rfl))
  · exact Or.inr (Or.inr (Or.inr rfl))
theorem m_out (d : Nat) (w : Wd) {v : Nat} (hv : Rl v) (l1 l4 l5 : Option Value) (l2 : UInt64) : val (248, d + 4, 159, [some (.ref 108), l1, some (.double l2), none, l4, l5, none], [.double (UInt64.ofNat v)], w) = val (248, d + 4, 162, [some (.ref 108), l1, some (.double l2), none, l4, l5, none], [.long (lI v)], w) := by
  have hcn : cnB v = v := by
    rcases hv.2 with h | h
    · exact cn_num h
    · rw [h]; exact cn_nan
  have h := m_bits (d + 2) w hv.1
  rw [hcn] at h
  refine (val_call (pc2 := 162) rfl rfl rfl rfl rfl (Nat.le_of_ble_eq_true rfl) (Nat.le_of_ble_eq_true rfl) rfl h rfl).trans ?_
  rfl
theorem a_line (hW : Fix w) (hN : NOK N C T bl) (hc : NC w C T bl) (hm : NM w C T bl) (hl : LDs w C T) (d : Nat) (x : Int32) : ∃ v w1 w2, val (37, d + 7, 0, [some (.ref 64), some (.int x)], [], w) = some (some (.long v), w1) ∧ val (248, d + 7, 0, [some (.ref 108), some (.int x), none, none, none, none, none], [], w1) = some (some (.long v), w2) ∧ Fr FLn w w1 ∧ Fr FFt w1 w2 ∧ NC w2 C T bl ∧ NM w2 C T bl ∧ LDs w2 C T := by
  by_cases h0 : x < 0
  · refine ⟨0, w, w, ?_, ?_, Fr.refl _ _, Fr.refl _ _, hc, hm, hl⟩
    · refine (tr_37 d w hW _).trans ?_
      rw [if_pos h0]
    · refine (tr_248 (d + 3) w _).trans ?_
      rw [if_pos h0]
  · by_cases h3 : x ≤ 3
    · obtain ⟨w1, r1, f1, hld⟩ := c_lay d hW hN hc hl
      have hW1 := f1.fix rfl hW
      have hm1 := hm.fa f1.a rfl
      have hc1 := hc.fa f1.a rfl
      obtain ⟨w2, r2, f2, hs, h60, h61⟩ := m_fit (d + 3) hW1 hN hm1
      have hW2 := f2.fix rfl hW1
      have hm2 := hm1.fa f2.a rfl
      have hc2 := hc1.fa f2.a rfl
      have hl2 : LDs w2 C T := Or.inr (hld.fa f2.a rfl)
      have ht := tm_lt hN
      obtain ⟨l7, l8, l9, l95, v, l10, hv⟩ := hld
      have c1 : val (37, d + 7, 0, [some (.ref 64), some (.int x)], [], w) = val (37, d + 7, 18, [some (.ref 64), some (.int x)], [], w1) := by
        refine (tr_37 d w hW _).trans ?_
        rw [if_neg h0, if_pos h3]
        refine (val_call (pc2 := 18) rfl rfl rfl rfl (rcvO hW.k91 (by decide)) (Nat.le_of_ble_eq_true rfl) (Nat.le_of_ble_eq_true rfl) rfl r1 rfl).trans ?_
        rfl
      rw [tr_37_18 d w1 hW1 x] at c1
      have c2 : val (248, d + 7, 0, [some (.ref 108), some (.int x), none, none, none, none, none], [], w1) = val (248, d + 3 + 4, 15, [some (.ref 108), some (.int x), none, none, none, none, none], [], w2) := by
        refine (tr_248 (d + 3) w1 _).trans ?_
        rw [if_neg h0, if_pos h3]
        refine (val_call (pc2 := 15) rfl rfl rfl rfl (hW1.rc _) (Nat.le_of_ble_eq_true rfl) (Nat.le_of_ble_eq_true rfl) rfl r2 rfl).trans ?_
        rfl
      rw [tr_248_15 (d + 3) w2 hW2 x] at c2
      rcases i_gt3 h0 h3 with rfl | rfl | rfl | rfl
      · refine ⟨lI (gapV (nrd T C).1 (tm T C)), w1, w2, ?_, ?_, f1, f2, hc2, hm2, hl2⟩
        · rw [c1, if_pos rfl, l7]
        · rw [c2, if_neg (fun h => h rfl), if_pos (by decide), h60]
          refine (m_out (d + 3) w2 (rl_gap (K := (nrd T C).1) ht) _ _ _ _).trans ?_
          exact tr_248_162 (d + 3) w2 _ _ _ _ _
      · refine ⟨lI (leadV (nrd T C).1 (tm T C)), w1, w2, ?_, ?_, f1, f2, hc2, hm2, hl2⟩
        · rw [c1, if_neg (by decide), if_pos rfl, l8]
        · rw [c2, if_pos (by decide), if_pos (by decide), h61]
          refine (m_out (d + 3) w2 (rl_lead (K := (nrd T C).1) ht) _ _ _ _).trans ?_
          exact tr_248_162 (d + 3) w2 _ _ _ _ _
      · refine ⟨lI (greV (nrd T C).1 (tm T C) (nrd T C).1), w1, w2, ?_, ?_, f1, f2, hc2, hm2, hl2⟩
        · rw [c1, if_neg (by decide), if_neg (by decide), if_pos rfl, l9]
        · rw [c2, if_pos (by decide), if_neg (by decide)]
          exact lp_248b (d + 3) hW2 hN hm2 hs h60 h61 (nrd T C).1 0 none (by omega)
      · refine ⟨lI v, w1, w2, ?_, ?_, f1, f2, hc2, hm2, hl2⟩
        · rw [c1, if_neg (by decide), if_neg (by decide), if_neg (by decide), l10]
        · rw [c2, if_pos (by decide), if_neg (by decide)]
          exact lp_248c (d + 3) hW2 hN hm2 hs h60 h61 hv (nrd T C).1 0 none (by omega)
    · refine ⟨0, w, w, ?_, ?_, Fr.refl _ _, Fr.refl _ _, hc, hm, hl⟩
      · refine (tr_37 d w hW _).trans ?_
        rw [if_neg h0, if_neg h3]
      · refine (tr_248 (d + 3) w _).trans ?_
        rw [if_neg h0, if_neg h3]
theorem m_out2 (d : Nat) (w : Wd) {v : Nat} (hv : Rl v) (l1 l2 : Option Value) (l3 : UInt64) : val (249, d + 4, 78, [some (.ref 108), l1, l2, some (.double l3), none], [.double (UInt64.ofNat v)], w) = val (249, d + 4, 81, [some (.ref 108), l1, l2, some (.double l3), none], [.long (lI v)], w) := by
  have hcn : cnB v = v := by
    rcases hv.2 with h | h
    · exact cn_num h
    · rw [h]; exact cn_nan
  have h := m_bits (d + 2) w hv.1
  rw [hcn] at h
  refine (val_call (pc2 := 81) rfl rfl rfl rfl rfl (Nat.le_of_ble_eq_true rfl) (Nat.le_of_ble_eq_true rfl) rfl h rfl).trans ?_
  rfl
theorem rl_ev {a : Nat} (h : Rl a) : Rl (evB a) := by
  have hi : INF = 2047 * 2 ^ 52 := rfl
  unfold evB
  by_cases c1 : INF < szB a
  · rw [if_pos c1]; exact rl_nan
  · rw [if_neg c1]
    by_cases c2 : szB a < 1075 * 2 ^ 52
    · rw [if_pos c2]
      have hn : Jvm.FP.Core.nearest (cfB (szB a)) (2 ^ (1074 - efB (szB a))) < 2 ^ 53 := by
        have he : efB (szB a) < 1074 := by unfold efB; omega
        have h2 : 2 ^ 1 ≤ 2 ^ (1074 - efB (szB a)) := Nat.pow_le_pow_right (by decide) (by omega)
        have := near_le (n := cfB (szB a)) (d := 2 ^ (1074 - efB (szB a))) (m := 2 ^ 52) (by omega) (by
          have : cfB (szB a) < 2 ^ 53 := cf_lt
          have := Nat.mul_le_mul_left (2 ^ 52) h2
          omega)
        omega
      exact .of_num (num_hi (Nat.le_of_lt (fi_mg hn).1))
    · rw [if_neg c2]; exact h
theorem a_along (hW : Fix w) (hN : NOK N C T bl) (hc : NC w C T bl) (hm : NM w C T bl) (hl : LDs w C T) (d : Nat) (x y : Int32) : ∃ v w1 w2, val (38, d + 7, 0, [some (.ref 64), some (.int x), some (.int y)], [], w) = some (some (.long v), w1) ∧ val (249, d + 7, 0, [some (.ref 108), some (.int x), some (.int y), none, none], [], w1) = some (some (.long v), w2) ∧ Fr FLn w w1 ∧ Fr FFt w1 w2 ∧ NC w2 C T bl ∧ NM w2 C T bl ∧ LDs w2 C T := by
  obtain ⟨k1, k2⟩ := nrd_ok T C
  have hC := hN.1
  have ht := tm_lt hN
  have g5 : gI w 91 5 = nI (nrd T C).1 := hc.2.2.2.1
  by_cases hg : x < 0 ∨ nI (nrd T C).1 ≤ x ∨ y < 0 ∨ ¬ y ≤ 2
  · obtain ⟨w2, r2, f2, hs, h60, h61⟩ := m_fit (d + 3) hW hN hm
    have hW2 := f2.fix rfl hW
    refine ⟨0, w, w2, ?_, ?_, Fr.refl _ _, f2, hc.fa f2.a rfl, hm.fa f2.a rfl, ?_⟩
    · refine (tr_38 d w hW _ _).trans ?_
      rw [g5]
      by_cases c1 : x < 0
      · rw [if_pos c1]
      · rw [if_neg c1]
        by_cases c2 : nI (nrd T C).1 ≤ x
        · rw [if_pos c2]
        · rw [if_neg c2]
          by_cases c3 : y < 0
          · rw [if_pos c3]
          · have c4 : ¬ y ≤ 2 := ((hg.resolve_left c1).resolve_left c2).resolve_left c3
            rw [if_neg c3, if_neg c4]
    · refine (tr_249 (d + 3) w _ _).trans ?_
      refine (val_call (pc2 := 4) rfl rfl rfl rfl (hW.rc _) (Nat.le_of_ble_eq_true rfl) (Nat.le_of_ble_eq_true rfl) rfl r2 rfl).trans ?_
      by_cases c1 : x < 0
      · refine (tr_249_4 (d + 3) w2 hW2 _ _ (fun h => absurd c1 h) (fun h => absurd c1 h)).trans ?_
        rw [if_pos c1]
      · by_cases c2 : nI (nrd T C).1 ≤ x
        · have c2' : gI w2 108 58 ≤ x := by rw [hs.1]; exact c2
          refine (tr_249_4 (d + 3) w2 hW2 _ _ (fun _ h => absurd c2' h) (fun _ h => absurd c2' h)).trans ?_
          rw [if_neg c1, if_pos c2']
        · have c2' : ¬ gI w2 108 58 ≤ x := by rw [hs.1]; exact c2
          by_cases c3 : y < 0
          · refine (tr_249_4 (d + 3) w2 hW2 _ _ (fun _ _ h => absurd c3 h) (fun _ _ h => absurd c3 h)).trans ?_
            rw [if_neg c1, if_neg c2', if_pos c3]
          · have c4 : ¬ y ≤ 2 := ((hg.resolve_left c1).resolve_left c2).resolve_left c3
            refine (tr_249_4 (d + 3) w2 hW2 _ _ (fun _ _ _ h => absurd h c4) (fun _ _ _ h => absurd h c4)).trans ?_
            rw [if_neg c1, if_neg c2', if_neg c3, if_neg c4]
    · rcases hl with h | h
      · exact Or.inl ((f2.i 91 6 rfl).trans h)
      · exact Or.inr (h.fa f2.a rfl)
  · have c1 : ¬ x < 0 := fun h => hg (Or.inl h)
    have c2 : ¬ nI (nrd T C).1 ≤ x := fun h => hg (Or.inr (Or.inl h))
    have c3 : ¬ y < 0 := fun h => hg (Or.inr (Or.inr (Or.inl h)))
    have c4 : y ≤ 2 := by
      by_cases h : y ≤ 2
      · exact h
      · exact absurd (Or.inr (Or.inr (Or.inr h))) hg
    obtain ⟨i, hib, hie⟩ := i_le (b := (nrd T C).1) (by omega) c1 (Int32.le_of_lt (Int32.not_le.mp c2))
    subst hie
    have hi : i < (nrd T C).1 := by
      by_cases g : i < (nrd T C).1
      · exact g
      · exact absurd (n_le (a := (nrd T C).1) (b := i) (by omega) (by omega)) c2
    obtain ⟨w1, r1, f1, hld⟩ := c_lay d hW hN hc hl
    have hW1 := f1.fix rfl hW
    have hm1 := hm.fa f1.a rfl
    have hc1 := hc.fa f1.a rfl
    obtain ⟨w2, r2, f2, hs, h60, h61⟩ := m_fit (d + 3) hW1 hN hm1
    have hW2 := f2.fix rfl hW1
    have hm2 := hm1.fa f2.a rfl
    have hc2 := hc1.fa f2.a rfl
    have hl2 : LDs w2 C T := Or.inr (hld.fa f2.a rfl)
    obtain ⟨b1, b2, b3⟩ := m_time hN hm2 hs hi
    obtain ⟨l7, l8, l9, l95, v, l10, hv⟩ := hld
    have ic : (nI i).toNatClampNeg = i := nI_clamp (by omega)
    have e1 : val (38, d + 7, 0, [some (.ref 64), some (.int (nI i)), some (.int y)], [], w) = val (38, d + 7, 33, [some (.ref 64), some (.int (nI i)), some (.int y)], [], w1) := by
      refine (tr_38 d w hW _ _).trans ?_
      rw [g5, if_neg c1, if_neg c2, if_neg c3, if_pos c4]
      refine (val_call (pc2 := 33) rfl rfl rfl rfl (rcvO hW.k91 (by decide)) (Nat.le_of_ble_eq_true rfl) (Nat.le_of_ble_eq_true rfl) rfl r1 rfl).trans ?_
      rfl
    rw [tr_38_33 d w1 hW1 (nI i) y (fun _ _ => b1)] at e1
    have e2 : val (249, d + 7, 0, [some (.ref 108), some (.int (nI i)), some (.int y), none, none], [], w1) = val (249, d + 3 + 4, 4, [some (.ref 108), some (.int (nI i)), some (.int y), none, none], [], w2) := by
      refine (tr_249 (d + 3) w1 _ _).trans ?_
      refine (val_call (pc2 := 4) rfl rfl rfl rfl (hW1.rc _) (Nat.le_of_ble_eq_true rfl) (Nat.le_of_ble_eq_true rfl) rfl r2 rfl).trans ?_
      rfl
    rw [tr_249_4 (d + 3) w2 hW2 (nI i) y (fun _ _ _ _ => b1) (fun _ _ _ _ => b2)] at e2
    have c2' : ¬ gI w2 108 58 ≤ nI i := by rw [hs.1]; exact c2
    rw [if_neg c1, if_neg c2', if_neg c3, if_pos c4, b3] at e2
    have hy : y = 0 ∨ y = 1 ∨ y = 2 := by
      obtain ⟨Y, hY, rfl⟩ := i_le (b := 2) (by decide) c3 c4
      have : Y = 0 ∨ Y = 1 ∨ Y = 2 := by omega
      rcases this with rfl | rfl | rfl
      · exact Or.inl rfl
      · exact Or.inr (Or.inl rfl)
      · exact Or.inr (Or.inr rfl)
    have hgl := (rl_gap (K := (nrd T C).1) ht).1
    have hll := (rl_lead (K := (nrd T C).1) ht).1
    rcases hy with rfl | rfl | rfl
    · have htn : Rl (tm T C i) := ⟨ht i, Or.inl (k2 i hi).2⟩
      refine ⟨lI (tm T C i), w1, w2, ?_, ?_, f1, f2, hc2, hm2, hl2⟩
      · rw [e1, if_pos rfl]
        refine (val_call (pc2 := 68) rfl rfl rfl rfl (rcvO hW1.k91 (by decide)) (Nat.le_of_ble_eq_true rfl) (Nat.le_of_ble_eq_true rfl) rfl (c_time (d + 6) hW1 hN hc1 (i := i) (by omega)) rfl).trans ?_
        exact tr_38_68 d w1 _ _ _
      · rw [e2, if_neg (fun h => h rfl)]
        refine (m_out2 (d + 3) w2 htn _ _ _).trans ?_
        exact tr_249_81 (d + 3) w2 _ _ _ _
    · refine ⟨lI (errV (nrd T C).1 (tm T C) i), w1, w2, ?_, ?_, f1, f2, hc2, hm2, hl2⟩
      · rw [e1, if_neg (by decide), if_pos rfl, ic, l95 i hi]
      · rw [e2, if_pos (by decide), if_neg (fun h => h rfl)]
        refine (val_call (pc2 := 57) rfl rfl rfl rfl (hW2.rc _) (Nat.le_of_ble_eq_true rfl) (Nat.le_of_ble_eq_true rfl) rfl (m_error (d + 3) hW2 hN hm2 hs h60 h61 hi) rfl).trans ?_
        refine (tr_249_57 (d + 3) w2 _ _ _ _).trans ?_
        refine (m_out2 (d + 3) w2 (rl_err (K := (nrd T C).1) ht i) _ _ _).trans ?_
        exact tr_249_81 (d + 3) w2 _ _ _ _
    · have hq : Rl (fD (fS (tm T C i) (leadV (nrd T C).1 (tm T C))) (gapV (nrd T C).1 (tm T C))) := rl_div (rl_sub (ht i) hll).1 hgl
      refine ⟨lI (evB (fD (fS (tm T C i) (leadV (nrd T C).1 (tm T C))) (gapV (nrd T C).1 (tm T C)))), w1, w2, ?_, ?_, f1, f2, hc2, hm2, hl2⟩
      · rw [e1, if_neg (by decide), if_neg (by decide)]
        have hp : val (128, d + 6, 0, [some (.ref 91), some (.int (nI i))], [], w1) = some (some (.long (lI (evB (fD (fS (tm T C i) (leadV (nrd T C).1 (tm T C))) (gapV (nrd T C).1 (tm T C)))))), w1) := by
          refine (tr_128 (d + 1) w1 _).trans ?_
          refine (val_call (pc2 := 5) rfl rfl rfl rfl (rcvO hW1.k91 (by decide)) (Nat.le_of_ble_eq_true rfl) (Nat.le_of_ble_eq_true rfl) rfl (c_time (d + 5) hW1 hN hc1 (i := i) (by omega)) rfl).trans ?_
          refine (tr_128_5 (d + 1) w1 hW1 _ _).trans ?_
          rw [l8]
          refine (val_call (pc2 := 12) rfl rfl rfl rfl rfl (Nat.le_of_ble_eq_true rfl) (Nat.le_of_ble_eq_true rfl) rfl (c_sub (d + 1) w1 (ht i) hll) rfl).trans ?_
          refine (tr_128_12 (d + 1) w1 hW1 _ _).trans ?_
          rw [l7]
          refine (val_call (pc2 := 19) rfl rfl rfl rfl rfl (Nat.le_of_ble_eq_true rfl) (Nat.le_of_ble_eq_true rfl) rfl (c_div (d + 3) w1 (rl_sub (ht i) hll).1 hgl) rfl).trans ?_
          refine (val_call (pc2 := 22) rfl rfl rfl rfl rfl (Nat.le_of_ble_eq_true rfl) (Nat.le_of_ble_eq_true rfl) rfl (c_whole (d + 3) w1 hq.1) rfl).trans ?_
          exact tr_128_22 (d + 1) w1 _ _
        refine (val_call (pc2 := 87) rfl rfl rfl rfl (rcvO hW1.k91 (by decide)) (Nat.le_of_ble_eq_true rfl) (Nat.le_of_ble_eq_true rfl) rfl hp rfl).trans ?_
        exact tr_38_87 d w1 _ _ _
      · rw [e2, if_pos (by decide), if_pos (by decide), h61]
        refine (val_call (pc2 := 68) rfl rfl rfl rfl rfl (Nat.le_of_ble_eq_true rfl) (Nat.le_of_ble_eq_true rfl) rfl (m_less2 (d + 4) w2 (ht i) hll) rfl).trans ?_
        refine (tr_249_68 (d + 3) w2 hW2 _ _ _ _).trans ?_
        rw [h60]
        refine (val_call (pc2 := 75) rfl rfl rfl rfl rfl (Nat.le_of_ble_eq_true rfl) (Nat.le_of_ble_eq_true rfl) rfl (m_over (d + 4) w2 (rl_sub (ht i) hll).1 hgl) rfl).trans ?_
        refine (val_call (pc2 := 78) rfl rfl rfl rfl rfl (Nat.le_of_ble_eq_true rfl) (Nat.le_of_ble_eq_true rfl) rfl (m_even (d + 6) w2 hq.1 hq.2) rfl).trans ?_
        refine (m_out2 (d + 3) w2 (rl_ev hq) _ _ _).trans ?_
        exact tr_249_81 (d + 3) w2 _ _ _ _
end API
