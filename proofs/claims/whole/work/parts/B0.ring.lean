/-! CALLS: ring, call, go -/
abbrev FRc : List (Nat × Option Nat) := [(67, some 0), (67, some 9), (67, some 10), (67, some 11), (67, some 12), (68, none), (69, none), (70, none), (71, none), (72, none), (73, none), (74, none), (75, none)]
abbrev FRo : List (Nat × Option Nat) := [(108, some 27), (108, some 28), (108, some 29), (108, some 30), (127, none), (128, none), (129, none)]
section RFA
variable {N M m S : Nat} {F : Nat → Nat → Nat} {cl : Nat → Bool} {s : RS} {w v : Wd} {T : List (Nat × Option Nat)}
theorem RC.fa (h : RC N F w S) (hf : FrA T w v) (ht : dj T [(67, some 12), (71, none), (72, none), (73, none), (74, none), (75, none)] = true) : RC N F v S := by
  obtain ⟨⟨h1, h2⟩, h3, h4⟩ := h
  refine ⟨⟨fun x hx => (hf.i ht 74 x (by decide) rfl).trans (h1 x hx), fun j j1 j2 => ?_⟩, (hf.i ht 67 12 (by decide) rfl).trans h3, fun t t1 t2 => (hf.i ht 73 t (by decide) rfl).trans (h4 t t1 t2)⟩
  obtain ⟨a, b, c⟩ := h2 j j1 j2
  exact ⟨(hf.i ht 75 j (by decide) rfl).trans a, (hf.i ht 71 j (by decide) rfl).trans b, (hf.i ht 72 j (by decide) rfl).trans c⟩
theorem RCl.fa (h : RCl w N M cl s) (hf : FrA T w v) (ht : dj T FRc = true) (ht2 : dj T [(67, some 12), (71, none), (72, none), (73, none), (74, none), (75, none)] = true) : RCl v N M cl s := by
  obtain ⟨h1, h2, h3, h4, h5, h6, h7, h8⟩ := h
  exact ⟨(hf.r ht 67 0 (by decide) rfl).trans h1, (hf.i ht 67 9 (by decide) rfl).trans h2, (hf.i ht 67 10 (by decide) rfl).trans h3, (hf.i ht 67 11 (by decide) rfl).trans h4, fun k hk => (hf.i ht 68 k (by decide) rfl).trans (h5 k hk), fun k hk => (hf.i ht 69 k (by decide) rfl).trans (h6 k hk), fun k hk => (hf.i ht 70 k (by decide) rfl).trans (h7 k hk), h8.fa hf ht2⟩
theorem RMo.fa (h : RMo w N m cl s) (hf : FrA T w v) (ht : dj T FRo = true) : RMo v N m cl s := by
  obtain ⟨h1, h2, h3, h4, h5, h6, h7⟩ := h
  exact ⟨(hf.i ht 108 27 (by decide) rfl).trans h1, (hf.i ht 108 28 (by decide) rfl).trans h2, (hf.i ht 108 29 (by decide) rfl).trans h3, (hf.i ht 108 30 (by decide) rfl).trans h4, fun k hk => (hf.i ht 127 k (by decide) rfl).trans (h5 k hk), fun k hk => (hf.i ht 128 k (by decide) rfl).trans (h6 k hk), fun k hk => (hf.i ht 129 k (by decide) rfl).trans (h7 k hk)⟩
end RFA
def RgOn (w : Wd) (N m M : Nat) (cl : Nat → Bool) (s : RS) : Prop := LK w m M ∧ 151 ≤ M ∧ RCl w N M cl s ∧ RMo w N m cl s ∧ RSok N s
def RgOff (w : Wd) : Prop := gR w 67 0 = none ∧ gI w 108 27 = 0 ∧ gI w 70 0 = 0
/-- the run -/
def secR (w : Wd) (N : Nat) : Prop := RgOff w ∨ ∃ m M cl s, RgOn w N m M cl s
/-- a frame for the run: the links apart -/
theorem secR.fl {w v : Wd} {N : Nat} {T : List (Nat × Option Nat)} (h : secR w N) (hf : FrA T w v) (ht : dj T FRc = true) (ht3 : dj T FRo = true) (hl : ∀ m M, LK w m M → LK v m M) (ht2 : dj T [(67, some 12), (71, none), (72, none), (73, none), (74, none), (75, none)] = true := by rfl) : secR v N := by
  rcases h with ⟨h1, h2, h3⟩ | ⟨m, M, cl, s, h1, h2, h3, h4, h5⟩
  · exact Or.inl ⟨(hf.r ht 67 0 (by decide) rfl).trans h1, (hf.i ht3 108 27 (by decide) rfl).trans h2, (hf.i ht 70 0 (by decide) rfl).trans h3⟩
  · exact Or.inr ⟨m, M, cl, s, hl m M h1, h2, h3.fa hf ht ht2, h4.fa hf ht3, h5⟩
theorem secR.fa {w v : Wd} {N : Nat} {T : List (Nat × Option Nat)} (h : secR w N) (hf : FrA T w v) (ht : dj T FRc = true) (ht3 : dj T FRo = true) (ht4 : dj T [(108, some 11), (66, none)] = true) (ht2 : dj T [(67, some 12), (71, none), (72, none), (73, none), (74, none), (75, none)] = true := by rfl) : secR v N :=
  h.fl hf ht ht3 (fun _ _ hl => hl.fa hf ht4) ht2
theorem RgOn.on {w : Wd} {N m M : Nat} {cl : Nat → Bool} {s : RS} (h : RgOn w N m M cl s) : RunOn w N s.1 s.2.1 := by
  obtain ⟨h1, h2, h3, h4, h5⟩ := h
  exact ⟨⟨M, h3.1, by omega⟩, h4.1, h5.1, h3.2.1, h4.2.2.1, fun k hk => ⟨h5.2.1 k hk, h3.2.2.2.2.1 k hk, h4.2.2.2.2.1 k hk⟩⟩
theorem secR.v {w : Wd} {N : Nat} (h : secR w N) : secV w N := by
  rcases h with ⟨h1, h2, -⟩ | ⟨m, M, cl, s, h⟩
  · exact Or.inl ⟨h1, h2⟩
  · exact Or.inr ⟨_, _, h.on⟩
theorem secR.z {w : Wd} {N : Nat} (h : secR w N) : gI w 70 0 = 0 := by
  rcases h with ⟨-, -, h⟩ | ⟨m, M, cl, s, -, -, h3, -, h5⟩
  · exact h
  · rw [h3.2.2.2.2.2.2.1 0 (Nat.zero_le _), h5.2.2.2]; rfl
/-- the run's method, as both have it -/
theorem RgOn.me {w : Wd} {N m M : Nat} {cl : Nat → Bool} {s : RS} (h : RgOn w N m M cl s) (hM : secM w N) : m < 8 ∧ ∃ rs c, MeV w N M rs c ∧ MeM w N m rs c ∧ c ≤ 40 ∧ ∀ j, j < rs.length → RuOK N (rs.getD j ru0) := by
  obtain ⟨mc, h1, h2, h3, h4⟩ := h.1
  obtain ⟨mc', m1, m2, m3, m4⟩ := hM
  have e : mc = mc' := (n_inj (by omega) (by omega)).mp (h2.symm.trans m3)
  subst e
  obtain ⟨M', rs, c, g1, g2, g3, g4, g5, g6⟩ := m4 m h3
  rw [h4] at g1
  cases g1
  exact ⟨by omega, rs, c, g2, g3, g5, g6⟩
abbrev FBg : List (Nat × Option Nat) := [(67, some 0), (67, some 9), (67, some 10), (67, some 11), (67, some 12), (68, none), (69, none), (73, none), (74, none)]
theorem Fr.to {S T : List (Nat × Option Nat)} {w v : Wd} (h : Fr S w v) (hs : sbS S T = true) : Fr T w v := h.mono hs
/-- a run that begins -/
abbrev rs0 : RS := (0, fun _ p => p, false, fun _ => false)
theorem c_begin {N M : Nat} {w : Wd} (h3 : 3 ≤ N) (hN : N ≤ 8) (hW : Fix w) (hM : 151 ≤ M) (h70 : gI w 70 0 = 0) (d : Nat) : ∃ w', val (154, d + 1, 0, [some (.ref 67), some (.ref M), some (.int (nI N))], [], w) = some (none, w') ∧ Fr FBg w w' ∧ RCl w' N M (fun _ => false) rs0 := by
  obtain ⟨wa, hwa⟩ : ∃ x, x = sR w 67 0 (some M) := ⟨_, rfl⟩
  have fa : Fr FBg w wa := by rw [hwa]; exact (Fr.refl _ w).sR 67 0 _ rfl
  have hka : Fix wa := by
    refine Fr.fix (S := [(67, some 0)]) ?_ rfl hW
    rw [hwa]; exact (Fr.refl _ w).sR 67 0 _ rfl
  obtain ⟨wb, hwb⟩ : ∃ x, x = sI (sI (sI (sI wa 67 9 0) 67 10 0) 67 11 (-9)) 67 12 0 := ⟨_, rfl⟩
  have fb : Fr [(67, some 9), (67, some 10), (67, some 11), (67, some 12)] wa wb := by rw [hwb]; exact ((((Fr.refl _ wa).sI 67 9 _ rfl).sI 67 10 _ rfl).sI 67 11 _ rfl).sI 67 12 _ rfl
  have hkb := fb.fix rfl hka
  obtain ⟨wc, hwc⟩ : ∃ x, x = sI wb 68 0 (nI (pkN N (fun p => p))) := ⟨_, rfl⟩
  have fc : Fr [(68, none)] wb wc := by rw [hwc]; exact (Fr.refl _ wb).sI 68 0 _ rfl
  have hkc := fc.fix rfl hkb
  obtain ⟨wd, e1, f1, g1⟩ := r_fillB 69 2000 (by decide) 0 d (hkc.k 69 (by decide) (by decide))
  have hkd := f1.fix rfl hkc
  obtain ⟨we, e2, f2, g2⟩ := r_fillI 73 10 (by decide) (-9) d (hkd.k 73 (by decide) (by decide))
  have hke := f2.fix rfl hkd
  obtain ⟨wf, e3, f3, g3⟩ := r_fillI 74 1024 (by decide) 0 d (hke.k 74 (by decide) (by decide))
  have f13 : Fr [(69, none), (73, none), (74, none)] wc wf := ((f1.mono rfl).trans (f2.mono rfl)).trans (f3.mono rfl)
  have fcf : Fr [(68, none), (69, none), (73, none), (74, none)] wb wf := (fc.mono rfl).trans (f13.mono rfl)
  have fall : Fr FBg w wf := (fa.trans (fb.mono rfl)).trans (fcf.mono rfl)
  refine ⟨wf, (tr_154 d w M (nI N)).trans ?_, fall, ?_, ?_, ?_, ?_, fun k hk => ?_, fun k hk => ?_, fun k hk => ?_, ⟨fun x hx => ?_, fun j j1 j2 => ?_⟩, ?_, fun t t1 t2 => ?_⟩
  · refine (val_pf (w2 := wa) rfl hW.k67 (by rw [hwa]; exact svR (by omega))).trans ?_
    refine (tr_154_5 d wa hka M (nI N)).trans ?_
    rw [← hwb]
    refine (val_call (pc2 := 35) rfl rfl rfl rfl rfl (Nat.le_of_ble_eq_true rfl) (Nat.le_of_ble_eq_true rfl) rfl (ev_133 d wb (nI N) (okn h3 hN)) rfl).trans ?_
    rw [r_133 hN]
    refine (tr_154_35 d wb hkb M _ _ _ (by decide)).trans ?_
    rw [show (0 : Int32).toNatClampNeg = 0 from rfl, ← hwc]
    refine (val_call (pc2 := 44) rfl rfl rfl rfl rfl (Nat.le_of_ble_eq_true rfl) (Nat.le_of_ble_eq_true rfl) rfl e1 rfl).trans ?_
    refine (tr_154_44 d wd hkd M _).trans ?_
    refine (val_call (pc2 := 53) rfl rfl rfl rfl rfl (Nat.le_of_ble_eq_true rfl) (Nat.le_of_ble_eq_true rfl) rfl e2 rfl).trans ?_
    refine (tr_154_53 d we hke M _).trans ?_
    refine (val_call (pc2 := 61) rfl rfl rfl rfl rfl (Nat.le_of_ble_eq_true rfl) (Nat.le_of_ble_eq_true rfl) rfl e3 rfl).trans ?_
    exact tr_154_61 d wf M _
  · rw [fcf.r 67 0 rfl, fb.r 67 0 rfl, hwa]; exact gR_same _ _ _ _
  · rw [fcf.i 67 9 rfl, hwb, gI_nk _ _ _ (by decide), gI_nk _ _ _ (by decide), gI_nk _ _ _ (by decide), gI_same]; rfl
  · rw [fcf.i 67 10 rfl, hwb, gI_nk _ _ _ (by decide), gI_nk _ _ _ (by decide), gI_same]; rfl
  · rw [fcf.i 67 11 rfl, hwb, gI_nk _ _ _ (by decide), gI_same]; rfl
  · have : k = 0 := Nat.le_zero.mp hk
    rw [this, f13.i 68 0 rfl, hwc, gI_same]
  · have f23 : Fr [(73, none), (74, none)] wd wf := (f2.mono rfl).trans (f3.mono rfl)
    rw [f23.i 69 k rfl, g1 k hk]; show vp_nar .byte 0 = b01 false; decide
  · have : k = 0 := Nat.le_zero.mp hk
    rw [this, fall.i 70 0 rfl, h70]; rfl
  · rw [g3 x hx]; rfl
  · have : j ≤ 0 := j2
    omega
  · rw [fcf.i 67 12 rfl, hwb, gI_same]; rfl
  · rw [f3.i 73 t rfl, g2 t (by omega)]; rfl
abbrev FMr : List (Nat × Option Nat) := [(108, some 27), (108, some 28), (108, some 29), (108, some 30), (127, none), (128, none), (129, none)]
theorem a_ring {N : Nat} {w : Wd} (hW : Fix w) (hB : Bl w N) (hM : secM w N) (hR : secR w N) (d : Nat) (x : Int32) : ∃ r w1 w2, val (15, d + 2, 0, [some (.ref 64), some (.int x)], [], w) = some (some (.int r), w1) ∧ val (208, d + 2, 0, [some (.ref 108), some (.int x), none], [], w1) = some (some (.int r), w2) ∧ Fr FBg w w1 ∧ Fr FMr w1 w2 ∧ secR w2 N := by
  obtain ⟨h3, hN, hn, hm⟩ := id hB
  obtain ⟨mc, m1, m2, m3, m4⟩ := id hM
  by_cases hx : x < 0 ∨ nI mc ≤ x
  · refine ⟨-1, w, w, (tr_15 d w x).trans ?_, (tr_208 (d + 1) w hW x).trans ?_, Fr.refl _ _, Fr.refl _ _, hR⟩
    · refine (val_call (pc2 := 5) rfl rfl rfl rfl (hW.rb _) (Nat.le_of_ble_eq_true rfl) (Nat.le_of_ble_eq_true rfl) rfl (c_isMethodX (d + 1) hW m1 m2 hx) rfl).trans ?_
      refine (tr_15_5 d w hW x _).trans ?_
      rw [if_neg (fun h => h rfl)]
    · rw [m3]
      by_cases h0 : x < 0
      · rw [if_pos h0]
      · rw [if_neg h0, if_neg (fun hh => ?_)]
        obtain ⟨X, hX, rfl⟩ := i_nat h0
        have a1 := (n_lt_iff hX (by omega)).mp hh
        have a2 := (n_le_iff (by omega) hX).mp (hx.resolve_left h0)
        omega
  · obtain ⟨m, hmm, rfl⟩ := m_lt (by omega) (fun h => hx (Or.inl h)) (fun h => hx (Or.inr h))
    obtain ⟨M, rs, c, g1, g2, g3, g4, g5, g6⟩ := m4 m hmm
    obtain ⟨w1, e1, f1, s1⟩ := c_begin h3 hN hW g2.1 hR.z d
    have hW1 : Fix w1 := f1.fix rfl hW
    have m3' := (f1.i 108 11 rfl).trans m3
    have e2 := tr_208 (d + 1) w1 hW1 (nI m)
    rw [if_neg (n_not_neg (by omega)), m3', if_pos (n_lt hmm (by omega))] at e2
    obtain ⟨wa, hwa⟩ : ∃ z, z = sI (sI (sI (sI w1 108 27 1) 108 28 (nI m)) 108 29 0) 108 30 0 := ⟨_, rfl⟩
    rw [← hwa] at e2
    have fa : Fr FMr w1 wa := by rw [hwa]; exact ((((Fr.refl _ w1).sI 108 27 _ rfl).sI 108 28 _ rfl).sI 108 29 _ rfl).sI 108 30 _ rfl
    have hka := fa.fix rfl hW1
    have hma : gI wa 108 0 = nI N := (fa.i 108 0 rfl).trans ((f1.i 108 0 rfl).trans hm)
    have e3 := m_rounds hN (d + 1) hka hma
    obtain ⟨wb, hwb⟩ : ∃ z, z = sI (sI wa 127 0 (nI (dcN N (fun p => p)))) 129 0 0 := ⟨_, rfl⟩
    have fb : Fr [(127, none), (129, none)] wa wb := by rw [hwb]; exact ((Fr.refl _ wa).sI 127 _ _ rfl).sI 129 _ _ rfl
    have hkb := fb.fix rfl hka
    have hL := loopUp (c := fun k v => (208, d + 2, 53, [some (.ref 108), some (.int (nI m)), some (.int (nI k))], [], v)) (P := fun k v => Fr [(128, none)] wb v ∧ ∀ i, i < k → gI v 128 i = 0) (R := fun r => ∃ w', r = some (some (.int 0), w') ∧ Fr [(128, none)] wb w' ∧ ∀ k, k < 2000 → gI w' 128 k = 0) (N := 2000) (fun v hv => ⟨v, (tr_208_53 (d + 1) v (hv.1.fix rfl hkb) _ _ (fun h => absurd (Int32.le_refl _) h)).trans (if_pos (Int32.le_refl _)), hv.1, hv.2⟩) (fun k v hk hv => Or.inr ⟨sI v 128 k 0, (tr_208_53 (d + 1) v (hv.1.fix rfl hkb) _ _ (fun _ => inB_nI hk (by decide))).trans (by
      rw [if_neg (show ¬ (2000 : Int32) ≤ nI k from n_nle (a := 2000) hk (by decide)), n_succ, nI_clamp (by omega), show vp_nar .boolean 0 = 0 from rfl]), hv.1.sI 128 _ _ rfl, fun i hi => by
        by_cases e : i = k
        · rw [e, gI_same]
        · rw [gI_nk _ _ _ e]; exact hv.2 i (by omega)⟩) wb ⟨Fr.refl _ _, fun i hi => absurd hi (Nat.not_lt_zero i)⟩
    obtain ⟨w2, e4, f4, g4⟩ := hL
    have f2 : Fr FMr w1 w2 := (fa.trans (fb.mono rfl)).trans (f4.mono rfl)
    have fb4 : Fr [(127, none), (128, none), (129, none)] wa w2 := (fb.mono rfl).trans (f4.mono rfl)
    refine ⟨0, w1, w2, (tr_15 d w _).trans ?_, e2.trans ?_, f1, f2, Or.inr ⟨m, M, fun _ => false, rs0, ?_, g2.1, s1.fa f2.a rfl rfl, ⟨?_, ?_, ?_, ?_, fun k hk => ?_, fun k hk => ?_, fun k hk => ?_⟩, Nat.zero_le _, fun k hk => IsRow.id N, rfl, rfl⟩⟩
    · refine (val_call (pc2 := 5) rfl rfl rfl rfl (hW.rb _) (Nat.le_of_ble_eq_true rfl) (Nat.le_of_ble_eq_true rfl) rfl (c_isMethod (d + 1) hW m1 m2 hmm) rfl).trans ?_
      refine (tr_15_5 d w hW _ _).trans ?_
      rw [if_pos (by decide)]
      refine (val_aal rfl (hW.k 66 (by omega) (by omega)) rfl (inB_nI (by omega) (by omega)) (by rw [nI_clamp (by omega)]; exact g1)).trans ?_
      refine (tr_15_20 d w hW _ _).trans ?_
      rw [hn]
      refine (val_call (pc2 := 27) rfl rfl rfl rfl (rcvO hW.k67 (by decide)) (Nat.le_of_ble_eq_true rfl) (Nat.le_of_ble_eq_true rfl) rfl e1 rfl).trans ?_
      exact tr_15_27 d w1 _
    · refine (val_call (pc2 := 43) rfl rfl rfl rfl (hka.rc _) (Nat.le_of_ble_eq_true rfl) (Nat.le_of_ble_eq_true rfl) rfl e3 rfl).trans ?_
      refine (tr_208_43 (d + 1) wa hka _ _ _ (by decide) (by decide)).trans ?_
      rw [show (0 : Int32).toNatClampNeg = 0 from rfl, show vp_nar .boolean 0 = 0 from rfl, ← hwb]
      exact e4
    · exact ⟨mc, m1, (f2.i 108 11 rfl).trans m3', hmm, (f2.r 66 m rfl).trans ((f1.r 66 m rfl).trans g1)⟩
    · rw [fb4.i 108 27 rfl, hwa, gI_nk _ _ _ (by decide), gI_nk _ _ _ (by decide), gI_nk _ _ _ (by decide), gI_same]
    · rw [fb4.i 108 28 rfl, hwa, gI_nk _ _ _ (by decide), gI_nk _ _ _ (by decide), gI_same]
    · rw [fb4.i 108 29 rfl, hwa, gI_nk _ _ _ (by decide), gI_same]; rfl
    · rw [fb4.i 108 30 rfl, hwa, gI_same]; rfl
    · have : k = 0 := Nat.le_zero.mp hk
      rw [this, f4.i 127 0 rfl, hwb, gI_ne _ _ _ _ (by decide), gI_same]
    · rw [g4 k hk]; rfl
    · have : k = 0 := Nat.le_zero.mp hk
      rw [this, f4.i 129 0 rfl, hwb, gI_same]; rfl
