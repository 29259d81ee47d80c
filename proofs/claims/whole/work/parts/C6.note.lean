/-! CALLS: note, wipe, inOrder -/
theorem val_l2d {y d pc k : Nat} {ls : List (Option Value)} {st : List Value} {w : Wd} {av : Value} {sw : List (Int32 × Nat)} {b : Int64} (h : mtab y pc = some (.invokestatic k, 3, [1], av, sw)) (hs : sgn b = false) (hc : catS st ≤ 8) : val (y, d + 1, pc, ls, .long b :: st, w) = val (y, d + 1, pc + 3, ls, .double b.toUInt64 :: st, w) := by
  refine val_g ?_
  unfold plan
  simp only [h, pst, pln, pnat]
  rw [if_pos hs, if_pos hc]
  rfl
theorem val_d2l {y d pc k : Nat} {ls : List (Option Value)} {st : List Value} {w : Wd} {av : Value} {sw : List (Int32 × Nat)} {b : UInt64} (h : mtab y pc = some (.invokestatic k, 3, [2], av, sw)) (hc : catS st ≤ 8) : val (y, d + 1, pc, ls, .double b :: st, w) = val (y, d + 1, pc + 3, ls, .long b.toInt64 :: st, w) := by
  refine val_g ?_
  unfold plan
  simp only [h, pst, pln, pnat]
  rw [if_pos hc]
  rfl
theorem lI_u (t : Nat) : (lI t).toUInt64 = UInt64.ofNat t := rfl
theorem u_sz {t : Nat} (ht : t < 2 ^ 64) : (UInt64.ofNat t &&& 0x7fffffffffffffff).toNat = szB t := by
  rw [UInt64.toNat_and, UInt64.toNat_ofNat_of_lt' ht]
  show t &&& (2 ^ 63 - 1) = _
  rw [Nat.and_two_pow_sub_one_eq_mod]
  rfl
theorem sgn_num {t : Nat} (ht : t < 2 ^ 64) (h : szB t ≤ INF) : sgn (lI t) = false := by
  have h2 : INF = 9218868437227405312 := rfl
  show (decide ((0x7ff0000000000000 : UInt64) < UInt64.ofNat t &&& 0x7fffffffffffffff) && _) = false
  rw [decide_eq_false (fun hh => by
    have := UInt64.lt_iff_toNat_lt.mp hh
    rw [u_sz ht] at this
    have e : (0x7ff0000000000000 : UInt64).toNat = 9218868437227405312 := by decide
    omega), Bool.false_and]
theorem gD_same (w : Wd) (a k : Nat) (x : UInt64) : gD (sD w a k x) a k = x := (if_pos rfl).trans (if_pos rfl)
theorem gD_nk (w : Wd) (a : Nat) {k j : Nat} (x : UInt64) (h : j ≠ k) : gD (sD w a k x) a j = gD w a j := (if_pos rfl).trans (if_neg h)
section NOTE
variable {N C : Nat} {T bl : Nat → Nat} {w : Wd}
theorem m_noReal (d : Nat) (w : Wd) : val (237, d + 1, 0, [], [], w) = some (some (.double (UInt64.ofNat 9221120237041090560)), w) := by
  refine (tr_237 d w).trans ((val_l2d rfl (by decide) (by decide)).trans ?_)
  exact tr_237_6 d w _
theorem m_realOf (d : Nat) (w : Wd) {t : Nat} (ht : t < 2 ^ 64) : val (238, d + 2, 0, [some (.long (lI t)), none], [], w) = some (some (.double (UInt64.ofNat (cnB t))), w) := by
  have h2 : INF = 9218868437227405312 := rfl
  have e := tr_238 d w (lI t)
  rw [show lI t &&& 9223372036854775807 = lI (szB t) from sz_and ht, show (9218868437227405312 : Int64) = lI 9218868437227405312 from rfl] at e
  have hl := l_lt_iff (a := 9218868437227405312) (b := szB t) (by decide) (sz_lt t)
  by_cases c : INF < szB t
  · rw [if_neg (fun h => cmpL_le.mp h (hl.mpr (by omega)))] at e
    refine e.trans ?_
    refine (val_call (pc2 := 15) rfl rfl rfl rfl rfl (Nat.le_of_ble_eq_true rfl) (Nat.le_of_ble_eq_true rfl) rfl (m_noReal d w) rfl).trans ?_
    refine (tr_238_15 d w _ _).trans ((tr_238_22 d w _ _).trans ?_)
    unfold cnB
    rw [if_pos c]
  · rw [if_pos (cmpL_le.mpr (fun h => c (by have := hl.mp h; omega)))] at e
    refine e.trans ((val_l2d rfl (sgn_num ht (by omega)) (by decide)).trans ((tr_238_22 d w _ _).trans ?_))
    rw [lI_u]
    unfold cnB
    rw [if_neg c]
abbrev FMn : List (Nat × Option Nat) := [(108, some 54), (141, none), (142, none)]
/-- what is laid stays, or is laid no more -/
def KP (w v : Wd) (T : Nat → Nat) (C : Nat) (T' : Nat → Nat) (C' : Nat) : Prop := gI v 91 6 = 0 ∨ (gI v 91 6 = gI w 91 6 ∧ (nrd T' C').1 = (nrd T C).1 ∧ ∀ j, j < (nrd T C).1 → T' ((nrd T' C').2 j) = T ((nrd T C).2 j))
theorem KP.refl (w : Wd) (T : Nat → Nat) (C : Nat) : KP w w T C T C := Or.inr ⟨rfl, rfl, fun _ _ => rfl⟩
theorem KP.trans {u v w : Wd} {T1 T2 T3 : Nat → Nat} {C1 C2 C3 : Nat} (h : KP u v T1 C1 T2 C2) (g : KP v w T2 C2 T3 C3) : KP u w T1 C1 T3 C3 := by
  rcases g with g | ⟨g1, g2, g3⟩
  · exact Or.inl g
  · rcases h with h | ⟨h1, h2, h3⟩
    · exact Or.inl (g1.trans h)
    · exact Or.inr ⟨g1.trans h1, g2.trans h2, fun j hj => (g3 j (by omega)).trans (h3 j hj)⟩
theorem KP.add {w' : Wd} {t : Nat} (h1 : INF < szB t → gI w' 91 6 = gI w 91 6) (h2 : szB t ≤ INF → gI w' 91 6 = 0) : KP w w' T C (upF T C t) (C + 1) := by
  by_cases c : INF < szB t
  · have hcg : nrd (upF T C t) C = nrd T C := nrd_congr C (fun i hi => upF_ne _ _ (by omega))
    have hn : nrd (upF T C t) (C + 1) = nrd T C := by
      have : nrd (upF T C t) (C + 1) = nrd (upF T C t) C := if_pos (by rw [upF_eq]; exact c)
      rw [this, hcg]
    refine Or.inr ⟨h1 c, by rw [hn], fun j hj => ?_⟩
    rw [hn, upF_ne _ _ (by have := ((nrd_ok T C).2 j hj).1; omega)]
  · exact Or.inl (h2 (by omega))
theorem NOK.add {t b : Nat} (h : NOK N C T bl) (hC : C < 300) (ht : t < 2 ^ 64) (h1 : 1 ≤ b) (h2 : b ≤ N) : NOK N (C + 1) (upF T C t) (upF bl C b) := by
  refine ⟨hC, fun i => ?_, fun i hi => ?_⟩
  · by_cases c : i = C
    · rw [c, upF_eq]; exact ht
    · rw [upF_ne _ _ c]; exact h.2.1 i
  · by_cases c : i = C
    · rw [c, upF_eq]; exact ⟨h1, h2⟩
    · rw [upF_ne _ _ c]; exact h.2.2 i (by omega)
theorem NM.add {v : Wd} {t b : Nat} (h : NM w C T bl) (e1 : gI v 108 54 = nI (C + 1)) (e2 : ∀ i, gI v 141 i = if i = C then nI b else gI w 141 i) (e3 : ∀ i, gD v 142 i = if i = C then UInt64.ofNat (cnB t) else gD w 142 i) : NM v (C + 1) (upF T C t) (upF bl C b) := by
  refine ⟨e1, fun i hi => ?_, fun i hi => ?_⟩
  · rw [e2]
    by_cases c : i = C
    · rw [if_pos c, c, upF_eq]
    · rw [if_neg c, upF_ne _ _ c]; exact h.2.1 i (by omega)
  · rw [e3]
    by_cases c : i = C
    · rw [if_pos c, c, upF_eq]
    · rw [if_neg c, upF_ne _ _ c]; exact h.2.2 i (by omega)
theorem a_note (hW : Fix w) (hB : Bl w N) (hN : NOK N C T bl) (hc : NC w C T bl) (hmm : NM w C T bl) (d : Nat) (x : Int32) (y : Int64) : ∃ r w1 w2 C' T' bl', val (32, d + 5, 0, [some (.ref 64), some (.int x), some (.long y), none], [], w) = some (some (.int r), w1) ∧ val (231, d + 5, 0, [some (.ref 108), some (.int x), some (.long y), none], [], w1) = some (some (.int r), w2) ∧ Fr FAd w w1 ∧ Fr FMn w1 w2 ∧ NOK N C' T' bl' ∧ NC w2 C' T' bl' ∧ NM w2 C' T' bl' ∧ KP w w2 T C T' C' := by
  obtain ⟨h3, hN8, hn, hm⟩ := hB
  obtain ⟨t, ht, rfl⟩ := l_ex y
  have e1 : val (32, d + 5, 0, [some (.ref 64), some (.int x), some (.long (lI t)), none], [], w) = val (32, d + 5, 5, [some (.ref 64), some (.int x), some (.long (lI t)), none], [.int (if x < 1 ∨ nI N < x then 0 else 1)], w) := by
    refine (tr_32 d w x (lI t)).trans ?_
    refine (val_call (pc2 := 5) rfl rfl rfl rfl (hW.rb _) (Nat.le_of_ble_eq_true rfl) (Nat.le_of_ble_eq_true rfl) rfl (c_isBell hW hn (d + 4) x) rfl).trans ?_
    rfl
  have e1' := e1.trans (tr_32_5 d w hW x (lI t) _)
  have e2 := fun v (hv : Fix v) (h54 : gI v 108 54 = nI C) => tr_231 (d + 2) v hv x (lI t) (fun _ _ h => by
    rw [h54] at h ⊢
    exact inB_nI (by
      have := hN.1
      by_cases c : C = 300
      · exact absurd (by rw [c]; rfl) h
      · omega) (by omega))
  by_cases hx : x < 1 ∨ nI N < x
  · rw [if_pos hx, if_neg (fun h => h rfl)] at e1'
    refine ⟨-1, w, w, C, T, bl, e1', (e2 w hW hmm.1).trans ?_, Fr.refl _ _, Fr.refl _ _, hN, hc, hmm, KP.refl _ _ _⟩
    rw [hm]
    by_cases c : x < 1
    · rw [if_pos c]
    · rw [if_neg c, if_neg (fun h => by
        have a1 := Int32.lt_iff_toInt_lt.mp (hx.resolve_left c)
        have a2 := Int32.le_iff_toInt_le.mp h
        omega)]
  · have hx1 : ¬ x < 1 := fun h => hx (Or.inl h)
    have hx2 : x ≤ nI N := Int32.not_lt.mp (fun h => hx (Or.inr h))
    obtain ⟨b, hb, rfl⟩ := i_le (b := N) (by omega) (fun h => hx1 (Int32.lt_trans h (by decide))) hx2
    have hb1 : 1 ≤ b := by
      by_cases c : b = 0
      · rw [c] at hx1; exact absurd (show nI 0 < 1 by decide) hx1
      · omega
    rw [if_neg hx, if_pos (by decide), hc.1] at e1'
    by_cases hC : C < 300
    · rw [if_pos (show nI C < 300 from n_lt (b := 300) hC (by omega))] at e1'
      obtain ⟨w1, r1, f1, s1, z1, z2⟩ := c_addB d hW hN hC hc (show b < 2 ^ 31 by omega) ht
      have hW1 := f1.fix rfl hW
      have iC : (nI C).toNatClampNeg = C := nI_clamp (by omega)
      have e3 := e2 w1 hW1 ((f1.i 108 54 rfl).trans hmm.1)
      have h54 : gI w1 108 54 = nI C := (f1.i 108 54 rfl).trans hmm.1
      rw [if_neg hx1, (f1.i 108 0 rfl).trans hm, if_pos hx2, h54, if_pos (show ¬ nI C = 300 from n_ne (b := 300) (by omega) (by omega) (by omega)), iC, gI_ne w1 (a := 141) (b := 108) _ _ _ (by decide), h54] at e3
      obtain ⟨w2, hw2⟩ : ∃ z, z = sI w1 141 C (nI b) := ⟨_, rfl⟩
      rw [← hw2] at e3
      have f2 : Fr FMn w1 w2 := by rw [hw2]; exact (Fr.refl _ w1).sI 141 _ _ rfl
      have hW2 := f2.fix rfl hW1
      have e4 := tr_231_50 (d + 2) w2 hW2 (nI b) (lI t) (UInt64.ofNat (cnB t)) (nI C) (inB_nI hC (by omega))
      have g54 : gI (sD w2 142 C (UInt64.ofNat (cnB t))) 108 54 = nI C := by
        show gI w2 108 54 = _
        rw [hw2, gI_ne _ _ _ _ (by decide)]; exact h54
      rw [iC, g54, n_succ, gI_same, pI_1 (by omega), Nat.add_sub_cancel] at e4
      obtain ⟨w3, hw3⟩ : ∃ z, z = sI (sD w2 142 C (UInt64.ofNat (cnB t))) 108 54 (nI (C + 1)) := ⟨_, rfl⟩
      rw [← hw3] at e4
      have f3 : Fr FMn w1 w3 := by rw [hw3]; exact (f2.sD 142 _ _ rfl).sI 108 54 _ rfl
      refine ⟨nI C, w1, w3, C + 1, upF T C t, upF bl C b, e1'.trans ?_, e3.trans ?_, f1, f3, hN.add hC ht hb1 hb, s1.fa f3.a rfl, (hmm.fa f1.a rfl).add ?_ (fun i => ?_) (fun i => ?_), ?_⟩
      · refine (val_call (pc2 := 35) rfl rfl rfl rfl (rcvO hW.k91 (by decide)) (Nat.le_of_ble_eq_true rfl) (Nat.le_of_ble_eq_true rfl) rfl r1 rfl).trans ?_
        exact tr_32_35 d w1 _ _ _
      · refine (val_call (pc2 := 50) rfl rfl rfl rfl rfl (Nat.le_of_ble_eq_true rfl) (Nat.le_of_ble_eq_true rfl) rfl (m_realOf (d + 2) w2 ht) rfl).trans ?_
        exact e4
      · rw [hw3, gI_same]
      · rw [hw3, gI_ne _ _ _ _ (by decide)]
        show gI w2 141 i = _
        rw [hw2]
        by_cases c : i = C
        · rw [if_pos c, c, gI_same]
        · rw [if_neg c, gI_nk _ _ _ c]
      · rw [hw3]
        show gD (sD w2 142 C (UInt64.ofNat (cnB t))) 142 i = _
        by_cases c : i = C
        · rw [if_pos c, c, gD_same]
        · rw [if_neg c, gD_nk _ _ _ c, hw2]; rfl
      · refine KP.add (fun h => ?_) (fun h => ?_)
        · rw [f3.i 91 6 rfl]; exact z1 h
        · rw [f3.i 91 6 rfl]; exact z2 h
    · have hC3 : C = 300 := by have := hN.1; omega
      rw [if_neg (show ¬ nI C < 300 from n_nlt (b := 300) (by omega) (by omega))] at e1'
      refine ⟨-3, w, w, C, T, bl, e1', (e2 w hW hmm.1).trans ?_, Fr.refl _ _, Fr.refl _ _, hN, hc, hmm, KP.refl _ _ _⟩
      rw [if_neg hx1, hm, if_pos hx2, hmm.1, if_neg (fun h => h (by rw [hC3]; rfl))]
end NOTE
