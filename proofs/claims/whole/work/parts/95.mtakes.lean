/-! THE REFERENCE'S words, signs, numbers, places -/
abbrev FMf : List (Nat × Option Nat) := [(108, some 6), (108, some 7), (108, some 8), (108, some 9), (108, some 10)]
def Sm (w : Wd) (T N : Nat) (t : Nat → Int32) (k : Tk) : Prop := Fix w ∧ TX w ∧ Md w T N t ∧ TkM w k ∧ TkIn t T k ∧ gI w 108 10 = -9
def Sw (w : Wd) (T N : Nat) (t : Nat → Int32) (k : Tk) : Prop := Fix w ∧ TX w ∧ Md w T N t ∧ TkM w k ∧ TkIn t T k
theorem Sm.w {w : Wd} {T N : Nat} {t : Nat → Int32} {k : Tk} (h : Sm w T N t k) : Sw w T N t k := ⟨h.1, h.2.1, h.2.2.1, h.2.2.2.1, h.2.2.2.2.1⟩
section MTAKE
variable {T N : Nat} {t : Nat → Int32} {k k' : Tk} {w v : Wd}
theorem TkM.fr {S : List (Nat × Option Nat)} (h : TkM w k) (hf : Fr S w v) (hs : dj S FMk = true) : TkM v k :=
  ⟨(hf.i 108 6 (dj_off hs rfl)).trans h.1, (hf.i 108 7 (dj_off hs rfl)).trans h.2.1, (hf.i 108 8 (dj_off hs rfl)).trans h.2.2.1, fun hh => (hf.i 108 9 (dj_off hs rfl)).trans (h.2.2.2 hh)⟩
theorem Sm.fr {S : List (Nat × Option Nat)} (h : Sm w T N t k) (hf : Fr S w v) (hs : dj S [(108, some 0), (108, some 5), (108, some 6), (108, some 7), (108, some 8), (108, some 9), (108, some 10), (112, none)] = true) (ho : okS S = true) (hl : S.all (fun s => Nat.ble 64 s.1) = true) : Sm v T N t k := by
  obtain ⟨a1, a2, a3, a4, a5, a6⟩ := h
  have o : ∀ a j, inS [(108, some 0), (108, some 5), (108, some 6), (108, some 7), (108, some 8), (108, some 9), (108, some 10), (112, none)] a j = true → gI v a j = gI w a j := fun a j hi => hf.i a j (dj_off hs hi)
  exact ⟨hf.fix ho a1, a2.fr hf hl, ⟨(o 108 5 rfl).trans a3.1, (o 108 0 rfl).trans a3.2.1, a3.2.2.1, fun i hi => (o 112 i rfl).trans (a3.2.2.2 i hi)⟩, ⟨(o 108 6 rfl).trans a4.1, (o 108 7 rfl).trans a4.2.1, (o 108 8 rfl).trans a4.2.2.1, fun hh => (o 108 9 rfl).trans (a4.2.2.2 hh)⟩, a5, (o 108 10 rfl).trans a6⟩
theorem m_isWordW (d : Nat) (h : Sw w T N t k) {j : Nat} (hj : j < 16) : val (189, d + 4, 0, [some (.ref 108), some (.ref (2 + j)), none], [], w) = some (some (.int (b01 (isWd t k j))), w) := by
  obtain ⟨hW, hX, hM, hk, hin⟩ := h
  obtain ⟨k1, k2, k3, k4⟩ := hk
  obtain ⟨n1, n2, n3, n4, n5, n6⟩ := hin
  obtain ⟨c1, c2, c3⟩ := chs_ok j hj
  have hT := hM.2.2.1
  have hs := (hW.tx hj).1
  refine (tr_189 d w hW (2 + j)).trans ?_
  rw [k1]
  by_cases h1 : k.1 = 1
  · rw [if_neg (fun h => h (by rw [h1]; rfl))]
    have hb : ∀ b, isWd t k j = b ↔ (decide (k.2.2.1 - k.2.1 = (chs j).length) && mWd t k.2.1 (chs j)) = b := fun b => by
      unfold isWd; rw [decide_eq_true h1, Bool.true_and]
    refine (val_call (pc2 := 21) rfl rfl rfl rfl (rcvO hs (by decide)) (Nat.le_of_ble_eq_true rfl) (Nat.le_of_ble_eq_true rfl) rfl (s_len (d + 2) hW hX hj) rfl).trans ?_
    refine (tr_189_21 d w (2 + j) _ _).trans ?_
    rw [k2, k3, n_sub n2]
    by_cases hl : k.2.2.1 - k.2.1 = (chs j).length
    · rw [if_pos (by rw [hl])]
      have hb2 : ∀ b, isWd t k j = b ↔ mWd t k.2.1 (chs j) = b := fun b => by rw [hb b, decide_eq_true hl, Bool.true_and]
      refine loopUp (α := Unit) (c := fun i _ => (189, d + 4, 28, [some (.ref 108), some (.ref (2 + j)), some (.int (nI i))], [], w)) (P := fun i _ => ∀ q, q < i → t (k.2.1 + q) = (chs j).getD q 0) (R := fun r => r = some (some (.int (b01 (isWd t k j))), w)) (N := (chs j).length) ?_ ?_ () (fun q hq => absurd hq (Nat.not_lt_zero q))
      · intro _ h
        rw [(hb2 true).mpr ((mWd_iff _ _).mpr h)]
        refine (tr_189_28 d w (2 + j) _).trans ?_
        refine (val_call (pc2 := 33) rfl rfl rfl rfl (rcvO hs (by decide)) (Nat.le_of_ble_eq_true rfl) (Nat.le_of_ble_eq_true rfl) rfl (s_len (d + 2) hW hX hj) rfl).trans ?_
        refine (tr_189_33 d w hW (2 + j) _ _ _ (fun h => absurd (n_le (Nat.le_refl _) (by omega)) h)).trans ?_
        rw [if_pos (n_le (Nat.le_refl _) (by omega))]
        rfl
      · intro i _ hi h
        have e0 : val (189, d + 4, 28, [some (.ref 108), some (.ref (2 + j)), some (.int (nI i))], [], w) = (if t (k.2.1 + i) = (chs j).getD i 0 then val (189, d + 4, 28, [some (.ref 108), some (.ref (2 + j)), some (.int (nI (i + 1)))], [], w) else some (some (.int 0), w)) := by
          refine (tr_189_28 d w (2 + j) _).trans ?_
          refine (val_call (pc2 := 33) rfl rfl rfl rfl (rcvO hs (by decide)) (Nat.le_of_ble_eq_true rfl) (Nat.le_of_ble_eq_true rfl) rfl (s_len (d + 2) hW hX hj) rfl).trans ?_
          refine (tr_189_33 d w hW (2 + j) _ _ _ (fun _ => by rw [k2, n_add]; exact inB_nI (by omega) (by omega))).trans ?_
          rw [if_neg (n_nle hi (by omega)), k2, n_add, nI_clamp (show k.2.1 + i < 2 ^ 31 by omega), hM.2.2.2 _ (by omega)]
          refine (val_call (pc2 := 52) rfl rfl rfl rfl (rcvO hs (by decide)) (Nat.le_of_ble_eq_true rfl) (Nat.le_of_ble_eq_true rfl) rfl (s_char d hW hX hj hi) rfl).trans ?_
          refine (tr_189_52 d w (2 + j) _ _ _).trans ?_
          rw [n_succ]
        by_cases he : t (k.2.1 + i) = (chs j).getD i 0
        · rw [if_pos he] at e0
          refine Or.inr ⟨(), e0, fun q hq => ?_⟩
          by_cases e : q = i
          · rw [e]; exact he
          · exact h q (by omega)
        · rw [if_neg he] at e0
          refine Or.inl (e0.trans ?_)
          have : mWd t k.2.1 (chs j) = false := by
            cases hm : mWd t k.2.1 (chs j) with
            | false => rfl
            | true => exact absurd ((mWd_iff _ _).mp hm i hi) he
          rw [(hb2 false).mpr this]
          rfl
    · rw [if_neg (n_ne hl (by omega) (by omega)), (hb false).mpr (by rw [decide_eq_false hl]; rfl)]
      rfl
  · rw [if_pos (show ¬ nI k.1 = 1 from n_ne (b := 1) h1 (by omega) (by omega))]
    have : isWd t k j = false := by unfold isWd; rw [decide_eq_false h1]; rfl
    rw [this]
    rfl
theorem m_isSignW (d : Nat) (h : Sw w T N t k) (c : Int32) : val (190, d, 0, [some (.ref 108), some (.int c)], [], w) = some (some (.int (b01 (isSg t k c))), w) := by
  obtain ⟨hW, hX, hM, hk, hin⟩ := h
  have hT := hM.2.2.1
  unfold isSg
  by_cases h3 : k.1 = 3
  · have hlt := hin.2.2.2.1 (by omega)
    have hle := hin.2.2.1
    have ip : inB (gI w 108 7) 600 = true := by rw [hk.2.1]; exact inB_nI (by omega) (by omega)
    refine (tr_190 d w hW c (fun _ => ip)).trans ?_
    rw [hk.1, if_neg (fun h => h (by rw [h3]; rfl)), hk.2.1, nI_clamp (show k.2.1 < 2 ^ 31 by omega), hM.2.2.2 _ (by omega), decide_eq_true h3, Bool.true_and]
    by_cases hc : t k.2.1 = c
    · rw [if_neg (fun h => h hc), decide_eq_true hc]; rfl
    · rw [if_pos hc, decide_eq_false hc]; rfl
  · have hn : ¬ gI w 108 6 = 3 := by rw [hk.1]; exact n_ne (b := 3) h3 (by have := hin.1; omega) (by omega)
    refine (tr_190 d w hW c (fun h => absurd hn h)).trans ?_
    rw [if_pos hn, decide_eq_false h3]
    rfl
theorem m_isWord (d : Nat) (h : Sm w T N t k) {j : Nat} (hj : j < 16) : val (189, d + 4, 0, [some (.ref 108), some (.ref (2 + j)), none], [], w) = some (some (.int (b01 (isWd t k j))), w) := m_isWordW d h.w hj
theorem m_isSign (d : Nat) (h : Sm w T N t k) (c : Int32) : val (190, d, 0, [some (.ref 108), some (.int c)], [], w) = some (some (.int (b01 (isSg t k c))), w) := m_isSignW d h.w c
theorem m_good (d : Nat) (h : Sm w T N t k) : val (187, d, 0, [some (.ref 108)], [], w) = some (some (.int 1), w) := by
  refine (tr_187 d w h.1).trans ?_
  rw [h.2.2.2.2.2, if_neg (by decide)]
theorem m_bad (d : Nat) (hW : Fix w) {e : Nat} (he : gI w 108 10 = nI e) (h31 : e < 2 ^ 31) : val (187, d, 0, [some (.ref 108)], [], w) = some (some (.int 0), w) := by
  refine (tr_187 d w hW).trans ?_
  rw [he, if_pos (show (0 : Int32) ≤ nI e from n_le (a := 0) (Nat.zero_le e) h31)]
theorem m_wrong (d : Nat) (h : Sm w T N t k) : ∃ v, val (188, d, 0, [some (.ref 108)], [], w) = some (none, v) ∧ Fr [(108, some 10)] w v ∧ gI v 108 10 = nI k.2.1 := by
  have e0 := tr_188 d w h.1
  rw [h.2.2.2.2.2, if_neg (by decide), h.2.2.2.1.2.1] at e0
  exact ⟨_, e0, (Fr.refl _ w).sI 108 10 _ rfl, gI_same _ _ _ _⟩
theorem m_wronged (d : Nat) (hW : Fix w) {e : Nat} (he : gI w 108 10 = nI e) (h31 : e < 2 ^ 31) : val (188, d, 0, [some (.ref 108)], [], w) = some (none, w) := by
  refine (tr_188 d w hW).trans ?_
  rw [he, if_pos (show (0 : Int32) ≤ nI e from n_le (a := 0) (Nat.zero_le e) h31)]
theorem m_nextS (d : Nat) (h : Sm w T N t k) : ∃ v, val (186, d, 0, [some (.ref 108), none, none, none], [], w) = some (none, v) ∧ Fr FMk w v ∧ Sm v T N t (nxt t T k) := by
  obtain ⟨hW, hX, hM, hk, hin, hF⟩ := h
  obtain ⟨v, e1, e2, e3⟩ := m_next d hW hM hk.2.2.1 hin.2.2.1
  exact ⟨v, e1, e2, e2.fix rfl hW, hX.fr e2 rfl, hM.fr e2 rfl, e3, hin.nxt, (e2.i 108 10 rfl).trans hF⟩
theorem m_number (d : Nat) (h : Sm w T N t k) {a b : Nat} (ha : a < 2 ^ 31) (hb : b < 2 ^ 31) :
    (InR k a b → ∃ v, val (192, d + 1, 0, [some (.ref 108), some (.int (nI a)), some (.int (nI b)), none], [], w) = some (some (.int (nI k.2.2.2)), v) ∧ Fr FMk w v ∧ Sm v T N t (nxt t T k)) ∧
    (¬ InR k a b → ∃ v, val (192, d + 1, 0, [some (.ref 108), some (.int (nI a)), some (.int (nI b)), none], [], w) = some (some (.int (nI a)), v) ∧ Fr [(108, some 10)] w v ∧ gI v 108 10 = nI k.2.1) := by
  have hk := h.2.2.2.1
  have e0 : val (192, d + 1, 0, [some (.ref 108), some (.int (nI a)), some (.int (nI b)), none], [], w) = val (192, d + 1, 4, [some (.ref 108), some (.int (nI a)), some (.int (nI b)), none], [.int 1], w) := by
    refine (tr_192 d w _ _).trans ?_
    refine (val_call (pc2 := 4) rfl rfl rfl rfl (h.1.rc _) (Nat.le_of_ble_eq_true rfl) (Nat.le_of_ble_eq_true rfl) rfl (m_good d h) rfl).trans ?_
    rfl
  have e1 := e0.trans (tr_192_4 d w h.1 _ _ _)
  rw [if_neg (show ¬ (1 : Int32) = 0 by decide), hk.1] at e1
  have bad : val (192, d + 1, 0, [some (.ref 108), some (.int (nI a)), some (.int (nI b)), none], [], w) = val (192, d + 1, 43, [some (.ref 108), some (.int (nI a)), some (.int (nI b)), none], [.ref 108], w) → ∃ v, val (192, d + 1, 0, [some (.ref 108), some (.int (nI a)), some (.int (nI b)), none], [], w) = some (some (.int (nI a)), v) ∧ Fr [(108, some 10)] w v ∧ gI v 108 10 = nI k.2.1 := by
    intro e
    obtain ⟨v, x1, x2, x3⟩ := m_wrong d h
    refine ⟨v, e.trans ?_, x2, x3⟩
    refine (val_call (pc2 := 46) rfl rfl rfl rfl (h.1.rc _) (Nat.le_of_ble_eq_true rfl) (Nat.le_of_ble_eq_true rfl) rfl x1 rfl).trans ?_
    exact tr_192_46 d v _ _
  by_cases h2 : k.1 = 2
  · have hv := h.2.2.2.2.1.val h2
    rw [if_neg (fun h => h (by rw [h2]; rfl)), hk.2.2.2 h2] at e1
    by_cases h3 : a ≤ k.2.2.2
    · rw [if_neg (n_nlt h3 hv)] at e1
      by_cases h4 : k.2.2.2 ≤ b
      · rw [if_neg (n_nlt h4 hb)] at e1
        refine ⟨fun _ => ?_, fun hn => absurd ⟨h2, h3, h4⟩ hn⟩
        obtain ⟨v, x1, x2, x3⟩ := m_nextS d h
        refine ⟨v, e1.trans ?_, x2, x3⟩
        refine (val_call (pc2 := 40) rfl rfl rfl rfl (h.1.rc _) (Nat.le_of_ble_eq_true rfl) (Nat.le_of_ble_eq_true rfl) rfl x1 rfl).trans ?_
        exact tr_192_40 d v _ _ _
      · rw [if_pos (n_lt (by omega) hv)] at e1
        exact ⟨fun hI => absurd hI.2.2 h4, fun _ => bad e1⟩
    · rw [if_pos (n_lt (by omega) ha)] at e1
      exact ⟨fun hI => absurd hI.2.1 h3, fun _ => bad e1⟩
  · rw [if_pos (show ¬ nI k.1 = 2 from n_ne (b := 2) h2 (by have := h.2.2.2.2.1.1; omega) (by omega))] at e1
    exact ⟨fun hI => absurd hI.1 h2, fun _ => bad e1⟩
theorem m_numberBad (d : Nat) (hW : Fix w) {e : Nat} (he : gI w 108 10 = nI e) (h31 : e < 2 ^ 31) (a b : Int32) : val (192, d + 1, 0, [some (.ref 108), some (.int a), some (.int b), none], [], w) = some (some (.int a), w) := by
  refine (tr_192 d w _ _).trans ?_
  refine (val_call (pc2 := 4) rfl rfl rfl rfl (hW.rc _) (Nat.le_of_ble_eq_true rfl) (Nat.le_of_ble_eq_true rfl) rfl (m_bad d hW he h31) rfl).trans ?_
  refine (tr_192_4 d w hW _ _ _).trans ?_
  rw [if_pos (show (0 : Int32) = 0 from rfl)]
  refine (val_call (pc2 := 46) rfl rfl rfl rfl (hW.rc _) (Nat.le_of_ble_eq_true rfl) (Nat.le_of_ble_eq_true rfl) rfl (m_wronged d hW he h31) rfl).trans ?_
  exact tr_192_46 d w _ _
theorem m_sign (d : Nat) (h : Sm w T N t k) (c : Int32) :
    (isSg t k c = true → ∃ v, val (191, d + 1, 0, [some (.ref 108), some (.int c)], [], w) = some (none, v) ∧ Fr FMk w v ∧ Sm v T N t (nxt t T k)) ∧
    (isSg t k c = false → ∃ v, val (191, d + 1, 0, [some (.ref 108), some (.int c)], [], w) = some (none, v) ∧ Fr [(108, some 10)] w v ∧ gI v 108 10 = nI k.2.1) := by
  have e0 : val (191, d + 1, 0, [some (.ref 108), some (.int c)], [], w) = val (191, d + 1, 12, [some (.ref 108), some (.int c)], [.int (b01 (isSg t k c))], w) := by
    refine (tr_191 d w _).trans ?_
    refine (val_call (pc2 := 4) rfl rfl rfl rfl (h.1.rc _) (Nat.le_of_ble_eq_true rfl) (Nat.le_of_ble_eq_true rfl) rfl (m_good d h) rfl).trans ?_
    refine (tr_191_4 d w _ _).trans ?_
    rw [if_neg (show ¬ (1 : Int32) = 0 by decide)]
    refine (val_call (pc2 := 12) rfl rfl rfl rfl (h.1.rc _) (Nat.le_of_ble_eq_true rfl) (Nat.le_of_ble_eq_true rfl) rfl (m_isSign d h c) rfl).trans ?_
    rfl
  have e1 := e0.trans (tr_191_12 d w _ _)
  refine ⟨fun hy => ?_, fun hn => ?_⟩
  · rw [hy, if_neg (show ¬ b01 true = 0 by decide)] at e1
    obtain ⟨v, x1, x2, x3⟩ := m_nextS d h
    refine ⟨v, e1.trans ?_, x2, x3⟩
    refine (val_call (pc2 := 19) rfl rfl rfl rfl (h.1.rc _) (Nat.le_of_ble_eq_true rfl) (Nat.le_of_ble_eq_true rfl) rfl x1 rfl).trans ?_
    exact (tr_191_19 d v _).trans (tr_191_26 d v _)
  · rw [hn, if_pos (show b01 false = 0 from rfl)] at e1
    obtain ⟨v, x1, x2, x3⟩ := m_wrong d h
    refine ⟨v, e1.trans ?_, x2, x3⟩
    refine (val_call (pc2 := 26) rfl rfl rfl rfl (h.1.rc _) (Nat.le_of_ble_eq_true rfl) (Nat.le_of_ble_eq_true rfl) rfl x1 rfl).trans ?_
    exact tr_191_26 d v _
theorem m_signBad (d : Nat) (hW : Fix w) {e : Nat} (he : gI w 108 10 = nI e) (h31 : e < 2 ^ 31) (c : Int32) : val (191, d + 1, 0, [some (.ref 108), some (.int c)], [], w) = some (none, w) := by
  refine (tr_191 d w _).trans ?_
  refine (val_call (pc2 := 4) rfl rfl rfl rfl (hW.rc _) (Nat.le_of_ble_eq_true rfl) (Nat.le_of_ble_eq_true rfl) rfl (m_bad d hW he h31) rfl).trans ?_
  refine (tr_191_4 d w _ _).trans ?_
  rw [if_pos (show (0 : Int32) = 0 from rfl)]
  refine (val_call (pc2 := 26) rfl rfl rfl rfl (hW.rc _) (Nat.le_of_ble_eq_true rfl) (Nat.le_of_ble_eq_true rfl) rfl (m_wronged d hW he h31) rfl).trans ?_
  exact tr_191_26 d w _
theorem m_placesL (d : Nat) (hN : N ≤ 8) (h : Sm w T N t k) (h2 : k.1 = 2) : ∀ n i last (l4 : Option Value), k.2.1 + i + n = k.2.2.1 → last ≤ N → val (194, d, 21, [some (.ref 108), some (.int 1), some (.int (nI last)), some (.int (nI (k.2.1 + i))), l4], [], w) = some (some (.int (b01 (pOk N (dgA t k.2.1) n i last))), w)
  | 0, i, last, l4, hi, hl => by
    have hT := h.2.2.1.2.2.1
    have hto := h.2.2.2.2.1.2.2.1
    have hle : gI w 108 8 ≤ nI (k.2.1 + i) := by rw [h.2.2.2.1.2.2.1]; exact n_le (by omega) (by omega)
    refine (tr_194_21 d w h.1 _ _ _ l4 (fun g => absurd hle g)).trans ?_
    rw [if_pos hle, if_neg (show ¬ (1 : Int32) = 0 by decide), h.2.2.1.2.1, n_sub hl, show (2 : Int32) = nI 2 from rfl, n_rem (by omega) (by omega)]
    show _ = some (some (Value.int (b01 (decide ((N - last) % 2 = 0)))), w)
    by_cases c : (N - last) % 2 = 0
    · rw [c, if_neg (show ¬ ¬ nI 0 = 0 from fun g => g rfl)]; rfl
    · rw [if_pos (n_ne0 c (by omega)), decide_eq_false c]; rfl
  | n + 1, i, last, l4, hi, hl => by
    have hT := h.2.2.1.2.2.1
    have hto := h.2.2.2.2.1.2.2.1
    obtain ⟨g1, g2⟩ := dgA_of (t := t) (q := k.2.1) (i := i) (((h.2.2.2.2.1.2.2.2.2.1) h2).2.2 _ (by omega) (by omega))
    have e0 := tr_194_21 d w h.1 1 (nI last) (nI (k.2.1 + i)) l4 (by intros; exact inB_nI (by omega) (by omega))
    rw [h.2.2.2.1.2.2.1, if_neg (n_nle (show k.2.1 + i < k.2.2.1 by omega) (by omega)), if_neg (show ¬ (1 : Int32) = 0 by decide), nI_clamp (show k.2.1 + i < 2 ^ 31 by omega), h.2.2.1.2.2.2 _ (by omega), g1, show nI (dgA t k.2.1 i + 48) - 48 = nI (dgA t k.2.1 i) from (n_sub (b := 48) (by omega)).trans (by rw [Nat.add_sub_cancel]), h.2.2.1.2.1, n_succ] at e0
    have no : pOk N (dgA t k.2.1) (n + 1) i last = false → val (194, d, 21, [some (.ref 108), some (.int 0), some (.int (nI (dgA t k.2.1 i))), some (.int (nI (k.2.1 + i + 1))), some (.int (nI (dgA t k.2.1 i)))], [], w) = some (some (.int (b01 (pOk N (dgA t k.2.1) (n + 1) i last))), w) := by
      intro hp
      rw [hp]
      refine (tr_194_21 d w h.1 _ _ _ _ (fun _ g => absurd rfl g)).trans ?_
      rw [if_pos (show (0 : Int32) = 0 from rfl), if_pos (show (0 : Int32) = 0 from rfl)]
      split <;> rfl
    by_cases hc : last < dgA t k.2.1 i ∧ dgA t k.2.1 i ≤ N ∧ (dgA t k.2.1 i - last) % 2 = 1
    · obtain ⟨a1, a2, a3⟩ := hc
      have hp : pOk N (dgA t k.2.1) (n + 1) i last = pOk N (dgA t k.2.1) n (i + 1) (dgA t k.2.1 i) := by
        show (decide _ && _) = _
        rw [decide_eq_true (⟨a1, a2, a3⟩ : last < dgA t k.2.1 i ∧ dgA t k.2.1 i ≤ N ∧ (dgA t k.2.1 i - last) % 2 = 1), Bool.true_and]
      rw [if_neg (n_nle a1 (by omega)), if_neg (n_nlt a2 (by omega)), n_sub (Nat.le_of_lt a1), show (2 : Int32) = nI 2 from rfl, n_rem (by omega) (by omega), a3, if_neg (show ¬ ¬ nI 1 = 1 from fun g => g rfl)] at e0
      rw [hp]
      exact e0.trans (m_placesL d hN h h2 n (i + 1) (dgA t k.2.1 i) _ (by omega) a2)
    · have hp : pOk N (dgA t k.2.1) (n + 1) i last = false := by
        show (decide _ && _) = _
        rw [decide_eq_false hc, Bool.false_and]
      refine e0.trans ?_
      by_cases a1 : last < dgA t k.2.1 i
      · rw [if_neg (n_nle a1 (by omega))]
        by_cases a2 : dgA t k.2.1 i ≤ N
        · rw [if_neg (n_nlt a2 (by omega)), n_sub (Nat.le_of_lt a1), show (2 : Int32) = nI 2 from rfl, n_rem (by omega) (by omega), if_pos (show ¬ nI ((dgA t k.2.1 i - last) % 2) = 1 from n_ne (b := 1) (fun hh => hc ⟨a1, a2, hh⟩) (by omega) (by omega))]
          exact no hp
        · rw [if_pos (n_lt (by omega) (by omega))]
          exact no hp
      · rw [if_pos (n_le (by omega) (by omega))]
        exact no hp
theorem m_places (d : Nat) (hN : N ≤ 8) (h : Sm w T N t k) : val (194, d, 0, [some (.ref 108), none, none, none, none], [], w) = some (some (.int (b01 (decide (k.1 = 2) && pOk N (dgA t k.2.1) (k.2.2.1 - k.2.1) 0 0))), w) := by
  have e0 := tr_194 d w h.1
  rw [h.2.2.2.1.1, h.2.2.2.1.2.1] at e0
  by_cases h2 : k.1 = 2
  · rw [if_neg (fun g => g (by rw [h2]; rfl))] at e0
    rw [decide_eq_true h2, Bool.true_and]
    exact e0.trans (m_placesL d hN h h2 _ 0 0 none (by have := h.2.2.2.2.1.2.1; omega) (Nat.zero_le N))
  · rw [if_pos (show ¬ nI k.1 = 2 from n_ne (b := 2) h2 (by have := h.2.2.2.2.1.1; omega) (by omega))] at e0
    rw [decide_eq_false h2, Bool.false_and]
    refine e0.trans ((tr_194_21 d w h.1 _ _ _ _ (fun _ g => absurd rfl g)).trans ?_)
    rw [if_pos (show (0 : Int32) = 0 from rfl), if_pos (show (0 : Int32) = 0 from rfl)]
    split <;> rfl
end MTAKE
