/-! THE RECORDING: what both know of it; the reference's sort, the class's add -/
/-- C blows, their times' bits, their bells -/
def NOK (N C : Nat) (T bl : Nat → Nat) : Prop := C ≤ 300 ∧ (∀ i, T i < 2 ^ 64) ∧ ∀ i, i < C → 1 ≤ bl i ∧ bl i ≤ N
def NC (w : Wd) (C : Nat) (T bl : Nat → Nat) : Prop := gI w 91 4 = nI C ∧ (∀ i, i < C → gI w 92 i = nI (bl i)) ∧ (∀ i, i < C → gL w 93 i = lI (T i)) ∧ gI w 91 5 = nI (nrd T C).1 ∧ ∀ j, j < (nrd T C).1 → gI w 94 j = nI ((nrd T C).2 j)
def NM (w : Wd) (C : Nat) (T bl : Nat → Nat) : Prop := gI w 108 54 = nI C ∧ (∀ i, i < C → gI w 141 i = nI (bl i)) ∧ ∀ i, i < C → gD w 142 i = UInt64.ofNat (cnB (T i))
theorem NC.fa {S : List (Nat × Option Nat)} {w v : Wd} {C : Nat} {T bl : Nat → Nat} (h : NC w C T bl) (hf : FrA S w v) (ht : dj S [(91, some 4), (91, some 5), (92, none), (93, none), (94, none)] = true) : NC v C T bl := by
  obtain ⟨h1, h2, h3, h4, h5⟩ := h
  exact ⟨(hf.i ht 91 4 (by decide) rfl).trans h1, fun i hi => (hf.i ht 92 i (by decide) rfl).trans (h2 i hi), fun i hi => (hf.l ht 93 i (by decide) rfl).trans (h3 i hi), (hf.i ht 91 5 (by decide) rfl).trans h4, fun j hj => (hf.i ht 94 j (by decide) rfl).trans (h5 j hj)⟩
theorem NM.fa {S : List (Nat × Option Nat)} {w v : Wd} {C : Nat} {T bl : Nat → Nat} (h : NM w C T bl) (hf : FrA S w v) (ht : dj S [(108, some 54), (141, none), (142, none)] = true) : NM v C T bl := by
  obtain ⟨h1, h2, h3⟩ := h
  exact ⟨(hf.i ht 108 54 (by decide) rfl).trans h1, fun i hi => (hf.i ht 141 i (by decide) rfl).trans (h2 i hi), fun i hi => (hf.d ht 142 i (by decide) rfl).trans (h3 i hi)⟩
theorem Fix.k91 {w : Wd} (h : Fix w) : wK w 91 = (5, 11) := h.k 91 (by omega) (by omega)
section NOTES
variable {N C : Nat} {T bl : Nat → Nat} {w : Wd}
theorem m_sortL (d : Nat) (hC : C ≤ 300) (hT : ∀ i, T i < 2 ^ 64) : ∀ n k (w : Wd) (l2 : Option Value), k + n = C → Fix w → NM w C T bl → gI w 108 58 = nI (nrd T k).1 → (∀ j, j < (nrd T k).1 → gI w 143 j = nI ((nrd T k).2 j)) → ∃ w', val (234, d, 7, [some (.ref 108), some (.int (nI k)), l2], [], w) = some (none, w') ∧ Fr [(143, none), (108, some 58)] w w' ∧ gI w' 108 58 = nI (nrd T C).1 ∧ ∀ j, j < (nrd T C).1 → gI w' 143 j = nI ((nrd T C).2 j) := by
  intro n
  induction n with
  | zero =>
    intro k w l2 hk hW hM h58 h143
    have hk2 : k = C := by omega
    subst hk2
    refine ⟨w, (tr_234_7 d w hW _ l2 (fun h => absurd (by rw [hM.1]; exact Int32.le_refl _) h)).trans ?_, Fr.refl _ _, h58, h143⟩
    rw [hM.1, if_pos (Int32.le_refl _)]
  | succ n ih =>
    intro k w l2 hk hW hM h58 h143
    have hkC : k < C := by omega
    have e := tr_234_7 d w hW (nI k) l2 (fun _ => inB_nI (by omega) (by omega))
    rw [hM.1, if_neg (n_nle hkC (by omega)), nI_clamp (show k < 2 ^ 31 by omega), hM.2.2 k hkC, n_succ k] at e
    have hs := (m_same (cnB_lt (hT k))).trans (cnB_nan (T k))
    by_cases c : INF < szB (T k)
    · rw [if_pos (fun h => by have := hs.mp h; omega)] at e
      have hn : nrd T (k + 1) = nrd T k := if_pos c
      obtain ⟨w', e2, f2, g2⟩ := ih (k + 1) w l2 (by omega) hW hM (by rw [hn]; exact h58) (by rw [hn]; exact h143)
      exact ⟨w', e.trans e2, f2, g2⟩
    · rw [if_neg (fun h => h (hs.mpr (by omega))), h58] at e
      have hn : nrd T (k + 1) = ((nrd T k).1 + 1, insF (ltB T k) k (nrd T k).1 (nrd T k).2) := if_neg c
      obtain ⟨o1, o2⟩ := nrd_ok T k
      obtain ⟨w1, x2, e1, f1, g1⟩ := m_putL (T := T) (k := k) (by omega) d (M := (nrd T k).1 + 1) (by omega) (nrd T k).1 (nrd T k).2 w (Nat.lt_succ_self _) hW (fun j h1 h2 => by
        have := o2 j (by omega)
        exact ⟨h143 j (by omega), by omega, this.2⟩) (by omega) (fun j _ => hT j) (fun j h1 h2 => hM.2.2 _ (by have := (o2 j (by omega)).1; omega)) (hM.2.2 k hkC)
      rw [h58, n_succ] at e1
      obtain ⟨w2, hw2⟩ : ∃ z, z = sI w1 108 58 (nI ((nrd T k).1 + 1)) := ⟨_, rfl⟩
      rw [← hw2] at e1
      have f2 : Fr [(143, none), (108, some 58)] w w2 := by rw [hw2]; exact (f1.mono rfl).sI 108 58 _ rfl
      obtain ⟨w', e3, f3, g3⟩ := ih (k + 1) w2 x2 (by omega) (f2.fix rfl hW) (hM.fa f2.a rfl) (by rw [hw2, gI_same, hn]) (by
        rw [hn, hw2]
        intro j hj
        rw [gI_ne _ _ _ _ (by decide)]
        exact g1 j hj)
      exact ⟨w', e.trans (e1.trans e3), f2.trans f3, g3⟩
theorem m_sort (d : Nat) (hW : Fix w) (hN : NOK N C T bl) (hM : NM w C T bl) : ∃ w', val (234, d, 0, [some (.ref 108), none, none], [], w) = some (none, w') ∧ Fr [(143, none), (108, some 58)] w w' ∧ gI w' 108 58 = nI (nrd T C).1 ∧ ∀ j, j < (nrd T C).1 → gI w' 143 j = nI ((nrd T C).2 j) := by
  have f0 : Fr [(143, none), (108, some 58)] w (sI w 108 58 0) := (Fr.refl _ w).sI 108 58 _ rfl
  obtain ⟨w', e, f, g⟩ := m_sortL d hN.1 hN.2.1 C 0 (sI w 108 58 0) none (Nat.zero_add C) (f0.fix rfl hW) (hM.fa f0.a rfl) (gI_same _ _ _ _) (fun j hj => absurd hj (Nat.not_lt_zero j))
  exact ⟨w', (tr_234 d w hW).trans e, f0.trans f, g⟩
abbrev FAd : List (Nat × Option Nat) := [(91, some 4), (91, some 5), (91, some 6), (92, none), (93, none), (94, none)]
theorem c_addB (d : Nat) (hW : Fix w) (hN : NOK N C T bl) (hC : C < 300) (hs : NC w C T bl) {b t : Nat} (hb : b < 2 ^ 31) (ht : t < 2 ^ 64) : ∃ w', val (122, d + 4, 0, [some (.ref 91), some (.int (nI b)), some (.long (lI t)), none], [], w) = some (some (.int (nI C)), w') ∧ Fr FAd w w' ∧ NC w' (C + 1) (upF T C t) (upF bl C b) ∧ (INF < szB t → gI w' 91 6 = gI w 91 6) ∧ (szB t ≤ INF → gI w' 91 6 = 0) := by
  obtain ⟨s1, s2, s3, s4, s5⟩ := hs
  have iC : (nI C).toNatClampNeg = C := nI_clamp (by omega)
  have hCb : inB (nI C) 300 = true := inB_nI hC (by omega)
  obtain ⟨o1, o2⟩ := nrd_ok T C
  have hcg : nrd (upF T C t) C = nrd T C := nrd_congr C (fun i hi => upF_ne _ _ (by omega))
  obtain ⟨w1, hw1⟩ : ∃ z, z = sL (sI w 92 C (nI b)) 93 C (lI t) := ⟨_, rfl⟩
  have f1 : Fr [(92, none), (93, none)] w w1 := by rw [hw1]; exact ((Fr.refl _ w).sI 92 _ _ rfl).sL 93 _ _ rfl
  have hW1 := f1.fix rfl hW
  have g4 : gI w1 91 4 = nI C := (f1.i 91 4 rfl).trans s1
  have e := tr_122 d w hW (nI b) (lI t) (fun _ => by rw [s1]; exact hCb) (fun _ => by rw [s1, iC, gI_ne _ _ _ _ (by decide), s1]; exact hCb)
  rw [s1, iC, gI_ne w (a := 92) (b := 91) _ _ _ (by decide), s1, iC, ← hw1, g4, if_pos (show nI C < 300 from n_lt (b := 300) hC (by omega)), r_isNaN ht] at e
  have h92 : ∀ i, i < C + 1 → gI w1 92 i = nI (upF bl C b i) := fun i hi => by
    rw [hw1]
    show gI (sI w 92 C (nI b)) 92 i = _
    by_cases c : i = C
    · rw [c, gI_same, upF_eq]
    · rw [gI_nk _ _ _ c, upF_ne _ _ c]; exact s2 i (by omega)
  have h93 : ∀ i, i < C + 1 → gL w1 93 i = lI (upF T C t i) := fun i hi => by
    rw [hw1]
    by_cases c : i = C
    · rw [c, gL_same, upF_eq]
    · rw [gL_nk _ _ _ c, upF_ne _ _ c]; exact s3 i (by omega)
  by_cases c : INF < szB t
  · rw [if_pos c, if_pos (by decide)] at e
    have hn : nrd (upF T C t) (C + 1) = nrd T C := by
      have : nrd (upF T C t) (C + 1) = nrd (upF T C t) C := if_pos (by rw [upF_eq]; exact c)
      rw [this, hcg]
    have f2 : Fr [(91, some 4)] w1 (sI w1 91 4 (nI (C + 1))) := (Fr.refl _ w1).sI 91 4 _ rfl
    refine ⟨sI w1 91 4 (nI (C + 1)), e.trans ((tr_122_48 d w1 hW1 _ _).trans ?_), (f1.mono rfl).trans (f2.mono rfl), ⟨gI_same _ _ _ _, fun i hi => (f2.i 92 i rfl).trans (h92 i hi), fun i hi => (f2.l 93 i rfl).trans (h93 i hi), ?_, ?_⟩, fun _ => ?_, fun h => by omega⟩
    · rw [g4, n_succ]
    · rw [hn, gI_nk _ _ _ (by decide), f1.i 91 5 rfl, s4]
    · rw [hn]
      intro j hj
      rw [gI_ne _ _ _ _ (by decide), f1.i 94 j rfl]; exact s5 j hj
    · rw [gI_nk _ _ _ (by decide), f1.i 91 6 rfl]
  · rw [if_neg c, if_neg (fun h => h rfl)] at e
    have hn : nrd (upF T C t) (C + 1) = ((nrd T C).1 + 1, insF (ltB (upF T C t) C) C (nrd T C).1 (nrd T C).2) := by
      have : nrd (upF T C t) (C + 1) = ((nrd (upF T C t) C).1 + 1, insF (ltB (upF T C t) C) C (nrd (upF T C t) C).1 (nrd (upF T C t) C).2) := if_neg (by rw [upF_eq]; exact c)
      rw [this, hcg]
    obtain ⟨w2, hw2⟩ : ∃ z, z = sI w1 91 5 (nI ((nrd T C).1 + 1)) := ⟨_, rfl⟩
    have f2 : Fr [(91, some 5)] w1 w2 := by rw [hw2]; exact (Fr.refl _ w1).sI 91 5 _ rfl
    have f12 : Fr [(92, none), (93, none), (91, some 5)] w w2 := (f1.mono rfl).trans (f2.mono rfl)
    have hW2 := f2.fix rfl hW1
    obtain ⟨w3, e3, f3, z6, g3⟩ := c_putL (T := upF T C t) (k := C) hC d (M := (nrd T C).1 + 1) (by omega) (nrd T C).1 (nrd T C).2 w2 (Nat.lt_succ_self _) hW2 (fun j h1 h2 => by
      have := o2 j (by omega)
      exact ⟨(f12.i 94 j rfl).trans (s5 j (by omega)), by omega⟩) (fun j _ => by
      by_cases cj : j = C
      · rw [cj, upF_eq]; exact ht
      · rw [upF_ne _ _ cj]; exact hN.2.1 j) (fun j h1 h2 => (f2.l 93 _ rfl).trans (h93 _ (by have := (o2 j (by omega)).1; omega))) ((f2.l 93 C rfl).trans (h93 C (Nat.lt_succ_self C)))
    have hW3 := f3.fix rfl hW2
    have f4 : Fr [(91, some 4)] w3 (sI w3 91 4 (nI (C + 1))) := (Fr.refl _ w3).sI 91 4 _ rfl
    have g43 : gI w3 91 4 = nI C := by rw [f3.i 91 4 rfl, f2.i 91 4 rfl, g4]
    have f34 : Fr [(94, none), (91, some 6), (91, some 4)] w2 (sI w3 91 4 (nI (C + 1))) := (f3.mono rfl).trans (f4.mono rfl)
    refine ⟨sI w3 91 4 (nI (C + 1)), e.trans ?_, (f12.mono rfl).trans (f34.mono rfl), ⟨gI_same _ _ _ _, fun i hi => ?_, fun i hi => ?_, ?_, ?_⟩, fun h => absurd h c, fun _ => ?_⟩
    · have e5 : val (123, d + 3, 0, [some (.ref 91), some (.int (nI C)), none], [], w1) = some (none, w3) := by
        refine (tr_123 d w1 hW1 _).trans ?_
        rw [f1.i 91 5 rfl, s4, n_succ, ← hw2]
        exact e3
      refine (val_call (pc2 := 48) rfl rfl rfl rfl (rcvO hW1.k91 (by decide)) (Nat.le_of_ble_eq_true rfl) (Nat.le_of_ble_eq_true rfl) rfl e5 rfl).trans ?_
      refine (tr_122_48 d w3 hW3 _ _).trans ?_
      rw [g43, n_succ]
    · rw [f34.i 92 i rfl, f2.i 92 i rfl]; exact h92 i hi
    · rw [f34.l 93 i rfl, f2.l 93 i rfl]; exact h93 i hi
    · rw [hn, gI_nk _ _ _ (by decide), f3.i 91 5 rfl, hw2, gI_same]
    · rw [hn]
      intro j hj
      rw [gI_ne _ _ _ _ (by decide)]; exact g3 j hj
    · rw [gI_nk _ _ _ (by decide)]; exact z6
end NOTES
