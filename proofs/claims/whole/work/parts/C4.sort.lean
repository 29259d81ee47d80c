/-! THE RECORDING: the known blows in order -/
/-- blow k goes in from place i down -/
def insF (lt : Nat → Bool) (k : Nat) : Nat → (Nat → Nat) → Nat → Nat
  | 0, od => upF od 0 k
  | i + 1, od => if lt (od i) = true then insF lt k i (upF od (i + 1) (od i)) else upF od (i + 1) k
def ltB (T : Nat → Nat) (k x : Nat) : Bool := decide (lvB (T k) < lvB (T x))
def nrd (T : Nat → Nat) : Nat → Nat × (Nat → Nat)
  | 0 => (0, fun _ => 0)
  | k + 1 => if INF < szB (T k) then nrd T k else ((nrd T k).1 + 1, insF (ltB T k) k (nrd T k).1 (nrd T k).2)
theorem insF_all {P : Nat → Prop} {lt : Nat → Bool} {k M : Nat} (hk : P k) : ∀ i od, i < M → (∀ j, j ≠ i → j < M → P (od j)) → ∀ j, j < M → P (insF lt k i od j)
  | 0, od, hi, h, j, hj => by
    show P (upF od 0 k j)
    by_cases c : j = 0
    · rw [c, upF_eq]; exact hk
    · rw [upF_ne _ _ c]; exact h j c hj
  | i + 1, od, hi, h, j, hj => by
    unfold insF
    split
    · refine insF_all hk i _ (by omega) (fun j' h1 h2 => ?_) j hj
      by_cases c : j' = i + 1
      · rw [c, upF_eq]; exact h i (by omega) (by omega)
      · rw [upF_ne _ _ c]; exact h j' c h2
    · by_cases c : j = i + 1
      · rw [c, upF_eq]; exact hk
      · rw [upF_ne _ _ c]; exact h j c hj
theorem nrd_ok (T : Nat → Nat) : ∀ C, (nrd T C).1 ≤ C ∧ ∀ j, j < (nrd T C).1 → (nrd T C).2 j < C ∧ szB (T ((nrd T C).2 j)) ≤ INF
  | 0 => ⟨Nat.le_refl 0, fun j hj => absurd hj (Nat.not_lt_zero j)⟩
  | C + 1 => by
    obtain ⟨h1, h2⟩ := nrd_ok T C
    unfold nrd
    by_cases c : INF < szB (T C)
    · rw [if_pos c]
      exact ⟨by omega, fun j hj => ⟨by have := (h2 j hj).1; omega, (h2 j hj).2⟩⟩
    · rw [if_neg c]
      refine ⟨Nat.succ_le_succ h1, ?_⟩
      refine insF_all (P := fun x => x < C + 1 ∧ szB (T x) ≤ INF) ⟨Nat.lt_succ_self C, by omega⟩ _ _ (Nat.lt_succ_self _) (fun j h3 h4 => ?_)
      have := h2 j (by omega)
      exact ⟨by omega, this.2⟩
theorem nrd_congr {T U : Nat → Nat} : ∀ C, (∀ i, i < C → T i = U i) → nrd T C = nrd U C
  | 0, _ => rfl
  | C + 1, h => by
    have ih := nrd_congr C (fun i hi => h i (by omega))
    have hb := (nrd_ok U C)
    unfold nrd
    rw [ih, h C (by omega)]
    split
    · rfl
    · refine Prod.ext rfl ?_
      show insF (ltB T C) C _ _ = insF (ltB U C) C _ _
      have key : ∀ i od, (∀ j, j < i → od j < C) → insF (ltB T C) C i od = insF (ltB U C) C i od := by
        intro i
        induction i with
        | zero => exact fun _ _ => rfl
        | succ i ih2 =>
          intro od ho
          have e : ltB T C (od i) = ltB U C (od i) := by
            unfold ltB
            rw [h C (by omega), h (od i) (by have := ho i (Nat.lt_succ_self i); omega)]
          unfold insF
          rw [e, ih2 _ (fun j hj => by rw [upF_ne _ _ (by omega)]; exact ho j (by omega))]
      exact key _ _ (fun j hj => (hb.2 j hj).1)
section SORT
variable {T : Nat → Nat} {k : Nat}
theorem c_putL (hk : k < 300) (d : Nat) {M : Nat} (hM : M ≤ 300) : ∀ i od (w : Wd), i < M → Fix w → (∀ j, j ≠ i → j < M → gI w 94 j = nI (od j) ∧ od j < 300) → (∀ j, j < 300 → T j < 2 ^ 64) → (∀ j, j ≠ i → j < M → gL w 93 (od j) = lI (T (od j))) → gL w 93 k = lI (T k) → ∃ w', val (123, d + 3, 12, [some (.ref 91), some (.int (nI k)), some (.int (nI i))], [], w) = some (none, w') ∧ Fr [(94, none), (91, some 6)] w w' ∧ gI w' 91 6 = 0 ∧ ∀ j, j < M → gI w' 94 j = nI (insF (ltB T k) k i od j) := by
  intro i
  have fin : ∀ {w : Wd} {i : Nat} {od : Nat → Nat}, (∀ j, j ≠ i → j < M → gI w 94 j = nI (od j) ∧ od j < 300) → ∀ j, j < M → gI (sI (sI w 94 i (nI k)) 91 6 0) 94 j = nI (upF od i k j) := fun {w i od} h j hj => by
    rw [gI_ne _ _ _ _ (by decide)]
    by_cases c : j = i
    · rw [c, gI_same, upF_eq]
    · rw [gI_nk _ _ _ c, upF_ne _ _ c]; exact (h j c hj).1
  induction i with
  | zero =>
    intro od w hi hW h94 hT h93 hk93
    have e := tr_123_12 d w hW (nI k) (nI 0) (fun _ => by decide) (fun h => absurd (show nI 0 ≤ 0 from Int32.le_refl _) h) (fun h => absurd (show nI 0 ≤ 0 from Int32.le_refl _) h) (fun h => absurd (show nI 0 ≤ 0 from Int32.le_refl _) h) (fun h => absurd (show nI 0 ≤ 0 from Int32.le_refl _) h) (fun h => absurd (show nI 0 ≤ 0 from Int32.le_refl _) h) (fun h => absurd (show nI 0 ≤ 0 from Int32.le_refl _) h)
    rw [if_pos (show nI 0 ≤ 0 from Int32.le_refl _), show (nI 0).toNatClampNeg = 0 from rfl] at e
    exact ⟨_, e, ((Fr.refl _ w).sI 94 _ _ rfl).sI 91 6 _ rfl, gI_same _ _ _ _, fin h94⟩
  | succ i ih =>
    intro od w hi hW h94 hT h93 hk93
    have i1 : inB (nI (i + 1)) 300 = true := inB_nI (by omega) (by omega)
    have i0 : nI (i + 1) - 1 = nI i := by rw [pI_1 (by omega), Nat.add_sub_cancel]
    have ib : inB (nI (i + 1) - 1) 300 = true := by rw [i0]; exact inB_nI (by omega) (by omega)
    obtain ⟨g1, g2⟩ := h94 i (by omega) (by omega)
    have e := tr_123_12 d w hW (nI k) (nI (i + 1)) (fun _ => i1) (fun _ => inB_nI hk (by omega)) (fun _ => ib) (fun _ => by rw [i0, nI_clamp (by omega), g1]; exact inB_nI g2 (by omega)) (fun _ _ => i1) (fun _ _ => ib) (fun _ _ => i1)
    have hdec : nI (i + 1) + (-1) = nI i := by rw [n_dec (by omega), Nat.add_sub_cancel]
    rw [if_neg (n_nle0 (by omega) (by omega)), i0, hdec, nI_clamp (show i < 2 ^ 31 by omega), nI_clamp (show i + 1 < 2 ^ 31 by omega), nI_clamp (show k < 2 ^ 31 by omega), g1, nI_clamp (show od i < 2 ^ 31 by omega), hk93, h93 i (by omega) (by omega), r_less (hT k hk) (hT _ g2)] at e
    unfold insF
    by_cases c : lvB (T k) < lvB (T (od i))
    · rw [if_pos c, if_neg (by decide)] at e
      rw [if_pos (show ltB T k (od i) = true from decide_eq_true c)]
      obtain ⟨w1, hw1⟩ : ∃ z, z = sI w 94 (i + 1) (nI (od i)) := ⟨_, rfl⟩
      rw [← hw1] at e
      have f1 : Fr [(94, none), (91, some 6)] w w1 := by rw [hw1]; exact (Fr.refl _ w).sI 94 _ _ rfl
      obtain ⟨w2, e2, f2, g3, g4⟩ := ih (upF od (i + 1) (od i)) w1 (by omega) (f1.fix rfl hW) (fun j h1 h2 => by
        rw [hw1]
        by_cases cj : j = i + 1
        · rw [cj, gI_same, upF_eq]; exact ⟨rfl, g2⟩
        · rw [gI_nk _ _ _ cj, upF_ne _ _ cj]; exact h94 j cj h2) hT (fun j h1 h2 => by
        rw [f1.l 93 _ rfl]
        by_cases cj : j = i + 1
        · rw [cj, upF_eq]; exact h93 i (by omega) (by omega)
        · rw [upF_ne _ _ cj]; exact h93 j cj h2) ((f1.l 93 k rfl).trans hk93)
      exact ⟨w2, e.trans e2, f1.trans f2, g3, g4⟩
    · rw [if_neg c, if_pos rfl] at e
      rw [if_neg (show ¬ ltB T k (od i) = true from fun h => c (of_decide_eq_true h))]
      exact ⟨_, e, ((Fr.refl _ w).sI 94 _ _ rfl).sI 91 6 _ rfl, gI_same _ _ _ _, fin h94⟩
/-- the reference's bits: one NaN for all -/
def cnB (t : Nat) : Nat := if INF < szB t then 9221120237041090560 else t
theorem cnB_lt {t : Nat} (h : t < 2 ^ 64) : cnB t < 2 ^ 64 := by unfold cnB; split <;> omega
theorem cnB_num {t : Nat} (h : szB t ≤ INF) : cnB t = t := if_neg (by omega)
theorem cnB_nan (t : Nat) : szB (cnB t) ≤ INF ↔ szB t ≤ INF := by
  unfold cnB
  split
  · rename_i h
    exact ⟨fun hh => absurd hh (by decide), fun hh => by omega⟩
  · exact Iff.rfl
theorem m_putL (hk : k < 300) (d : Nat) {M : Nat} (hM : M ≤ 300) : ∀ i od (w : Wd), i < M → Fix w → (∀ j, j ≠ i → j < M → gI w 143 j = nI (od j) ∧ od j < 300 ∧ szB (T (od j)) ≤ INF) → szB (T k) ≤ INF → (∀ j, j < 300 → T j < 2 ^ 64) → (∀ j, j ≠ i → j < M → gD w 142 (od j) = UInt64.ofNat (cnB (T (od j)))) → gD w 142 k = UInt64.ofNat (cnB (T k)) → ∃ w' l2, val (234, d, 36, [some (.ref 108), some (.int (nI k)), some (.int (nI i))], [], w) = val (234, d, 7, [some (.ref 108), some (.int (nI (k + 1))), l2], [], sI w' 108 58 (gI w 108 58 + 1)) ∧ Fr [(143, none)] w w' ∧ ∀ j, j < M → gI w' 143 j = nI (insF (ltB T k) k i od j) := by
  intro i
  have fin : ∀ {w : Wd} {i : Nat} {od : Nat → Nat}, (∀ j, j ≠ i → j < M → gI w 143 j = nI (od j) ∧ od j < 300 ∧ szB (T (od j)) ≤ INF) → ∀ j, j < M → gI (sI w 143 i (nI k)) 143 j = nI (upF od i k j) := fun {w i od} h j hj => by
    by_cases c : j = i
    · rw [c, gI_same, upF_eq]
    · rw [gI_nk _ _ _ c, upF_ne _ _ c]; exact (h j c hj).1
  induction i with
  | zero =>
    intro od w hi hW h94 hkn hT h93 hk93
    have e := tr_234_36 d w hW (nI k) (nI 0) (fun _ => by decide) (fun h => absurd (show nI 0 ≤ 0 from Int32.le_refl _) h) (fun h => absurd (show nI 0 ≤ 0 from Int32.le_refl _) h) (fun h => absurd (show nI 0 ≤ 0 from Int32.le_refl _) h) (fun h => absurd (show nI 0 ≤ 0 from Int32.le_refl _) h) (fun h => absurd (show nI 0 ≤ 0 from Int32.le_refl _) h) (fun h => absurd (show nI 0 ≤ 0 from Int32.le_refl _) h)
    rw [if_pos (show nI 0 ≤ 0 from Int32.le_refl _), show (nI 0).toNatClampNeg = 0 from rfl, gI_ne w (a := 143) (b := 108) _ _ _ (by decide), n_succ k] at e
    exact ⟨_, _, e, (Fr.refl _ w).sI 143 _ _ rfl, fin h94⟩
  | succ i ih =>
    intro od w hi hW h94 hkn hT h93 hk93
    have i1 : inB (nI (i + 1)) 300 = true := inB_nI (by omega) (by omega)
    have i0 : nI (i + 1) - 1 = nI i := by rw [pI_1 (by omega), Nat.add_sub_cancel]
    have ib : inB (nI (i + 1) - 1) 300 = true := by rw [i0]; exact inB_nI (by omega) (by omega)
    obtain ⟨g1, g2, g3⟩ := h94 i (by omega) (by omega)
    have e := tr_234_36 d w hW (nI k) (nI (i + 1)) (fun _ => i1) (fun _ => inB_nI hk (by omega)) (fun _ => ib) (fun _ => by rw [i0, nI_clamp (by omega), g1]; exact inB_nI g2 (by omega)) (fun _ _ => i1) (fun _ _ => ib) (fun _ _ => i1)
    have hdec : nI (i + 1) + (-1) = nI i := by rw [n_dec (by omega), Nat.add_sub_cancel]
    rw [if_neg (n_nle0 (by omega) (by omega)), i0, hdec, nI_clamp (show i < 2 ^ 31 by omega), nI_clamp (show i + 1 < 2 ^ 31 by omega), nI_clamp (show k < 2 ^ 31 by omega), g1, nI_clamp (show od i < 2 ^ 31 by omega), hk93, h93 i (by omega) (by omega), cnB_num hkn, cnB_num g3, gI_ne w (a := 143) (b := 108) _ _ _ (by decide), n_succ k] at e
    have hml := m_less (hT k hk) (hT _ g2) hkn g3
    unfold insF
    by_cases c : lvB (T k) < lvB (T (od i))
    · rw [if_neg (fun h => hml.mp h c)] at e
      rw [if_pos (show ltB T k (od i) = true from decide_eq_true c)]
      obtain ⟨w1, hw1⟩ : ∃ z, z = sI w 143 (i + 1) (nI (od i)) := ⟨_, rfl⟩
      rw [← hw1] at e
      have f1 : Fr [(143, none)] w w1 := by rw [hw1]; exact (Fr.refl _ w).sI 143 _ _ rfl
      obtain ⟨w2, l2, e2, f2, g4⟩ := ih (upF od (i + 1) (od i)) w1 (by omega) (f1.fix rfl hW) (fun j h1 h2 => by
        rw [hw1]
        by_cases cj : j = i + 1
        · rw [cj, gI_same, upF_eq]; exact ⟨rfl, g2, g3⟩
        · rw [gI_nk _ _ _ cj, upF_ne _ _ cj]; exact h94 j cj h2) hkn hT (fun j h1 h2 => by
        rw [f1.d 142 _ rfl]
        by_cases cj : j = i + 1
        · rw [cj, upF_eq]; exact h93 i (by omega) (by omega)
        · rw [upF_ne _ _ cj]; exact h93 j cj h2) ((f1.d 142 k rfl).trans hk93)
      rw [f1.i 108 58 rfl] at e2
      exact ⟨w2, l2, e.trans e2, f1.trans f2, g4⟩
    · rw [if_pos (hml.mpr c)] at e
      rw [if_neg (show ¬ ltB T k (od i) = true from fun h => c (of_decide_eq_true h))]
      exact ⟨_, _, e, (Fr.refl _ w).sI 143 _ _ rfl, fin h94⟩
end SORT
