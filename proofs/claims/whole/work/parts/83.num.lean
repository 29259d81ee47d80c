/-! THE READER: numbers, places, jumps, turns -/
theorem plc_iff {s : Nat × Option Nat} {a j : Nat} : plc s a j = true ↔ s.1 = a ∧ (s.2 = none ∨ s.2 = some j) := by
  obtain ⟨s1, s2⟩ := s
  unfold plc
  rw [Bool.and_eq_true, Nat.beq_eq]
  cases s2 with
  | none => simp
  | some i => simp [Nat.beq_eq]
theorem inS_iff {S : List (Nat × Option Nat)} {a j : Nat} : inS S a j = true ↔ ∃ s, s ∈ S ∧ s.1 = a ∧ (s.2 = none ∨ s.2 = some j) := by
  unfold inS
  rw [List.any_eq_true]
  constructor
  · rintro ⟨s, h1, h2⟩; exact ⟨s, h1, plc_iff.mp h2⟩
  · rintro ⟨s, h1, h2⟩; exact ⟨s, h1, plc_iff.mpr h2⟩
theorem inS_no {S : List (Nat × Option Nat)} {a j : Nat} (h : ∀ s, s ∈ S → s.1 = a → s.2 ≠ none ∧ s.2 ≠ some j) : inS S a j = false := by
  cases hs : inS S a j with
  | false => rfl
  | true =>
    obtain ⟨s, h1, h2, h3⟩ := inS_iff.mp hs
    obtain ⟨g1, g2⟩ := h s h1 h2
    exact h3.elim (fun e => absurd e g1) (fun e => absurd e g2)
theorem Fr.sub {S T : List (Nat × Option Nat)} {w v : Wd} (h : Fr S w v) (hs : ∀ s, s ∈ S → s ∈ T) : Fr T w v := ⟨h.1, fun a k ht => h.2 a k (by
  cases e : inS S a k with
  | false => rfl
  | true =>
    obtain ⟨s, h1, h2⟩ := inS_iff.mp e
    rw [inS_iff.mpr ⟨s, hs s h1, h2⟩] at ht
    cases ht)⟩
abbrev FTf (o : Nat) : List (Nat × Option Nat) := [(o, some 1), (o, some 5), (o, some 6), (o, some 7), (o, some 8)]
theorem ftf_off {o a j : Nat} (h : a ≠ o ∨ (j < 5 ∧ j ≠ 1)) : inS (FTf o) a j = false := inS_no (fun s hs e => by
  simp only [List.mem_cons, List.mem_nil_iff, or_false] at hs
  rcases hs with rfl | rfl | rfl | rfl | rfl <;> (refine ⟨fun hh => (by cases hh), fun hh => ?_⟩; have e2 : o = a := e; cases hh; omega))
theorem Fr.tkf {o : Nat} {w v : Wd} (h : Fr (FTk o) w v) : Fr (FTf o) w v := h.sub (fun s hs => List.mem_cons_of_mem _ hs)
theorem Fr.o1 {o : Nat} {w v : Wd} (h : Fr [(o, some 1)] w v) : Fr (FTf o) w v := h.sub (fun s hs => by rw [List.mem_singleton.mp hs]; exact List.mem_cons_self ..)
theorem Rd.tf {w v : Wd} {o M T N : Nat} {t : Nat → Int32} (h : Rd w o M T N t) (hf : Fr (FTf o) w v) : Rd v o M T N t :=
  h.fr hf (fun j hj h1 => ftf_off (Or.inr ⟨hj, h1⟩)) (fun i => ftf_off (Or.inl (by have := h.1; omega)))
theorem ftf_lo {o : Nat} (h : 151 ≤ o) : ∀ a k, a < 151 → inS (FTf o) a k = false := fun a k ha => ftf_off (Or.inl (by omega))
theorem TkC.o1 {w v : Wd} {o : Nat} {t : Nat → Int32} {k : Tk} (h : TkC w o t k) (hf : Fr [(o, some 1)] w v) : TkC v o t k := by
  have e : ∀ j, j ≠ 1 → gI v o j = gI w o j := fun j hj => hf.i o j (inS_no (fun s hs _ => by rw [List.mem_singleton.mp hs]; exact ⟨fun h => (by cases h), fun h => (by cases h; exact hj rfl)⟩))
  obtain ⟨h1, h2, h3⟩ := h
  exact ⟨by rw [e 5 (by decide)]; exact h1, (e 6 (by decide)).trans h2, (e 7 (by decide)).trans h3⟩
/-- the fault so far -/
def ftI : Option Nat → Int32
  | none => -1
  | some f => nI f
def fo (F : Option Nat) (p : Nat) : Option Nat := match F with
  | none => some p
  | some f => some f
theorem ftI_none {F : Option Nat} (hF : ∀ f, F = some f → f < 2 ^ 31) : 0 ≤ ftI F ↔ F.isSome = true := by
  cases F with
  | none => exact ⟨fun h => absurd h (by decide), fun h => by cases h⟩
  | some f => exact ⟨fun _ => rfl, fun _ => n_le (a := 0) (Nat.zero_le f) (hF f rfl)⟩
abbrev InR (k : Tk) (a b : Nat) : Prop := k.1 = 2 ∧ a ≤ k.2.2.2 ∧ k.2.2.2 ≤ b
theorem TkIn.val {t : Nat → Int32} {T : Nat} {k : Tk} (h : TkIn t T k) (h2 : k.1 = 2) : k.2.2.2 < 2 ^ 31 := by
  obtain ⟨-, -, -, -, h5, -⟩ := h
  obtain ⟨g1, g2, g3⟩ := h5 h2
  rw [g2]
  have := dg10_lt (g := dgA t k.2.1) (m := k.2.2.1 - k.2.1) (fun i hi => (dgA_of (t := t) (q := k.2.1) (i := i) (g3 _ (by omega) (by omega))).2) g1
  omega
section CNUM
variable {w : Wd} {o M T N : Nat} {t : Nat → Int32} {k : Tk}
theorem c_refuseF (d : Nat) (hR : Rd w o M T N t) (hk : TkC w o t k) {F : Option Nat} (hF : ∀ f, F = some f → f < 2 ^ 31) (h1 : gI w o 1 = ftI F) : ∃ v, val (75, d, 0, [some (.ref o)], [], w) = some (none, v) ∧ Fr [(o, some 1)] w v ∧ gI v o 1 = ftI (fo F k.2.1) := by
  cases F with
  | none => exact c_refuse d hR hk h1
  | some f => exact ⟨w, c_refused d hR h1 (hF f rfl), Fr.refl _ _, h1⟩
/-- what numberWithin lets pass -/
abbrev InB (k : Tk) (a b : Nat) (c : Int32) : Prop := InR k a b ∧ nI k.2.2.2 ≠ c
theorem c_withinB (d : Nat) (hW : Fix w) (hR : Rd w o M T N t) (hk : TkC w o t k) (hin : TkIn t T k) {F : Option Nat} (hF : ∀ f, F = some f → f < 2 ^ 31) (h1 : gI w o 1 = ftI F) {a b : Nat} (ha : a < 2 ^ 31) (hb : b < 2 ^ 31) (c : Int32) :
    ∃ v, val (85, d + 3, 0, [some (.ref o), some (.int (nI a)), some (.int (nI b)), some (.int c), none], [], w) = some (some (.int (nI (if InB k a b c then k.2.2.2 else a))), v) ∧ Fr (FTf o) w v ∧ TkC v o t (if InB k a b c then nxt t T k else k) ∧ gI v o 1 = ftI (if InB k a b c then F else fo F k.2.1) := by
  have e0 : val (85, d + 3, 0, [some (.ref o), some (.int (nI a)), some (.int (nI b)), some (.int c), none], [], w) = val (85, d + 3, 4, [some (.ref o), some (.int (nI a)), some (.int (nI b)), some (.int c), none], [.int (if k.1 = 2 then nI k.2.2.2 else -1)], w) := by
    refine (tr_85 (d + 1) w o (nI a) (nI b) c).trans ?_
    refine (val_call (pc2 := 4) rfl rfl rfl rfl (rcvO hR.2.1 (by decide)) (Nat.le_of_ble_eq_true rfl) (Nat.le_of_ble_eq_true rfl) rfl (c_number (d + 2) hW hR hk hin) rfl).trans ?_
    rfl
  have e1 := e0.trans (tr_85_4 (d + 1) w o _ _ _ _)
  have bad : ∀ x : Int32, ¬ InB k a b c → val (85, d + 3, 0, [some (.ref o), some (.int (nI a)), some (.int (nI b)), some (.int c), none], [], w) = val (85, d + 3, 25, [some (.ref o), some (.int (nI a)), some (.int (nI b)), some (.int c), some (.int x)], [.ref o], w) → ∃ v, val (85, d + 3, 0, [some (.ref o), some (.int (nI a)), some (.int (nI b)), some (.int c), none], [], w) = some (some (.int (nI (if InB k a b c then k.2.2.2 else a))), v) ∧ Fr (FTf o) w v ∧ TkC v o t (if InB k a b c then nxt t T k else k) ∧ gI v o 1 = ftI (if InB k a b c then F else fo F k.2.1) := by
    intro x hn e
    rw [if_neg hn, if_neg hn, if_neg hn]
    obtain ⟨v, e1, e2, e3⟩ := c_refuseF (d + 2) hR hk hF h1
    refine ⟨v, e.trans ?_, e2.o1, hk.o1 e2, e3⟩
    refine (val_call (pc2 := 28) rfl rfl rfl rfl (rcvO hR.2.1 (by decide)) (Nat.le_of_ble_eq_true rfl) (Nat.le_of_ble_eq_true rfl) rfl e1 rfl).trans ?_
    exact tr_85_28 (d + 1) v o _ _ _ _
  by_cases h2 : k.1 = 2
  · have hv := hin.val h2
    rw [if_pos h2] at e1
    by_cases h3 : a ≤ k.2.2.2
    · rw [if_neg (n_nlt h3 hv)] at e1
      by_cases h4 : k.2.2.2 ≤ b
      · rw [if_neg (n_nlt h4 hb)] at e1
        by_cases h5 : nI k.2.2.2 = c
        · rw [if_neg (fun h => h h5)] at e1
          exact bad _ (fun h => h.2 h5) e1
        · have hI : InB k a b c := ⟨⟨h2, h3, h4⟩, h5⟩
          rw [if_pos h5] at e1
          rw [if_pos hI, if_pos hI, if_pos hI]
          obtain ⟨v, x1, x2, x3⟩ := c_next d hW hR hk.2.2 hin.2.2.1
          refine ⟨v, e1.trans ?_, x2.tkf, x3, (x2.i o 1 (ftk_off (Or.inr (by decide)))).trans h1⟩
          refine (val_call (pc2 := 34) rfl rfl rfl rfl (rcvO hR.2.1 (by decide)) (Nat.le_of_ble_eq_true rfl) (Nat.le_of_ble_eq_true rfl) rfl x1 rfl).trans ?_
          exact tr_85_34 (d + 1) v o _ _ _ _
      · rw [if_pos (n_lt (by omega) hv)] at e1
        exact bad _ (fun h => h4 h.1.2.2) e1
    · rw [if_pos (n_lt (by omega) ha)] at e1
      exact bad _ (fun h => h3 h.1.2.1) e1
  · rw [if_neg h2, if_pos (show (-1 : Int32) < nI a from Int32.lt_of_lt_of_le (by decide) (show (0 : Int32) ≤ nI a from n_le (a := 0) (Nat.zero_le a) ha))] at e1
    exact bad _ (fun h => h2 h.1.1) e1
theorem InB_no {k : Tk} {t : Nat → Int32} {T : Nat} (hin : TkIn t T k) {a b : Nat} : InB k a b (-1) ↔ InR k a b := by
  refine ⟨fun h => h.1, fun h => ⟨h, fun e => ?_⟩⟩
  have h0 : (0 : Int32) ≤ nI k.2.2.2 := n_le (a := 0) (Nat.zero_le _) (hin.val h.1)
  rw [e] at h0
  exact absurd h0 (by decide)
theorem InB_nat {k : Tk} {t : Nat → Int32} {T : Nat} (hin : TkIn t T k) {a b c : Nat} (hc : c < 2 ^ 31) : InB k a b (nI c) ↔ InR k a b ∧ k.2.2.2 ≠ c :=
  ⟨fun h => ⟨h.1, fun e => h.2 (by rw [e])⟩, fun h => ⟨h.1, n_ne h.2 (hin.val h.1.1) hc⟩⟩
theorem c_within (d : Nat) (hW : Fix w) (hR : Rd w o M T N t) (hk : TkC w o t k) (hin : TkIn t T k) {F : Option Nat} (hF : ∀ f, F = some f → f < 2 ^ 31) (h1 : gI w o 1 = ftI F) {a b : Nat} (ha : a < 2 ^ 31) (hb : b < 2 ^ 31) :
    ∃ v, val (85, d + 3, 0, [some (.ref o), some (.int (nI a)), some (.int (nI b)), some (.int (-1)), none], [], w) = some (some (.int (nI (if InR k a b then k.2.2.2 else a))), v) ∧ Fr (FTf o) w v ∧ TkC v o t (if InR k a b then nxt t T k else k) ∧ gI v o 1 = ftI (if InR k a b then F else fo F k.2.1) := by
  have h := c_withinB d hW hR hk hin hF h1 ha hb (-1)
  by_cases hI : InR k a b
  · rw [if_pos ((InB_no hin).mpr hI), if_pos ((InB_no hin).mpr hI), if_pos ((InB_no hin).mpr hI)] at h
    rw [if_pos hI, if_pos hI, if_pos hI]
    exact h
  · have hN := fun hh => hI ((InB_no (a := a) (b := b) hin).mp hh)
    rw [if_neg hN, if_neg hN, if_neg hN] at h
    rw [if_neg hI, if_neg hI, if_neg hI]
    exact h
theorem c_but (d : Nat) (hW : Fix w) (hR : Rd w o M T N t) (hN : N ≤ 8) (hk : TkC w o t k) (hin : TkIn t T k) {F : Option Nat} (hF : ∀ f, F = some f → f < 2 ^ 31) (h1 : gI w o 1 = ftI F) {c : Nat} (hc : c < 2 ^ 31) :
    ∃ v, val (85, d + 4, 0, [some (.ref o), some (.int 1), some (.int (nI N)), some (.int (nI c)), none], [], w) = some (some (.int (nI (if InR k 1 N ∧ k.2.2.2 ≠ c then k.2.2.2 else 1))), v) ∧ Fr (FTf o) w v ∧ TkC v o t (if InR k 1 N ∧ k.2.2.2 ≠ c then nxt t T k else k) ∧ gI v o 1 = ftI (if InR k 1 N ∧ k.2.2.2 ≠ c then F else fo F k.2.1) := by
  have h := c_withinB (d + 1) hW hR hk hin hF h1 (a := 1) (b := N) (by omega) (by omega) (nI c)
  by_cases hI : InR k 1 N ∧ k.2.2.2 ≠ c
  · have hB := (InB_nat hin hc).mpr hI
    rw [if_pos hB, if_pos hB, if_pos hB] at h
    rw [if_pos hI, if_pos hI, if_pos hI]
    exact h
  · have hB := fun hh => hI ((InB_nat (a := 1) (b := N) hin hc).mp hh)
    rw [if_neg hB, if_neg hB, if_neg hB] at h
    rw [if_neg hI, if_neg hI, if_neg hI]
    exact h
end CNUM
/-! places -/
def pOk (N : Nat) (g : Nat → Nat) : Nat → Nat → Nat → Bool
  | 0, _, last => decide ((N - last) % 2 = 0)
  | n + 1, i, last => decide (last < g i ∧ g i ≤ N ∧ (g i - last) % 2 = 1) && pOk N g n (i + 1) (g i)
def pLst (N : Nat) (g : Nat → Nat) : Nat → Nat → Nat → List (Nat × Nat)
  | 0, _, last => prL last ((N - last) / 2)
  | n + 1, i, last => prL last ((g i - 1 - last) / 2) ++ pLst N g n (i + 1) (g i)
theorem pLst_ok {N : Nat} {g : Nat → Nat} : ∀ n i last, last ≤ N → pOk N g n i last = true → okZ N (pLst N g n i last)
  | 0, i, last, hl, _ => prL_ok _ _ (by omega)
  | n + 1, i, last, hl, h => by
    have h' : (decide (last < g i ∧ g i ≤ N ∧ (g i - last) % 2 = 1) && pOk N g n (i + 1) (g i)) = true := h
    rw [Bool.and_eq_true] at h'
    obtain ⟨h1, h2⟩ := h'
    obtain ⟨a1, a2, a3⟩ := of_decide_eq_true h1
    exact okZ_app (prL_ok _ _ (by omega)) (pLst_ok n (i + 1) (g i) a2 h2)
theorem n_odd {a : Nat} : nI a &&& 1 = nI (a % 2) := by
  rw [show (1 : Int32) = nI 1 from rfl, n_and, Nat.and_one_is_mod]
section CPLACES
variable {o M T N : Nat} {t : Nat → Int32} {k : Tk}
theorem c_placesL (d : Nat) (h3 : 3 ≤ N) (hN : N ≤ 8) {w : Wd} (hW : Fix w) (hR : Rd w o M T N t) (hk : TkC w o t k) (hin : TkIn t T k) (h2 : ∀ i, k.2.1 ≤ i → i < k.2.2.1 → tDg t i = true) (h1 : gI w o 1 = -1) (l1 : Int32) : ∀ n i last (f : Nat → Nat) (l5 : Option Value), k.2.1 + i + n = k.2.2.1 → last ≤ N → IsRow N f →
    (pOk N (dgA t k.2.1) n i last = true → ∃ v, val (93, d + 3, 24, [some (.ref o), some (.int l1), some (.int (nI (pkN N f))), some (.int (nI last)), some (.int (nI (k.2.1 + i))), l5], [], w) = some (some (.int (nI (pkN N (apL f (pLst N (dgA t k.2.1) n i last))))), v) ∧ Fr (FTf o) w v ∧ TkC v o t (nxt t T k) ∧ gI v o 1 = -1) ∧
    (pOk N (dgA t k.2.1) n i last = false → ∃ r v, val (93, d + 3, 24, [some (.ref o), some (.int l1), some (.int (nI (pkN N f))), some (.int (nI last)), some (.int (nI (k.2.1 + i))), l5], [], w) = some (some (.int r), v) ∧ Fr (FTf o) w v ∧ gI v o 1 = nI k.2.1)
  | 0, i, last, f, l5, hi, hl, hf => by
    obtain ⟨r1, r2, r3, r4, r5, r6, r7, r8⟩ := id hR
    have e65 := hW.k 65 (by omega) (by omega)
    have hto : k.2.2.1 ≤ 600 := by have := hin.2.2.1; omega
    have hle : gI w o 7 ≤ nI (k.2.1 + i) := by rw [hk.2.2]; exact n_le (by omega) (by omega)
    have e0 := tr_93_24 d w o l1 (nI (pkN N f)) (nI last) (nI (k.2.1 + i)) l5 8 r2 65 r3 600 e65 (fun h => absurd hle h)
    rw [if_pos hle, r6, n_sub hl, n_odd] at e0
    have end1 : ∀ (x : Wd), Rd x o M T N t → ∃ r, val (93, d + 3, 120, [some (.ref o), some (.int l1), some (.int (nI (pkN N f))), some (.int (nI last)), some (.int (nI (k.2.1 + i))), l5], [], x) = some (some (.int r), x) ∧ r = nI (pkN N (apL f (prL last ((N - last) / 2)))) := by
      intro x hx
      refine ⟨_, (tr_93_120 d x o _ _ _ _ l5 8 hx.2.1).trans ?_, rfl⟩
      rw [hx.2.2.2.2.2.1]
      refine (val_call (pc2 := 133) rfl rfl rfl rfl rfl (Nat.le_of_ble_eq_true rfl) (Nat.le_of_ble_eq_true rfl) rfl (c144 hN d x (a := last) (b := N) (Nat.le_refl N) hl hf) rfl).trans ?_
      exact tr_93_133 d x o _ _ _ _ _ l5
    constructor
    · intro hp
      have hp' : (N - last) % 2 = 0 := of_decide_eq_true hp
      rw [hp', if_pos (show nI 0 = 0 from rfl)] at e0
      obtain ⟨v, c1, c2, c3⟩ := c_next d hW hR hk.2.2 hin.2.2.1
      obtain ⟨r, b1, b2⟩ := end1 v (hR.tk c2)
      refine ⟨v, e0.trans ?_, c2.tkf, c3, (c2.i o 1 (ftk_off (Or.inr (by decide)))).trans h1⟩
      refine (val_call (pc2 := 120) rfl rfl rfl rfl (rcvO r2 (by decide)) (Nat.le_of_ble_eq_true rfl) (Nat.le_of_ble_eq_true rfl) rfl c1 rfl).trans ?_
      rw [b2] at b1
      exact b1
    · intro hp
      have hp' : ¬ (N - last) % 2 = 0 := of_decide_eq_false hp
      rw [show (N - last) % 2 = 1 by omega, if_neg (show ¬ nI 1 = 0 by decide)] at e0
      obtain ⟨v, c1, c2, c3⟩ := c_refuse (d + 2) hR hk h1
      obtain ⟨r, b1, b2⟩ := end1 v (hR.tf c2.o1)
      refine ⟨r, v, e0.trans ?_, c2.o1, c3⟩
      refine (val_call (pc2 := 113) rfl rfl rfl rfl (rcvO r2 (by decide)) (Nat.le_of_ble_eq_true rfl) (Nat.le_of_ble_eq_true rfl) rfl c1 rfl).trans ?_
      exact (tr_93_113 d v o _ _ _ _ l5).trans b1
  | n + 1, i, last, f, l5, hi, hl, hf => by
    obtain ⟨r1, r2, r3, r4, r5, r6, r7, r8⟩ := id hR
    have e65 := hW.k 65 (by omega) (by omega)
    have hto : k.2.2.1 ≤ 600 := by have := hin.2.2.1; omega
    obtain ⟨g1, g2⟩ := dgA_of (t := t) (q := k.2.1) (i := i) (h2 _ (by omega) (by omega))
    have e0 := tr_93_24 d w o l1 (nI (pkN N f)) (nI last) (nI (k.2.1 + i)) l5 8 r2 65 r3 600 e65 (fun _ => inB_nI (by omega) (by omega))
    rw [hk.2.2, if_neg (n_nle (show k.2.1 + i < k.2.2.1 by omega) (by omega)), nI_clamp (show k.2.1 + i < 2 ^ 31 by omega), r8 _ (by have := hin.2.2.1; omega), g1, show nI (dgA t k.2.1 i + 48) - 48 = nI (dgA t k.2.1 i) from (n_sub (b := 48) (by omega)).trans (by rw [Nat.add_sub_cancel]), r6] at e0
    have bad : val (93, d + 3, 24, [some (.ref o), some (.int l1), some (.int (nI (pkN N f))), some (.int (nI last)), some (.int (nI (k.2.1 + i))), l5], [], w) = val (93, d + 3, 70, [some (.ref o), some (.int l1), some (.int (nI (pkN N f))), some (.int (nI last)), some (.int (nI (k.2.1 + i))), some (.int (nI (dgA t k.2.1 i)))], [.ref o], w) → ∃ r v, val (93, d + 3, 24, [some (.ref o), some (.int l1), some (.int (nI (pkN N f))), some (.int (nI last)), some (.int (nI (k.2.1 + i))), l5], [], w) = some (some (.int r), v) ∧ Fr (FTf o) w v ∧ gI v o 1 = nI k.2.1 := by
      intro e
      obtain ⟨v, c1, c2, c3⟩ := c_refuse (d + 2) hR hk h1
      refine ⟨l1, v, e.trans ?_, c2.o1, c3⟩
      refine (val_call (pc2 := 73) rfl rfl rfl rfl (rcvO r2 (by decide)) (Nat.le_of_ble_eq_true rfl) (Nat.le_of_ble_eq_true rfl) rfl c1 rfl).trans ?_
      exact tr_93_73 d v o _ _ _ _ _
    by_cases hc : last < dgA t k.2.1 i ∧ dgA t k.2.1 i ≤ N ∧ (dgA t k.2.1 i - last) % 2 = 1
    · obtain ⟨a1, a2, a3⟩ := hc
      have hp : pOk N (dgA t k.2.1) (n + 1) i last = pOk N (dgA t k.2.1) n (i + 1) (dgA t k.2.1 i) := by
        show (decide _ && _) = _
        rw [decide_eq_true (⟨a1, a2, a3⟩ : last < dgA t k.2.1 i ∧ dgA t k.2.1 i ≤ N ∧ (dgA t k.2.1 i - last) % 2 = 1), Bool.true_and]
      rw [if_neg (n_nle a1 (by omega)), if_neg (n_nlt a2 (by omega)), n_sub (Nat.le_of_lt a1), n_odd, a3, if_pos (show ¬ nI 1 = 0 by decide), show nI (dgA t k.2.1 i) - 1 = nI (dgA t k.2.1 i - 1) from n_sub (b := 1) (by omega)] at e0
      have hf2 : IsRow N (apL f (prL last ((dgA t k.2.1 i - 1 - last) / 2))) := apL_row _ hf (prL_ok _ _ (by omega))
      have e1 : val (93, d + 3, 24, [some (.ref o), some (.int l1), some (.int (nI (pkN N f))), some (.int (nI last)), some (.int (nI (k.2.1 + i))), l5], [], w) = val (93, d + 3, 24, [some (.ref o), some (.int l1), some (.int (nI (pkN N (apL f (prL last ((dgA t k.2.1 i - 1 - last) / 2)))))), some (.int (nI (dgA t k.2.1 i))), some (.int (nI (k.2.1 + (i + 1)))), some (.int (nI (dgA t k.2.1 i)))], [], w) := by
        refine e0.trans ?_
        refine (val_call (pc2 := 88) rfl rfl rfl rfl rfl (Nat.le_of_ble_eq_true rfl) (Nat.le_of_ble_eq_true rfl) rfl (c144 hN d w (a := last) (b := dgA t k.2.1 i - 1) (by omega) hl hf) rfl).trans ?_
        refine (tr_93_88 d w o _ _ _ _ _ _).trans ?_
        rw [n_succ]
        rfl
      obtain ⟨b1, b2⟩ := c_placesL d h3 hN hW hR hk hin h2 h1 l1 n (i + 1) (dgA t k.2.1 i) _ (some (.int (nI (dgA t k.2.1 i)))) (by omega) a2 hf2
      rw [hp, e1]
      refine ⟨fun hh => ?_, b2⟩
      obtain ⟨v, x1, x2⟩ := b1 hh
      refine ⟨v, ?_, x2⟩
      rw [x1]
      show _ = some (some (Value.int (nI (pkN N (apL f (prL last ((dgA t k.2.1 i - 1 - last) / 2) ++ pLst N (dgA t k.2.1) n (i + 1) (dgA t k.2.1 i)))))), v)
      rw [apL_app]
    · have hp : pOk N (dgA t k.2.1) (n + 1) i last = false := by
        show (decide _ && _) = _
        rw [decide_eq_false hc, Bool.false_and]
      rw [hp]
      refine ⟨fun hh => (by cases hh), fun _ => bad (e0.trans ?_)⟩
      by_cases a1 : last < dgA t k.2.1 i
      · rw [if_neg (n_nle a1 (by omega))]
        by_cases a2 : dgA t k.2.1 i ≤ N
        · rw [if_neg (n_nlt a2 (by omega)), n_sub (Nat.le_of_lt a1), n_odd, if_neg]
          intro hh
          have : (dgA t k.2.1 i - last) % 2 = 0 := by omega
          rw [this] at hh
          exact hh rfl
        · rw [if_pos (n_lt (by omega) (by omega))]
      · rw [if_pos (n_le (by omega) (by omega))]
theorem pOk_len {N : Nat} {g : Nat → Nat} : ∀ n i last, last ≤ N → pOk N g n i last = true → last + n ≤ N
  | 0, i, last, hl, _ => hl
  | n + 1, i, last, hl, h => by
    have h' : (decide (last < g i ∧ g i ≤ N ∧ (g i - last) % 2 = 1) && pOk N g n (i + 1) (g i)) = true := h
    rw [Bool.and_eq_true] at h'
    obtain ⟨h1, h2⟩ := h'
    obtain ⟨a1, a2, a3⟩ := of_decide_eq_true h1
    have := pOk_len n (i + 1) (g i) a2 h2
    omega
theorem c_places (d : Nat) (h3 : 3 ≤ N) (hN : N ≤ 8) {w : Wd} (hW : Fix w) (hR : Rd w o M T N t) (hk : TkC w o t k) (hin : TkIn t T k) (h1 : gI w o 1 = -1) :
    (k.1 = 2 ∧ pOk N (dgA t k.2.1) (k.2.2.1 - k.2.1) 0 0 = true → ∃ v, val (93, d + 3, 0, [some (.ref o), some (.int (nI (pkN N (fun p => p)))), none, none, none, none], [], w) = some (some (.int (nI (pkN N (apL (fun p => p) (pLst N (dgA t k.2.1) (k.2.2.1 - k.2.1) 0 0))))), v) ∧ Fr (FTf o) w v ∧ TkC v o t (nxt t T k) ∧ gI v o 1 = -1) ∧
    (¬ (k.1 = 2 ∧ pOk N (dgA t k.2.1) (k.2.2.1 - k.2.1) 0 0 = true) → ∃ r v, val (93, d + 3, 0, [some (.ref o), some (.int (nI (pkN N (fun p => p)))), none, none, none, none], [], w) = some (some (.int r), v) ∧ Fr (FTf o) w v ∧ gI v o 1 = nI k.2.1) := by
  have e0 := tr_93 d w o (nI (pkN N (fun p => p))) 8 hR.2.1
  by_cases h5 : gI w o 5 = 3
  · rw [if_pos h5, hk.2.1] at e0
    have hD : ∀ i, k.2.1 ≤ i → i < k.2.2.1 → tDg t i = true := by
      rcases (hk.k2 hin.1).mp h5 with h | ⟨-, h⟩
      · exact (hin.2.2.2.2.1 h).2.2
      · exact h.2.2
    obtain ⟨b1, b2⟩ := c_placesL d h3 hN hW hR hk hin hD h1 (nI (pkN N (fun p => p))) (k.2.2.1 - k.2.1) 0 0 (fun p => p) none (by have := hin.2.1; omega) (Nat.zero_le N) (IsRow.id N)
    rw [e0]
    refine ⟨fun h => b1 h.2, fun h => b2 ?_⟩
    cases hh : pOk N (dgA t k.2.1) (k.2.2.1 - k.2.1) 0 0 with
    | false => rfl
    | true =>
      rcases (hk.k2 hin.1).mp h5 with h2 | ⟨-, h2⟩
      · exact absurd ⟨h2, hh⟩ h
      · have := pOk_len _ _ _ (Nat.zero_le N) hh
        have := h2.2.1
        omega
  · have h2 : ¬ k.1 = 2 := fun h => h5 ((hk.k2 hin.1).mpr (Or.inl h))
    rw [if_neg h5] at e0
    refine ⟨fun h => absurd h.1 h2, fun _ => ?_⟩
    obtain ⟨v, c1, c2, c3⟩ := c_refuse (d + 2) hR hk h1
    refine ⟨nI (pkN N (fun p => p)), v, e0.trans ?_, c2.o1, c3⟩
    refine (val_call (pc2 := 12) rfl rfl rfl rfl (rcvO hR.2.1 (by decide)) (Nat.le_of_ble_eq_true rfl) (Nat.le_of_ble_eq_true rfl) rfl c1 rfl).trans ?_
    exact tr_93_12 d v o _
end CPLACES
