/-! GROUPS: what generators make -/
/-- a word of generators -/
def wp (gs : Nat → Nat → Nat) : List Nat → Nat → Nat
  | [], p => p
  | i :: l, p => gs i (wp gs l p)
theorem wp_app (gs : Nat → Nat → Nat) (m : List Nat) : ∀ l p, wp gs (l ++ m) p = wp gs l (wp gs m p)
  | [], _ => rfl
  | i :: l, p => congrArg (gs i) (wp_app gs m l p)
/-- f is a word of the first K generators -/
def InG (N K : Nat) (gs : Nat → Nat → Nat) (f : Nat → Nat) : Prop := ∃ l : List Nat, (∀ i, i ∈ l → i < K) ∧ ∀ p, p < N → f p = wp gs l p
section GM
variable {N K : Nat} {gs : Nat → Nat → Nat}
theorem wp_lt (hg : ∀ i, i < K → IsRow N (gs i)) : ∀ l p, (∀ i, i ∈ l → i < K) → p < N → wp gs l p < N
  | [], p, _, hp => hp
  | i :: l, p, h, hp => (hg i (h i (List.mem_cons_self ..))).1 _ (wp_lt hg l p (fun j hj => h j (List.mem_cons_of_mem _ hj)) hp)
theorem InG.id : InG N K gs (fun p => p) := ⟨[], fun _ h => (by cases h), fun _ _ => rfl⟩
theorem InG.gen {i : Nat} (hi : i < K) : InG N K gs (gs i) := ⟨[i], fun j hj => by rw [List.mem_singleton.mp hj]; exact hi, fun _ _ => rfl⟩
theorem InG.comp {f h : Nat → Nat} (hh : ∀ p, p < N → h p < N) (hf : InG N K gs f) (hk : InG N K gs h) : InG N K gs (fun p => f (h p)) := by
  obtain ⟨l, l1, l2⟩ := hf
  obtain ⟨m, m1, m2⟩ := hk
  refine ⟨l ++ m, fun i hi => (List.mem_append.mp hi).elim (l1 i) (m1 i), fun p hp => ?_⟩
  show f (h p) = _
  rw [wp_app, ← m2 p hp]
  exact l2 _ (hh p hp)
theorem InG.sub {K' : Nat} {gs' : Nat → Nat → Nat} (hg : ∀ i, i < K → IsRow N (gs i)) (hs : ∀ i, i < K → InG N K' gs' (gs i)) {f : Nat → Nat} (hf : InG N K gs f) : InG N K' gs' f := by
  obtain ⟨l, l1, l2⟩ := hf
  have key : ∀ l : List Nat, (∀ i, i ∈ l → i < K) → InG N K' gs' (wp gs l) := by
    intro l
    induction l with
    | nil => exact fun _ => InG.id
    | cons i l ih => exact fun h => InG.comp (f := gs i) (h := wp gs l) (fun p hp => wp_lt hg l p (fun j hj => h j (List.mem_cons_of_mem _ hj)) hp) (hs i (h i (List.mem_cons_self ..))) (ih (fun j hj => h j (List.mem_cons_of_mem _ hj)))
  obtain ⟨m, m1, m2⟩ := key l l1
  exact ⟨m, m1, fun p hp => (l2 p hp).trans (m2 p hp)⟩
theorem InG.congr {f h : Nat → Nat} (hf : InG N K gs f) (e : ∀ p, p < N → h p = f p) : InG N K gs h := by
  obtain ⟨l, l1, l2⟩ := hf
  exact ⟨l, l1, fun p hp => (e p hp).trans (l2 p hp)⟩
theorem InG.up {K' : Nat} {gs' : Nat → Nat → Nat} (hg : ∀ i, i < K → IsRow N (gs i)) (hK : K ≤ K') (e : ∀ i, i < K → gs' i = gs i) {f : Nat → Nat} (hf : InG N K gs f) : InG N K' gs' f :=
  hf.sub hg (fun i hi => by rw [← e i hi]; exact InG.gen (by omega))
end GM
/-- rows found: how many, which -/
abbrev GS : Type := Nat × (Nat → Nat → Nat)
def rkS (N : Nat) (s : GS) (i : Nat) : Nat := rkN N (s.2 i)
def hasG (N : Nat) (s : GS) (r : Nat) : Bool := sn (rkS N s) s.1 r
def icl (N : Nat) (s : GS) (x : Nat → Nat) : GS := if hasG N s (rkN N x) = true then s else (s.1 + 1, upF s.2 s.1 x)
section BFS
variable (N : Nat) (op : (Nat → Nat) → (Nat → Nat) → Nat → Nat) (gs : Nat → Nat → Nat) (K : Nat)
def inn (i : Nat) : Nat → Nat → GS → GS
  | 0, _, s => s
  | n + 1, g, s => inn i n (g + 1) (icl N s (op (s.2 i) (gs g)))
def outG : Nat → Nat → GS → GS
  | 0, _, s => s
  | n + 1, i, s => if i < s.1 then outG n (i + 1) (inn N op gs i K 0 s) else s
def BI (s : GS) : Prop := 1 ≤ s.1 ∧ s.2 0 = (fun p => p) ∧ (∀ i, i < s.1 → IsRow N (s.2 i) ∧ InG N K gs (s.2 i)) ∧ ∀ i j, i < s.1 → j < s.1 → rkS N s i = rkS N s j → i = j
def Ext (s t : GS) : Prop := s.1 ≤ t.1 ∧ ∀ i, i < s.1 → t.2 i = s.2 i
def ClG (s : GS) (i g : Nat) : Prop := i < s.1 → g < K → hasG N s (rkN N (op (s.2 i) (gs g))) = true
end BFS
section BFSP
variable {N K : Nat} {op : (Nat → Nat) → (Nat → Nat) → Nat → Nat} {gs : Nat → Nat → Nat} {s t u : GS}
theorem Ext.refl (s : GS) : Ext s s := ⟨Nat.le_refl _, fun _ _ => rfl⟩
theorem Ext.trans (h : Ext s t) (g : Ext t u) : Ext s u := ⟨Nat.le_trans h.1 g.1, fun i hi => (g.2 i (Nat.lt_of_lt_of_le hi h.1)).trans (h.2 i hi)⟩
theorem hasG_iff {r : Nat} : hasG N s r = true ↔ ∃ i, i < s.1 ∧ rkN N (s.2 i) = r := sn_iff
theorem Ext.has (h : Ext s t) {r : Nat} (hr : hasG N s r = true) : hasG N t r = true := by
  obtain ⟨i, h1, h2⟩ := hasG_iff.mp hr
  exact hasG_iff.mpr ⟨i, Nat.lt_of_lt_of_le h1 h.1, by rw [h.2 i h1]; exact h2⟩
theorem Ext.cl (h : Ext s t) {i g : Nat} (hi : i < s.1) (hc : ClG N op gs K s i g) : ClG N op gs K t i g := fun _ hg => by
  rw [h.2 i hi]; exact h.has (hc hi hg)
theorem icl_ext (x : Nat → Nat) : Ext s (icl N s x) := by
  unfold icl
  split
  · exact Ext.refl s
  · exact ⟨Nat.le_succ _, fun i hi => upF_ne _ _ (by omega)⟩
theorem icl_has (x : Nat → Nat) : hasG N (icl N s x) (rkN N x) = true := by
  unfold icl
  split
  · assumption
  · exact hasG_iff.mpr ⟨s.1, Nat.lt_succ_self _, by show rkN N (upF s.2 s.1 x s.1) = _; rw [upF_eq]⟩
theorem icl_BI (h : BI N gs K s) {x : Nat → Nat} (hx : IsRow N x) (hi : InG N K gs x) : BI N gs K (icl N s x) := by
  unfold icl
  split
  · exact h
  · rename_i hn
    obtain ⟨h1, h2, h3, h4⟩ := h
    have e0 : ∀ i, i < s.1 → upF s.2 s.1 x i = s.2 i := fun i hi => upF_ne _ _ (by omega)
    refine ⟨Nat.le_succ_of_le h1, (e0 0 h1).trans h2, fun i hi => ?_, fun i j hi hj e => ?_⟩
    · have hi' : i < s.1 + 1 := hi
      show IsRow N (upF s.2 s.1 x i) ∧ InG N K gs (upF s.2 s.1 x i)
      by_cases c : i = s.1
      · rw [c, upF_eq]; exact ⟨hx, by assumption⟩
      · rw [e0 i (by omega)]; exact h3 i (by omega)
    · have hi' : i < s.1 + 1 := hi
      have hj' : j < s.1 + 1 := hj
      have e' : rkN N (upF s.2 s.1 x i) = rkN N (upF s.2 s.1 x j) := e
      by_cases c : i = s.1
      · by_cases c2 : j = s.1
        · rw [c, c2]
        · rw [c, upF_eq, e0 j (by omega)] at e'
          exact absurd (hasG_iff.mpr ⟨j, by omega, e'.symm⟩) hn
      · by_cases c2 : j = s.1
        · rw [c2, upF_eq, e0 i (by omega)] at e'
          exact absurd (hasG_iff.mpr ⟨i, by omega, e'⟩) hn
        · rw [e0 i (by omega), e0 j (by omega)] at e'
          exact h4 i j (by omega) (by omega) e'
theorem inn_ok (hop : ∀ f, IsRow N f → InG N K gs f → ∀ i, i < K → IsRow N (op f (gs i)) ∧ InG N K gs (op f (gs i))) {i : Nat} : ∀ n g s, BI N gs K s → i < s.1 → g + n = K → (∀ g', g' < g → ClG N op gs K s i g') → BI N gs K (inn N op gs i n g s) ∧ Ext s (inn N op gs i n g s) ∧ ∀ g', g' < K → ClG N op gs K (inn N op gs i n g s) i g'
  | 0, g, s, h, hi, hg, hc => ⟨h, Ext.refl s, fun g' hg' => hc g' (by omega)⟩
  | n + 1, g, s, h, hi, hg, hc => by
    obtain ⟨x1, x2⟩ := hop (s.2 i) (h.2.2.1 i hi).1 (h.2.2.1 i hi).2 g (by omega)
    have he := icl_ext (N := N) (s := s) (op (s.2 i) (gs g))
    obtain ⟨a, b, c⟩ := inn_ok hop (i := i) n (g + 1) (icl N s (op (s.2 i) (gs g))) (icl_BI h x1 x2) (Nat.lt_of_lt_of_le hi he.1) (by omega) (fun g' hg' => by
      by_cases e : g' = g
      · intro _ _
        rw [e, he.2 i hi]
        exact icl_has _
      · exact he.cl hi (hc g' (by omega)))
    exact ⟨a, he.trans b, c⟩
theorem cn_true : ∀ n, cn (fun _ => true) n = n
  | 0 => rfl
  | n + 1 => by
    show cn (fun _ => true) n + 1 = n + 1
    rw [cn_true n]
theorem BI.many (h : BI N gs K s) : s.1 = cn (hasG N s) (fc N) := by
  have := cn_imgG (M := fc N) (f := rkS N s) (fun _ => true) s.1 (fun i hi => rkN_fc (h.2.2.1 i hi).1) h.2.2.2
  rw [cn_true] at this
  rw [← this]
  exact cn_congr _ (fun i _ => by show (sn _ _ _ && true) = _; rw [Bool.and_true]; rfl)
theorem BI.le (h : BI N gs K s) : s.1 ≤ fc N := by rw [h.many]; exact cn_le _ _
theorem outG_ok (hop : ∀ f, IsRow N f → InG N K gs f → ∀ i, i < K → IsRow N (op f (gs i)) ∧ InG N K gs (op f (gs i))) : ∀ n i s, BI N gs K s → fc N ≤ i + n → (∀ i', i' < i → ∀ g, ClG N op gs K s i' g) → i ≤ s.1 → BI N gs K (outG N op gs K n i s) ∧ Ext s (outG N op gs K n i s) ∧ ∀ i2 g, ClG N op gs K (outG N op gs K n i s) i2 g := by
  intro n
  induction n with
  | zero =>
    intro i s h hn hc hi
    exact ⟨h, Ext.refl s, fun i' g hi' => by
      have := h.le
      exact hc i' (by have : i' < s.1 := hi'; omega) g hi'⟩
  | succ n ih =>
    intro i s h hn hc hi
    unfold outG
    by_cases c : i < s.1
    · rw [if_pos c]
      obtain ⟨a, b, c'⟩ := inn_ok hop (i := i) K 0 s h c (Nat.zero_add K) (fun g' hg' => absurd hg' (Nat.not_lt_zero g'))
      obtain ⟨a2, b2, c2⟩ := ih (i + 1) (inn N op gs i K 0 s) a (by omega) (fun i' hi' g => by
        by_cases e : i' = i
        · intro h1 h2
          rw [e] at h1 ⊢
          exact c' g h2 h1 h2
        · exact b.cl (by omega) (hc i' (by omega) g)) (by have := b.1; omega)
      exact ⟨a2, b.trans b2, c2⟩
    · rw [if_neg c]
      exact ⟨h, Ext.refl s, fun i' g hi' => hc i' (by omega) g hi'⟩
/-- from rounds on -/
def gs0 : GS := (1, fun _ p => p)
theorem gs0_BI : BI N gs K gs0 := ⟨Nat.le_refl 1, rfl, fun i _ => ⟨IsRow.id N, InG.id⟩, fun i j hi hj _ => by
  have h1 : i < 1 := hi
  have h2 : j < 1 := hj
  omega⟩
theorem rk_eq {N : Nat} {f g : Nat → Nat} (e : ∀ p, p < N → f p = g p) : rkN N f = rkN N g := rk_congr e N (Nat.le_refl N)
def opR (f g : Nat → Nat) : Nat → Nat := fun p => f (g p)
def opL (f g : Nat → Nat) : Nat → Nat := fun p => g (f p)
theorem opR_ok (hg : ∀ i, i < K → IsRow N (gs i)) : ∀ f, IsRow N f → InG N K gs f → ∀ i, i < K → IsRow N (opR f (gs i)) ∧ InG N K gs (opR f (gs i)) := fun f hf hi i hK => ⟨hf.comp (hg i hK), InG.comp (f := f) (h := gs i) (hg i hK).1 hi (InG.gen hK)⟩
theorem opL_ok (hg : ∀ i, i < K → IsRow N (gs i)) : ∀ f, IsRow N f → InG N K gs f → ∀ i, i < K → IsRow N (opL f (gs i)) ∧ InG N K gs (opL f (gs i)) := fun f hf hi i hK => ⟨(hg i hK).comp hf, InG.comp (f := gs i) (h := f) hf.1 (InG.gen hK) hi⟩
/-- closed to the right: all words -/
theorem clR (hN : N ≤ 8) (hg : ∀ i, i < K → IsRow N (gs i)) (h : BI N gs K s) (hc : ∀ i g, ClG N opR gs K s i g) : ∀ (l : List Nat) (f : Nat → Nat), IsRow N f → (∀ i, i ∈ l → i < K) → hasG N s (rkN N f) = true → hasG N s (rkN N (fun p => f (wp gs l p))) = true
  | [], f, _, _, hf => hf
  | i :: l, f, hr, hl, hf => by
    have hi := hl i (List.mem_cons_self ..)
    obtain ⟨j, j1, j2⟩ := hasG_iff.mp hf
    have e := rkN_inj hN (h.2.2.1 j j1).1 hr j2
    have h1 := hc j i j1 hi
    have e2 : rkN N (opR (s.2 j) (gs i)) = rkN N (fun p => f (gs i p)) := rk_eq (fun p hp => e _ ((hg i hi).1 p hp))
    rw [e2] at h1
    exact clR hN hg h hc l _ (hr.comp (hg i hi)) (fun k hk => hl k (List.mem_cons_of_mem _ hk)) h1
theorem clL (hN : N ≤ 8) (hg : ∀ i, i < K → IsRow N (gs i)) (h : BI N gs K s) (hc : ∀ i g, ClG N opL gs K s i g) : ∀ (l : List Nat), (∀ i, i ∈ l → i < K) → hasG N s (rkN N (wp gs l)) = true ∧ IsRow N (wp gs l)
  | [], _ => ⟨hasG_iff.mpr ⟨0, h.1, by rw [h.2.1]; rfl⟩, IsRow.id N⟩
  | i :: l, hl => by
    have hi := hl i (List.mem_cons_self ..)
    obtain ⟨h0, hr⟩ := clL hN hg h hc l (fun k hk => hl k (List.mem_cons_of_mem _ hk))
    obtain ⟨j, j1, j2⟩ := hasG_iff.mp h0
    have e := rkN_inj hN (h.2.2.1 j j1).1 hr j2
    have h1 := hc j i j1 hi
    have e2 : rkN N (opL (s.2 j) (gs i)) = rkN N (wp gs (i :: l)) := rk_eq (fun p hp => congrArg (gs i) (e p hp))
    rw [e2] at h1
    exact ⟨h1, (hg i hi).comp hr⟩
/-- the rows found are the words -/
theorem grpR (hN : N ≤ 8) (hg : ∀ i, i < K → IsRow N (gs i)) (h : BI N gs K s) (hc : ∀ i g, ClG N opR gs K s i g) {f : Nat → Nat} (hf : IsRow N f) : hasG N s (rkN N f) = true ↔ InG N K gs f := by
  constructor
  · intro h1
    obtain ⟨j, j1, j2⟩ := hasG_iff.mp h1
    have e := rkN_inj hN (h.2.2.1 j j1).1 hf j2
    exact (h.2.2.1 j j1).2.congr (fun p hp => (e p hp).symm)
  · rintro ⟨l, l1, l2⟩
    have h0 : hasG N s (rkN N (fun p => p)) = true := hasG_iff.mpr ⟨0, h.1, by rw [h.2.1]⟩
    have := clR hN hg h hc l (fun p => p) (IsRow.id N) l1 h0
    rw [rk_eq l2]
    exact this
theorem grpL (hN : N ≤ 8) (hg : ∀ i, i < K → IsRow N (gs i)) (h : BI N gs K s) (hc : ∀ i g, ClG N opL gs K s i g) {f : Nat → Nat} (hf : IsRow N f) : hasG N s (rkN N f) = true ↔ InG N K gs f := by
  constructor
  · intro h1
    obtain ⟨j, j1, j2⟩ := hasG_iff.mp h1
    have e := rkN_inj hN (h.2.2.1 j j1).1 hf j2
    exact (h.2.2.1 j j1).2.congr (fun p hp => (e p hp).symm)
  · rintro ⟨l, l1, l2⟩
    rw [rk_eq l2]
    exact (clL hN hg h hc l l1).1
end BFSP
