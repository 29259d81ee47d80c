/-! THE REAL MACHINE BESIDE IT: which values, locals, cells stand for which -/
def mv (ext : Nat → Value) (bs : Nat) : Value → Value
  | .ref a => if a < 64 then ext a else .ref (bs + (a - 64))
  | v => v
def kindOf : FieldType → Nat
  | .long => 1
  | .double => 2
  | .object _ => 3
  | .array _ => 3
  | .boolean => 4
  | _ => 0
def vwTy (c : Nat) : Nat → FieldType := match c with
  | 0 => tyX0
  | 1 => tyX1
  | 2 => tyX2
  | 3 => tyX3
  | 4 => tyX4
  | 5 => tyX6
  | 6 => tyX8
  | 7 => tyX9
  | 8 => tyX10
  | 9 => tyX11
  | _ => tyX12
def fkd (c k : Nat) : Nat := kindOf (vwTy c k)
def nfld (c : Nat) : Nat := match vwCl[c]? with
  | some q => q.2.2
  | none => 0
def rmp (bs : Nat) (r : Option Nat) : Option Nat := match r with
  | some a => some (bs + (a - 64))
  | none => none
def cev (ext : Nat → Value) (bs : Nat) (aC : Nat → ClassId) (w : Wd) (a : Nat) : va_E :=
  if (wK w a).1 < 11 then .inr ((wK w a).1, (List.range (wK w a).2).map (fun k => mv ext bs (fval w a k (fkd (wK w a).1 k))))
  else .inl (aC (wK w a).1, (wK w a).2, if (wK w a).1 < 23 then .inl (gI w a) else if (wK w a).1 = 23 then .inr (.inl (gL w a)) else if (wK w a).1 = 24 then .inr (.inr (.inr (.inl (gD w a)))) else .inr (.inr (.inr (.inr (fun j => rmp bs (gR w a j))))))
def wls (ext : Nat → Value) (bs : Nat) (aC : Nat → ClassId) (w : Wd) : va_W := (List.range (wN w - 64)).map (fun k => (bs + k, cev ext bs aC w (k + 64)))
theorem wls_get {ext : Nat → Value} {bs : Nat} {aC : Nat → ClassId} {w : Wd} {a : Nat} (h1 : 64 ≤ a) (h2 : a < wN w) : (wls ext bs aC w)[a - 64]? = some (bs + (a - 64), cev ext bs aC w a) := by
  unfold wls
  rw [List.getElem?_map, List.getElem?_range (by omega)]
  show some (bs + (a - 64), cev ext bs aC w (a - 64 + 64)) = _
  rw [show a - 64 + 64 = a by omega]
theorem wls_at {ext : Nat → Value} {bs : Nat} {aC : Nat → ClassId} {w : Wd} {k : Nat} {q : Nat × va_E} (h : (wls ext bs aC w)[k]? = some q) : k < wN w - 64 ∧ q.1 = bs + k ∧ q.2 = cev ext bs aC w (k + 64) := by
  have hk : k < (wls ext bs aC w).length := (List.getElem?_eq_some_iff.mp h).1
  have hl : (wls ext bs aC w).length = wN w - 64 := by simp [wls]
  rw [hl] at hk
  have h2 := wls_get (ext := ext) (bs := bs) (aC := aC) (w := w) (a := k + 64) (by omega) (by omega)
  rw [show k + 64 - 64 = k by omega, h] at h2
  have h3 := Option.some.inj h2
  rw [h3]
  exact ⟨hk, rfl, rfl⟩
theorem wls_len (ext : Nat → Value) (bs : Nat) (aC : Nat → ClassId) (w : Wd) : (wls ext bs aC w).length = wN w - 64 := by simp [wls]
theorem wls_D (ext : Nat → Value) (bs : Nat) (aC : Nat → ClassId) (w : Wd) : va_D (fun q => bs ≤ q) (wls ext bs aC w) := by
  refine ⟨fun i j p q hp hq h => ?_, fun k q h => ?_⟩
  · have h1 := wls_at hp
    have h2 := wls_at hq
    omega
  · have h1 := wls_at h
    show bs ≤ q.1
    omega
theorem wls_set {ext : Nat → Value} {bs : Nat} {aC : Nat → ClassId} {w w2 : Wd} {a : Nat} (h1 : 64 ≤ a) (hn : wN w2 = wN w) (hc : ∀ b, 64 ≤ b → b ≠ a → cev ext bs aC w2 b = cev ext bs aC w b) : (wls ext bs aC w).set (a - 64) (bs + (a - 64), cev ext bs aC w2 a) = wls ext bs aC w2 := by
  apply List.ext_getElem?
  intro k
  rw [List.getElem?_set]
  by_cases hk : k < wN w - 64
  · have e2 := wls_get (ext := ext) (bs := bs) (aC := aC) (w := w2) (a := k + 64) (by omega) (by rw [hn]; omega)
    rw [show k + 64 - 64 = k by omega] at e2
    rw [e2, wls_len]
    by_cases hka : a - 64 = k
    · rw [if_pos hka, if_pos (by omega)]
      rw [hka, show a = k + 64 by omega]
    · rw [if_neg hka]
      have e1 := wls_get (ext := ext) (bs := bs) (aC := aC) (w := w) (a := k + 64) (by omega) (by omega)
      rw [show k + 64 - 64 = k by omega] at e1
      rw [e1, hc (k + 64) (by omega) (by omega)]
  · have n1 : (wls ext bs aC w)[k]? = none := List.getElem?_eq_none_iff.mpr (by rw [wls_len]; omega)
    have n2 : (wls ext bs aC w2)[k]? = none := List.getElem?_eq_none_iff.mpr (by rw [wls_len, hn]; omega)
    rw [n1, n2, wls_len]
    by_cases hka : a - 64 = k
    · rw [if_pos hka, if_neg (by omega)]
    · rw [if_neg hka]
theorem wls_push {ext : Nat → Value} {bs : Nat} {aC : Nat → ClassId} {w w2 : Wd} (h0 : 64 ≤ wN w) (hn : wN w2 = wN w + 1) (hc : ∀ b, 64 ≤ b → b < wN w → cev ext bs aC w2 b = cev ext bs aC w b) : wls ext bs aC w2 = wls ext bs aC w ++ [(bs + (wN w - 64), cev ext bs aC w2 (wN w))] := by
  unfold wls
  rw [hn, show wN w + 1 - 64 = (wN w - 64) + 1 by omega, List.range_succ, List.map_append]
  congr 1
  · apply List.map_congr_left
    intro k hk
    rw [hc (k + 64) (by omega) (by have := List.mem_range.mp hk; omega)]
  · show [(bs + (wN w - 64), cev ext bs aC w2 (wN w - 64 + 64))] = _
    rw [show wN w - 64 + 64 = wN w by omega]
/-- the world w stands in the heap H; W0: what lies outside it, never written -/
def HR (ext : Nat → Value) (bs : Nat) (aC : Nat → ClassId) (D : va_G) (W0 : Wd) (w : Wd) (H : Heap) : Prop :=
  (∀ a, (wK w a).1 < 30 → 64 ≤ a ∧ a < wN w) ∧ (∀ a, ((wK w a).1 < 11 → (wK w a).2 = nfld (wK w a).1) ∧ (64 ≤ a → (wK w a).1 < 30 ∨ (wK w a).1 = 99)) ∧ (∀ a, a < 64 → wK w a = wK W0 a ∧ gI w a = gI W0 a ∧ gR w a = gR W0 a) ∧ (∀ a j b, 64 ≤ a → gR w a j = some b → 64 ≤ b) ∧ 64 ≤ wN w ∧ va_P D vwCl (wls ext bs aC w) H
/-- locals -/
def LR (ext : Nat → Value) (bs nL : Nat) (L : List (Option Value)) (ls : Array Slot) : Prop :=
  ls.size = nL ∧ L.length = nL ∧ lv_wf ls ∧ ∀ j u, lg L j = some u → ls[j]? = some (.val (mv ext bs u))
theorem lg_lt {L : List (Option Value)} {j : Nat} {u : Value} (h : lg L j = some u) : j < L.length := by
  induction L generalizing j with
  | nil => cases h
  | cons x r ih =>
    cases j with
    | zero => simp
    | succ j =>
      have h1 := ih (j := j) h
      simp only [List.length_cons]
      omega
theorem lset_len (L : List (Option Value)) (i : Nat) (v : Option Value) : (lset L i v).length = L.length := by
  induction L generalizing i with
  | nil => rfl
  | cons x r ih =>
    cases i with
    | zero => rfl
    | succ i => show (lset r i v).length + 1 = r.length + 1; rw [ih]
theorem lg_lset (L : List (Option Value)) (i j : Nat) (v : Option Value) : lg (lset L i v) j = if j = i then (if i < L.length then v else none) else lg L j := by
  induction L generalizing i j with
  | nil =>
    show none = if j = i then (if i < 0 then v else none) else none
    simp
  | cons x r ih =>
    cases i with
    | zero =>
      cases j with
      | zero => simp [lset, lg]
      | succ j => simp [lset, lg]
    | succ i =>
      cases j with
      | zero => simp [lset, lg]
      | succ j =>
        show lg (lset r i v) j = _
        rw [ih]
        simp [lg]
theorem lkill_len (L : List (Option Value)) (i : Nat) : (lkill L i).length = L.length := by
  unfold lkill
  split
  · rfl
  · split <;> first | rfl | exact lset_len _ _ _
theorem lg_lkill {L : List (Option Value)} {i j : Nat} {u : Value} (h : lg (lkill L i) j = some u) : lg L j = some u ∧ ¬ (j + 1 = i ∧ u.category = 2) := by
  unfold lkill at h
  split at h
  · exact ⟨h, by omega⟩
  · rename_i k
    split at h
    · rw [lg_lset] at h
      split at h
      · split at h <;> cases h
      · rename_i hne
        exact ⟨h, by omega⟩
    · rw [lg_lset] at h
      split at h
      · split at h <;> cases h
      · rename_i hne
        exact ⟨h, by omega⟩
    · rename_i h1 h2
      refine ⟨h, fun hc => ?_⟩
      have e : j = k := by omega
      subst e
      cases u with
      | long x => exact h1 x h
      | double x => exact h2 x h
      | _ => exact absurd hc.2 (by simp [Value.category])
theorem st1_len (L : List (Option Value)) (i : Nat) (v : Value) : (st1 L i v).length = L.length := by
  unfold st1
  rw [lset_len, lkill_len]
theorem st2_len (L : List (Option Value)) (i : Nat) (v : Value) : (st2 L i v).length = L.length := by
  unfold st2
  rw [lset_len, lset_len, lkill_len]
/-- the locals' values as the rows have them -/
def lvl (ext : Nat → Value) (bs : Nat) (L : List (Option Value)) : List (Nat × Value) := (List.range L.length).filterMap (fun j => match lg L j with
  | some u => some (j, mv ext bs u)
  | none => none)
theorem lvl_mem {ext : Nat → Value} {bs : Nat} {L : List (Option Value)} {q : Nat × Value} : q ∈ lvl ext bs L ↔ ∃ u, lg L q.1 = some u ∧ q.2 = mv ext bs u := by
  unfold lvl
  rw [List.mem_filterMap]
  constructor
  · rintro ⟨j, -, h⟩
    cases hl : lg L j with
    | none => rw [hl] at h; cases h
    | some u =>
      rw [hl] at h
      cases h
      exact ⟨u, hl, rfl⟩
  · rintro ⟨u, h1, h2⟩
    refine ⟨q.1, List.mem_range.mpr (lg_lt h1), ?_⟩
    rw [h1]
    show some (q.1, mv ext bs u) = some q
    rw [← h2]
theorem LR.has {ext : Nat → Value} {bs nL : Nat} {L : List (Option Value)} {ls : Array Slot} (h : LR ext bs nL L ls) : lv_has ls nL (lvl ext bs L) := by
  refine ⟨h.1, h.2.2.1, fun q hq => ?_⟩
  obtain ⟨u, h1, h2⟩ := lvl_mem.mp hq
  rw [h2]
  exact h.2.2.2 _ _ h1
theorem mv_cat (ext : Nat → Value) (bs : Nat) (v : Value) (he : ∀ a, (ext a).category = 1) : (mv ext bs v).category = v.category := by
  cases v with
  | ref a =>
    show (if a < 64 then ext a else .ref (bs + (a - 64))).category = 1
    split
    · exact he a
    · rfl
  | _ => rfl
theorem LR_st1 {ext : Nat → Value} {bs nL : Nat} {L : List (Option Value)} {ls ls2 : Array Slot} {i : Nat} {v : Value} (he : ∀ a, (ext a).category = 1) (h : LR ext bs nL L ls) (hi : i < L.length) (h2 : lv_has ls2 nL ((i, mv ext bs v) :: (lvl ext bs L).filter (fun q => !(q.1 == i) && !(q.1 + 1 == i && q.2.category == 2)))) : LR ext bs nL (st1 L i v) ls2 := by
  refine ⟨h2.1, by rw [st1_len]; exact h.2.1, h2.2.1, fun j u hu => ?_⟩
  unfold st1 at hu
  rw [lg_lset] at hu
  split at hu
  · rename_i e
    subst e
    rw [lkill_len, if_pos hi] at hu
    cases hu
    exact h2.2.2 (j, mv ext bs v) List.mem_cons_self
  · rename_i hne
    obtain ⟨h3, h4⟩ := lg_lkill hu
    refine h2.2.2 (j, mv ext bs u) (List.mem_cons_of_mem _ (List.mem_filter.mpr ⟨lvl_mem.mpr ⟨u, h3, rfl⟩, ?_⟩))
    rw [mv_cat _ _ _ he]
    by_cases hc : u.category = 2
    · have h5 : ¬ j + 1 = i := fun e => h4 ⟨e, hc⟩
      simp [hne, h5]
    · simp [hne, hc]
theorem LR_st2 {ext : Nat → Value} {bs nL : Nat} {L : List (Option Value)} {ls ls2 : Array Slot} {i : Nat} {v : Value} (he : ∀ a, (ext a).category = 1) (h : LR ext bs nL L ls) (hi : i + 1 < L.length) (h2 : lv_has ls2 nL ((i, mv ext bs v) :: (lvl ext bs L).filter (fun q => !(q.1 == i) && (!(q.1 == i + 1) && !(q.1 + 1 == i && q.2.category == 2))))) : LR ext bs nL (st2 L i v) ls2 := by
  refine ⟨h2.1, by rw [st2_len]; exact h.2.1, h2.2.1, fun j u hu => ?_⟩
  unfold st2 at hu
  rw [lg_lset] at hu
  split at hu
  · split at hu <;> cases hu
  rename_i hne1
  rw [lg_lset] at hu
  split at hu
  · rename_i e
    subst e
    rw [lkill_len, if_pos (by omega)] at hu
    cases hu
    exact h2.2.2 (j, mv ext bs v) List.mem_cons_self
  · rename_i hne
    obtain ⟨h3, h4⟩ := lg_lkill hu
    refine h2.2.2 (j, mv ext bs u) (List.mem_cons_of_mem _ (List.mem_filter.mpr ⟨lvl_mem.mpr ⟨u, h3, rfl⟩, ?_⟩))
    rw [mv_cat _ _ _ he]
    by_cases hc : u.category = 2
    · have h5 : ¬ j + 1 = i := fun e => h4 ⟨e, hc⟩
      simp [hne, hne1, h5]
    · simp [hne, hne1, hc]
