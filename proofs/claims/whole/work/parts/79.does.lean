/-! WHAT A NODE DOES in the reference: it lays a change, or undoes it -/
def dsj : List (Nat × Nat) → Prop
  | [] => True
  | t :: l => (∀ s, s ∈ l → s.1 ≠ t.1 ∧ s.1 ≠ t.2 ∧ s.2 ≠ t.1 ∧ s.2 ≠ t.2) ∧ dsj l
theorem sw_com (f : Nat → Nat) {i j a b : Nat} (h1 : a ≠ i) (h2 : a ≠ j) (h3 : b ≠ i) (h4 : b ≠ j) : sw (sw f a b) i j = sw (sw f i j) a b := by
  funext p
  unfold sw
  by_cases e1 : p = i
  · subst e1
    rw [if_pos rfl, if_neg (Ne.symm h2), if_neg (Ne.symm h4), if_neg (Ne.symm h1), if_neg (Ne.symm h3), if_pos rfl]
  · rw [if_neg e1]
    by_cases e2 : p = j
    · subst e2
      rw [if_pos rfl, if_neg (Ne.symm h2), if_neg (Ne.symm h4), if_neg e1, if_pos rfl, if_neg (Ne.symm h1), if_neg (Ne.symm h3)]
    · rw [if_neg e2]
      by_cases e3 : p = a
      · subst e3
        rw [if_pos rfl, if_pos rfl, if_neg h3, if_neg h4]
      · rw [if_neg e3, if_neg e3]
        by_cases e4 : p = b
        · subst e4
          rw [if_pos rfl, if_pos rfl, if_neg h1, if_neg h2]
        · rw [if_neg e4, if_neg e4, if_neg e1, if_neg e2]
theorem apL_sw {i j : Nat} : ∀ (l : List (Nat × Nat)) (f : Nat → Nat), (∀ s, s ∈ l → s.1 ≠ i ∧ s.1 ≠ j ∧ s.2 ≠ i ∧ s.2 ≠ j) → sw (apL f l) i j = apL (sw f i j) l
  | [], _, _ => rfl
  | t :: l, f, h => by
    obtain ⟨h1, h2, h3, h4⟩ := h t (List.mem_cons_self ..)
    show sw (apL (sw f t.1 t.2) l) i j = apL (sw (sw f i j) t.1 t.2) l
    rw [apL_sw l _ (fun s hs => h s (List.mem_cons_of_mem _ hs)), sw_com f h1 h2 h3 h4]
theorem dsj_inv : ∀ (l : List (Nat × Nat)) (f : Nat → Nat), dsj l → apL (apL f l) l = f
  | [], _, _ => rfl
  | t :: l, f, h => by
    show apL (sw (apL (sw f t.1 t.2) l) t.1 t.2) l = f
    rw [apL_sw l _ h.1, sw_sw]
    exact dsj_inv l f h.2
theorem iv_dsj {N : Nat} {l : List (Nat × Nat)} (h : okZ N l) (hd : dsj l) : ∀ p, p < N → iv (apL (fun p => p) l) N p = apL (fun p => p) l p := by
  have hr := apL_row l (IsRow.id N) h
  refine iv_eq hr hr.1 (fun p hp => ?_)
  have e := congrFun (dsj_inv l (fun p => p) hd) p
  rw [apL_id l (apL (fun p => p) l)] at e
  exact e
theorem twL_ge {N : Nat} {st : Nat → Bool} : ∀ k q t, t ∈ twL N st k q → q ≤ t.1 ∧ q ≤ t.2
  | 0, _, _, ht => by cases ht
  | k + 1, q, t, ht => by
    unfold twL at ht
    split at ht
    · split at ht
      · have := twL_ge k (q + 1) t ht; omega
      · rcases List.mem_cons.mp ht with rfl | ht
        · exact ⟨Nat.le_refl q, Nat.le_succ q⟩
        · have := twL_ge k (q + 2) t ht; omega
    · cases ht
theorem twL_dsj {N : Nat} {st : Nat → Bool} : ∀ k q, dsj (twL N st k q)
  | 0, _ => trivial
  | k + 1, q => by
    unfold twL
    split
    · split
      · exact twL_dsj k (q + 1)
      · refine ⟨fun s hs => ?_, twL_dsj k (q + 2)⟩
        have := twL_ge k (q + 2) s hs
        dsimp only
        omega
    · trivial
theorem tnL_in : ∀ m i j t, i + 2 * m ≤ j + 1 → t ∈ tnL i j m → i ≤ t.1 ∧ t.1 ≤ j ∧ i ≤ t.2 ∧ t.2 ≤ j
  | 0, _, _, _, _, ht => by cases ht
  | m + 1, i, j, t, h, ht => by
    rcases List.mem_cons.mp ht with rfl | ht
    · exact ⟨Nat.le_refl i, by dsimp only; omega, by dsimp only; omega, Nat.le_refl j⟩
    · have := tnL_in m (i + 1) (j - 1) t (by omega) ht; omega
theorem tnL_dsj : ∀ m i j, i + 2 * m ≤ j + 1 → dsj (tnL i j m)
  | 0, _, _, _ => trivial
  | m + 1, i, j, h => by
    refine ⟨fun s hs => ?_, tnL_dsj m (i + 1) (j - 1) (by omega)⟩
    have := tnL_in m (i + 1) (j - 1) s (by omega) hs
    dsimp only
    by_cases e : m = 0
    · subst e; cases hs
    · omega
/-- the same nodes, from k up to e -/
def Agr (w v : Wd) (k e : Nat) : Prop := (∀ i, k ≤ i → i < e → gI v 121 i = gI w 121 i ∧ gI v 122 i = gI w 122 i ∧ gI v 123 i = gI w 123 i ∧ gI v 124 i = gI w 124 i) ∧ ∀ i, k < i → i < e → gI v 125 i = gI w 125 i
theorem Agr.refl (w : Wd) (k e : Nat) : Agr w w k e := ⟨fun _ _ _ => ⟨rfl, rfl, rfl, rfl⟩, fun _ _ _ => rfl⟩
theorem Agr.trans {u v w : Wd} {k e : Nat} (h : Agr u v k e) (g : Agr v w k e) : Agr u w k e := by
  refine ⟨fun i h1 h2 => ?_, fun i h1 h2 => (g.2 i h1 h2).trans (h.2 i h1 h2)⟩
  obtain ⟨a1, a2, a3, a4⟩ := h.1 i h1 h2
  obtain ⟨b1, b2, b3, b4⟩ := g.1 i h1 h2
  exact ⟨b1.trans a1, b2.trans a2, b3.trans a3, b4.trans a4⟩
theorem Agr.mono {w v : Wd} {k e k2 e2 : Nat} (h : Agr w v k e) (h1 : k ≤ k2) (h2 : e2 ≤ e) : Agr w v k2 e2 := ⟨fun i a b => h.1 i (by omega) (by omega), fun i a b => h.2 i (by omega) (by omega)⟩
abbrev FN : List (Nat × Option Nat) := [(121, none), (122, none), (123, none), (124, none), (125, none)]
theorem Agr.fr {S : List (Nat × Option Nat)} {w v : Wd} (h : Fr S w v) (hs : dj S FN = true) (k e : Nat) : Agr w v k e := ⟨fun i _ _ => ⟨h.i 121 i (dj_off hs rfl), h.i 122 i (dj_off hs rfl), h.i 123 i (dj_off hs rfl), h.i 124 i (dj_off hs rfl)⟩, fun i _ _ => h.i 125 i (dj_off hs rfl)⟩
def uI (u : Bool) : Int32 := if u = true then 1 else 0
def cu (N : Nat) (c : Nat → Nat) (u : Bool) : Nat → Nat := if u = true then iv c N else c
/-- node k (with its parts, up to e) does the change c -/
def DOES (w : Wd) (N k e : Nat) (c : Nat → Nat) : Prop := k < e ∧ e ≤ 369 ∧ IsRow N c ∧ ∀ v, Fix v → gI v 108 0 = nI N → Agr w v k e → ∀ f, IsRow N f → Lay N v 126 f → ∀ (u : Bool) (d : Nat), 3 * (e - k) + 1 ≤ d → ∃ v', val (202, d, 0, [some (.ref 108), some (.int (nI k)), some (.ref 126), some (.int (uI u)), none, none, none], [], v) = some (none, v') ∧ Fr WK v v' ∧ Lay N v' 126 (fun p => f (cu N c u p))
/-- the parts from node k on, up to e, do the change c, one behind the other -/
def SOME (w : Wd) (N k e : Nat) (c : Nat → Nat) : Prop := k < e ∧ e ≤ 369 ∧ IsRow N c ∧ ∀ v, Fix v → gI v 108 0 = nI N → Agr w v k e → gI v 125 k = gI w 125 k → ∀ f, IsRow N f → Lay N v 126 f → ∀ (u : Bool) (d : Nat), 3 * (e - k) + 2 ≤ d → ∃ v', val (203, d, 0, [some (.ref 108), some (.int (nI k)), some (.ref 126), some (.int (uI u))], [], v) = some (none, v') ∧ Fr WK v v' ∧ Lay N v' 126 (fun p => f (cu N c u p))
theorem DOES.agr {w x : Wd} {N k e : Nat} {c : Nat → Nat} (h : DOES w N k e c) (ha : Agr w x k e) : DOES x N k e c := by
  obtain ⟨h1, h2, h3, h4⟩ := h
  exact ⟨h1, h2, h3, fun v hW hn hv => h4 v hW hn (ha.trans hv)⟩
theorem SOME.agr {w x : Wd} {N k e : Nat} {c : Nat → Nat} (h : SOME w N k e c) (ha : Agr w x k e) (hk : gI x 125 k = gI w 125 k) : SOME x N k e c := by
  obtain ⟨h1, h2, h3, h4⟩ := h
  exact ⟨h1, h2, h3, fun v hW hn hv hvk => h4 v hW hn (ha.trans hv) (hvk.trans hk)⟩
theorem cu_row {N : Nat} {c : Nat → Nat} (h : IsRow N c) (u : Bool) : IsRow N (cu N c u) := by
  unfold cu
  split
  · exact h.iv
  · exact h
theorem Lay.congr {N : Nat} {v : Wd} {a : Nat} {f g : Nat → Nat} (h : Lay N v a f) (e : ∀ p, p < N → f p = g p) : Lay N v a g := fun p hp => (h p hp).trans (by rw [e p hp])
section DOES
variable {N k e : Nat} {w : Wd} {c : Nat → Nat}
theorem lay_l {l : List (Nat × Nat)} {v : Wd} {f : Nat → Nat} (hl : okZ N l) (hd : dsj l) (h : Lay N v 126 (apL f l)) (u : Bool) : Lay N v 126 (fun p => f (cu N (apL (fun p => p) l) u p)) := by
  refine h.congr (fun p hp => ?_)
  rw [apL_id l f]
  unfold cu
  cases u with
  | true => rw [if_pos rfl]; dsimp only; rw [iv_dsj hl hd p hp]
  | false => rw [if_neg (by decide)]
theorem ik {k : Nat} (h : k < 369) : inB (nI k) 369 = true := inB_nI h (by omega)
theorem does_cross (hN : N ≤ 8) (hk : k < 369) (h : gI w 121 k = 0) : DOES w N k (k + 1) (apL (fun p => p) (prL 0 (N / 2))) := by
  have e0 : prL 0 (N / 2) = twL N (hasD 9 0) N 0 := (twL_none (fun p => rfl) N 0 (by omega)).symm
  rw [e0]
  refine ⟨by omega, by omega, apL_row _ (IsRow.id N) (twL_ok _ _), fun v hW hn ha f hf hL u d hd => ?_⟩
  obtain ⟨d, rfl⟩ : ∃ x, d = x + 2 := ⟨d - 2, by omega⟩
  have a1 := (ha.1 k (Nat.le_refl k) (by omega)).1.trans h
  obtain ⟨v', e1, f1, l1⟩ := m_twos hN d (P := 0) (by omega) hW hn hL
  refine ⟨v', (tr_202 d v hW (nI k) 126 (uI u) (by intros; exact ik hk) (by intros; exact ik hk) (by intros; exact ik hk) (by intros; exact ik hk) (by intros; exact ik hk) (by intros; exact ik hk) (by intros; exact ik hk) (by intros; exact ik hk) (by intros; exact ik hk) (by intros; exact ik hk) (by intros; exact ik hk) (by intros; exact ik hk)).trans ?_, f1, lay_l (twL_ok _ _) (twL_dsj _ _) l1 u⟩
  rw [nI_clamp (n := k) (by omega), a1, if_neg (by decide)]
  refine (val_call (pc2 := 19) rfl rfl rfl rfl (hW.rc _) (Nat.le_of_ble_eq_true rfl) (Nat.le_of_ble_eq_true rfl) rfl e1 rfl).trans ?_
  exact (tr_202_19 d v' _ _ _ _).trans (tr_202_226 d v' _ _ _ _)
theorem does_places (hN : N ≤ 8) (hk : k < 369) {P : Nat} (hP : P < 10 ^ 9) (h : gI w 121 k = 1) (h2 : gI w 122 k = nI P) : DOES w N k (k + 1) (apL (fun p => p) (twL N (hasD 9 P) N 0)) := by
  refine ⟨by omega, by omega, apL_row _ (IsRow.id N) (twL_ok _ _), fun v hW hn ha f hf hL u d hd => ?_⟩
  obtain ⟨d, rfl⟩ : ∃ x, d = x + 2 := ⟨d - 2, by omega⟩
  obtain ⟨a1, a2, -, -⟩ := ha.1 k (Nat.le_refl k) (by omega)
  obtain ⟨v', e1, f1, l1⟩ := m_twos hN d hP hW hn hL
  refine ⟨v', (tr_202 d v hW (nI k) 126 (uI u) (by intros; exact ik hk) (by intros; exact ik hk) (by intros; exact ik hk) (by intros; exact ik hk) (by intros; exact ik hk) (by intros; exact ik hk) (by intros; exact ik hk) (by intros; exact ik hk) (by intros; exact ik hk) (by intros; exact ik hk) (by intros; exact ik hk) (by intros; exact ik hk)).trans ?_, f1, lay_l (twL_ok _ _) (twL_dsj _ _) l1 u⟩
  rw [nI_clamp (n := k) (by omega), a1.trans h, if_pos (by decide), if_neg (by decide), a2.trans h2]
  refine (val_call (pc2 := 39) rfl rfl rfl rfl (hW.rc _) (Nat.le_of_ble_eq_true rfl) (Nat.le_of_ble_eq_true rfl) rfl e1 rfl).trans ?_
  exact (tr_202_39 d v' _ _ _ _).trans (tr_202_226 d v' _ _ _ _)
theorem does_jump (hN : N ≤ 8) (hk : k < 369) {i j : Nat} (hi : i < N) (hj : j < N) (h : gI w 121 k = 2) (h2 : gI w 122 k = nI (i + 1)) (h3 : gI w 123 k = nI (j + 1)) : DOES w N k (k + 1) (apL (fun p => p) (jmL i j)) := by
  refine ⟨by omega, by omega, apL_row _ (IsRow.id N) (jmL_ok hi hj), fun v hW hn ha f hf hL u d hd => ?_⟩
  obtain ⟨d, rfl⟩ : ∃ x, d = x + 2 := ⟨d - 2, by omega⟩
  obtain ⟨a1, a2, a3, -⟩ := ha.1 k (Nat.le_refl k) (by omega)
  have e0 := tr_202 d v hW (nI k) 126 (uI u) (by intros; exact ik hk) (by intros; exact ik hk) (by intros; exact ik hk) (by intros; exact ik hk) (by intros; exact ik hk) (by intros; exact ik hk) (by intros; exact ik hk) (by intros; exact ik hk) (by intros; exact ik hk) (by intros; exact ik hk) (by intros; exact ik hk) (by intros; exact ik hk)
  rw [nI_clamp (n := k) (by omega), a1.trans h, if_pos (by decide), if_pos (by decide), if_neg (by decide), a2.trans h2, a3.trans h3] at e0
  cases u with
  | false =>
    obtain ⟨v', e1, f1, l1⟩ := m_jump hN d hW hL hi hj
    rw [if_pos (show uI false = 0 from rfl), if_pos (show uI false = 0 from rfl)] at e0
    refine ⟨v', e0.trans ?_, f1, ?_⟩
    · refine (val_call (pc2 := 91) rfl rfl rfl rfl (hW.rc _) (Nat.le_of_ble_eq_true rfl) (Nat.le_of_ble_eq_true rfl) rfl e1 rfl).trans ?_
      exact (tr_202_91 d v' _ _ _ _).trans (tr_202_226 d v' _ _ _ _)
    · rw [apL_id] at l1
      exact l1
  | true =>
    obtain ⟨v', e1, f1, l1⟩ := m_jump hN d hW hL hj hi
    rw [if_neg (show ¬ uI true = 0 by decide), if_neg (show ¬ uI true = 0 by decide)] at e0
    refine ⟨v', e0.trans ?_, f1, ?_⟩
    · refine (val_call (pc2 := 91) rfl rfl rfl rfl (hW.rc _) (Nat.le_of_ble_eq_true rfl) (Nat.le_of_ble_eq_true rfl) rfl e1 rfl).trans ?_
      exact (tr_202_91 d v' _ _ _ _).trans (tr_202_226 d v' _ _ _ _)
    · refine l1.congr (fun p hp => ?_)
      show apL f (jmL j i) p = f (iv (apL (fun p => p) (jmL i j)) N p)
      rw [iv_apL (jmL_ok hi hj) p hp, jmL_back, apL_id]
theorem does_turn (hN : N ≤ 8) (hk : k < 369) {i j : Nat} (hi : i < N) (hj : j < N) (h : gI w 121 k = 3) (h2 : gI w 122 k = nI (i + 1)) (h3 : gI w 123 k = nI (j + 1)) : DOES w N k (k + 1) (apL (fun p => p) (tnL i j ((j + 1 - i) / 2))) := by
  have hok : okZ N (tnL i j ((j + 1 - i) / 2)) := tnL_ok _ _ _ hi hj (by omega)
  have hds : dsj (tnL i j ((j + 1 - i) / 2)) := by
    by_cases c : i ≤ j
    · exact tnL_dsj _ _ _ (by omega)
    · rw [show (j + 1 - i) / 2 = 0 by omega]; trivial
  refine ⟨by omega, by omega, apL_row _ (IsRow.id N) hok, fun v hW hn ha f hf hL u d hd => ?_⟩
  obtain ⟨d, rfl⟩ : ∃ x, d = x + 2 := ⟨d - 2, by omega⟩
  obtain ⟨a1, a2, a3, -⟩ := ha.1 k (Nat.le_refl k) (by omega)
  have e0 := tr_202 d v hW (nI k) 126 (uI u) (by intros; exact ik hk) (by intros; exact ik hk) (by intros; exact ik hk) (by intros; exact ik hk) (by intros; exact ik hk) (by intros; exact ik hk) (by intros; exact ik hk) (by intros; exact ik hk) (by intros; exact ik hk) (by intros; exact ik hk) (by intros; exact ik hk) (by intros; exact ik hk)
  rw [nI_clamp (n := k) (by omega), a1.trans h, if_pos (by decide), if_pos (by decide), if_pos (by decide), if_neg (by decide), a2.trans h2, a3.trans h3] at e0
  obtain ⟨v', e1, f1, l1⟩ := m_turn hN d (nI k) (uI u) 3 ((j + 1 - i) / 2) i j f v hW hL hj (by omega) (fun h => by omega) (fun h => ⟨by omega, by omega⟩)
  exact ⟨v', e0.trans e1, f1, lay_l hok hds l1 u⟩
theorem does_hold (hN : N ≤ 8) (hk : k < 369) (h : gI w 121 k = 4) : DOES w N k (k + 1) (fun p => p) := by
  refine ⟨by omega, by omega, IsRow.id N, fun v hW hn ha f hf hL u d hd => ?_⟩
  obtain ⟨d, rfl⟩ : ∃ x, d = x + 2 := ⟨d - 2, by omega⟩
  obtain ⟨a1, -, -, -⟩ := ha.1 k (Nat.le_refl k) (by omega)
  have e0 := tr_202 d v hW (nI k) 126 (uI u) (by intros; exact ik hk) (by intros; exact ik hk) (by intros; exact ik hk) (by intros; exact ik hk) (by intros; exact ik hk) (by intros; exact ik hk) (by intros; exact ik hk) (by intros; exact ik hk) (by intros; exact ik hk) (by intros; exact ik hk) (by intros; exact ik hk) (by intros; exact ik hk)
  rw [nI_clamp (n := k) (by omega), a1.trans h, if_pos (by decide), if_pos (by decide), if_pos (by decide), if_pos (by decide), if_pos (by decide), if_pos (by decide), if_pos (by decide)] at e0
  refine ⟨v, e0.trans (tr_202_226 d v _ _ _ _), Fr.refl _ _, hL.congr (fun p hp => ?_)⟩
  unfold cu
  cases u with
  | true => rw [if_pos rfl, iv_eq (IsRow.id N) (g := fun p => p) (fun p hp => hp) (fun p _ => rfl) p hp]
  | false => rw [if_neg (by decide)]
theorem comp_cu {c : Nat → Nat} (hc : IsRow N c) : ∀ u p, p < N → cu N (fun p => c (c p)) u p = cu N c u (cu N c u p) := by
  intro u p hp
  unfold cu
  cases u with
  | false => rw [if_neg (by decide), if_neg (by decide)]
  | true =>
    rw [if_pos rfl, if_pos rfl]
    have hi := hc.iv
    refine iv_eq (g := fun p => iv c N (iv c N p)) (hc.comp hc) (fun q hq => hi.1 _ (hi.1 q hq)) (fun q hq => ?_) p hp
    rw [hc.at_iv (hi.1 q hq), hc.at_iv hq]
theorem iv_iv {c : Nat → Nat} (hc : IsRow N c) : ∀ p, p < N → iv (iv c N) N p = c p :=
  iv_eq hc.iv hc.1 (fun p hp => iv_of hc hp)
theorem does_twice (hN : N ≤ 8) (hk : k < 369) (h : gI w 121 k = 5) (h2 : gI w 124 k = nI (k + 1)) (hD : DOES w N (k + 1) e c) : DOES w N k e (fun p => c (c p)) := by
  obtain ⟨d1, d2, d3, d4⟩ := hD
  refine ⟨by omega, d2, d3.comp d3, fun v hW hn ha f hf hL u d hd => ?_⟩
  obtain ⟨d, rfl⟩ : ∃ x, d = x + 2 := ⟨d - 2, by omega⟩
  obtain ⟨a1, -, -, a4⟩ := ha.1 k (Nat.le_refl k) (by omega)
  have e0 := tr_202 d v hW (nI k) 126 (uI u) (by intros; exact ik hk) (by intros; exact ik hk) (by intros; exact ik hk) (by intros; exact ik hk) (by intros; exact ik hk) (by intros; exact ik hk) (by intros; exact ik hk) (by intros; exact ik hk) (by intros; exact ik hk) (by intros; exact ik hk) (by intros; exact ik hk) (by intros; exact ik hk)
  rw [nI_clamp (n := k) (by omega), a1.trans h, if_pos (by decide), if_pos (by decide), if_pos (by decide), if_pos (by decide), if_neg (by decide), a4.trans h2] at e0
  obtain ⟨v1, e1, f1, l1⟩ := d4 v hW hn (ha.mono (Nat.le_succ k) (Nat.le_refl e)) f hf hL u (d + 1) (by omega)
  have hW1 := f1.fix rfl hW
  have a5 : gI v1 124 k = nI (k + 1) := (f1.i 124 k rfl).trans (a4.trans h2)
  obtain ⟨v2, e2, f2, l2⟩ := d4 v1 hW1 ((f1.i 108 0 rfl).trans hn) ((ha.mono (Nat.le_succ k) (Nat.le_refl e)).trans (Agr.fr f1 rfl _ _)) _ (hf.comp (cu_row d3 u)) l1 u (d + 1) (by omega)
  refine ⟨v2, e0.trans ?_, f1.trans f2, l2.congr (fun p hp => ?_)⟩
  · refine (val_call (pc2 := 162) rfl rfl rfl rfl (hW.rc _) (Nat.le_of_ble_eq_true rfl) (Nat.le_of_ble_eq_true rfl) rfl e1 rfl).trans ?_
    refine (tr_202_162 d v1 hW1 _ _ _ _ (ik hk)).trans ?_
    rw [nI_clamp (n := k) (by omega), a5]
    refine (val_call (pc2 := 174) rfl rfl rfl rfl (hW1.rc _) (Nat.le_of_ble_eq_true rfl) (Nat.le_of_ble_eq_true rfl) rfl e2 rfl).trans ?_
    exact (tr_202_174 d v2 _ _ _ _).trans (tr_202_226 d v2 _ _ _ _)
  · rw [comp_cu d3 u p hp]
theorem does_undo (hN : N ≤ 8) (hk : k < 369) (h : gI w 121 k = 6) (h2 : gI w 124 k = nI (k + 1)) (hD : DOES w N (k + 1) e c) : DOES w N k e (iv c N) := by
  obtain ⟨d1, d2, d3, d4⟩ := hD
  refine ⟨by omega, d2, d3.iv, fun v hW hn ha f hf hL u d hd => ?_⟩
  obtain ⟨d, rfl⟩ : ∃ x, d = x + 2 := ⟨d - 2, by omega⟩
  obtain ⟨a1, -, -, a4⟩ := ha.1 k (Nat.le_refl k) (by omega)
  have e0 := tr_202 d v hW (nI k) 126 (uI u) (by intros; exact ik hk) (by intros; exact ik hk) (by intros; exact ik hk) (by intros; exact ik hk) (by intros; exact ik hk) (by intros; exact ik hk) (by intros; exact ik hk) (by intros; exact ik hk) (by intros; exact ik hk) (by intros; exact ik hk) (by intros; exact ik hk) (by intros; exact ik hk)
  rw [nI_clamp (n := k) (by omega), a1.trans h, if_pos (by decide), if_pos (by decide), if_pos (by decide), if_pos (by decide), if_pos (by decide), if_neg (by decide), a4.trans h2] at e0
  cases u with
  | false =>
    obtain ⟨v1, e1, f1, l1⟩ := d4 v hW hn (ha.mono (Nat.le_succ k) (Nat.le_refl e)) f hf hL true (d + 1) (by omega)
    rw [if_neg (show ¬ ¬ uI false = 0 from fun h => h rfl)] at e0
    refine ⟨v1, e0.trans ?_, f1, l1⟩
    refine (val_call (pc2 := 204) rfl rfl rfl rfl (hW.rc _) (Nat.le_of_ble_eq_true rfl) (Nat.le_of_ble_eq_true rfl) rfl e1 rfl).trans ?_
    exact (tr_202_204 d v1 _ _ _ _).trans (tr_202_226 d v1 _ _ _ _)
  | true =>
    obtain ⟨v1, e1, f1, l1⟩ := d4 v hW hn (ha.mono (Nat.le_succ k) (Nat.le_refl e)) f hf hL false (d + 1) (by omega)
    rw [if_pos (show ¬ uI true = 0 by decide)] at e0
    refine ⟨v1, e0.trans ?_, f1, l1.congr (fun p hp => ?_)⟩
    · refine (val_call (pc2 := 204) rfl rfl rfl rfl (hW.rc _) (Nat.le_of_ble_eq_true rfl) (Nat.le_of_ble_eq_true rfl) rfl e1 rfl).trans ?_
      exact (tr_202_204 d v1 _ _ _ _).trans (tr_202_226 d v1 _ _ _ _)
    · show f (c p) = f (iv (iv c N) N p)
      rw [iv_iv d3 p hp]
theorem does_some (hN : N ≤ 8) (hk : k < 369) (h : gI w 121 k = 7) (h2 : gI w 124 k = nI (k + 1)) (hD : SOME w N (k + 1) e c) : DOES w N k e c := by
  obtain ⟨d1, d2, d3, d4⟩ := hD
  refine ⟨by omega, d2, d3, fun v hW hn ha f hf hL u d hd => ?_⟩
  obtain ⟨d, rfl⟩ : ∃ x, d = x + 2 := ⟨d - 2, by omega⟩
  obtain ⟨a1, -, -, a4⟩ := ha.1 k (Nat.le_refl k) (by omega)
  have e0 := tr_202 d v hW (nI k) 126 (uI u) (by intros; exact ik hk) (by intros; exact ik hk) (by intros; exact ik hk) (by intros; exact ik hk) (by intros; exact ik hk) (by intros; exact ik hk) (by intros; exact ik hk) (by intros; exact ik hk) (by intros; exact ik hk) (by intros; exact ik hk) (by intros; exact ik hk) (by intros; exact ik hk)
  rw [nI_clamp (n := k) (by omega), a1.trans h, if_pos (by decide), if_pos (by decide), if_pos (by decide), if_pos (by decide), if_pos (by decide), if_pos (by decide), if_neg (by decide), a4.trans h2] at e0
  obtain ⟨v1, e1, f1, l1⟩ := d4 v hW hn (ha.mono (Nat.le_succ k) (Nat.le_refl e)) (ha.2 (k + 1) (by omega) d1) f hf hL u (d + 1) (by omega)
  refine ⟨v1, e0.trans ?_, f1, l1⟩
  refine (val_call (pc2 := 226) rfl rfl rfl rfl (hW.rc _) (Nat.le_of_ble_eq_true rfl) (Nat.le_of_ble_eq_true rfl) rfl e1 rfl).trans ?_
  exact tr_202_226 d v1 _ _ _ _
/-- the last part -/
theorem some_last (hD : DOES w N k e c) (h : gI w 125 k = -9) : SOME w N k e c := by
  obtain ⟨d1, d2, d3, d4⟩ := hD
  have hk : k < 369 := by omega
  refine ⟨d1, d2, d3, fun v hW hn ha ha5 f hf hL u d hd => ?_⟩
  obtain ⟨d, rfl⟩ : ∃ x, d = x + 1 := ⟨d - 1, by omega⟩
  obtain ⟨v1, e1, f1, l1⟩ := d4 v hW hn ha f hf hL u d (by omega)
  have hW1 := f1.fix rfl hW
  have hk9 : ¬ nI k = -9 := n9 (by omega)
  have a5 := ha5.trans h
  have b5 : gI v1 125 k = -9 := (f1.i 125 k rfl).trans a5
  have e0 := tr_203 (d + 1) v hW (nI k) 126 (uI u) (by intros; exact ik hk)
  rw [if_pos hk9, nI_clamp (n := k) (by omega), a5] at e0
  have e9 : ∀ x : Wd, Fix x → ∀ y : Int32, val (203, d, 0, [some (.ref 108), some (.int (-9)), some (.ref 126), some (.int y)], [], x) = some (none, x) := fun x hx y => by
    refine (tr_203 d x hx (-9) 126 y (fun h => absurd rfl h)).trans ?_
    rw [if_neg (fun h => h rfl)]
  have e30 := tr_203_30 (d + 1) v1 hW1 (nI k) 126 (uI u) (by intros; exact ik hk)
  rw [nI_clamp (n := k) (by omega), b5] at e30
  refine ⟨v1, e0.trans ?_, f1, l1⟩
  cases u with
  | false =>
    rw [if_pos (show uI false = 0 from rfl)]
    refine (tr_203_23 (d + 1) v _ _ _).trans ?_
    refine (val_call (pc2 := 30) rfl rfl rfl rfl (hW.rc _) (Nat.le_of_ble_eq_true rfl) (Nat.le_of_ble_eq_true rfl) rfl e1 rfl).trans ?_
    refine e30.trans ?_
    rw [if_neg (show ¬ ¬ uI false = 0 from fun h => h rfl)]
    refine (val_call (pc2 := 46) rfl rfl rfl rfl (hW1.rc _) (Nat.le_of_ble_eq_true rfl) (Nat.le_of_ble_eq_true rfl) rfl (e9 v1 hW1 0) rfl).trans ?_
    exact tr_203_46 (d + 1) v1 _ _ _
  | true =>
    rw [if_neg (show ¬ uI true = 0 by decide)]
    refine (val_call (pc2 := 23) rfl rfl rfl rfl (hW.rc _) (Nat.le_of_ble_eq_true rfl) (Nat.le_of_ble_eq_true rfl) rfl (e9 v hW 1) rfl).trans ?_
    refine (tr_203_23 (d + 1) v _ _ _).trans ?_
    refine (val_call (pc2 := 30) rfl rfl rfl rfl (hW.rc _) (Nat.le_of_ble_eq_true rfl) (Nat.le_of_ble_eq_true rfl) rfl e1 rfl).trans ?_
    refine e30.trans ?_
    rw [if_pos (show ¬ uI true = 0 by decide)]
    exact tr_203_46 (d + 1) v1 _ _ _
/-- a part ahead of others -/
theorem some_cons {j : Nat} {g : Nat → Nat} (hD : DOES w N k j c) (hS : SOME w N j e g) (h : gI w 125 k = nI j) : SOME w N k e (fun p => c (g p)) := by
  obtain ⟨d1, d2, d3, d4⟩ := hD
  obtain ⟨s1, s2, s3, s4⟩ := hS
  have hk : k < 369 := by omega
  refine ⟨by omega, s2, d3.comp s3, fun v hW hn ha ha5 f hf hL u d hd => ?_⟩
  obtain ⟨d, rfl⟩ : ∃ x, d = x + 1 := ⟨d - 1, by omega⟩
  have hk9 : ¬ nI k = -9 := n9 (by omega)
  have a5 := ha5.trans h
  have e0 := tr_203 (d + 1) v hW (nI k) 126 (uI u) (by intros; exact ik hk)
  rw [if_pos hk9, nI_clamp (n := k) (by omega), a5] at e0
  have aj : Agr w v k j := ha.mono (Nat.le_refl k) (by omega)
  have ae : Agr w v j e := ha.mono (by omega) (Nat.le_refl e)
  cases u with
  | false =>
    obtain ⟨v1, e1, f1, l1⟩ := d4 v hW hn aj f hf hL false d (by omega)
    have hW1 := f1.fix rfl hW
    have b5 : gI v1 125 k = nI j := (f1.i 125 k rfl).trans a5
    obtain ⟨v2, e2, f2, l2⟩ := s4 v1 hW1 ((f1.i 108 0 rfl).trans hn) (ae.trans (Agr.fr f1 rfl _ _)) ((f1.i 125 j rfl).trans (ha.2 j d1 s1)) _ (hf.comp d3) l1 false d (by omega)
    have e30 := tr_203_30 (d + 1) v1 hW1 (nI k) 126 (uI false) (by intros; exact ik hk)
    rw [nI_clamp (n := k) (by omega), b5] at e30
    refine ⟨v2, e0.trans ?_, f1.trans f2, l2⟩
    rw [if_pos (show uI false = 0 from rfl)]
    refine (tr_203_23 (d + 1) v _ _ _).trans ?_
    refine (val_call (pc2 := 30) rfl rfl rfl rfl (hW.rc _) (Nat.le_of_ble_eq_true rfl) (Nat.le_of_ble_eq_true rfl) rfl e1 rfl).trans ?_
    refine e30.trans ?_
    rw [if_neg (show ¬ ¬ uI false = 0 from fun h => h rfl)]
    refine (val_call (pc2 := 46) rfl rfl rfl rfl (hW1.rc _) (Nat.le_of_ble_eq_true rfl) (Nat.le_of_ble_eq_true rfl) rfl e2 rfl).trans ?_
    exact tr_203_46 (d + 1) v2 _ _ _
  | true =>
    obtain ⟨v1, e1, f1, l1⟩ := s4 v hW hn ae (ha.2 j d1 s1) f hf hL true d (by omega)
    have hW1 := f1.fix rfl hW
    obtain ⟨v2, e2, f2, l2⟩ := d4 v1 hW1 ((f1.i 108 0 rfl).trans hn) (aj.trans (Agr.fr f1 rfl _ _)) _ (hf.comp s3.iv) l1 true d (by omega)
    have hW2 := f2.fix rfl hW1
    have e30 := tr_203_30 (d + 1) v2 hW2 (nI k) 126 (uI true) (by intros; exact ik hk)
    refine ⟨v2, e0.trans ?_, f1.trans f2, l2.congr (fun p hp => ?_)⟩
    · rw [if_neg (show ¬ uI true = 0 by decide)]
      refine (val_call (pc2 := 23) rfl rfl rfl rfl (hW.rc _) (Nat.le_of_ble_eq_true rfl) (Nat.le_of_ble_eq_true rfl) rfl e1 rfl).trans ?_
      refine (tr_203_23 (d + 1) v1 _ _ _).trans ?_
      refine (val_call (pc2 := 30) rfl rfl rfl rfl (hW1.rc _) (Nat.le_of_ble_eq_true rfl) (Nat.le_of_ble_eq_true rfl) rfl e2 rfl).trans ?_
      refine e30.trans ?_
      rw [if_pos (show ¬ uI true = 0 by decide)]
      exact tr_203_46 (d + 1) v2 _ _ _
    · show f (iv g N (iv c N p)) = f (iv (fun p => c (g p)) N p)
      have hi := d3.iv
      rw [iv_eq (g := fun p => iv g N (iv c N p)) (d3.comp s3) (fun q hq => s3.iv.1 _ (hi.1 q hq)) (fun q hq => by
        rw [s3.at_iv (hi.1 q hq), d3.at_iv hq]) p hp]
end DOES
