/-! new objects and arrays, under the real machine -/
section NEW
variable {p : Program} {l : Launch} {e : Env} {R : Room} {s : State} {m : MethodId} {args : Array Value} {below : List Frame} {meth : Method} {c : Code} {H : Heap} {locs : List Loc} {cells slots : Nat} {Q : State → Prop}
variable {cc : ByteArray} {pc : Nat} {ls : Array Slot} {ext : Nat → Value} {bs nL : Nat} {W0 w : Wd} {rest : List Value} {D : va_G} {aC : Nat → ClassId} {own : String}
theorem W_size {g : JFrame} (k : H.size ≤ s.heap.size + cells → W p l e R s m args below meth c H locs cells slots Q g) : W p l e R s m args below meth c H locs cells slots Q g := fun T hT X => k (by rw [← hT]; exact X.heapSize) T hT X
theorem HR_sz {H : Heap} (hR : HR ext bs aC D W0 w H) (hb : bs ≤ H.size) : bs + (wN w - 64) ≤ H.size := by
  by_cases h0 : wN w - 64 = 0
  · omega
  · have h1 := wls_get (ext := ext) (bs := bs) (aC := aC) (w := w) (a := wN w - 1) (by omega) (by omega)
    have h2 := (HR_P hR _ _ h1).lt
    have h3 : bs + (wN w - 1 - 64) < H.size := h2
    omega
theorem u1_ne {α : Type} {g : Nat → α} {a b : Nat} {v : α} (h : ¬ b = a) : u1 g a v b = g b := by
  unfold u1
  rw [if_neg h]
theorem u1_at {α : Type} {g : Nat → α} {a : Nat} {v : α} : u1 g a v a = v := by
  unfold u1
  rw [if_pos rfl]
theorem HR_push {H H1 : Heap} {t n : Nat} (hR : HR ext bs aC D W0 w H) (ht : t < 30) (hn : t < 11 → n = nfld t) (hP : va_P D vwCl (wls ext bs aC w ++ [(bs + (wN w - 64), cev ext bs aC (nw w t n) (wN w))]) H1) : HR ext bs aC D W0 (nw w t n) H1 := by
  have h64 := hR.2.2.2.2.1
  rw [← wls_push (w2 := nw w t n) h64 rfl (fun b _ h => cev_eq (u1_ne (by omega)) (u1_ne (by omega)) (u1_ne (by omega)) (u1_ne (by omega)) (u1_ne (by omega)))] at hP
  refine ⟨fun b h => ?_, fun b => ?_, fun b h => ?_, fun b j x h1 h2 => ?_, by show 64 ≤ wN w + 1; omega, hP⟩
  · by_cases hb : b = wN w
    · subst hb
      exact ⟨h64, Nat.lt_succ_self _⟩
    · have h2 : wK (nw w t n) b = wK w b := u1_ne hb
      rw [h2] at h
      have h3 := hR.1 b h
      exact ⟨h3.1, Nat.lt_succ_of_lt h3.2⟩
  · by_cases hb : b = wN w
    · subst hb
      have h2 : wK (nw w t n) (wN w) = (t, n) := u1_at
      rw [h2]
      exact ⟨hn, fun _ => Or.inl ht⟩
    · have h2 : wK (nw w t n) b = wK w b := u1_ne hb
      rw [h2]
      exact hR.2.1 b
  · have hne : ¬ b = wN w := by omega
    rw [show wK (nw w t n) b = wK w b from u1_ne hne, show gI (nw w t n) b = gI w b from u1_ne hne, show gR (nw w t n) b = gR w b from u1_ne hne]
    exact hR.2.2.1 b h
  · by_cases hb : b = wN w
    · subst hb
      rw [show gR (nw w t n) (wN w) = fun _ => none from u1_at] at h2
      cases h2
    · rw [show gR (nw w t n) b = gR w b from u1_ne hb] at h2
      exact hR.2.2.2.1 b j x h1 h2
theorem addr_new {H1 : Heap} {q : Nat} {en : va_E} (hP : va_P D vwCl (wls ext bs aC w ++ [(q, en)]) H1) (hD : va_D (fun q => bs ≤ q) (wls ext bs aC w ++ [(q, en)])) (hz : H1.size ≤ bs + (wN w - 64) + 1) : q = bs + (wN w - 64) := by
  have hq : (wls ext bs aC w ++ [(q, en)])[wN w - 64]? = some (q, en) := by
    rw [List.getElem?_append_right (by rw [wls_len]; exact Nat.le_refl _), wls_len, Nat.sub_self]
    rfl
  have h1 : q < H1.size := (hP _ _ hq).lt
  have h2 : bs ≤ q := hD.2 _ _ hq
  rcases Nat.lt_or_ge q (bs + (wN w - 64)) with h | h
  · have h3 := wls_get (ext := ext) (bs := bs) (aC := aC) (w := w) (a := q - bs + 64) (by omega) (by omega)
    rw [show q - bs + 64 - 64 = q - bs by omega] at h3
    have h4 : (wls ext bs aC w ++ [(q, en)])[q - bs]? = some (bs + (q - bs), cev ext bs aC w (q - bs + 64)) := by
      rw [List.getElem?_append_left (by rw [wls_len]; omega)]
      exact h3
    have h5 := hD.1 _ _ _ _ h4 hq (by show bs + (q - bs) = q; omega)
    omega
  · omega
theorem cA_eq {cA cB : ClassId} {ty : FieldType} (h1 : va_RA s cA ty) (h2 : va_RA s cB ty) : cA = cB := by
  cases ty with
  | object C =>
    obtain ⟨_, _, _, _, _, h3⟩ := h1
    obtain ⟨_, _, _, _, _, h4⟩ := h2
    exact Option.some.inj (h3.symm.trans h4)
  | _ => exact Option.some.inj (Eq.trans (Eq.symm h1) h2)
theorem mv_dfl (t : FieldType) (w2 : Wd) (a k : Nat) (hI : gI w2 a = fun _ => 0) (hL : gL w2 a = fun _ => 0) (hD : gD w2 a = fun _ => 0) (hR : gR w2 a = fun _ => none) (ht : kindOf t = 0 → t = .int) : defaultValue t = mv ext bs (fval w2 a k (kindOf t)) := by
  cases t with
  | int => show _ = Value.int (gI w2 a k); rw [hI]; rfl
  | long => show _ = Value.long (gL w2 a k); rw [hL]; rfl
  | double => show _ = Value.double (gD w2 a k); rw [hD]; rfl
  | boolean => show _ = Value.int (gI w2 a k); rw [hI]; rfl
  | object n => show _ = mv ext bs (va_rf (gR w2 a k)); rw [hR]; rfl
  | array n => show _ = mv ext bs (va_rf (gR w2 a k)); rw [hR]; rfl
  | _ => exact absurd (ht rfl) (by decide)
theorem ty_int (ci : Nat) (q : vw_C) (h : vwCl[ci]? = some q) : ∀ k, k < q.2.2 → kindOf (vwTy ci k) = 0 → vwTy ci k = .int := by
  match ci with
  | 0 => cases (show some _ = some q from h); exact (by decide +kernel : ∀ k, k < 11 → kindOf (vwTy 0 k) = 0 → vwTy 0 k = .int)
  | 1 => cases (show some _ = some q from h); exact (by decide +kernel : ∀ k, k < 6 → kindOf (vwTy 1 k) = 0 → vwTy 1 k = .int)
  | 2 => cases (show some _ = some q from h); exact (by decide +kernel : ∀ k, k < 4 → kindOf (vwTy 2 k) = 0 → vwTy 2 k = .int)
  | 3 => cases (show some _ = some q from h); exact (by decide +kernel : ∀ k, k < 3 → kindOf (vwTy 3 k) = 0 → vwTy 3 k = .int)
  | 4 => cases (show some _ = some q from h); exact (by decide +kernel : ∀ k, k < 8 → kindOf (vwTy 4 k) = 0 → vwTy 4 k = .int)
  | 5 => cases (show some _ = some q from h); exact (by decide +kernel : ∀ k, k < 11 → kindOf (vwTy 5 k) = 0 → vwTy 5 k = .int)
  | 6 => cases (show some _ = some q from h); exact (by decide +kernel : ∀ k, k < 6 → kindOf (vwTy 6 k) = 0 → vwTy 6 k = .int)
  | 7 => cases (show some _ = some q from h); exact (by decide +kernel : ∀ k, k < 13 → kindOf (vwTy 7 k) = 0 → vwTy 7 k = .int)
  | 8 => cases (show some _ = some q from h); exact (by decide +kernel : ∀ k, k < 3 → kindOf (vwTy 8 k) = 0 → vwTy 8 k = .int)
  | 9 => cases (show some _ = some q from h); exact (by decide +kernel : ∀ k, k < 11 → kindOf (vwTy 9 k) = 0 → vwTy 9 k = .int)
  | 10 => cases (show some _ = some q from h); exact (by decide +kernel : ∀ k, k < 68 → kindOf (vwTy 10 k) = 0 → vwTy 10 k = .int)
  | n + 11 => simp [vwCl] at h
theorem cev_new {t n : Nat} (ht : t < 11) : cev ext bs aC (nw w t n) (wN w) = .inr (t, (List.range n).map (fun k => mv ext bs (fval (nw w t n) (wN w) k (fkd t k)))) := by
  have h2 : wK (nw w t n) (wN w) = (t, n) := u1_at
  unfold cev
  rw [h2]
  rw [if_pos ht]
theorem ok_new (hx : p.tables.exec = Jvm.exec) (hb : c.code = cc) (hE : EXs ext bs W0 s) (hown : s.vm.findClass own = some m.cls) (hts : ∀ w ∈ lwT, w.before args s = true) (hK : va_K D vwCl (tyL aC) s) (hS : va_S (fun q => bs ≤ q) s.heap H locs) (hR : HR ext bs aC D W0 w H) (hz : s.heap.size + cells = bs + (wN w - 64)) (hbs : bs ≤ s.heap.size) {idx ci nf j k3 k4 : Nat} {q : vw_C} (hq : vwCl[ci]? = some q) (hnf : nf = q.2.2) (h1 : Cond.classLink own idx q.1 ∈ lwT) (h2 : Cond.instantiable q.1 q.2.2 ∈ lwT) (h3 : Cond.initialized q.1 ∈ lwT) (hcells : cells + 1 ≤ R.cells) (hslots : slots + nf ≤ R.slots) (hdg : decode cc pc = .ok (.new idx, 3))
    (kk : ∀ (H2 : Heap) (locs2 : List Loc), HR ext bs aC D W0 (nw w ci nf) H2 → va_S (fun q => bs ≤ q) s.heap H2 locs2 → W p l e R s m args below meth c H2 locs2 (cells + 1) (slots + nf) Q (F0 m (pc + 3) ls (.ref (bs + (wN w - 64)) :: rest))) : W p l e R s m args below meth c H locs (cells) (slots) Q (F0 m pc ls rest) := by
  subst hnf
  have hci := cls_lt hq
  obtain ⟨c1, c2, c3⟩ := cls_ok ci q hq
  refine va_new (D := D) (cl := vwCl) (C := q.1) (T := q.2.1) (N := q.2.2) (ci := ci) (fs := (List.range q.2.2).map (fun k => mv ext bs (fval (nw w ci q.2.2) (wN w) k (fkd ci k)))) hx hb hts c1 (vwTy ci) c2 hown (hts _ h1) (hts _ h2) (hts _ h3) hK (HR_P hR) (wls_D ext bs aC w) hS (fun q h => Nat.le_trans hbs h) hq (fun j hj => ?_) hcells hslots hdg (fun a H1 hP hD hS1 => ?_)
  · show _ = ((List.range q.2.2).map (fun k => mv ext bs (fval (nw w ci q.2.2) (wN w) k (fkd ci k)))).getD j .null
    rw [List.getD_eq_getElem?_getD, map_rg hj]
    exact mv_dfl (vwTy ci j) _ _ _ u1_at u1_at u1_at u1_at (ty_int ci q hq j hj)
  · refine W_size (fun hz1 => ?_)
    have ha := addr_new hP hD (by omega)
    subst ha
    refine kk H1 locs (HR_push hR (by omega) (fun _ => (nf_of hq).symm) ?_) hS1
    rw [cev_new hci]
    exact hP
theorem newarr (hx : p.tables.exec = Jvm.exec) (hb : c.code = cc) (hts : ∀ w ∈ lwT, w.before args s = true) (hK : va_K D vwCl (tyL aC) s) (hS : va_S (fun q => bs ≤ q) s.heap H locs) (hR : HR ext bs aC D W0 w H) (hz : s.heap.size + cells = bs + (wN w - 64)) (hbs : bs ≤ s.heap.size) {at1 : ArrayType} {t t0 : Nat} (ht : t < 30) (ht2 : 20 ≤ t) (htl : (tyL aC)[t0]? = some (aC t, newarray.typeOf at1)) {k : Int32} (hk : ¬ k < 0) (hk2 : k.toNatClampNeg ≤ 65536) (hcb : componentBytes (newarray.typeOf at1) ≤ 8) {a0 : vp_A} (ha : ∀ cA : ClassId, vp_cell cA a0 = arrV cA k.toNatClampNeg (fun _ => defaultValue (newarray.typeOf at1))) (hce : cev ext bs aC (nw w t k.toNatClampNeg) (wN w) = .inl (aC t, a0)) (h1 : Cond.arrayClass (newarray.typeOf at1) ∈ lwT) (hcells : cells + 1 ≤ R.cells) (hslots : slots + k.toNatClampNeg ≤ R.slots) (hdg : decode cc pc = .ok (.newarray at1, 2))
    (kk : ∀ (H2 : Heap) (locs2 : List Loc), HR ext bs aC D W0 (nw w t k.toNatClampNeg) H2 → va_S (fun q => bs ≤ q) s.heap H2 locs2 → W p l e R s m args below meth c H2 locs2 (cells + 1) (slots + k.toNatClampNeg) Q (F0 m (pc + 2) ls (.ref (bs + (wN w - 64)) :: rest))) : W p l e R s m args below meth c H locs (cells) (slots) Q (F0 m pc ls (.int k :: rest)) := by
  refine va_newa (D := D) (cl := vwCl) hx hb (hts _ h1) rfl hK (HR_P hR) (wls_D ext bs aC w) hS (fun q h => Nat.le_trans hbs h) ha hk rfl (by have := Nat.mul_le_mul hk2 hcb; omega) hcells hslots hdg (fun q cA H1 hK2 hP hD hS1 => ?_)
  have e1 : cA = aC t := by
    have h3 := (hK2.2 8 (cA, newarray.typeOf at1) rfl).2
    exact cA_eq h3 (hK.2 t0 _ htl).2
  subst e1
  refine W_size (fun hz1 => ?_)
  have ha := addr_new hP hD (by omega)
  subst ha
  refine kk H1 locs (HR_push hR ht (fun h => by omega) ?_) hS1
  rw [hce]
  exact hP
theorem nwK {t n : Nat} : wK (nw w t n) (wN w) = (t, n) := u1_at
theorem cev_newI {t n : Nat} (h1 : 20 ≤ t) (h2 : t < 23) : cev ext bs aC (nw w t n) (wN w) = .inl (aC t, n, .inl (fun _ => 0)) := by
  have := cev_I (ext := ext) (bs := bs) (aC := aC) (w := nw w t n) (a := wN w) (t := t) (by rw [nwK]) h1 h2
  rw [this, nwK]
  rw [show gI (nw w t n) (wN w) = fun _ => 0 from u1_at]
theorem cev_newL {n : Nat} : cev ext bs aC (nw w 23 n) (wN w) = .inl (aC 23, n, .inr (.inl (fun _ => 0))) := by
  have := cev_L (ext := ext) (bs := bs) (aC := aC) (w := nw w 23 n) (a := wN w) (by rw [nwK])
  rw [this, nwK]
  rw [show gL (nw w 23 n) (wN w) = fun _ => 0 from u1_at]
theorem cev_newD {n : Nat} : cev ext bs aC (nw w 24 n) (wN w) = .inl (aC 24, n, .inr (.inr (.inr (.inl (fun _ => 0))))) := by
  have := cev_D (ext := ext) (bs := bs) (aC := aC) (w := nw w 24 n) (a := wN w) (by rw [nwK])
  rw [this, nwK]
  rw [show gD (nw w 24 n) (wN w) = fun _ => 0 from u1_at]
theorem cev_newR {t n : Nat} (h : 25 ≤ t) : cev ext bs aC (nw w t n) (wN w) = .inl (aC t, n, .inr (.inr (.inr (.inr (fun _ => none))))) := by
  have := cev_R (ext := ext) (bs := bs) (aC := aC) (w := nw w t n) (a := wN w) (t := t) (by rw [nwK]) h
  rw [this, nwK]
  rw [show gR (nw w t n) (wN w) = fun _ => none from u1_at]
  rfl
theorem ok_newarray (hx : p.tables.exec = Jvm.exec) (hb : c.code = cc) (hE : EXs ext bs W0 s) (hown : s.vm.findClass own = some m.cls) (hts : ∀ w ∈ lwT, w.before args s = true) (hK : va_K D vwCl (tyL aC) s) (hS : va_S (fun q => bs ≤ q) s.heap H locs) (hR : HR ext bs aC D W0 w H) (hz : s.heap.size + cells = bs + (wN w - 64)) (hbs : bs ≤ s.heap.size) {at1 : ArrayType} {t : Nat} (hat : okAt at1 t = true) {k : Int32} (hk : ¬ k < 0) (hk2 : k.toNatClampNeg ≤ 65536) (h1 : Cond.arrayClass (newarray.typeOf at1) ∈ lwT) (hcells : cells + 1 ≤ R.cells) (hslots : slots + k.toNatClampNeg ≤ R.slots) (hdg : decode cc pc = .ok (.newarray at1, 2))
    (kk : ∀ (H2 : Heap) (locs2 : List Loc), HR ext bs aC D W0 (nw w t k.toNatClampNeg) H2 → va_S (fun q => bs ≤ q) s.heap H2 locs2 → W p l e R s m args below meth c H2 locs2 (cells + 1) (slots + k.toNatClampNeg) Q (F0 m (pc + 2) ls (.ref (bs + (wN w - 64)) :: rest))) : W p l e R s m args below meth c H locs (cells) (slots) Q (F0 m pc ls (.int k :: rest)) := by
  unfold okAt at hat
  split at hat
  · have e := beq_iff_eq.mp hat
    subst e
    exact newarr hx hb hts hK hS hR hz hbs (t0 := 0) (by omega) (by omega) rfl hk hk2 (by decide) (a0 := (_, .inl (fun _ => 0))) (fun _ => vp_cell_i _ _ _) (cev_newI (by omega) (by omega)) h1 hcells hslots hdg kk
  · have e := beq_iff_eq.mp hat
    subst e
    exact newarr hx hb hts hK hS hR hz hbs (t0 := 1) (by omega) (by omega) rfl hk hk2 (by decide) (a0 := (_, .inl (fun _ => 0))) (fun _ => vp_cell_i _ _ _) (cev_newI (by omega) (by omega)) h1 hcells hslots hdg kk
  · have e := beq_iff_eq.mp hat
    subst e
    exact newarr hx hb hts hK hS hR hz hbs (t0 := 2) (by omega) (by omega) rfl hk hk2 (by decide) (a0 := (_, .inl (fun _ => 0))) (fun _ => vp_cell_i _ _ _) (cev_newI (by omega) (by omega)) h1 hcells hslots hdg kk
  · have e := beq_iff_eq.mp hat
    subst e
    exact newarr hx hb hts hK hS hR hz hbs (t0 := 3) (by omega) (by omega) rfl hk hk2 (by decide) (a0 := (_, .inr (.inl (fun _ => 0)))) (fun _ => vp_cell_l _ _ _) cev_newL h1 hcells hslots hdg kk
  · have e := beq_iff_eq.mp hat
    subst e
    exact newarr hx hb hts hK hS hR hz hbs (t0 := 4) (by omega) (by omega) rfl hk hk2 (by decide) (a0 := (_, .inr (.inr (.inr (.inl (fun _ => 0)))))) (fun _ => vp_cell_d _ _ _) cev_newD h1 hcells hslots hdg kk
  · cases hat
theorem ok_anew (hx : p.tables.exec = Jvm.exec) (hb : c.code = cc) (hE : EXs ext bs W0 s) (hown : s.vm.findClass own = some m.cls) (hts : ∀ w ∈ lwT, w.before args s = true) (hK : va_K D vwCl (tyL aC) s) (hS : va_S (fun q => bs ≤ q) s.heap H locs) (hR : HR ext bs aC D W0 w H) (hz : s.heap.size + cells = bs + (wN w - 64)) (hbs : bs ≤ s.heap.size) {idx t t0 : Nat} {C : String} (ht : 25 ≤ t) (ht3 : t < 30) (htl : (tyL aC)[t0]? = some (aC t, .object C)) {k : Int32} (hk : ¬ k < 0) (hk2 : k.toNatClampNeg ≤ 65536) (h1 : Cond.classLink own idx C ∈ lwT) (h2 : Cond.arrayOver (.object C) ∈ lwT) (hcells : cells + 1 ≤ R.cells) (hslots : slots + k.toNatClampNeg ≤ R.slots) (hdg : decode cc pc = .ok (.anewarray idx, 3))
    (kk : ∀ (H2 : Heap) (locs2 : List Loc), HR ext bs aC D W0 (nw w t k.toNatClampNeg) H2 → va_S (fun q => bs ≤ q) s.heap H2 locs2 → W p l e R s m args below meth c H2 locs2 (cells + 1) (slots + k.toNatClampNeg) Q (F0 m (pc + 3) ls (.ref (bs + (wN w - 64)) :: rest))) : W p l e R s m args below meth c H locs (cells) (slots) Q (F0 m pc ls (.int k :: rest)) := by
  refine va_newq (D := D) (cl := vwCl) hx hb hown (hts _ h1) (va_AO.of (hts _ h2)) hK (HR_P hR) (wls_D ext bs aC w) hS (fun q h => Nat.le_trans hbs h) hk rfl (by omega) hcells hslots hdg (fun q cA H1 hK2 hP hD hS1 => ?_)
  have e1 : cA = aC t := by
    have h3 := (hK2.2 8 (cA, .object C) rfl).2
    exact cA_eq h3 (hK.2 t0 _ htl).2
  subst e1
  refine W_size (fun hz1 => ?_)
  have ha := addr_new hP hD (by omega)
  subst ha
  refine kk H1 locs (HR_push hR (by omega) (fun h => by omega) ?_) hS1
  rw [cev_newR ht]
  exact hP
theorem nwm_c {n k b : Nat} (h : b < wN w) : cev ext bs aC (nwm w n k) b = cev ext bs aC w b := cev_eq (if_pos h) (if_pos h) (if_pos h) (if_pos h) (if_pos h)
theorem nwm_K0 {n k : Nat} : wK (nwm w n k) (wN w) = (27, n) := by
  show (if wN w < wN w then wK w (wN w) else if wN w = wN w then (27, n) else _) = _
  rw [if_neg (Nat.lt_irrefl _), if_pos rfl]
theorem nwm_K1 {n k j : Nat} (h : j < n) : wK (nwm w n k) (wN w + 1 + j) = (23, k) := by
  show (if wN w + 1 + j < wN w then wK w (wN w + 1 + j) else if wN w + 1 + j = wN w then (27, n) else if wN w + 1 + j < wN w + 1 + n then (23, k) else _) = _
  rw [if_neg (by omega), if_neg (by omega), if_pos (by omega)]
theorem nwm_K2 {n k b : Nat} (h : wN w + 1 + n ≤ b) : wK (nwm w n k) b = wK w b := by
  show (if b < wN w then wK w b else if b = wN w then (27, n) else if b < wN w + 1 + n then (23, k) else wK w b) = _
  rw [if_neg (by omega), if_neg (by omega), if_neg (by omega)]
theorem nwm_R0 {n k : Nat} : gR (nwm w n k) (wN w) = fun j => if j < n then some (wN w + 1 + j) else none := by
  show (if wN w < wN w then gR w (wN w) else if wN w = wN w then _ else _) = _
  rw [if_neg (Nat.lt_irrefl _), if_pos rfl]
theorem nwm_c0 {n k : Nat} (h64 : 64 ≤ wN w) : cev ext bs aC (nwm w n k) (wN w) = .inl (aC 27, n, .inr (.inr (.inr (.inr (fun i => if i < n then some (bs + (wN w - 64) + 1 + i) else none))))) := by
  rw [cev_R (t := 27) (by rw [nwm_K0]) (by omega), nwm_K0, nwm_R0]
  have e9 : (fun j => rmp bs ((fun j => if j < n then some (wN w + 1 + j) else none) j)) = (fun i => if i < n then some (bs + (wN w - 64) + 1 + i) else none) := by
    funext j
    show rmp bs (if j < n then some (wN w + 1 + j) else none) = _
    split
    · show some _ = some _
      congr 1
      omega
    · rfl
  rw [e9]
theorem nwm_c1 {n k j : Nat} (h : j < n) : cev ext bs aC (nwm w n k) (wN w + 1 + j) = .inl (aC 23, k, .inr (.inl (fun _ => 0))) := by
  rw [cev_L (by rw [nwm_K1 h]), nwm_K1 h]
  have e9 : gL (nwm w n k) (wN w + 1 + j) = fun _ => 0 := by
    show (if wN w + 1 + j < wN w then gL w (wN w + 1 + j) else fun _ => 0) = _
    rw [if_neg (by omega)]
  rw [e9]
theorem wls_nwm {n k : Nat} (h64 : 64 ≤ wN w) : wls ext bs aC (nwm w n k) = (wls ext bs aC w ++ [(bs + (wN w - 64), .inl (aC 27, n, .inr (.inr (.inr (.inr (fun i => if i < n then some (bs + (wN w - 64) + 1 + i) else none))))))]) ++ (List.range n).map (fun i => (bs + (wN w - 64) + 1 + i, .inl (aC 23, k, .inr (.inl (fun _ => 0))))) := by
  apply List.ext_getElem?
  intro j
  have hl : (wls ext bs aC w ++ [((bs + (wN w - 64), .inl (aC 27, n, .inr (.inr (.inr (.inr (fun i => if i < n then some (bs + (wN w - 64) + 1 + i) else none)))))) : Nat × va_E)]).length = wN w - 64 + 1 := by simp [wls_len]
  by_cases h1 : j < wN w - 64
  · rw [List.getElem?_append_left (by omega), List.getElem?_append_left (by rw [wls_len]; exact h1)]
    have e1 := wls_get (ext := ext) (bs := bs) (aC := aC) (w := w) (a := j + 64) (by omega) (by omega)
    have e2 := wls_get (ext := ext) (bs := bs) (aC := aC) (w := nwm w n k) (a := j + 64) (by omega) (by show j + 64 < wN w + 1 + n; omega)
    rw [show j + 64 - 64 = j by omega] at e1 e2
    rw [e1, e2, nwm_c (by omega)]
  · by_cases h2 : j = wN w - 64
    · subst h2
      rw [List.getElem?_append_left (by omega), List.getElem?_append_right (by rw [wls_len]; exact Nat.le_refl _), wls_len, Nat.sub_self]
      have e2 := wls_get (ext := ext) (bs := bs) (aC := aC) (w := nwm w n k) (a := wN w) h64 (by show wN w < wN w + 1 + n; omega)
      rw [e2, nwm_c0 h64]
      rfl
    · rw [List.getElem?_append_right (by omega), hl, List.getElem?_map]
      by_cases h3 : j < wN w - 64 + 1 + n
      · rw [List.getElem?_range (by omega)]
        have e2 := wls_get (ext := ext) (bs := bs) (aC := aC) (w := nwm w n k) (a := j + 64) (by omega) (by show j + 64 < wN w + 1 + n; omega)
        rw [show j + 64 - 64 = j by omega] at e2
        rw [e2]
        rw [show j + 64 = wN w + 1 + (j - (wN w - 64 + 1)) by omega, nwm_c1 (by omega)]
        show some _ = some _
        congr 2
        omega
      · have e3 : (List.range n)[j - (wN w - 64 + 1)]? = none := List.getElem?_eq_none_iff.mpr (by simp; omega)
        rw [e3]
        exact List.getElem?_eq_none_iff.mpr (by rw [wls_len]; show wN w + 1 + n - 64 ≤ j; omega)
theorem ok_mna (hx : p.tables.exec = Jvm.exec) (hb : c.code = cc) (hE : EXs ext bs W0 s) (hown : s.vm.findClass own = some m.cls) (hts : ∀ w ∈ lwT, w.before args s = true) (hK : va_K D vwCl (tyL aC) s) (hS : va_S (fun q => bs ≤ q) s.heap H locs) (hR : HR ext bs aC D W0 w H) (hz : s.heap.size + cells = bs + (wN w - 64)) (hbs : bs ≤ s.heap.size) {idx : Nat} {n k : Int32} (hn : ¬ n < 0) (hk : ¬ k < 0) (hn2 : n.toNatClampNeg ≤ 65536) (hk2 : k.toNatClampNeg ≤ 65536) (h1 : Cond.classLink own idx "[[J" ∈ lwT) (h2 : Cond.arrayOver (.array .long) ∈ lwT) (h3 : Cond.arrayClass .long ∈ lwT) (hcells : cells + (1 + n.toNatClampNeg) ≤ R.cells) (hslots : slots + (n.toNatClampNeg + n.toNatClampNeg * k.toNatClampNeg) ≤ R.slots) (hdg : decode cc pc = .ok (.multianewarray idx 2, 4))
    (kk : ∀ (H2 : Heap) (locs2 : List Loc), HR ext bs aC D W0 (nwm w n.toNatClampNeg k.toNatClampNeg) H2 → va_S (fun q => bs ≤ q) s.heap H2 locs2 → W p l e R s m args below meth c H2 locs2 (cells + 1 + n.toNatClampNeg) (slots + n.toNatClampNeg + n.toNatClampNeg * k.toNatClampNeg) Q (F0 m (pc + 4) ls (.ref (bs + (wN w - 64)) :: rest))) : W p l e R s m args below meth c H locs (cells) (slots) Q (F0 m pc ls (.int k :: .int n :: rest)) := by
  have h64 := hR.2.2.2.2.1
  refine W_size (fun hz0 => ?_)
  have hHs : H.size = bs + (wN w - 64) := Nat.le_antisymm (by omega) (HR_sz hR (Nat.le_trans hbs hS.1))
  have hP0 := HR_P hR
  have hD0 := wls_D ext bs aC w
  have hcy : s.vm.findClass "[J" = some (aC 23) := (hK.2 3 _ rfl).2
  refine va_mna (X := wls ext bs aC w) (L := []) (f := fun _ => .inr (0, [])) (D := D) (cl := vwCl) (cy := aC 23) (ty := .long) (z := (k.toNatClampNeg, .inr (.inl (fun _ => 0)))) hx hb hown (hts _ h1) (hts _ h2) (hts _ h3) hcy hK (by show va_P D vwCl (wls ext bs aC w ++ []) H; rw [List.append_nil]; exact hP0) (by show va_D _ (wls ext bs aC w ++ []); rw [List.append_nil]; exact hD0) hS (fun q h => Nat.le_trans hbs h) hn hk rfl rfl (by omega) (by show k.toNatClampNeg * 8 ≤ _; omega) (by omega) rfl rfl hcells hslots (fun cc9 => ?_) hdg (fun q r cA H1 hq hr _ _ hK2 hP hD hS1 => ?_)
  · rw [vp_cell_l]
    exact arrV_new _ _ _
  · have e1 : cA = aC 27 := by
      have h3 := (hK2.2 8 (cA, .array .long) rfl).2
      exact cA_eq h3 (hK.2 7 _ rfl).2
    subst e1
    subst hq
    rw [hHs] at hP ⊢
    have hr2 : ∀ i, r i = bs + (wN w - 64) + 1 + i := fun i => by rw [hr, hHs]
    have e2 : va_pl ([] ++ (List.range n.toNatClampNeg).map r) (vr_up (fun _ => .inr (0, [])) ((List.range n.toNatClampNeg).map r) (.inl (aC 23, (k.toNatClampNeg, .inr (.inl (fun _ => 0)))))) = (List.range n.toNatClampNeg).map (fun i => (bs + (wN w - 64) + 1 + i, .inl (aC 23, k.toNatClampNeg, .inr (.inl (fun _ => 0))))) := by
      unfold va_pl
      rw [List.nil_append, List.map_map]
      apply List.map_congr_left
      intro i hi
      show (r i, vr_up _ _ _ (r i)) = _
      rw [vr_up_in (List.mem_map.mpr ⟨i, hi, rfl⟩), hr2]
    have e3 : (fun i => if i < n.toNatClampNeg then some (r i) else none) = (fun i => if i < n.toNatClampNeg then some (bs + (wN w - 64) + 1 + i) else none) := by
      funext i
      rw [hr2]
    rw [e2, e3, ← wls_nwm h64] at hP
    refine kk H1 locs ⟨fun b h => ?_, fun b => ?_, fun b h => ?_, fun b j x g1 g2 => ?_, by show 64 ≤ wN w + 1 + _; omega, hP⟩ hS1
    · show 64 ≤ b ∧ b < wN w + 1 + n.toNatClampNeg
      by_cases hb1 : b < wN w
      · rw [show wK (nwm w n.toNatClampNeg k.toNatClampNeg) b = wK w b from if_pos hb1] at h
        have := hR.1 b h
        omega
      · by_cases hb2 : b < wN w + 1 + n.toNatClampNeg
        · omega
        · rw [nwm_K2 (by omega)] at h
          have := hR.1 b h
          omega
    · by_cases hb1 : b < wN w
      · rw [show wK (nwm w n.toNatClampNeg k.toNatClampNeg) b = wK w b from if_pos hb1]
        exact hR.2.1 b
      · by_cases hb2 : b = wN w
        · subst hb2
          rw [nwm_K0]
          exact ⟨fun h => absurd h (show ¬ (27 : Nat) < 11 by decide), fun _ => Or.inl (show (27 : Nat) < 30 by decide)⟩
        · by_cases hb3 : b < wN w + 1 + n.toNatClampNeg
          · rw [show b = wN w + 1 + (b - wN w - 1) by omega, nwm_K1 (by omega)]
            exact ⟨fun h => absurd h (show ¬ (23 : Nat) < 11 by decide), fun _ => Or.inl (show (23 : Nat) < 30 by decide)⟩
          · rw [nwm_K2 (by omega)]
            exact hR.2.1 b
    · have hb1 : b < wN w := by omega
      rw [show wK (nwm w n.toNatClampNeg k.toNatClampNeg) b = wK w b from if_pos hb1, show gI (nwm w n.toNatClampNeg k.toNatClampNeg) b = gI w b from if_pos hb1, show gR (nwm w n.toNatClampNeg k.toNatClampNeg) b = gR w b from if_pos hb1]
      exact hR.2.2.1 b h
    · have hd : gR (nwm w n.toNatClampNeg k.toNatClampNeg) b = if b < wN w then gR w b else if b = wN w then (fun j => if j < n.toNatClampNeg then some (wN w + 1 + j) else none) else fun _ => none := rfl
      rw [hd] at g2
      split at g2
      · exact hR.2.2.2.1 b j x g1 g2
      · split at g2
        · dsimp only at g2
          split at g2
          · cases g2
            show 64 ≤ wN w + 1 + j
            omega
          · cases g2
        · cases g2
end NEW
