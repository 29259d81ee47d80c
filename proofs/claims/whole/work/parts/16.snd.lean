/-! THE TIE: what the abstract machine comes to, the real one comes to -/
theorem NG_all : ∀ w ∈ lwT, goodWord w = true ∨ NGk w = true := by
  intro w hw
  have h := (List.mem_filter.mp hw).2
  rwa [Bool.or_eq_true] at h
theorem NG_args {w : Jvm.Cond} (h : NGk w = true) (A B : Array Value) (s : State) : w.before A s = w.before B s := by
  cases w <;> first | rfl | cases h
theorem NG_warm {w : Jvm.Cond} (h : NGk w = true) {s U : State} (hW : s.WarmedH U.vm) (hb : w.before #[] s = true) : w.before #[] U = true := by
  cases w
  case stringRef a b c =>
    have h1 : (Cond.stringRef a b c).before #[] (s.setVm U.vm) = true := Cond.stringRef_warmed hW hb
    exact h1
  case arrayOver ty =>
    have h1 : (Cond.arrayOver ty).before #[] (s.setVm U.vm) = true := (Cond.arrayOver_setVmC hW.alike ty).trans hb
    exact h1
  case methodLinkNest a b c d => exact va_Nw.warmM hW hb
  all_goals cases h
theorem EXs_moved {ext : Nat → Value} {bs : Nat} {W0 : Wd} {s U : State} (hW : s.WarmedH U.vm) (hz : s.heap.size ≤ U.heap.size) (hh : ∀ a : Nat, a < s.heap.size → ¬ bs ≤ a → U.heap[a]? = s.heap[a]?) (h : EXs ext bs W0 s) : EXs ext bs W0 U := by
  obtain ⟨h1, h2, h3, h4, h5, h6, h7, h8⟩ := h
  refine ⟨h1, fun own idx tx k hw hs => ?_, fun t ht => (va_Z.moved hW.alike (h3 t ht)).kept hh, fun a ha ht => ?_, fun a ha ht => ?_, fun a ha ht => ?_, fun a ha ht => ?_, fun w hw hg => NG_warm hg hW (h8 w hw hg)⟩
  · obtain ⟨q, e1, e2⟩ := h2 own idx tx k hw hs
    exact ⟨q, e1, vk_R.warm hW e2⟩
  · obtain ⟨t, e1, e2⟩ := h4 a ha ht
    exact ⟨t, e1, (va_T.moved hW.alike e2).kept hh⟩
  · obtain ⟨t, e1, e2⟩ := h5 a ha ht
    exact ⟨t, e1, (va_T.moved hW.alike e2).kept hh⟩
  · obtain ⟨t, e1, e2, e3, e4⟩ := h6 a ha ht
    exact ⟨t, e1, (va_O.moved hW.alike e2).kept hh, (va_OF.moved hW.alike e3).kept hh, (va_OF.moved hW.alike e4).kept hh⟩
  · obtain ⟨b, e1, e2, e3, e4⟩ := h7 a ha ht
    exact ⟨b, e1, (va_X.moved hW.alike e2).kept (hh b e3 (Nat.not_le.mpr e4)), Nat.lt_of_lt_of_le e3 hz, e4⟩
def wsm (q : Mi) : List Jvm.Cond := Cond.code q.1 q.2.1 q.2.2.1 q.2.2.2.1 :: lwT.filter goodWord
def rmm (d mc ms : Nat) : Room := { frames := d, cells := mc, slots := ms, locals := 64 * d }
def PcM (ext : Nat → Value) (bs : Nat) (aC : Nat → ClassId) (D : va_G) (W0 : Wd) (as : List Value) (w : Wd) : Array Value → State → Prop := va_Pc (as.map (mv ext bs)) (fun U => U.heap.size = bs + (wN w - 64) ∧ HR ext bs aC D W0 w U.heap ∧ va_K D vwCl (tyL aC) U ∧ EXs ext bs W0 U)
def QcM (ext : Nat → Value) (bs : Nat) (aC : Nat → ClassId) (D : va_G) (W0 : Wd) (r : Option Value) (w2 : Wd) : Array Value → State → Outcome → State → Prop := fun _ st oc t => oc = .returned (r.map (mv ext bs)) ∧ HR ext bs aC D W0 w2 t.heap ∧ va_F (fun q => bs ≤ q) st t
/-- an end: the instruction, what lies on the stack, the answer -/
def RetI (ret : Option FieldType) (i : Instr) (st : List Value) (r : Option Value) : Prop :=
  (i = .ireturn ∧ ∃ (x : Int32) (ty : FieldType), st = [.int x] ∧ r = some (.int x) ∧ ret = some ty ∧ narrow ty (.int x) = .int x) ∨
  (i = .lreturn ∧ ∃ x : Int64, st = [.long x] ∧ r = some (.long x) ∧ ret = some .long) ∨
  (i = .dreturn ∧ ∃ x : UInt64, st = [.double x] ∧ r = some (.double x) ∧ ret = some .double) ∨
  (i = .areturn ∧ ∃ (v : Value) (ty : FieldType), st = [v] ∧ r = some v ∧ (v = .null ∨ ∃ a, v = .ref a) ∧ ret = some ty ∧ ((∃ n, ty = .object n) ∨ ∃ t, ty = .array t)) ∨
  (i = .return_ ∧ st = [] ∧ r = none ∧ ret = none)
def Snd (l : Launch) (ext : Nat → Value) (bs : Nat) (aC : Nat → ClassId) (D : va_G) (W0 : Wd) (f : Nat) : Prop :=
  ∀ (y d pc : Nat) (L : List (Option Value)) (st : List Value) (w : Wd) (r : Option Value) (w2 : Wd), ex f (y, d, pc, L, st, w) = some (r, w2) → ∀ (q : Mi), mif y = some q → ∀ (p : Program) (e : Env) (R : Room) (s : State) (m : MethodId) (args : Array Value) (below : List Frame) (meth : Method) (c : Code) (H : Heap) (locs : List Loc) (cells slots : Nat) (Q : State → Prop) (ls : Array Slot),
    p.tables.exec = Jvm.exec → c.code = q.2.1 → c.maxLocals = q.2.2.1 → s.vm.findClass q.1.cls = some m.cls → (∀ w ∈ lwT, w.before args s = true) → (q.1.name = "<init>" → meth.name = "<init>") → d ≤ R.frames → 64 * d ≤ R.locals → va_K D vwCl (tyL aC) s → EXs ext bs W0 s → bs ≤ s.heap.size → va_S (fun q => bs ≤ q) s.heap H locs → HR ext bs aC D W0 w H → LR ext bs q.2.2.1 L ls → s.heap.size + cells = bs + (wN w - 64) → cells + (wN w2 - wN w) ≤ R.cells → slots + (wS w2 - wS w) ≤ R.slots →
    (∀ (i : Instr) (pc2 : Nat) (ls2 : Array Slot) (st2 : List Value) (H2 : Heap) (locs2 : List Loc), HR ext bs aC D W0 w2 H2 → va_S (fun q => bs ≤ q) s.heap H2 locs2 → RetI q.2.2.2.1 i st2 r → decode q.2.1 pc2 = .ok (i, 1) → W p l e R s m args below meth c H2 locs2 (cells + (wN w2 - wN w)) (slots + (wS w2 - wS w)) Q (F0 m pc2 ls2 (st2.map (mv ext bs)))) →
    W p l e R s m args below meth c H locs cells slots Q (F0 m pc ls (st.map (mv ext bs)))
-- locals at the entry
theorem lents_len {ext : Nat → Value} {bs : Nat} (he : ∀ a, (ext a).category = 1) : ∀ as : List Value, (lents as).length = (lg_sl (as.map (mv ext bs))).length := by
  intro as
  induction as with
  | nil => rfl
  | cons v r ih =>
    have h1 : lg_sl ((v :: r).map (mv ext bs)) = (if (mv ext bs v).category = 2 then [Slot.val (mv ext bs v), .second] else [Slot.val (mv ext bs v)]) ++ lg_sl (r.map (mv ext bs)) := by
      unfold lg_sl
      rw [List.map_cons, List.flatMap_cons]
    rw [h1, mv_cat ext bs v he, List.length_append, ← ih]
    cases v with
    | long x => show _ = 2 + _; simp [lents]; omega
    | double x => show _ = 2 + _; simp [lents]; omega
    | _ => show _ = 1 + _; simp [lents]; omega
theorem lents_args {ext : Nat → Value} {bs : Nat} (he : ∀ a, (ext a).category = 1) : ∀ (as : List Value) (k j : Nat) (u : Value), lg (lents as) j = some u → (k + j, mv ext bs u) ∈ lv_args k (as.map (mv ext bs)) := by
  intro as
  induction as with
  | nil => intro k j u h; cases h
  | cons v r ih =>
    intro k j u h
    rw [List.map_cons]
    unfold lv_args
    rw [mv_cat ext bs v he]
    cases v with
    | long x =>
      match j, h with
      | 0, h => cases h; exact List.mem_cons_self
      | 1, h => cases h
      | j + 2, h =>
        have := ih (k + 2) j u h
        rw [show k + 2 + j = k + (j + 2) by omega] at this
        exact List.mem_cons_of_mem _ this
    | double x =>
      match j, h with
      | 0, h => cases h; exact List.mem_cons_self
      | 1, h => cases h
      | j + 2, h =>
        have := ih (k + 2) j u h
        rw [show k + 2 + j = k + (j + 2) by omega] at this
        exact List.mem_cons_of_mem _ this
    | _ =>
      match j, h with
      | 0, h => cases h; exact List.mem_cons_self
      | j + 1, h =>
        have := ih (k + 1) j u h
        rw [show k + 1 + j = k + (j + 1) by omega] at this
        exact List.mem_cons_of_mem _ this
theorem lg_app {A : List (Option Value)} {n j : Nat} {u : Value} (h : lg (A ++ List.replicate n none) j = some u) : lg A j = some u := by
  induction A generalizing j with
  | nil =>
    exfalso
    induction n generalizing j with
    | zero => cases h
    | succ n ih =>
      cases j with
      | zero => cases h
      | succ j => exact ih h
  | cons x r ih =>
    cases j with
    | zero => exact h
    | succ j => exact ih h
theorem LR_entry {ext : Nat → Value} {bs n : Nat} (he : ∀ a, (ext a).category = 1) {as : List Value} (h : (lents as).length ≤ n) : LR ext bs n (lentry n as) ((lg_sl (as.map (mv ext bs)) ++ List.replicate (n - (lg_sl (as.map (mv ext bs))).length) Slot.unset).toArray) := by
  have h1 := lv_entry (as.map (mv ext bs)) (n := n) (by rw [← lents_len he]; exact h)
  refine ⟨h1.1, ?_, h1.2.1, fun j u hu => ?_⟩
  · unfold lentry
    rw [List.length_append, List.length_replicate]
    omega
  · have h2 := lents_args (ext := ext) (bs := bs) he as 0 j u (lg_app hu)
    rw [Nat.zero_add] at h2
    exact h1.2.2 _ h2
theorem met_of {l : Launch} {ext : Nat → Value} {bs : Nat} {aC : Nat → ClassId} {D : va_G} {W0 : Wd} {f : Nat} (hSn : Snd l ext bs aC D W0 f) {y d : Nat} {q : Mi} (hq : mif y = some q) (hpn : plainName q.1.cls = true) {as : List Value} {w w2 : Wd} {r : Option Value} (hex : ex f (y, d, 0, lentry q.2.2.1 as, [], w) = some (r, w2)) (hln : (lents as).length ≤ q.2.2.1) :
    Met l q.1 (wsm q) (rmm d (wN w2 - wN w) (wS w2 - wS w)) (PcM ext bs aC D W0 as w) (QcM ext bs aC D W0 r w2) (wN w2 - wN w) (wS w2 - wS w) (fun a => bs ≤ a) := by
  refine Met.ofW (cc := q.2.1) (maxL := q.2.2.1) (ret := q.2.2.2.1) hpn rfl ?_
  intro p e s m args below meth c s₁ B hml hv
  obtain ⟨rfl, hsz, hR, hK, hE⟩ := hv
  have hts0 := atoms_spec (ws := wsm q) B.pre
  have hts : ∀ w ∈ lwT, w.before ((as.map (mv ext bs)).toArray) s = true := fun w9 hw => by
    rcases NG_all w9 hw with h | h
    · exact hts0 w9 (List.mem_cons_of_mem _ (List.mem_filter.mpr ⟨hw, h⟩))
    · rw [NG_args h _ #[]]
      exact hE.2.2.2.2.2.2.2 w9 hw h
  have hown : s.vm.findClass q.1.cls = some m.cls := findClass_of_methodNamed B.named
  have hlocks := B.notSynchronized
  have hS : va_S (fun q => bs ≤ q) s.heap s.heap [] := va_S.rf
  have hL := LR_entry (bs := bs) (ext_cat hE) hln
  rw [lg_entry_eq]
  generalize (lg_sl (as.map (mv ext bs)) ++ List.replicate (q.2.2.1 - (lg_sl (as.map (mv ext bs))).length) Slot.unset).toArray = ls at hL ⊢
  refine hSn y d 0 _ [] w r w2 hex q hq p e _ s m _ below meth c s.heap [] 0 0 _ ls B.exec B.bytes hml hown hts (fun h => by rw [(name_of_methodNamed B.named B.method).1]; exact h) (Nat.le_refl _) (Nat.le_refl _) hK hE (by omega) hS hR hL (by omega) (by show 0 + _ ≤ wN w2 - wN w; omega) (by show 0 + _ ≤ wS w2 - wS w; omega) (fun i pc2 ls2 st2 H2 locs2 hR2 hS2 hret hdg => ?_)
  rw [Nat.zero_add, Nat.zero_add]
  rcases hret with ⟨rfl, x, ty, rfl, rfl, hty, hn⟩ | ⟨rfl, x, rfl, rfl, hty⟩ | ⟨rfl, x, rfl, rfl, hty⟩ | ⟨rfl, v, ty, rfl, rfl, hv, hty, hrt⟩ | ⟨rfl, rfl, rfl, hty⟩
  · exact W.zret (v := x) B.exec B.bytes (B.returns.trans hty) hn (fun t ht hW => ⟨rfl, by rw [ht]; exact hR2, hS2.F ht⟩) hS2.2.2 hdg hlocks
  · exact W.lret (v := x) B.exec B.bytes (B.returns.trans hty) (fun t ht hW => ⟨rfl, by rw [ht]; exact hR2, hS2.F ht⟩) hS2.2.2 hdg hlocks
  · exact W.dret (v := x) B.exec B.bytes (B.returns.trans hty) (fun t ht hW => ⟨rfl, by rw [ht]; exact hR2, hS2.F ht⟩) hS2.2.2 hdg hlocks
  · refine W.aret (v := mv ext bs v) B.exec B.bytes (B.returns.trans hty) hrt ?_ (fun t ht hW => ⟨rfl, by rw [ht]; exact hR2, hS2.F ht⟩) hS2.2.2 hdg hlocks
    rcases hv with rfl | ⟨a, rfl⟩
    · exact Or.inl rfl
    · exact mv_ref hE a
  · exact W.vret B.exec B.bytes (B.returns.trans hty) (fun t ht hW => ⟨rfl, by rw [ht]; exact hR2, hS2.F ht⟩) hS2.2.2 hdg hlocks
