/-! ===== BEGIN new T[n][m]: the outer array a place, the inner ones among the pooled ===== -/
/-- the word 'arrayOver' of an array type, at no arguments -/
def va_AOA (ty : FieldType) (U : State) : Prop := (Cond.arrayOver (.array ty)).before #[] U = true
theorem va_AOA.use {ty : FieldType} {A : Array Value} {U : State} (h : va_AOA ty U) : (Cond.arrayOver (.array ty)).before A U = true := h
/-- f, but v at every address of l -/
def vr_up {α : Type} (f : Nat → α) (l : List Nat) (v : α) : Nat → α := fun a => if a ∈ l then v else f a
theorem vr_up_in {α : Type} {f : Nat → α} {l : List Nat} {v : α} {a : Nat} (h : a ∈ l) : vr_up f l v a = v := if_pos h
theorem vr_up_ne {α : Type} {f : Nat → α} {l : List Nat} {v : α} {a : Nat} (h : a ∉ l) : vr_up f l v a = f a := if_neg h
theorem vr_rows {L l : List Nat} {f : Nat → va_E} {e : va_E} (h : ∀ a, a ∈ l → a ∉ L) : va_pl L f ++ l.map (fun a => (a, e)) = va_pl (L ++ l) (vr_up f l e) := by
  unfold va_pl
  rw [List.map_append]
  congr 1
  · apply List.map_congr_left
    intro a ha
    rw [vr_up_ne (fun q => h a q ha)]
  · apply List.map_congr_left
    intro a ha
    rw [vr_up_in ha]
theorem vr_lay {X rows : va_W} {x : Nat × va_E} {pl : va_W} {D : va_G} {cl : List vw_C} {H : Heap} (hP : va_P D cl (((X ++ pl) ++ [x]) ++ rows) H) : va_P D cl ((X ++ [x]) ++ (pl ++ rows)) H := by
  rw [List.append_assoc (X ++ pl)] at hP
  have h := va_P.swap hP
  rw [← List.append_assoc X] at h
  have h2 := va_P.swap h
  rw [List.append_assoc (X ++ [x])] at h2
  exact h2
theorem vr_layD {X rows : va_W} {x : Nat × va_E} {pl : va_W} {A : Nat → Prop} (hD : va_D A (((X ++ pl) ++ [x]) ++ rows)) : va_D A ((X ++ [x]) ++ (pl ++ rows)) := by
  rw [List.append_assoc (X ++ pl)] at hD
  have h := va_D.swap hD
  rw [← List.append_assoc X] at h
  have h2 := va_D.swap h
  rw [List.append_assoc (X ++ [x])] at h2
  exact h2
theorem vr_outer (c : ClassId) (N h0 : Nat) : ∀ i : Nat, Jvm.Free.Multi.outerC c N h0 i = arrV c N (fun j => va_rf (if j < i then some (h0 + 1 + j) else none))
  | 0 => by
    show ({ cls := c, slots := Array.replicate N .null, vm := .none } : Cell) = _
    rw [arrV_new]
    refine congrArg (arrV c N) (funext fun j => ?_)
    simp [va_rf]
  | i + 1 => by
    show (Jvm.Free.Multi.outerC c N h0 i).setSlot i (.ref (h0 + 1 + i)) = _
    rw [vr_outer c N h0 i, arrV_store]
    refine congrArg (arrV c N) (funext fun j => ?_)
    by_cases e : j = i
    · subst e
      simp [updV, va_rf]
    · by_cases h : j < i
      · simp [updV, e, h, Nat.lt_succ_of_lt h]
      · simp [updV, e, h, show ¬ j < i + 1 by omega]
section VGM
variable {p : Program} {l : Launch} {e : Env} {R : Room} {s : State} {m : MethodId} {args : Array Value} {below : List Frame} {meth : Method} {c : Code} {H : Heap} {locs : List Loc} {cells slots : Nat} {Q : State → Prop}
variable {cc : ByteArray} {pc : Nat} {ls : Array Slot} {rest : List Value} {D : va_G} {cl : List vw_C} {A : Nat → Prop} {a : Nat} {tys : List (ClassId × FieldType)} {ws : va_W} {H0 : Heap}
theorem va_mna {X : va_W} {L : List Nat} {f : Nat → va_E} {cc : ByteArray} (hexec : p.tables.exec = Jvm.exec) (hb : c.code = cc) {own : String} {index : Nat} {ty : FieldType} {cy : ClassId} (hown : s.vm.findClass own = some m.cls) (hclink : (Cond.classLink own index ("[" ++ (FieldType.array ty).toString)).before args s = true) (hover : va_AOA ty s) (harr : (Cond.arrayClass ty).before args s = true) (hcy : s.vm.findClass (FieldType.array ty).toString = some cy)
    (hK : va_K D cl tys s) (hP : va_P D cl (X ++ va_pl L f) H) (hD : va_D A (X ++ va_pl L f)) (hS : va_S A H0 H locs) (hA : ∀ q, H0.size ≤ q → A q) {n k : Int32} {N' K' : Nat} {z : vp_A} (hn : ¬ n < 0) (hk : ¬ k < 0) (hN : n.toNatClampNeg = N') (hM : k.toNatClampNeg = K')
    (hb1 : N' * 4 ≤ 536870912) (hb2 : K' * componentBytes ty ≤ 536870912) (hb3 : K' ≤ 536870912) (hdf : fits ty (defaultValue ty) = true) (hdd : (defaultValue ty).isDefault = true) (hcells : cells + (1 + N') ≤ R.cells) (hslots : slots + (N' + N' * K') ≤ R.slots) (hz : ∀ c : ClassId, Jvm.Free.Multi.innerC c K' (defaultValue ty) = vp_cell c z) (hdg : decode cc pc = .ok (.multianewarray index 2, 4))
    (kk : ∀ (q : Nat) (r : Nat → Nat) (cA : ClassId) (H1 : Heap), q = H.size → (∀ i, r i = H.size + 1 + i) → (∀ i j : Nat, i < N' → j < N' → r i = r j → i = j) → (∀ i : Nat, i < N' → r i ∉ L) → va_K D cl (tys ++ [(cA, .array ty)]) s →
      va_P D cl ((X ++ [(q, .inl (cA, N', .inr (.inr (.inr (.inr (fun i => if i < N' then some (r i) else none))))))]) ++ va_pl (L ++ (List.range N').map r) (vr_up f ((List.range N').map r) (.inl (cy, z)))) H1 → va_D A ((X ++ [(q, .inl (cA, N', .inr (.inr (.inr (.inr (fun i => if i < N' then some (r i) else none))))))]) ++ va_pl (L ++ (List.range N').map r) (vr_up f ((List.range N').map r) (.inl (cy, z)))) → va_S A H0 H1 locs →
      W p l e R s m args below meth c H1 locs (cells + 1 + N') (slots + N' + N' * K') Q (F0 m (pc + 4) ls (.ref q :: rest))) : W p l e R s m args below meth c H locs cells slots Q (F0 m pc ls (.int k :: .int n :: rest)) := by
  subst hN
  subst hM
  intro T hT Xs
  obtain ⟨vm₁, cA, comp, -, fA, fC, hO, -, X', step⟩ := Xs.multianewarray2F hexec hown hclink (va_AOA.use hover) harr (g := F0 m pc ls (.int k :: .int n :: rest)) rfl (by rw [hb]; exact hdg) rfl hn hk hb1 hb2 hb3 hdf hdd hcells hslots
  have ec : some cy = some comp := hcy.symm.trans fC
  cases ec
  generalize hF : Jvm.Free.Multi.fill (T.setVm vm₁) cA cy n.toNatClampNeg k.toNatClampNeg (defaultValue ty) n.toNatClampNeg = F at X' step
  have hTh : (T.setVm vm₁).heap = H := hT
  obtain ⟨f1, f2, -, -⟩ := Jvm.Free.Multi.fill_facts (T.setVm vm₁) cA cy n.toNatClampNeg k.toNatClampNeg (defaultValue ty) n.toNatClampNeg
  rw [hF, hTh] at f1 f2
  have hold : ∀ x : Nat, x < H.size → F.heap[x]? = H[x]? := fun x hx => by
    have := Jvm.Free.Multi.fill_old (T.setVm vm₁) cA cy n.toNatClampNeg k.toNatClampNeg (defaultValue ty) (a := x) (by rw [hTh]; exact hx) n.toNatClampNeg
    rw [hF, hTh] at this
    exact this
  have hrow : ∀ j : Nat, j < n.toNatClampNeg → F.heap[H.size + 1 + j]? = some (vp_cell cy z) := fun j hj => by
    have := Jvm.Free.Multi.fill_inner (T.setVm vm₁) cA cy n.toNatClampNeg k.toNatClampNeg (defaultValue ty) n.toNatClampNeg j hj
    rw [hF, hTh, hz] at this
    exact this
  have hout : Jvm.Free.Multi.outerC cA n.toNatClampNeg H.size n.toNatClampNeg = vp_cell cA (n.toNatClampNeg, .inr (.inr (.inr (.inr (fun i => if i < n.toNatClampNeg then some (H.size + 1 + i) else none))))) := by
    rw [vp_cell_q]
    exact vr_outer cA n.toNatClampNeg H.size n.toNatClampNeg
  rw [hout] at f2
  have hlt : ∀ a, a ∈ L → a < H.size := fun a ha => by
    obtain ⟨k9, hk9⟩ := va_pl_get (X := X) (f := f) ha
    exact (hP k9 _ hk9).lt
  have hnl : ∀ i : Nat, i < n.toNatClampNeg → H.size + 1 + i ∉ L := fun i _ h => by
    have := hlt _ h
    omega
  have hnm : ∀ a, a ∈ (List.range n.toNatClampNeg).map (fun i => H.size + 1 + i) → a ∉ L := fun a ha h => by
    obtain ⟨i, -, rfl⟩ := List.mem_map.mp ha
    have := hlt _ h
    omega
  have hP0 : va_P D cl (X ++ va_pl L f) F.heap := hP.kept (fun k9 x hx => hold x.1 ((hP k9 x hx).lt))
  have hP1 : va_P D cl ((X ++ va_pl L f) ++ [(H.size, .inl (cA, n.toNatClampNeg, .inr (.inr (.inr (.inr (fun i => if i < n.toNatClampNeg then some (H.size + 1 + i) else none))))))]) F.heap := hP0.app (fun k9 x hx => by
    have h0 : k9 < 1 := (List.getElem?_eq_some_iff.mp hx).1
    rw [show k9 = 0 by omega] at hx
    cases hx
    exact f2)
  have hP2 : va_P D cl (((X ++ va_pl L f) ++ [(H.size, .inl (cA, n.toNatClampNeg, .inr (.inr (.inr (.inr (fun i => if i < n.toNatClampNeg then some (H.size + 1 + i) else none))))))]) ++ ((List.range n.toNatClampNeg).map (fun i => H.size + 1 + i)).map (fun a => (a, .inl (cy, z)))) F.heap := hP1.app (fun k9 x hx => by
    obtain ⟨a, ha, rfl⟩ := List.mem_map.mp (List.mem_of_getElem? hx)
    obtain ⟨i, hi, rfl⟩ := List.mem_map.mp ha
    exact hrow i (List.mem_range.mp hi))
  have hD2 : va_D A (((X ++ va_pl L f) ++ [(H.size, .inl (cA, n.toNatClampNeg, .inr (.inr (.inr (.inr (fun i => if i < n.toNatClampNeg then some (H.size + 1 + i) else none))))))]) ++ ((List.range n.toNatClampNeg).map (fun i => H.size + 1 + i)).map (fun a => (a, .inl (cy, z)))) := by
    have hD1 := hD.push (e := .inl (cA, n.toNatClampNeg, .inr (.inr (.inr (.inr (fun i => if i < n.toNatClampNeg then some (H.size + 1 + i) else none)))))) hP rfl (hA _ hS.1)
    generalize hW1 : (X ++ va_pl L f) ++ [(H.size, .inl (cA, n.toNatClampNeg, .inr (.inr (.inr (.inr (fun i => if i < n.toNatClampNeg then some (H.size + 1 + i) else none))))))] = W1 at hD1 hP1 ⊢
    have hle : ∀ (k9 : Nat) (x : Nat × va_E), W1[k9]? = some x → x.1 ≤ H.size := fun k9 x hx => by
      rw [← hW1] at hx
      by_cases hl : k9 < (X ++ va_pl L f).length
      · rw [List.getElem?_append_left hl] at hx
        exact Nat.le_of_lt ((hP k9 x hx).lt)
      · rw [List.getElem?_append_right (by omega)] at hx
        have h0 : k9 - (X ++ va_pl L f).length < 1 := (List.getElem?_eq_some_iff.mp hx).1
        rw [show k9 - (X ++ va_pl L f).length = 0 by omega] at hx
        cases hx
        exact Nat.le_refl _
    have hr : ∀ (k9 : Nat) (x : Nat × va_E), (((List.range n.toNatClampNeg).map (fun i => H.size + 1 + i)).map (fun a => ((a, .inl (cy, z)) : Nat × va_E)))[k9]? = some x → x.1 = H.size + 1 + k9 := fun k9 x hx => by
      rw [List.getElem?_map, List.getElem?_map] at hx
      by_cases h9 : k9 < n.toNatClampNeg
      · rw [List.getElem?_range h9] at hx
        cases hx
        rfl
      · have hn0 : (List.range n.toNatClampNeg)[k9]? = none := List.getElem?_eq_none (by rw [List.length_range]; omega)
        rw [hn0] at hx
        cases hx
    refine ⟨fun i j x y hi hj hxy => ?_, fun k9 x hx => ?_⟩
    · by_cases h1 : i < W1.length <;> by_cases h2 : j < W1.length
      · rw [List.getElem?_append_left h1] at hi
        rw [List.getElem?_append_left h2] at hj
        exact hD1.1 i j x y hi hj hxy
      · rw [List.getElem?_append_left h1] at hi
        rw [List.getElem?_append_right (by omega)] at hj
        have := hle _ _ hi
        have := hr _ _ hj
        omega
      · rw [List.getElem?_append_right (by omega)] at hi
        rw [List.getElem?_append_left h2] at hj
        have := hle _ _ hj
        have := hr _ _ hi
        omega
      · rw [List.getElem?_append_right (by omega)] at hi hj
        have := hr _ _ hi
        have := hr _ _ hj
        omega
    · by_cases h1 : k9 < W1.length
      · rw [List.getElem?_append_left h1] at hx
        exact hD1.2 k9 x hx
      · rw [List.getElem?_append_right (by omega)] at hx
        have := hr _ _ hx
        exact hA _ (by have := hS.1; omega)
  have hAr : ArrOfT s cA (.array ty) := fun N9 z9 => by
    obtain ⟨-, k9, hk9, cm9, hkk9⟩ := (hO 0 0 0).1
    exact ⟨(fun q hq => by cases hq), k9, hk9, cm9, hkk9⟩
  have hK2 : va_K D cl (tys ++ [(cA, .array ty)]) s := ⟨hK.1, fun k9 x hx => by
    by_cases hl : k9 < tys.length
    · rw [List.getElem?_append_left hl] at hx
      exact hK.2 k9 x hx
    · rw [List.getElem?_append_right (by omega)] at hx
      have h0 : k9 - tys.length < 1 := (List.getElem?_eq_some_iff.mp hx).1
      rw [show k9 - tys.length = 0 by omega] at hx
      cases hx
      exact ⟨hAr, fA⟩⟩
  obtain ⟨t, a1, b1⟩ := kk H.size (fun i => H.size + 1 + i) cA F.heap rfl (fun _ => rfl) (fun i j _ _ h => by have h9 : H.size + 1 + i = H.size + 1 + j := h; omega) hnl hK2 (by rw [← vr_rows hnm]; exact vr_lay hP2) (by rw [← vr_rows hnm]; exact vr_layD hD2) ⟨by rw [f1]; have := hS.1; omega, fun x h1 h2 => (hold x (Nat.lt_of_lt_of_le h1 hS.1)).trans (hS.2.1 x h1 h2), hS.2.2⟩ F rfl X'
  refine ⟨t, step t ?_, b1⟩
  have e : T.heap.size = H.size := by rw [hT]
  rw [e]
  exact a1
end VGM
/-! ===== END ===== -/


def RX0 : String := "BelfryHouse$Band"
def TX0 : u_T := fun k => match k with
  | 0 => ("BelfryHouse$Band", "kinds", "[I", true)
  | 1 => ("BelfryHouse$Band", "skills", "[I", true)
  | 2 => ("BelfryHouse$Band", "slipped", "[I", true)
  | 3 => ("BelfryHouse$Band", "rungRows", "[I", true)
  | 4 => ("BelfryHouse$Band", "blownIn", "[I", true)
  | 5 => ("BelfryHouse$Band", "times", "[I", true)
  | 6 => ("BelfryHouse$Band", "blown", "I", false)
  | 7 => ("BelfryHouse$Band", "begun", "I", false)
  | 8 => ("BelfryHouse$Band", "clashes", "I", false)
  | 9 => ("BelfryHouse$Band", "words", "I", false)
  | _ => ("BelfryHouse$Band", "lost", "I", false)
def tyX0 : Nat → FieldType := fun k => match k with
  | 0 => .array .int
  | 1 => .array .int
  | 2 => .array .int
  | 3 => .array .int
  | 4 => .array .int
  | 5 => .array .int
  | 6 => .int
  | 7 => .int
  | 8 => .int
  | 9 => .int
  | _ => .int
abbrev wsX00 : List Cond := u_ws RX0 TX0 11
theorem nmX0 : ∀ a, a < 11 → ∀ b, b < 11 → a ≠ b → (TX0 a).2.1 ≠ (TX0 b).2.1 := by decide +kernel
theorem tyX0_ok : ∀ k, k < 11 → parseFieldDescriptor (TX0 k).2.2.1 = some (tyX0 k) := by decide +kernel
abbrev cX0_init : ByteArray := prog_2_method_1_code
def yX0_init : MethodName := ⟨RX0, "<init>", "()V"⟩
abbrev cX0_assemble : ByteArray := prog_2_method_2_code
def yX0_assemble : MethodName := ⟨RX0, "assemble", "()V"⟩
abbrev cX0_put : ByteArray := prog_2_method_3_code
def yX0_put : MethodName := ⟨RX0, "put", "(III)V"⟩
abbrev cX0_beginRinging : ByteArray := prog_2_method_4_code
def yX0_beginRinging : MethodName := ⟨RX0, "beginRinging", "()V"⟩
abbrev cX0_draw : ByteArray := prog_2_method_5_code
def yX0_draw : MethodName := ⟨RX0, "draw", "(III)I"⟩
abbrev cX0_offset : ByteArray := prog_2_method_6_code
def yX0_offset : MethodName := ⟨RX0, "offset", "(II)I"⟩
abbrev cX0_ringRow : ByteArray := prog_2_method_7_code
def yX0_ringRow : MethodName := ⟨RX0, "ringRow", "(IIII)Z"⟩
abbrev cX0_losesItself : ByteArray := prog_2_method_8_code
def yX0_losesItself : MethodName := ⟨RX0, "losesItself", "(I)Z"⟩
abbrev cX0_getsWords : ByteArray := prog_2_method_9_code
def yX0_getsWords : MethodName := ⟨RX0, "getsWords", "(II)Z"⟩
abbrev cX0_hasConductor : ByteArray := prog_2_method_10_code
def yX0_hasConductor : MethodName := ⟨RX0, "hasConductor", "(I)Z"⟩
abbrev cX0_timeOf : ByteArray := prog_2_method_11_code
def yX0_timeOf : MethodName := ⟨RX0, "timeOf", "(III)I"⟩
def RX1 : String := "BelfryHouse$Group"
def TX1 : u_T := fun k => match k with
  | 0 => ("BelfryHouse$Group", "members", "[I", true)
  | 1 => ("BelfryHouse$Group", "isMember", "[Z", true)
  | 2 => ("BelfryHouse$Group", "needed", "[I", true)
  | 3 => ("BelfryHouse$Group", "neededCount", "I", false)
  | 4 => ("BelfryHouse$Group", "size", "I", false)
  | _ => ("BelfryHouse$Group", "given", "I", false)
def tyX1 : Nat → FieldType := fun k => match k with
  | 0 => .array .int
  | 1 => .array .boolean
  | 2 => .array .int
  | 3 => .int
  | 4 => .int
  | _ => .int
abbrev wsX10 : List Cond := u_ws RX1 TX1 6
theorem nmX1 : ∀ a, a < 6 → ∀ b, b < 6 → a ≠ b → (TX1 a).2.1 ≠ (TX1 b).2.1 := by decide +kernel
theorem tyX1_ok : ∀ k, k < 6 → parseFieldDescriptor (TX1 k).2.2.1 = some (tyX1 k) := by decide +kernel
abbrev cX1_init : ByteArray := prog_3_method_1_code
def yX1_init : MethodName := ⟨RX1, "<init>", "()V"⟩
abbrev cX1_dissolve : ByteArray := prog_3_method_2_code
def yX1_dissolve : MethodName := ⟨RX1, "dissolve", "(I)V"⟩
abbrev cX1_has : ByteArray := prog_3_method_3_code
def yX1_has : MethodName := ⟨RX1, "has", "(II)Z"⟩
abbrev cX1_include : ByteArray := prog_3_method_4_code
def yX1_include : MethodName := ⟨RX1, "include", "(II)V"⟩
abbrev cX1_admit : ByteArray := prog_3_method_5_code
def yX1_admit : MethodName := ⟨RX1, "\x61dmit", "(II)V"⟩
abbrev cX1_close : ByteArray := prog_3_method_6_code
def yX1_close : MethodName := ⟨RX1, "close", "(I)V"⟩
abbrev cX1_leastWith : ByteArray := prog_3_method_7_code
def yX1_leastWith : MethodName := ⟨RX1, "leastWith", "(II)I"⟩
def RX2 : String := "BelfryHouse$Heads"
def TX2 : u_T := fun k => match k with
  | 0 => ("BelfryHouse$Heads", "ranks", "[I", true)
  | 1 => ("BelfryHouse$Heads", "count", "I", false)
  | 2 => ("BelfryHouse$Heads", "marks", "[J", true)
  | _ => ("BelfryHouse$Heads", "inverses", "[I", true)
def tyX2 : Nat → FieldType := fun k => match k with
  | 0 => .array .int
  | 1 => .int
  | 2 => .array .long
  | _ => .array .int
abbrev wsX20 : List Cond := u_ws RX2 TX2 4
theorem nmX2 : ∀ a, a < 4 → ∀ b, b < 4 → a ≠ b → (TX2 a).2.1 ≠ (TX2 b).2.1 := by decide +kernel
theorem tyX2_ok : ∀ k, k < 4 → parseFieldDescriptor (TX2 k).2.2.1 = some (tyX2 k) := by decide +kernel
abbrev cX2_init : ByteArray := prog_4_method_1_code
def yX2_init : MethodName := ⟨RX2, "<init>", "()V"⟩
abbrev cX2_forget : ByteArray := prog_4_method_2_code
def yX2_forget : MethodName := ⟨RX2, "forget", "()V"⟩
abbrev cX2_mark : ByteArray := prog_4_method_3_code
def yX2_mark : MethodName := ⟨RX2, "mark", "(II)V"⟩
abbrev cX2_find : ByteArray := prog_4_method_4_code
def yX2_find : MethodName := ⟨RX2, "find", "(I[III)V"⟩
abbrev cX2_gather : ByteArray := prog_4_method_5_code
def yX2_gather : MethodName := ⟨RX2, "gather", "(I)V"⟩
def RX3 : String := "BelfryHouse$Method"
def TX3 : u_T := fun k => match k with
  | 0 => ("BelfryHouse$Method", "rules", "[LBelfryHouse$Rule;", true)
  | 1 => ("BelfryHouse$Method", "ruleCount", "I", false)
  | _ => ("BelfryHouse$Method", "changeCount", "I", false)
def tyX3 : Nat → FieldType := fun k => match k with
  | 0 => .array (.object "BelfryHouse$Rule")
  | 1 => .int
  | _ => .int
abbrev wsX30 : List Cond := u_ws RX3 TX3 3
theorem nmX3 : ∀ a, a < 3 → ∀ b, b < 3 → a ≠ b → (TX3 a).2.1 ≠ (TX3 b).2.1 := by decide +kernel
theorem tyX3_ok : ∀ k, k < 3 → parseFieldDescriptor (TX3 k).2.2.1 = some (tyX3 k) := by decide +kernel
abbrev cX3_init : ByteArray := prog_5_method_1_code
def yX3_init : MethodName := ⟨RX3, "<init>", "()V"⟩
abbrev cX3_add : ByteArray := prog_5_method_2_code
def yX3_add : MethodName := ⟨RX3, "add", "(LBelfryHouse$Rule;)V"⟩
abbrev cX3_ruleFor : ByteArray := prog_5_method_3_code
def yX3_ruleFor : MethodName := ⟨RX3, "ruleFor", "(IIIZ)LBelfryHouse$Rule;"⟩
def RX4 : String := "BelfryHouse$Reader"
def TX4 : u_T := fun k => match k with
  | 0 => ("BelfryHouse$Reader", "method", "LBelfryHouse$Method;", true)
  | 1 => ("BelfryHouse$Reader", "fault", "I", false)
  | 2 => ("BelfryHouse$Reader", "text", "[B", true)
  | 3 => ("BelfryHouse$Reader", "length", "I", true)
  | 4 => ("BelfryHouse$Reader", "n", "I", true)
  | 5 => ("BelfryHouse$Reader", "kind", "I", false)
  | 6 => ("BelfryHouse$Reader", "tokenFrom", "I", false)
  | _ => ("BelfryHouse$Reader", "tokenTo", "I", false)
def tyX4 : Nat → FieldType := fun k => match k with
  | 0 => .object "BelfryHouse$Method"
  | 1 => .int
  | 2 => .array .byte
  | 3 => .int
  | 4 => .int
  | 5 => .int
  | 6 => .int
  | _ => .int
abbrev wsX40 : List Cond := u_ws RX4 TX4 8
theorem nmX4 : ∀ a, a < 8 → ∀ b, b < 8 → a ≠ b → (TX4 a).2.1 ≠ (TX4 b).2.1 := by decide +kernel
theorem tyX4_ok : ∀ k, k < 8 → parseFieldDescriptor (TX4 k).2.2.1 = some (tyX4 k) := by decide +kernel
abbrev cX4_init : ByteArray := prog_6_method_1_code
def yX4_init : MethodName := ⟨RX4, "<init>", "([BII)V"⟩
abbrev cX4_refuse : ByteArray := prog_6_method_2_code
def yX4_refuse : MethodName := ⟨RX4, "refuse", "()V"⟩
abbrev cX4_kindOf : ByteArray := prog_6_method_3_code
def yX4_kindOf : MethodName := ⟨RX4, "kindOf", "(I)I"⟩
abbrev cX4_nextToken : ByteArray := prog_6_method_4_code
def yX4_nextToken : MethodName := ⟨RX4, "nextToken", "()V"⟩
abbrev cX4_isWord : ByteArray := prog_6_method_5_code
def yX4_isWord : MethodName := ⟨RX4, "isWord", "(Ljava/lang/String;)Z"⟩
abbrev cX4_takesWord : ByteArray := prog_6_method_6_code
def yX4_takesWord : MethodName := ⟨RX4, "takesWord", "(Ljava/lang/String;)Z"⟩
abbrev cX4_takesSign : ByteArray := prog_6_method_7_code
def yX4_takesSign : MethodName := ⟨RX4, "takesSign", "(C)Z"⟩
abbrev cX4_number : ByteArray := prog_6_method_8_code
def yX4_number : MethodName := ⟨RX4, "number", "()I"⟩
abbrev cX4_numberWithin : ByteArray := prog_6_method_9_code
def yX4_numberWithin : MethodName := ⟨RX4, "numberWithin", "(III)I"⟩
abbrev cX4_readMethod : ByteArray := prog_6_method_10_code
def yX4_readMethod : MethodName := ⟨RX4, "readMethod", "()V"⟩
abbrev cX4_readRule : ByteArray := prog_6_method_11_code
def yX4_readRule : MethodName := ⟨RX4, "readRule", "()V"⟩
abbrev cX4_readCond : ByteArray := prog_6_method_12_code
def yX4_readCond : MethodName := ⟨RX4, "readCond", "(LBelfryHouse$Rule;)V"⟩
abbrev cX4_readPlacing : ByteArray := prog_6_method_13_code
def yX4_readPlacing : MethodName := ⟨RX4, "readPlacing", "(LBelfryHouse$Rule;Z)V"⟩
abbrev cX4_readChange : ByteArray := prog_6_method_14_code
def yX4_readChange : MethodName := ⟨RX4, "readChange", "(I)I"⟩
abbrev cX4_readSome : ByteArray := prog_6_method_15_code
def yX4_readSome : MethodName := ⟨RX4, "readSome", "(I)I"⟩
abbrev cX4_readPlaces : ByteArray := prog_6_method_16_code
def yX4_readPlaces : MethodName := ⟨RX4, "readPlaces", "(I)I"⟩
abbrev cX4_readJump : ByteArray := prog_6_method_17_code
def yX4_readJump : MethodName := ⟨RX4, "readJump", "(I)I"⟩
abbrev cX4_readTurn : ByteArray := prog_6_method_18_code
def yX4_readTurn : MethodName := ⟨RX4, "readTurn", "(I)I"⟩
def RX5 : String := "BelfryHouse$Reals"
def TX5 : u_T := fun k => match k with
  | _ => ("", "", "", false)
def tyX5 : Nat → FieldType := fun k => match k with
  | _ => .int
abbrev wsX50 : List Cond := u_ws RX5 TX5 0
theorem nmX5 : ∀ a, a < 0 → ∀ b, b < 0 → a ≠ b → (TX5 a).2.1 ≠ (TX5 b).2.1 := by decide +kernel
theorem tyX5_ok : ∀ k, k < 0 → parseFieldDescriptor (TX5 k).2.2.1 = some (tyX5 k) := by decide +kernel
abbrev cX5_size : ByteArray := prog_7_method_2_code
def yX5_size : MethodName := ⟨RX5, "size", "(J)J"⟩
abbrev cX5_isNaN : ByteArray := prog_7_method_3_code
def yX5_isNaN : MethodName := ⟨RX5, "isNaN", "(J)Z"⟩
abbrev cX5_isInfinite : ByteArray := prog_7_method_4_code
def yX5_isInfinite : MethodName := ⟨RX5, "isInfinite", "(J)Z"⟩
abbrev cX5_isZero : ByteArray := prog_7_method_5_code
def yX5_isZero : MethodName := ⟨RX5, "isZero", "(J)Z"⟩
abbrev cX5_level : ByteArray := prog_7_method_6_code
def yX5_level : MethodName := ⟨RX5, "level", "(J)J"⟩
abbrev cX5_isLess : ByteArray := prog_7_method_7_code
def yX5_isLess : MethodName := ⟨RX5, "isLess", "(JJ)Z"⟩
abbrev cX5_greater : ByteArray := prog_7_method_8_code
def yX5_greater : MethodName := ⟨RX5, "greater", "(JJ)J"⟩
abbrev cX5_exponentField : ByteArray := prog_7_method_9_code
def yX5_exponentField : MethodName := ⟨RX5, "exponentField", "(J)I"⟩
abbrev cX5_significand : ByteArray := prog_7_method_10_code
def yX5_significand : MethodName := ⟨RX5, "significand", "(J)J"⟩
abbrev cX5_exponent : ByteArray := prog_7_method_11_code
def yX5_exponent : MethodName := ⟨RX5, "exponent", "(J)I"⟩
abbrev cX5_missingBits : ByteArray := prog_7_method_12_code
def yX5_missingBits : MethodName := ⟨RX5, "missingBits", "(J)I"⟩
abbrev cX5_shiftedRight : ByteArray := prog_7_method_13_code
def yX5_shiftedRight : MethodName := ⟨RX5, "shiftedRight", "(JI)J"⟩
abbrev cX5_rounded : ByteArray := prog_7_method_14_code
def yX5_rounded : MethodName := ⟨RX5, "rounded", "(JIJ)J"⟩
abbrev cX5_fromInt : ByteArray := prog_7_method_15_code
def yX5_fromInt : MethodName := ⟨RX5, "fromInt", "(I)J"⟩
abbrev cX5_add : ByteArray := prog_7_method_16_code
def yX5_add : MethodName := ⟨RX5, "add", "(JJ)J"⟩
abbrev cX5_aligned : ByteArray := prog_7_method_17_code
def yX5_aligned : MethodName := ⟨RX5, "aligned", "(JI)J"⟩
abbrev cX5_subtract : ByteArray := prog_7_method_18_code
def yX5_subtract : MethodName := ⟨RX5, "subtract", "(JJ)J"⟩
abbrev cX5_multiply : ByteArray := prog_7_method_19_code
def yX5_multiply : MethodName := ⟨RX5, "multiply", "(JJ)J"⟩
abbrev cX5_highProduct : ByteArray := prog_7_method_20_code
def yX5_highProduct : MethodName := ⟨RX5, "highProduct", "(JJ)J"⟩
abbrev cX5_divide : ByteArray := prog_7_method_21_code
def yX5_divide : MethodName := ⟨RX5, "divide", "(JJ)J"⟩
abbrev cX5_quotient : ByteArray := prog_7_method_22_code
def yX5_quotient : MethodName := ⟨RX5, "quotient", "(JJ)J"⟩
abbrev cX5_root : ByteArray := prog_7_method_23_code
def yX5_root : MethodName := ⟨RX5, "root", "(J)J"⟩
abbrev cX5_longRoot : ByteArray := prog_7_method_24_code
def yX5_longRoot : MethodName := ⟨RX5, "longRoot", "(J)J"⟩
abbrev cX5_whole : ByteArray := prog_7_method_25_code
def yX5_whole : MethodName := ⟨RX5, "whole", "(J)J"⟩
def RX6 : String := "BelfryHouse$Recording"
def TX6 : u_T := fun k => match k with
  | 0 => ("BelfryHouse$Recording", "bellOf", "[I", true)
  | 1 => ("BelfryHouse$Recording", "timeOf", "[J", true)
  | 2 => ("BelfryHouse$Recording", "order", "[I", true)
  | 3 => ("BelfryHouse$Recording", "errors", "[J", true)
  | 4 => ("BelfryHouse$Recording", "count", "I", false)
  | 5 => ("BelfryHouse$Recording", "known", "I", false)
  | 6 => ("BelfryHouse$Recording", "isLaid", "Z", false)
  | 7 => ("BelfryHouse$Recording", "gap", "J", false)
  | 8 => ("BelfryHouse$Recording", "lead", "J", false)
  | 9 => ("BelfryHouse$Recording", "greatest", "J", false)
  | _ => ("BelfryHouse$Recording", "root", "J", false)
def tyX6 : Nat → FieldType := fun k => match k with
  | 0 => .array .int
  | 1 => .array .long
  | 2 => .array .int
  | 3 => .array .long
  | 4 => .int
  | 5 => .int
  | 6 => .boolean
  | 7 => .long
  | 8 => .long
  | 9 => .long
  | _ => .long
abbrev wsX60 : List Cond := u_ws RX6 TX6 11
theorem nmX6 : ∀ a, a < 11 → ∀ b, b < 11 → a ≠ b → (TX6 a).2.1 ≠ (TX6 b).2.1 := by decide +kernel
theorem tyX6_ok : ∀ k, k < 11 → parseFieldDescriptor (TX6 k).2.2.1 = some (tyX6 k) := by decide +kernel
abbrev cX6_init : ByteArray := prog_8_method_1_code
def yX6_init : MethodName := ⟨RX6, "<init>", "()V"⟩
abbrev cX6_erase : ByteArray := prog_8_method_2_code
def yX6_erase : MethodName := ⟨RX6, "erase", "()V"⟩
abbrev cX6_add : ByteArray := prog_8_method_3_code
def yX6_add : MethodName := ⟨RX6, "add", "(IJ)I"⟩
abbrev cX6_putInOrder : ByteArray := prog_8_method_4_code
def yX6_putInOrder : MethodName := ⟨RX6, "putInOrder", "(I)V"⟩
abbrev cX6_timeInOrder : ByteArray := prog_8_method_5_code
def yX6_timeInOrder : MethodName := ⟨RX6, "timeInOrder", "(I)J"⟩
abbrev cX6_rowHeard : ByteArray := prog_8_method_6_code
def yX6_rowHeard : MethodName := ⟨RX6, "rowHeard", "(II)I"⟩
abbrev cX6_lay : ByteArray := prog_8_method_7_code
def yX6_lay : MethodName := ⟨RX6, "lay", "()V"⟩
abbrev cX6_measureErrors : ByteArray := prog_8_method_8_code
def yX6_measureErrors : MethodName := ⟨RX6, "measureErrors", "(J)V"⟩
abbrev cX6_placeOnLine : ByteArray := prog_8_method_9_code
def yX6_placeOnLine : MethodName := ⟨RX6, "placeOnLine", "(I)J"⟩
def RX7 : String := "BelfryHouse$Rows"
def TX7 : u_T := fun k => match k with
  | _ => ("", "", "", false)
def tyX7 : Nat → FieldType := fun k => match k with
  | _ => .int
abbrev wsX70 : List Cond := u_ws RX7 TX7 0
theorem nmX7 : ∀ a, a < 0 → ∀ b, b < 0 → a ≠ b → (TX7 a).2.1 ≠ (TX7 b).2.1 := by decide +kernel
theorem tyX7_ok : ∀ k, k < 0 → parseFieldDescriptor (TX7 k).2.2.1 = some (tyX7 k) := by decide +kernel
abbrev cX7_howMany : ByteArray := prog_9_method_2_code
def yX7_howMany : MethodName := ⟨RX7, "howMany", "(I)I"⟩
abbrev cX7_at : ByteArray := prog_9_method_3_code
def yX7_at : MethodName := ⟨RX7, "at", "(III)I"⟩
abbrev cX7_put : ByteArray := prog_9_method_4_code
def yX7_put : MethodName := ⟨RX7, "put", "(III)I"⟩
abbrev cX7_placeOf : ByteArray := prog_9_method_5_code
def yX7_placeOf : MethodName := ⟨RX7, "placeOf", "(III)I"⟩
abbrev cX7_rounds : ByteArray := prog_9_method_6_code
def yX7_rounds : MethodName := ⟨RX7, "rounds", "(I)I"⟩
abbrev cX7_fromNumber : ByteArray := prog_9_method_7_code
def yX7_fromNumber : MethodName := ⟨RX7, "fromNumber", "(II)I"⟩
abbrev cX7_toNumber : ByteArray := prog_9_method_8_code
def yX7_toNumber : MethodName := ⟨RX7, "toNumber", "(II)I"⟩
abbrev cX7_times : ByteArray := prog_9_method_9_code
def yX7_times : MethodName := ⟨RX7, "times", "(III)I"⟩
abbrev cX7_undone : ByteArray := prog_9_method_10_code
def yX7_undone : MethodName := ⟨RX7, "undone", "(II)I"⟩
abbrev cX7_order : ByteArray := prog_9_method_11_code
def yX7_order : MethodName := ⟨RX7, "order", "(II)I"⟩
abbrev cX7_rank : ByteArray := prog_9_method_12_code
def yX7_rank : MethodName := ⟨RX7, "rank", "(II)I"⟩
abbrev cX7_ofRank : ByteArray := prog_9_method_13_code
def yX7_ofRank : MethodName := ⟨RX7, "ofRank", "(II)I"⟩
abbrev cX7_unseen : ByteArray := prog_9_method_14_code
def yX7_unseen : MethodName := ⟨RX7, "unseen", "(III)I"⟩
abbrev cX7_isEven : ByteArray := prog_9_method_15_code
def yX7_isEven : MethodName := ⟨RX7, "isEven", "(II)Z"⟩
abbrev cX7_swapped : ByteArray := prog_9_method_16_code
def yX7_swapped : MethodName := ⟨RX7, "swapped", "(IIII)I"⟩
abbrev cX7_paired : ByteArray := prog_9_method_17_code
def yX7_paired : MethodName := ⟨RX7, "paired", "(IIII)I"⟩
abbrev cX7_jumped : ByteArray := prog_9_method_18_code
def yX7_jumped : MethodName := ⟨RX7, "jumped", "(IIII)I"⟩
abbrev cX7_turned : ByteArray := prog_9_method_19_code
def yX7_turned : MethodName := ⟨RX7, "turned", "(IIII)I"⟩
def RX8 : String := "BelfryHouse$Rule"
def TX8 : u_T := fun k => match k with
  | 0 => ("BelfryHouse$Rule", "kinds", "[I", true)
  | 1 => ("BelfryHouse$Rule", "nots", "[Z", true)
  | 2 => ("BelfryHouse$Rule", "lefts", "[I", true)
  | 3 => ("BelfryHouse$Rule", "rights", "[I", true)
  | 4 => ("BelfryHouse$Rule", "condCount", "I", false)
  | _ => ("BelfryHouse$Rule", "move", "I", false)
def tyX8 : Nat → FieldType := fun k => match k with
  | 0 => .array .int
  | 1 => .array .boolean
  | 2 => .array .int
  | 3 => .array .int
  | 4 => .int
  | _ => .int
abbrev wsX80 : List Cond := u_ws RX8 TX8 6
theorem nmX8 : ∀ a, a < 6 → ∀ b, b < 6 → a ≠ b → (TX8 a).2.1 ≠ (TX8 b).2.1 := by decide +kernel
theorem tyX8_ok : ∀ k, k < 6 → parseFieldDescriptor (TX8 k).2.2.1 = some (tyX8 k) := by decide +kernel
abbrev cX8_init : ByteArray := prog_10_method_1_code
def yX8_init : MethodName := ⟨RX8, "<init>", "()V"⟩
abbrev cX8_require : ByteArray := prog_10_method_2_code
def yX8_require : MethodName := ⟨RX8, "require", "(ZIII)V"⟩
abbrev cX8_holds : ByteArray := prog_10_method_3_code
def yX8_holds : MethodName := ⟨RX8, "holds", "(IIIZ)Z"⟩
abbrev cX8_isSo : ByteArray := prog_10_method_4_code
def yX8_isSo : MethodName := ⟨RX8, "isSo", "(IIIIZ)Z"⟩
def RX9 : String := "BelfryHouse$Run"
def TX9 : u_T := fun k => match k with
  | 0 => ("BelfryHouse$Run", "method", "LBelfryHouse$Method;", false)
  | 1 => ("BelfryHouse$Run", "rows", "[I", true)
  | 2 => ("BelfryHouse$Run", "called", "[B", true)
  | 3 => ("BelfryHouse$Run", "madeCalled", "[B", true)
  | 4 => ("BelfryHouse$Run", "latestSame", "[I", true)
  | 5 => ("BelfryHouse$Run", "cameBefore", "[I", true)
  | 6 => ("BelfryHouse$Run", "firstAgain", "[I", true)
  | 7 => ("BelfryHouse$Run", "buckets", "[I", true)
  | 8 => ("BelfryHouse$Run", "nextInBucket", "[I", true)
  | 9 => ("BelfryHouse$Run", "steps", "I", false)
  | 10 => ("BelfryHouse$Run", "stuck", "Z", false)
  | 11 => ("BelfryHouse$Run", "firstRounds", "I", false)
  | _ => ("BelfryHouse$Run", "different", "I", false)
def tyX9 : Nat → FieldType := fun k => match k with
  | 0 => .object "BelfryHouse$Method"
  | 1 => .array .int
  | 2 => .array .byte
  | 3 => .array .byte
  | 4 => .array .int
  | 5 => .array .int
  | 6 => .array .int
  | 7 => .array .int
  | 8 => .array .int
  | 9 => .int
  | 10 => .boolean
  | 11 => .int
  | _ => .int
abbrev wsX90 : List Cond := u_ws RX9 TX9 13
theorem nmX9 : ∀ a, a < 13 → ∀ b, b < 13 → a ≠ b → (TX9 a).2.1 ≠ (TX9 b).2.1 := by decide +kernel
theorem tyX9_ok : ∀ k, k < 13 → parseFieldDescriptor (TX9 k).2.2.1 = some (tyX9 k) := by decide +kernel
abbrev cX9_init : ByteArray := prog_11_method_1_code
def yX9_init : MethodName := ⟨RX9, "<init>", "()V"⟩
abbrev cX9_isOn : ByteArray := prog_11_method_2_code
def yX9_isOn : MethodName := ⟨RX9, "isOn", "()Z"⟩
abbrev cX9_end : ByteArray := prog_11_method_3_code
def yX9_end : MethodName := ⟨RX9, "end", "()V"⟩
abbrev cX9_begin : ByteArray := prog_11_method_4_code
def yX9_begin : MethodName := ⟨RX9, "begin", "(LBelfryHouse$Method;I)V"⟩
abbrev cX9_hasRows : ByteArray := prog_11_method_5_code
def yX9_hasRows : MethodName := ⟨RX9, "hasRows", "(II)Z"⟩
abbrev cX9_goOn : ByteArray := prog_11_method_6_code
def yX9_goOn : MethodName := ⟨RX9, "goOn", "(II)I"⟩
abbrev cX9_goOneStep : ByteArray := prog_11_method_7_code
def yX9_goOneStep : MethodName := ⟨RX9, "goOneStep", "(I)Z"⟩
abbrev cX9_compareWithEarlier : ByteArray := prog_11_method_8_code
def yX9_compareWithEarlier : MethodName := ⟨RX9, "compareWithEarlier", "(I)V"⟩
def RX10 : String := "BelfryHouse$Shelf"
def TX10 : u_T := fun k => match k with
  | 0 => ("BelfryHouse$Shelf", "sorts", "[I", true)
  | 1 => ("BelfryHouse$Shelf", "sizes", "[I", true)
  | _ => ("BelfryHouse$Shelf", "items", "[[J", true)
def tyX10 : Nat → FieldType := fun k => match k with
  | 0 => .array .int
  | 1 => .array .int
  | _ => .array (.array .long)
abbrev wsX100 : List Cond := u_ws RX10 TX10 3
theorem nmX10 : ∀ a, a < 3 → ∀ b, b < 3 → a ≠ b → (TX10 a).2.1 ≠ (TX10 b).2.1 := by decide +kernel
theorem tyX10_ok : ∀ k, k < 3 → parseFieldDescriptor (TX10 k).2.2.1 = some (tyX10 k) := by decide +kernel
abbrev cX10_init : ByteArray := prog_12_method_1_code
def yX10_init : MethodName := ⟨RX10, "<init>", "()V"⟩
abbrev cX10_sweep : ByteArray := prog_12_method_2_code
def yX10_sweep : MethodName := ⟨RX10, "sweep", "()V"⟩
abbrev cX10_lay : ByteArray := prog_12_method_3_code
def yX10_lay : MethodName := ⟨RX10, "lay", "(III)V"⟩
abbrev cX10_holdsNothing : ByteArray := prog_12_method_4_code
def yX10_holdsNothing : MethodName := ⟨RX10, "holdsNothing", "(I)Z"⟩
abbrev cX10_isOfLines : ByteArray := prog_12_method_5_code
def yX10_isOfLines : MethodName := ⟨RX10, "isOfLines", "(I)Z"⟩
abbrev cX10_lineOf : ByteArray := prog_12_method_6_code
def yX10_lineOf : MethodName := ⟨RX10, "lineOf", "(IZ)J"⟩
abbrev cX10_rowOfLine : ByteArray := prog_12_method_7_code
def yX10_rowOfLine : MethodName := ⟨RX10, "rowOfLine", "(J)I"⟩
abbrev cX10_takes : ByteArray := prog_12_method_8_code
def yX10_takes : MethodName := ⟨RX10, "takes", "(IJ)Z"⟩
abbrev cX10_readsAs : ByteArray := prog_12_method_9_code
def yX10_readsAs : MethodName := ⟨RX10, "readsAs", "(II)Z"⟩
abbrev cX10_copyItems : ByteArray := prog_12_method_10_code
def yX10_copyItems : MethodName := ⟨RX10, "copyItems", "(IIIII)I"⟩
abbrev cX10_copyLines : ByteArray := prog_12_method_11_code
def yX10_copyLines : MethodName := ⟨RX10, "copyLines", "(IIIII)I"⟩
def RX11 : String := "BelfryHouse"
def TX11 : u_T := fun k => match k with
  | 0 => ("BelfryHouse", "bells", "I", false)
  | 1 => ("BelfryHouse", "tape", "[B", true)
  | 2 => ("BelfryHouse", "taped", "I", false)
  | 3 => ("BelfryHouse", "methods", "[LBelfryHouse$Method;", true)
  | 4 => ("BelfryHouse", "methodCount", "I", false)
  | 5 => ("BelfryHouse", "theRun", "LBelfryHouse$Run;", true)
  | 6 => ("BelfryHouse", "theGroup", "LBelfryHouse$Group;", true)
  | 7 => ("BelfryHouse", "theHeads", "LBelfryHouse$Heads;", true)
  | 8 => ("BelfryHouse", "theBand", "LBelfryHouse$Band;", true)
  | 9 => ("BelfryHouse", "theRecording", "LBelfryHouse$Recording;", true)
  | _ => ("BelfryHouse", "theShelf", "LBelfryHouse$Shelf;", true)
def tyX11 : Nat → FieldType := fun k => match k with
  | 0 => .int
  | 1 => .array .byte
  | 2 => .int
  | 3 => .array (.object "BelfryHouse$Method")
  | 4 => .int
  | 5 => .object "BelfryHouse$Run"
  | 6 => .object "BelfryHouse$Group"
  | 7 => .object "BelfryHouse$Heads"
  | 8 => .object "BelfryHouse$Band"
  | 9 => .object "BelfryHouse$Recording"
  | _ => .object "BelfryHouse$Shelf"
abbrev wsX110 : List Cond := u_ws RX11 TX11 11
theorem nmX11 : ∀ a, a < 11 → ∀ b, b < 11 → a ≠ b → (TX11 a).2.1 ≠ (TX11 b).2.1 := by decide +kernel
theorem tyX11_ok : ∀ k, k < 11 → parseFieldDescriptor (TX11 k).2.2.1 = some (tyX11 k) := by decide +kernel
abbrev cX11_init : ByteArray := prog_1_method_1_code
def yX11_init : MethodName := ⟨RX11, "<init>", "()V"⟩
abbrev cX11_beginAnew : ByteArray := prog_1_method_2_code
def yX11_beginAnew : MethodName := ⟨RX11, "beginAnew", "()V"⟩
abbrev cX11_stage : ByteArray := prog_1_method_3_code
def yX11_stage : MethodName := ⟨RX11, "stage", "(I)I"⟩
abbrev cX11_isBell : ByteArray := prog_1_method_4_code
def yX11_isBell : MethodName := ⟨RX11, "isBell", "(I)Z"⟩
abbrev cX11_numberOf : ByteArray := prog_1_method_5_code
def yX11_numberOf : MethodName := ⟨RX11, "numberOf", "(I)I"⟩
abbrev cX11_product : ByteArray := prog_1_method_6_code
def yX11_product : MethodName := ⟨RX11, "product", "(II)I"⟩
abbrev cX11_inverse : ByteArray := prog_1_method_7_code
def yX11_inverse : MethodName := ⟨RX11, "inverse", "(I)I"⟩
abbrev cX11_told : ByteArray := prog_1_method_8_code
def yX11_told : MethodName := ⟨RX11, "told", "(II)I"⟩
abbrev cX11_ranked : ByteArray := prog_1_method_9_code
def yX11_ranked : MethodName := ⟨RX11, "ranked", "(I)I"⟩
abbrev cX11_feed : ByteArray := prog_1_method_10_code
def yX11_feed : MethodName := ⟨RX11, "feed", "(IJ)I"⟩
abbrev cX11_method : ByteArray := prog_1_method_11_code
def yX11_method : MethodName := ⟨RX11, "method", "()I"⟩
abbrev cX11_isMethod : ByteArray := prog_1_method_12_code
def yX11_isMethod : MethodName := ⟨RX11, "isMethod", "(I)Z"⟩
abbrev cX11_about : ByteArray := prog_1_method_13_code
def yX11_about : MethodName := ⟨RX11, "about", "(II)I"⟩
abbrev cX11_change : ByteArray := prog_1_method_14_code
def yX11_change : MethodName := ⟨RX11, "change", "(III)I"⟩
abbrev cX11_ring : ByteArray := prog_1_method_15_code
def yX11_ring : MethodName := ⟨RX11, "ring", "(I)I"⟩
abbrev cX11_call : ByteArray := prog_1_method_16_code
def yX11_call : MethodName := ⟨RX11, "call", "(II)I"⟩
abbrev cX11_go : ByteArray := prog_1_method_17_code
def yX11_go : MethodName := ⟨RX11, "go", "(I)I"⟩
abbrev cX11_rowAt : ByteArray := prog_1_method_18_code
def yX11_rowAt : MethodName := ⟨RX11, "rowAt", "(I)I"⟩
abbrev cX11_run : ByteArray := prog_1_method_19_code
def yX11_run : MethodName := ⟨RX11, "run", "(I)I"⟩
abbrev cX11_truth : ByteArray := prog_1_method_20_code
def yX11_truth : MethodName := ⟨RX11, "truth", "(II)I"⟩
abbrev cX11_generator : ByteArray := prog_1_method_21_code
def yX11_generator : MethodName := ⟨RX11, "generator", "(I)I"⟩
abbrev cX11_free : ByteArray := prog_1_method_22_code
def yX11_free : MethodName := ⟨RX11, "free", "()I"⟩
abbrev cX11_group : ByteArray := prog_1_method_23_code
def yX11_group : MethodName := ⟨RX11, "group", "()I"⟩
abbrev cX11_coset : ByteArray := prog_1_method_24_code
def yX11_coset : MethodName := ⟨RX11, "coset", "(I)I"⟩
abbrev cX11_heads : ByteArray := prog_1_method_25_code
def yX11_heads : MethodName := ⟨RX11, "heads", "(II)I"⟩
abbrev cX11_head : ByteArray := prog_1_method_26_code
def yX11_head : MethodName := ⟨RX11, "head", "(I)I"⟩
abbrev cX11_ringer : ByteArray := prog_1_method_27_code
def yX11_ringer : MethodName := ⟨RX11, "ringer", "(III)I"⟩
abbrev cX11_band : ByteArray := prog_1_method_28_code
def yX11_band : MethodName := ⟨RX11, "band", "(III)I"⟩
abbrev cX11_blow : ByteArray := prog_1_method_29_code
def yX11_blow : MethodName := ⟨RX11, "blow", "(II)I"⟩
abbrev cX11_ringing : ByteArray := prog_1_method_30_code
def yX11_ringing : MethodName := ⟨RX11, "ringing", "(I)I"⟩
abbrev cX11_slips : ByteArray := prog_1_method_31_code
def yX11_slips : MethodName := ⟨RX11, "slips", "(I)I"⟩
abbrev cX11_note : ByteArray := prog_1_method_32_code
def yX11_note : MethodName := ⟨RX11, "note", "(IJ)I"⟩
abbrev cX11_wipe : ByteArray := prog_1_method_33_code
def yX11_wipe : MethodName := ⟨RX11, "wipe", "()I"⟩
abbrev cX11_listen : ByteArray := prog_1_method_34_code
def yX11_listen : MethodName := ⟨RX11, "listen", "()I"⟩
abbrev cX11_inOrder : ByteArray := prog_1_method_35_code
def yX11_inOrder : MethodName := ⟨RX11, "inOrder", "(II)I"⟩
abbrev cX11_heard : ByteArray := prog_1_method_36_code
def yX11_heard : MethodName := ⟨RX11, "heard", "(I)I"⟩
abbrev cX11_line : ByteArray := prog_1_method_37_code
def yX11_line : MethodName := ⟨RX11, "line", "(I)J"⟩
abbrev cX11_along : ByteArray := prog_1_method_38_code
def yX11_along : MethodName := ⟨RX11, "along", "(II)J"⟩
abbrev cX11_isBoard : ByteArray := prog_1_method_39_code
def yX11_isBoard : MethodName := ⟨RX11, "isBoard", "(I)Z"⟩
abbrev cX11_isSort : ByteArray := prog_1_method_40_code
def yX11_isSort : MethodName := ⟨RX11, "isSort", "(I)Z"⟩
abbrev cX11_board : ByteArray := prog_1_method_41_code
def yX11_board : MethodName := ⟨RX11, "board", "(III)I"⟩
abbrev cX11_clear : ByteArray := prog_1_method_42_code
def yX11_clear : MethodName := ⟨RX11, "clear", "(I)I"⟩
abbrev cX11_items : ByteArray := prog_1_method_43_code
def yX11_items : MethodName := ⟨RX11, "items", "(I)I"⟩
abbrev cX11_fill : ByteArray := prog_1_method_44_code
def yX11_fill : MethodName := ⟨RX11, "fill", "(III)I"⟩
abbrev cX11_itemFromRow : ByteArray := prog_1_method_45_code
def yX11_itemFromRow : MethodName := ⟨RX11, "itemFromRow", "(II)J"⟩
abbrev cX11_copy : ByteArray := prog_1_method_46_code
def yX11_copy : MethodName := ⟨RX11, "copy", "(IIIII)I"⟩
abbrev cX11_item : ByteArray := prog_1_method_47_code
def yX11_item : MethodName := ⟨RX11, "item", "(III)J"⟩
def RX12 : String := "BelfryHouseModel"
def TX12 : u_T := fun k => match k with
  | 0 => ("BelfryHouseModel", "n", "I", false)
  | 1 => ("BelfryHouseModel", "one", "[I", true)
  | 2 => ("BelfryHouseModel", "two", "[I", true)
  | 3 => ("BelfryHouseModel", "three", "[I", true)
  | 4 => ("BelfryHouseModel", "tape", "[B", true)
  | 5 => ("BelfryHouseModel", "taped", "I", false)
  | 6 => ("BelfryHouseModel", "token", "I", false)
  | 7 => ("BelfryHouseModel", "from", "I", false)
  | 8 => ("BelfryHouseModel", "to", "I", false)
  | 9 => ("BelfryHouseModel", "number", "I", false)
  | 10 => ("BelfryHouseModel", "fault", "I", false)
  | 11 => ("BelfryHouseModel", "methods", "I", false)
  | 12 => ("BelfryHouseModel", "rules", "[I", true)
  | 13 => ("BelfryHouseModel", "counts", "[I", true)
  | 14 => ("BelfryHouseModel", "conds", "[I", true)
  | 15 => ("BelfryHouseModel", "condKind", "[I", true)
  | 16 => ("BelfryHouseModel", "condNot", "[I", true)
  | 17 => ("BelfryHouseModel", "condA", "[I", true)
  | 18 => ("BelfryHouseModel", "condB", "[I", true)
  | 19 => ("BelfryHouseModel", "ruleNode", "[I", true)
  | 20 => ("BelfryHouseModel", "nodes", "I", false)
  | 21 => ("BelfryHouseModel", "nodeKind", "[I", true)
  | 22 => ("BelfryHouseModel", "nodeA", "[I", true)
  | 23 => ("BelfryHouseModel", "nodeB", "[I", true)
  | 24 => ("BelfryHouseModel", "nodePart", "[I", true)
  | 25 => ("BelfryHouseModel", "nodeNext", "[I", true)
  | 26 => ("BelfryHouseModel", "work", "[I", true)
  | 27 => ("BelfryHouseModel", "rings", "Z", false)
  | 28 => ("BelfryHouseModel", "rung", "I", false)
  | 29 => ("BelfryHouseModel", "steps", "I", false)
  | 30 => ("BelfryHouseModel", "stuck", "Z", false)
  | 31 => ("BelfryHouseModel", "rows", "[I", true)
  | 32 => ("BelfryHouseModel", "calls", "[Z", true)
  | 33 => ("BelfryHouseModel", "wasCalled", "[Z", true)
  | 34 => ("BelfryHouseModel", "seen", "[I", true)
  | 35 => ("BelfryHouseModel", "latest", "[I", true)
  | 36 => ("BelfryHouseModel", "generators", "I", false)
  | 37 => ("BelfryHouseModel", "generator", "[I", true)
  | 38 => ("BelfryHouseModel", "inGroup", "[Z", true)
  | 39 => ("BelfryHouseModel", "members", "[I", true)
  | 40 => ("BelfryHouseModel", "memberMany", "I", false)
  | 41 => ("BelfryHouseModel", "heads", "I", false)
  | 42 => ("BelfryHouseModel", "headRow", "[I", true)
  | 43 => ("BelfryHouseModel", "inverses", "[I", true)
  | 44 => ("BelfryHouseModel", "kinds", "[I", true)
  | 45 => ("BelfryHouseModel", "skills", "[I", true)
  | 46 => ("BelfryHouseModel", "slips", "[I", true)
  | 47 => ("BelfryHouseModel", "blown", "Z", false)
  | 48 => ("BelfryHouseModel", "bandFrom", "I", false)
  | 49 => ("BelfryHouseModel", "begun", "I", false)
  | 50 => ("BelfryHouseModel", "clashes", "I", false)
  | 51 => ("BelfryHouseModel", "words", "I", false)
  | 52 => ("BelfryHouseModel", "lost", "I", false)
  | 53 => ("BelfryHouseModel", "blows", "[I", true)
  | 54 => ("BelfryHouseModel", "notes", "I", false)
  | 55 => ("BelfryHouseModel", "noteBell", "[I", true)
  | 56 => ("BelfryHouseModel", "noteTime", "[D", true)
  | 57 => ("BelfryHouseModel", "order", "[I", true)
  | 58 => ("BelfryHouseModel", "known", "I", false)
  | 59 => ("BelfryHouseModel", "heardRows", "[I", true)
  | 60 => ("BelfryHouseModel", "gap", "D", false)
  | 61 => ("BelfryHouseModel", "lead", "D", false)
  | 62 => ("BelfryHouseModel", "sorts", "[I", true)
  | 63 => ("BelfryHouseModel", "sizes", "[I", true)
  | 64 => ("BelfryHouseModel", "shelf", "[J", true)
  | 65 => ("BelfryHouseModel", "shelfCalled", "[Z", true)
  | 66 => ("BelfryHouseModel", "taken", "[J", true)
  | _ => ("BelfryHouseModel", "takenCalled", "[Z", true)
def tyX12 : Nat → FieldType := fun k => match k with
  | 0 => .int
  | 1 => .array .int
  | 2 => .array .int
  | 3 => .array .int
  | 4 => .array .byte
  | 5 => .int
  | 6 => .int
  | 7 => .int
  | 8 => .int
  | 9 => .int
  | 10 => .int
  | 11 => .int
  | 12 => .array .int
  | 13 => .array .int
  | 14 => .array .int
  | 15 => .array .int
  | 16 => .array .int
  | 17 => .array .int
  | 18 => .array .int
  | 19 => .array .int
  | 20 => .int
  | 21 => .array .int
  | 22 => .array .int
  | 23 => .array .int
  | 24 => .array .int
  | 25 => .array .int
  | 26 => .array .int
  | 27 => .boolean
  | 28 => .int
  | 29 => .int
  | 30 => .boolean
  | 31 => .array .int
  | 32 => .array .boolean
  | 33 => .array .boolean
  | 34 => .array .int
  | 35 => .array .int
  | 36 => .int
  | 37 => .array .int
  | 38 => .array .boolean
  | 39 => .array .int
  | 40 => .int
  | 41 => .int
  | 42 => .array .int
  | 43 => .array .int
  | 44 => .array .int
  | 45 => .array .int
  | 46 => .array .int
  | 47 => .boolean
  | 48 => .int
  | 49 => .int
  | 50 => .int
  | 51 => .int
  | 52 => .int
  | 53 => .array .int
  | 54 => .int
  | 55 => .array .int
  | 56 => .array .double
  | 57 => .array .int
  | 58 => .int
  | 59 => .array .int
  | 60 => .double
  | 61 => .double
  | 62 => .array .int
  | 63 => .array .int
  | 64 => .array .long
  | 65 => .array .boolean
  | 66 => .array .long
  | _ => .array .boolean
abbrev wsX120 : List Cond := u_ws RX12 TX12 68
theorem nmX12 : ∀ a, a < 68 → ∀ b, b < 68 → a ≠ b → (TX12 a).2.1 ≠ (TX12 b).2.1 := by decide +kernel
theorem tyX12_ok : ∀ k, k < 68 → parseFieldDescriptor (TX12 k).2.2.1 = some (tyX12 k) := by decide +kernel
abbrev cX12_init : ByteArray := prog_14_method_1_code
def yX12_init : MethodName := ⟨RX12, "<init>", "()V"⟩
abbrev cX12_into : ByteArray := prog_14_method_2_code
def yX12_into : MethodName := ⟨RX12, "into", "([II)Z"⟩
abbrev cX12_asRow : ByteArray := prog_14_method_3_code
def yX12_asRow : MethodName := ⟨RX12, "asRow", "([I)I"⟩
abbrev cX12_rounds : ByteArray := prog_14_method_4_code
def yX12_rounds : MethodName := ⟨RX12, "rounds", "()I"⟩
abbrev cX12_times : ByteArray := prog_14_method_5_code
def yX12_times : MethodName := ⟨RX12, "times", "(II)I"⟩
abbrev cX12_back : ByteArray := prog_14_method_6_code
def yX12_back : MethodName := ⟨RX12, "back", "(I)I"⟩
abbrev cX12_isRow : ByteArray := prog_14_method_7_code
def yX12_isRow : MethodName := ⟨RX12, "isRow", "(I)Z"⟩
abbrev cX12_product : ByteArray := prog_14_method_8_code
def yX12_product : MethodName := ⟨RX12, "product", "(II)I"⟩
abbrev cX12_inverse : ByteArray := prog_14_method_9_code
def yX12_inverse : MethodName := ⟨RX12, "inverse", "(I)I"⟩
abbrev cX12_rank : ByteArray := prog_14_method_10_code
def yX12_rank : MethodName := ⟨RX12, "rank", "(I)I"⟩
abbrev cX12_isEven : ByteArray := prog_14_method_11_code
def yX12_isEven : MethodName := ⟨RX12, "isEven", "(I)Z"⟩
abbrev cX12_told : ByteArray := prog_14_method_12_code
def yX12_told : MethodName := ⟨RX12, "told", "(II)I"⟩
abbrev cX12_all : ByteArray := prog_14_method_13_code
def yX12_all : MethodName := ⟨RX12, "all", "()I"⟩
abbrev cX12_ofRank : ByteArray := prog_14_method_14_code
def yX12_ofRank : MethodName := ⟨RX12, "ofRank", "(I)I"⟩
abbrev cX12_ranked : ByteArray := prog_14_method_15_code
def yX12_ranked : MethodName := ⟨RX12, "ranked", "(I)I"⟩
abbrev cX12_feed : ByteArray := prog_14_method_16_code
def yX12_feed : MethodName := ⟨RX12, "feed", "(IJ)I"⟩
abbrev cX12_next : ByteArray := prog_14_method_17_code
def yX12_next : MethodName := ⟨RX12, "next", "()V"⟩
abbrev cX12_good : ByteArray := prog_14_method_18_code
def yX12_good : MethodName := ⟨RX12, "good", "()Z"⟩
abbrev cX12_wrong : ByteArray := prog_14_method_19_code
def yX12_wrong : MethodName := ⟨RX12, "wrong", "()V"⟩
abbrev cX12_isWord : ByteArray := prog_14_method_20_code
def yX12_isWord : MethodName := ⟨RX12, "isWord", "(Ljava/lang/String;)Z"⟩
abbrev cX12_isSign : ByteArray := prog_14_method_21_code
def yX12_isSign : MethodName := ⟨RX12, "isSign", "(I)Z"⟩
abbrev cX12_sign : ByteArray := prog_14_method_22_code
def yX12_sign : MethodName := ⟨RX12, "sign", "(I)V"⟩
abbrev cX12_number : ByteArray := prog_14_method_23_code
def yX12_number : MethodName := ⟨RX12, "number", "(II)I"⟩
abbrev cX12_cond : ByteArray := prog_14_method_24_code
def yX12_cond : MethodName := ⟨RX12, "cond", "(I)V"⟩
abbrev cX12_arePlaces : ByteArray := prog_14_method_25_code
def yX12_arePlaces : MethodName := ⟨RX12, "arePlaces", "()Z"⟩
abbrev cX12_node : ByteArray := prog_14_method_26_code
def yX12_node : MethodName := ⟨RX12, "node", "(I)I"⟩
abbrev cX12_rule : ByteArray := prog_14_method_27_code
def yX12_rule : MethodName := ⟨RX12, "rule", "()V"⟩
abbrev cX12_method : ByteArray := prog_14_method_28_code
def yX12_method : MethodName := ⟨RX12, "method", "()I"⟩
abbrev cX12_about : ByteArray := prog_14_method_29_code
def yX12_about : MethodName := ⟨RX12, "about", "(II)I"⟩
abbrev cX12_swap : ByteArray := prog_14_method_30_code
def yX12_swap : MethodName := ⟨RX12, "swap", "([III)V"⟩
abbrev cX12_twos : ByteArray := prog_14_method_31_code
def yX12_twos : MethodName := ⟨RX12, "twos", "([II)V"⟩
abbrev cX12_jump : ByteArray := prog_14_method_32_code
def yX12_jump : MethodName := ⟨RX12, "jump", "([III)V"⟩
abbrev cX12_does : ByteArray := prog_14_method_33_code
def yX12_does : MethodName := ⟨RX12, "does", "(I[IZ)V"⟩
abbrev cX12_some : ByteArray := prog_14_method_34_code
def yX12_some : MethodName := ⟨RX12, "some", "(I[IZ)V"⟩
abbrev cX12_changed : ByteArray := prog_14_method_35_code
def yX12_changed : MethodName := ⟨RX12, "changed", "(II)I"⟩
abbrev cX12_change : ByteArray := prog_14_method_36_code
def yX12_change : MethodName := ⟨RX12, "change", "(III)I"⟩
abbrev cX12_anew : ByteArray := prog_14_method_37_code
def yX12_anew : MethodName := ⟨RX12, "anew", "()V"⟩
abbrev cX12_stage : ByteArray := prog_14_method_38_code
def yX12_stage : MethodName := ⟨RX12, "stage", "(I)I"⟩
abbrev cX12_ring : ByteArray := prog_14_method_39_code
def yX12_ring : MethodName := ⟨RX12, "ring", "(I)I"⟩
abbrev cX12_call : ByteArray := prog_14_method_40_code
def yX12_call : MethodName := ⟨RX12, "call", "(II)I"⟩
abbrev cX12_placeOf : ByteArray := prog_14_method_41_code
def yX12_placeOf : MethodName := ⟨RX12, "placeOf", "(II)I"⟩
abbrev cX12_holds : ByteArray := prog_14_method_42_code
def yX12_holds : MethodName := ⟨RX12, "holds", "(III)Z"⟩
abbrev cX12_ruleOf : ByteArray := prog_14_method_43_code
def yX12_ruleOf : MethodName := ⟨RX12, "ruleOf", "(II)I"⟩
abbrev cX12_go : ByteArray := prog_14_method_44_code
def yX12_go : MethodName := ⟨RX12, "go", "(I)I"⟩
abbrev cX12_isAt : ByteArray := prog_14_method_45_code
def yX12_isAt : MethodName := ⟨RX12, "isAt", "(I)Z"⟩
abbrev cX12_rowAt : ByteArray := prog_14_method_46_code
def yX12_rowAt : MethodName := ⟨RX12, "rowAt", "(I)I"⟩
abbrev cX12_run : ByteArray := prog_14_method_47_code
def yX12_run : MethodName := ⟨RX12, "run", "(I)I"⟩
abbrev cX12_truth : ByteArray := prog_14_method_48_code
def yX12_truth : MethodName := ⟨RX12, "truth", "(II)I"⟩
abbrev cX12_generator : ByteArray := prog_14_method_49_code
def yX12_generator : MethodName := ⟨RX12, "generator", "(I)I"⟩
abbrev cX12_free : ByteArray := prog_14_method_50_code
def yX12_free : MethodName := ⟨RX12, "free", "()I"⟩
abbrev cX12_spread : ByteArray := prog_14_method_51_code
def yX12_spread : MethodName := ⟨RX12, "spread", "()V"⟩
abbrev cX12_group : ByteArray := prog_14_method_52_code
def yX12_group : MethodName := ⟨RX12, "group", "()I"⟩
abbrev cX12_coset : ByteArray := prog_14_method_53_code
def yX12_coset : MethodName := ⟨RX12, "coset", "(I)I"⟩
abbrev cX12_heads : ByteArray := prog_14_method_54_code
def yX12_heads : MethodName := ⟨RX12, "heads", "(II)I"⟩
abbrev cX12_head : ByteArray := prog_14_method_55_code
def yX12_head : MethodName := ⟨RX12, "head", "(I)I"⟩
abbrev cX12_ringer : ByteArray := prog_14_method_56_code
def yX12_ringer : MethodName := ⟨RX12, "ringer", "(III)I"⟩
abbrev cX12_offset : ByteArray := prog_14_method_57_code
def yX12_offset : MethodName := ⟨RX12, "offset", "(III)I"⟩
abbrev cX12_band : ByteArray := prog_14_method_58_code
def yX12_band : MethodName := ⟨RX12, "band", "(III)I"⟩
abbrev cX12_blow : ByteArray := prog_14_method_59_code
def yX12_blow : MethodName := ⟨RX12, "blow", "(II)I"⟩
abbrev cX12_ringing : ByteArray := prog_14_method_60_code
def yX12_ringing : MethodName := ⟨RX12, "ringing", "(I)I"⟩
abbrev cX12_slips : ByteArray := prog_14_method_61_code
def yX12_slips : MethodName := ⟨RX12, "slips", "(I)I"⟩
abbrev cX12_note : ByteArray := prog_14_method_62_code
def yX12_note : MethodName := ⟨RX12, "note", "(IJ)I"⟩
abbrev cX12_wipe : ByteArray := prog_14_method_63_code
def yX12_wipe : MethodName := ⟨RX12, "wipe", "()I"⟩
abbrev cX12_listen : ByteArray := prog_14_method_64_code
def yX12_listen : MethodName := ⟨RX12, "listen", "()I"⟩
abbrev cX12_sort : ByteArray := prog_14_method_65_code
def yX12_sort : MethodName := ⟨RX12, "sort", "()V"⟩
abbrev cX12_inOrder : ByteArray := prog_14_method_66_code
def yX12_inOrder : MethodName := ⟨RX12, "inOrder", "(II)I"⟩
abbrev cX12_heard : ByteArray := prog_14_method_67_code
def yX12_heard : MethodName := ⟨RX12, "heard", "(I)I"⟩
abbrev cX12_noReal : ByteArray := prog_14_method_68_code
def yX12_noReal : MethodName := ⟨RX12, "noReal", "()D"⟩
abbrev cX12_realOfBits : ByteArray := prog_14_method_69_code
def yX12_realOfBits : MethodName := ⟨RX12, "realOfBits", "(J)D"⟩
abbrev cX12_isEndlessReal : ByteArray := prog_14_method_70_code
def yX12_isEndlessReal : MethodName := ⟨RX12, "isEndlessReal", "(D)Z"⟩
abbrev cX12_realPlus : ByteArray := prog_14_method_71_code
def yX12_realPlus : MethodName := ⟨RX12, "realPlus", "(DD)D"⟩
abbrev cX12_realLess : ByteArray := prog_14_method_72_code
def yX12_realLess : MethodName := ⟨RX12, "realLess", "(DD)D"⟩
abbrev cX12_realTimes : ByteArray := prog_14_method_73_code
def yX12_realTimes : MethodName := ⟨RX12, "realTimes", "(DD)D"⟩
abbrev cX12_realOver : ByteArray := prog_14_method_74_code
def yX12_realOver : MethodName := ⟨RX12, "realOver", "(DD)D"⟩
abbrev cX12_fit : ByteArray := prog_14_method_75_code
def yX12_fit : MethodName := ⟨RX12, "fit", "()V"⟩
abbrev cX12_error : ByteArray := prog_14_method_76_code
def yX12_error : MethodName := ⟨RX12, "error", "(I)D"⟩
abbrev cX12_root : ByteArray := prog_14_method_77_code
def yX12_root : MethodName := ⟨RX12, "root", "(D)D"⟩
abbrev cX12_even : ByteArray := prog_14_method_78_code
def yX12_even : MethodName := ⟨RX12, "even", "(D)D"⟩
abbrev cX12_line : ByteArray := prog_14_method_79_code
def yX12_line : MethodName := ⟨RX12, "line", "(I)J"⟩
abbrev cX12_along : ByteArray := prog_14_method_80_code
def yX12_along : MethodName := ⟨RX12, "along", "(II)J"⟩
abbrev cX12_isBoard : ByteArray := prog_14_method_81_code
def yX12_isBoard : MethodName := ⟨RX12, "isBoard", "(I)Z"⟩
abbrev cX12_board : ByteArray := prog_14_method_82_code
def yX12_board : MethodName := ⟨RX12, "board", "(III)I"⟩
abbrev cX12_clear : ByteArray := prog_14_method_83_code
def yX12_clear : MethodName := ⟨RX12, "clear", "(I)I"⟩
abbrev cX12_items : ByteArray := prog_14_method_84_code
def yX12_items : MethodName := ⟨RX12, "items", "(I)I"⟩
abbrev cX12_fill : ByteArray := prog_14_method_85_code
def yX12_fill : MethodName := ⟨RX12, "fill", "(III)I"⟩
abbrev cX12_copy : ByteArray := prog_14_method_86_code
def yX12_copy : MethodName := ⟨RX12, "copy", "(IIIII)I"⟩
abbrev cX12_item : ByteArray := prog_14_method_87_code
def yX12_item : MethodName := ⟨RX12, "item", "(III)J"⟩
def RJx145de : String := "java/io/Serializable"
def TJx145de : u_T := fun k => match k with
  | _ => ("", "", "", false)
def tyJx145de : Nat → FieldType := fun k => match k with
  | _ => .int
def RJx9f9b0 : String := "java/lang/CharSequence"
def TJx9f9b0 : u_T := fun k => match k with
  | _ => ("", "", "", false)
def tyJx9f9b0 : Nat → FieldType := fun k => match k with
  | _ => .int
def RJxb160c : String := "java/lang/Comparable"
def TJxb160c : u_T := fun k => match k with
  | _ => ("", "", "", false)
def tyJxb160c : Nat → FieldType := fun k => match k with
  | _ => .int
def RJxe99ae : String := "java/lang/Double"
def TJxe99ae : u_T := fun k => match k with
  | _ => ("", "", "", false)
def tyJxe99ae : Nat → FieldType := fun k => match k with
  | _ => .int
abbrev cJxe99ae_isNaN_b9ae7 : ByteArray := prog_15_method_6_code
def yJxe99ae_isNaN_b9ae7 : MethodName := ⟨RJxe99ae, "isNaN", "(D)Z"⟩
abbrev cJxe99ae_doubleToLongBits_ccdee : ByteArray := prog_15_method_23_code
def yJxe99ae_doubleToLongBits_ccdee : MethodName := ⟨RJxe99ae, "doubleToLongBits", "(D)J"⟩
def RJ6 : String := "java/lang/Integer"
def TJ6 : u_T := fun k => match k with
  | _ => ("", "", "", false)
def tyJ6 : Nat → FieldType := fun k => match k with
  | _ => .int
abbrev cJ6_bitCount_0f7a4 : ByteArray := prog_16_method_49_code
def yJ6_bitCount_0f7a4 : MethodName := ⟨RJ6, "bitCount", "(I)I"⟩
def RJ9 : String := "java/lang/Math"
def TJ9 : u_T := fun k => match k with
  | _ => ("", "", "", false)
def tyJ9 : Nat → FieldType := fun k => match k with
  | _ => .int
abbrev cJ9_abs_0f7a4 : ByteArray := prog_17_method_59_code
def yJ9_abs_0f7a4 : MethodName := ⟨RJ9, "abs", "(I)I"⟩
abbrev cJ9_abs_067f4 : ByteArray := prog_17_method_61_code
def yJ9_abs_067f4 : MethodName := ⟨RJ9, "abs", "(J)J"⟩
abbrev cJ9_max_7cf53 : ByteArray := prog_17_method_65_code
def yJ9_max_7cf53 : MethodName := ⟨RJ9, "max", "(II)I"⟩
abbrev cJ9_max_f86c9 : ByteArray := prog_17_method_66_code
def yJ9_max_f86c9 : MethodName := ⟨RJ9, "max", "(JJ)J"⟩
abbrev cJ9_min_7cf53 : ByteArray := prog_17_method_69_code
def yJ9_min_7cf53 : MethodName := ⟨RJ9, "min", "(II)I"⟩
def RJxd2413 : String := "java/lang/Number"
def TJxd2413 : u_T := fun k => match k with
  | _ => ("", "", "", false)
def tyJxd2413 : Nat → FieldType := fun k => match k with
  | _ => .int
def RJ0 : String := "java/lang/String"
def TJ0 : u_T := fun k => match k with
  | _ => ("", "", "", false)
def tyJ0 : Nat → FieldType := fun k => match k with
  | _ => .int
abbrev cJ0_length_8abf5 : ByteArray := prog_19_method_54_code
def yJ0_length_8abf5 : MethodName := ⟨RJ0, "length", "()I"⟩
abbrev cJ0_charAt_5068e : ByteArray := prog_19_method_56_code
def yJ0_charAt_5068e : MethodName := ⟨RJ0, "charAt", "(I)C"⟩
abbrev cJ0_coder_7d493 : ByteArray := prog_19_method_152_code
def yJ0_coder_7d493 : MethodName := ⟨RJ0, "coder", "()B"⟩
abbrev cJ0_isLatin1_aae02 : ByteArray := prog_19_method_154_code
def yJ0_isLatin1_aae02 : MethodName := ⟨RJ0, "isLatin1", "()Z"⟩
abbrev cJ0_checkIndex_df160 : ByteArray := prog_19_method_155_code
def yJ0_checkIndex_df160 : MethodName := ⟨RJ0, "checkIndex", "(II)V"⟩
def RJ1 : String := "java/lang/StringLatin1"
def TJ1 : u_T := fun k => match k with
  | _ => ("", "", "", false)
def tyJ1 : Nat → FieldType := fun k => match k with
  | _ => .int
abbrev cJ1_charAt_3b067 : ByteArray := prog_20_method_2_code
def yJ1_charAt_3b067 : MethodName := ⟨RJ1, "charAt", "([BI)C"⟩
def RJ2 : String := "java/lang/StringUTF16"
def TJ2 : u_T := fun k => match k with
  | _ => ("", "", "", false)
def tyJ2 : Nat → FieldType := fun k => match k with
  | _ => .int
abbrev cJ2_getChar_3b067 : ByteArray := prog_21_method_5_code
def yJ2_getChar_3b067 : MethodName := ⟨RJ2, "getChar", "([BI)C"⟩
abbrev cJ2_length_9d52b : ByteArray := prog_21_method_6_code
def yJ2_length_9d52b : MethodName := ⟨RJ2, "length", "([B)I"⟩
abbrev cJ2_charAt_3b067 : ByteArray := prog_21_method_83_code
def yJ2_charAt_3b067 : MethodName := ⟨RJ2, "charAt", "([BI)C"⟩
abbrev cJ2_checkIndex_2214a : ByteArray := prog_21_method_91_code
def yJ2_checkIndex_2214a : MethodName := ⟨RJ2, "checkIndex", "(I[B)V"⟩
def RJ10 : String := "java/lang/System"
def TJ10 : u_T := fun k => match k with
  | _ => ("", "", "", false)
def tyJ10 : Nat → FieldType := fun k => match k with
  | _ => .int
def RJxfd54e : String := "java/lang/constant/Constable"
def TJxfd54e : u_T := fun k => match k with
  | _ => ("", "", "", false)
def tyJxfd54e : Nat → FieldType := fun k => match k with
  | _ => .int
def RJx3cf43 : String := "java/lang/constant/ConstantDesc"
def TJx3cf43 : u_T := fun k => match k with
  | _ => ("", "", "", false)
def tyJx3cf43 : Nat → FieldType := fun k => match k with
  | _ => .int
def RJ7 : String := "java/util/Arrays"
def TJ7 : u_T := fun k => match k with
  | _ => ("", "", "", false)
def tyJ7 : Nat → FieldType := fun k => match k with
  | _ => .int
abbrev cJ7_fill_d0a16 : ByteArray := prog_23_method_101_code
def yJ7_fill_d0a16 : MethodName := ⟨RJ7, "fill", "([JJ)V"⟩
abbrev cJ7_fill_53178 : ByteArray := prog_23_method_103_code
def yJ7_fill_53178 : MethodName := ⟨RJ7, "fill", "([II)V"⟩
abbrev cJ7_fill_031fb : ByteArray := prog_23_method_109_code
def yJ7_fill_031fb : MethodName := ⟨RJ7, "fill", "([BB)V"⟩
def RJ3 : String := "jdk/internal/util/Preconditions"
def TJ3 : u_T := fun k => match k with
  | _ => ("", "", "", false)
def tyJ3 : Nat → FieldType := fun k => match k with
  | _ => .int
abbrev cJ3_checkIndex_8e157 : ByteArray := prog_24_method_11_code
def yJ3_checkIndex_8e157 : MethodName := ⟨RJ3, "checkIndex", "(IILjava/util/function/BiFunction;)I"⟩
def RL : String := "BelfryHouseLaw"
abbrev cL_law : ByteArray := code
def yL_law : MethodName := ⟨RL, "law", "([I)Z"⟩
abbrev vwCl : List vw_C := [(RX0, TX0, 11), (RX1, TX1, 6), (RX2, TX2, 4), (RX3, TX3, 3), (RX4, TX4, 8), (RX6, TX6, 11), (RX8, TX8, 6), (RX9, TX9, 13), (RX10, TX10, 3), (RX11, TX11, 11), (RX12, TX12, 68)]
