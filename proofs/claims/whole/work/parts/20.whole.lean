/-! THE LAW out of the abstract machine's run of it -/
theorem W00_32 {L : Nat} {xs : Nat → Int32} {a : Nat} (ha : a < 64) (h : (wK (W00 L xs) a).1 = 32) : 2 ≤ a ∧ a < 18 := by
  have h1 : (if a = 0 then (30, L) else if a = 1 then (31, 9) else if a < 18 then (32, 2) else if a < 34 then (33, (chs (a - 18)).length) else (99, 0) : Nat × Nat).1 = 32 := h
  split at h1
  · simp at h1
  split at h1
  · simp at h1
  split at h1
  · omega
  split at h1
  · simp at h1
  · simp at h1
theorem W00_33 {L : Nat} {xs : Nat → Int32} {a : Nat} (ha : a < 64) (h : (wK (W00 L xs) a).1 = 33) : 18 ≤ a ∧ a < 34 := by
  have h1 : (if a = 0 then (30, L) else if a = 1 then (31, 9) else if a < 18 then (32, 2) else if a < 34 then (33, (chs (a - 18)).length) else (99, 0) : Nat × Nat).1 = 33 := h
  split at h1
  · simp at h1
  split at h1
  · simp at h1
  split at h1
  · simp at h1
  split at h1
  · omega
  · simp at h1
theorem W00_31 {L : Nat} {xs : Nat → Int32} {a : Nat} (ha : a < 64) (h : (wK (W00 L xs) a).1 = 31) : a = 1 := by
  have h1 : (if a = 0 then (30, L) else if a = 1 then (31, 9) else if a < 18 then (32, 2) else if a < 34 then (33, (chs (a - 18)).length) else (99, 0) : Nat × Nat).1 = 31 := h
  split at h1
  · simp at h1
  split at h1
  · assumption
  split at h1
  · simp at h1
  split at h1
  · simp at h1
  · simp at h1
theorem W00_30 {L : Nat} {xs : Nat → Int32} {a : Nat} (ha : a < 64) (h : (wK (W00 L xs) a).1 = 30) : a = 0 := by
  have h1 : (if a = 0 then (30, L) else if a = 1 then (31, 9) else if a < 18 then (32, 2) else if a < 34 then (33, (chs (a - 18)).length) else (99, 0) : Nat × Nat).1 = 30 := h
  split at h1
  · assumption
  split at h1
  · simp at h1
  split at h1
  · simp at h1
  split at h1
  · simp at h1
  · simp at h1
theorem W00_ge {L : Nat} {xs : Nat → Int32} (a : Nat) : 30 ≤ (wK (W00 L xs) a).1 := by
  show 30 ≤ (if a = 0 then (30, L) else if a = 1 then (31, 9) else if a < 18 then (32, 2) else if a < 34 then (33, (chs (a - 18)).length) else (99, 0) : Nat × Nat).1
  split
  · exact Nat.le_refl 30
  split
  · exact (by decide : 30 ≤ 31)
  split
  · exact (by decide : 30 ≤ 32)
  split
  · exact (by decide : 30 ≤ 33)
  · exact (by decide : 30 ≤ 99)
theorem W00_99 {L : Nat} {xs : Nat → Int32} {a : Nat} (h : 64 ≤ a) : (wK (W00 L xs) a).1 = 99 := by
  show (if a = 0 then (30, L) else if a = 1 then (31, 9) else if a < 18 then (32, 2) else if a < 34 then (33, (chs (a - 18)).length) else (99, 0) : Nat × Nat).1 = 99
  rw [if_neg (by omega), if_neg (by omega), if_neg (by omega), if_neg (by omega)]
theorem EXs_start {b L : Nat} {xs : Nat → Int32} {args : Array Value} {s : State} (hts : ∀ w ∈ lwT, w.before args s = true) (hts0 : ∀ w ∈ lw_tbl, w.before args s = true) (hg : ∀ c ∈ flatC (Jvm.Cond.and given_1 narrow_1), c.before args s = true) (hX : va_X b L xs s s.heap) (hbl : b < s.heap.size) : ∃ ext : Nat → Value, ext 0 = .ref b ∧ EXs ext s.heap.size (W00 L xs) s := by
  obtain ⟨K, V, hKV⟩ := str_all hts hg
  obtain ⟨t1, fm, hfm, hF, hT, hC, hQ⟩ := stat_all hts0 hg
  have e2 : ∀ k, k < 16 → extF b t1 fm K V (2 + k) = .ref (K k) := fun k hk => by
    unfold extF
    rw [if_neg (by omega), if_neg (by omega), if_pos (by omega), show 2 + k - 2 = k by omega]
  have e18 : ∀ k, k < 16 → extF b t1 fm K V (18 + k) = .ref (V k) := fun k hk => by
    unfold extF
    rw [if_neg (by omega), if_neg (by omega), if_neg (by omega), if_pos (by omega), show 18 + k - 18 = k by omega]
  refine ⟨extF b t1 fm K V, rfl, ?_, ?_, ?_, ?_, ?_, ?_, ?_, ?_⟩
  · intro a
    unfold extF
    split
    · exact Or.inr ⟨_, rfl⟩
    split
    · exact Or.inr ⟨_, rfl⟩
    split
    · exact Or.inr ⟨_, rfl⟩
    split
    · exact Or.inr ⟨_, rfl⟩
    split
    · exact hfm
    · exact Or.inl rfl
  · intro own idx tx k hw hs
    have hk : k < 16 := (List.getElem?_eq_some_iff.mp hs).1
    exact ⟨K k, e2 k hk, (hKV k hk).1 own idx tx hw hs⟩
  · intro t ht
    simp only [stat3, List.mem_cons, List.not_mem_nil, or_false] at ht
    rcases ht with rfl | rfl | rfl
    · exact hF
    · exact hC
    · exact hQ
  · intro a ha h
    have := W00_31 ha h
    subst this
    exact ⟨t1, rfl, hT⟩
  · intro a ha h
    obtain ⟨h1, h2⟩ := W00_33 ha h
    obtain ⟨k, rfl⟩ : ∃ k, a = 18 + k := ⟨a - 18, by omega⟩
    refine ⟨V k, e18 k (by omega), ?_⟩
    have h3 := (hKV k (by omega)).2.2.2.2
    have e3 : wK (W00 L xs) (18 + k) = (33, (chs k).length) := by
      show (if 18 + k = 0 then (30, L) else if 18 + k = 1 then (31, 9) else if 18 + k < 18 then (32, 2) else if 18 + k < 34 then (33, (chs (18 + k - 18)).length) else (99, 0) : Nat × Nat) = _
      rw [if_neg (by omega), if_neg (by omega), if_neg (by omega), if_pos (by omega), show 18 + k - 18 = k by omega]
    have e4 : gI (W00 L xs) (18 + k) = fun j => (chs k).getD j 0 := by
      funext j
      show (if 18 + k = 0 then xs j else if 18 + k = 1 then facs.getD j 0 else if 18 + k < 18 then 0 else if 18 + k < 34 then (chs (18 + k - 18)).getD j 0 else 0) = _
      rw [if_neg (by omega), if_neg (by omega), if_neg (by omega), if_pos (by omega), show 18 + k - 18 = k by omega]
    rw [e3, e4]
    exact h3
  · intro a ha h
    obtain ⟨h1, h2⟩ := W00_32 ha h
    obtain ⟨k, rfl⟩ : ∃ k, a = 2 + k := ⟨a - 2, by omega⟩
    obtain ⟨-, g2, g3, g4, -⟩ := hKV k (by omega)
    refine ⟨K k, e2 k (by omega), g2, ?_, ?_⟩
    · have e3 : gI (W00 L xs) (2 + k) 1 = 0 := by
        show (if 2 + k = 0 then xs 1 else if 2 + k = 1 then facs.getD 1 0 else if 2 + k < 18 then 0 else _) = _
        rw [if_neg (by omega), if_neg (by omega), if_pos (by omega)]
      rw [e3]
      exact g3
    · have e3 : gR (W00 L xs) (2 + k) 0 = some (18 + k) := by
        show (if 2 ≤ 2 + k ∧ 2 + k < 18 ∧ 0 = 0 then some (2 + k + 16) else none) = _
        rw [if_pos ⟨by omega, by omega, rfl⟩]
        congr 1
        omega
      rw [e3]
      have e5 : mv (extF b t1 fm K V) s.heap.size (va_rf (some (18 + k))) = .ref (V k) := by
        show (if 18 + k < 64 then extF b t1 fm K V (18 + k) else _) = _
        rw [if_pos (by omega), e18 k (by omega)]
      rw [e5]
      exact g4
  · intro a ha h
    have := W00_30 ha h
    subst this
    exact ⟨b, rfl, hX, hbl, hbl⟩
  · intro w hw hn
    rw [NG_args hn #[] args]
    exact hts w hw
theorem HR_start {ext : Nat → Value} {bs : Nat} {aC : Nat → ClassId} {D : va_G} {L : Nat} {xs : Nat → Int32} {H : Heap} : HR ext bs aC D (W00 L xs) (W00 L xs) H := by
  refine ⟨fun a h => ?_, fun a => ⟨fun h => ?_, fun h => Or.inr (W00_99 h)⟩, fun a h => ⟨rfl, rfl, rfl⟩, fun a j x h1 h2 => ?_, Nat.le_refl 64, fun k q h => ?_⟩
  · have := W00_ge (L := L) (xs := xs) a
    omega
  · have := W00_ge (L := L) (xs := xs) a
    omega
  · have h3 : (if 2 ≤ a ∧ a < 18 ∧ j = 0 then some (a + 16) else none) = some x := h2
    rw [if_neg (by omega)] at h3
    cases h3
  · have := wls_at h
    have h5 : wN (W00 L xs) = 64 := rfl
    omega
/-- what is left to show: the abstract machine runs the law to 1, on every script, within the room -/
def Runs : Prop := ∀ (L : Nat) (xs : Nat → Int32), L ≤ 3072 → ∃ w2 : Wd, val (0, 1000, 0, lentry 4 [.ref 0], [], W00 L xs) = some (some (.int 1), w2) ∧ wN w2 ≤ 500064 ∧ wS w2 ≤ 7000000
theorem start_of (hV : Runs) {p : Program} {e : Env} {s : State} {m : MethodId} {below : List Frame} {meth : Method} {c : Code} (l : Launch) {b L : Nat} {xs : Nat → Int32} (hL : L ≤ 3072) (hx : p.tables.exec = Jvm.exec) (hb : c.code = code) (hr : meth.sig.returnType = ret) (hml : c.maxLocals = 4) (hown : s.vm.findClass "BelfryHouseLaw" = some m.cls) (hts0 : ∀ w ∈ lw_tbl, w.before #[Value.ref b] s = true) (hX : va_X b L xs s s.heap) (hbl : b < s.heap.size) (hlocks : meth.locks = false) (hgv : (Jvm.Cond.and given_1 narrow_1).before #[Value.ref b] s = true) (Q : State → Prop)
    (hend : ∀ (H2 : Heap) (pc2 : Nat) (ls2 : Array Slot), decode code pc2 = .ok (.ireturn, 1) → W p l e room_1 s m #[Value.ref b] below meth c H2 [] 500000 7000000 Q (F0 m pc2 ls2 [.int 1])) : W p l e room_1 s m #[Value.ref b] below meth c s.heap [] 0 0 Q (entryFrame m ([Value.ref b] : List Value).toArray 4) := by
  have hts : ∀ w ∈ lwT, w.before #[Value.ref b] s = true := fun w hw => hts0 w (List.mem_filter.mp hw).1
  have hg := flat_of_before _ hgv
  obtain ⟨ext, he0, hE⟩ := EXs_start hts hts0 hg hX hbl
  obtain ⟨D, aC, hK⟩ := K_all hts
  obtain ⟨w2, hv, hn, hs⟩ := hV L xs hL
  obtain ⟨f, hex⟩ := val_ex hv
  have hLr := LR_entry (bs := s.heap.size) (n := 4) (ext_cat hE) (as := [.ref 0]) (by decide)
  have e1 : [Value.ref 0].map (mv ext s.heap.size) = [Value.ref b] := by
    have e9 := mv_ext s.heap.size ext (a := 0) (by decide)
    rw [List.map_cons, List.map_nil, e9, he0]
  rw [e1] at hLr
  rw [lg_entry_eq]
  generalize (lg_sl [Value.ref b] ++ List.replicate (4 - (lg_sl [Value.ref b]).length) Slot.unset).toArray = ls at hLr ⊢
  have h0 : wN (W00 L xs) = 64 := rfl
  have h1 : wS (W00 L xs) = 0 := rfl
  refine sound (l := l) (D := D) (aC := aC) f 0 1000 0 _ [] (W00 L xs) _ w2 hex (x, code, 4, some .boolean, _) rfl p e room_1 s m _ below meth c s.heap [] 0 0 Q ls hx hb hml hown hts (fun h => absurd h (by decide)) (by decide) (by decide) hK hE (Nat.le_refl _) va_S.rf HR_start hLr rfl (Nat.le_trans (m := 500000) (by omega) (by decide)) (Nat.le_trans (m := 7000000) (by omega) (by decide)) (fun i pc2 ls2 st2 H2 locs2 hR2 hS2 hret hdg => ?_)
  rcases hret with ⟨rfl, y, ty, rfl, hy, -, -⟩ | ⟨rfl, y, rfl, hy, -⟩ | ⟨rfl, y, rfl, hy, -⟩ | ⟨rfl, v, ty, rfl, hy, hv2, -, -⟩ | ⟨rfl, rfl, hy, -⟩
  · cases hy
    refine va_forget hS2.2.2 ?_
    refine W.widen (k := 500000) (n := 7000000) (by omega) (by omega) ?_
    exact hend H2 pc2 ls2 hdg
  · cases hy
  · cases hy
  · cases hy
    rcases hv2 with h | ⟨a, h⟩ <;> cases h
  · cases hy
