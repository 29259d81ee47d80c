/-! THE ROWS OF THE REAL MACHINE under the abstract one's steps: what neither jumps nor asks the world -/
def tsub (k : Nat) : List Jvm.Cond := match k with
  | 1 => tables_1_1
  | 2 => tables_1_2
  | 3 => tables_1_3
  | 4 => tables_1_4
  | 5 => tables_1_5
  | 6 => tables_1_6
  | 7 => tables_1_7
  | 8 => tables_1_8
  | 9 => k2_sels lw_privs
  | _ => []
/-- the words that a call doesn't hand on by itself -/
def NGk (w : Jvm.Cond) : Bool := match w with
  | .stringRef .. => true
  | .arrayOver _ => true
  | .methodLinkNest .. => true
  | _ => false
/-- the words that are used here -/
def lwT : List Jvm.Cond := lw_tbl.filter (fun w => goodWord w || NGk w)
def tbw (j : Nat) : Option Jvm.Cond := match (tsub (j / 1000))[j % 1000]? with
  | some w => bif goodWord w || NGk w then some w else none
  | none => none
theorem tbw_mem {j : Nat} {w : Jvm.Cond} (h : tbw j = some w) : w ∈ lwT := by
  unfold tbw at h
  split at h
  · rename_i w9 h9
    have hg : (goodWord w9 || NGk w9) = true ∧ w9 = w := by
      cases hb : (goodWord w9 || NGk w9) with
      | true => rw [hb] at h; exact ⟨rfl, Option.some.inj h⟩
      | false => rw [hb] at h; cases h
    obtain ⟨hg, rfl⟩ := hg
    refine List.mem_filter.mpr ⟨?_, hg⟩
    have h1 : w9 ∈ tsub (j / 1000) := List.mem_of_getElem? h9
    generalize j / 1000 = k at h1
    unfold lw_tbl tables_1
    unfold tsub at h1
    split at h1
    all_goals first | (exact absurd h1 List.not_mem_nil) | (simp only [List.mem_append]; simp only [h1, true_or, or_true])
  · cases h
def j0 (sw : List (Int32 × Nat)) : Nat := match sw with
  | q :: _ => q.2
  | [] => 0
def j1 (sw : List (Int32 × Nat)) : Nat := j0 (sw.drop 1)
def j2 (sw : List (Int32 × Nat)) : Nat := j0 (sw.drop 2)
/-- the texts of the String constants -/
def strs : List String := ["when", "not", "at", "before", "even", "round", "called", "every", "and", "cross", "places", "jump", "turn", "hold", "twice", "undo"]
/-- the static fields that are read: value, class, name, descriptor -/
def stat3 : List (Value × String × String × String) := [(.ref 1, RX7, "FACTORIALS", "[I"), (.int 1, "java/lang/String", "COMPACT_STRINGS", "Z"), (.ref 40, "jdk/internal/util/Preconditions", "SIOOBE_FORMATTER", "Ljava/util/function/BiFunction;")]
/-- what holds of all that lies outside the world -/
def EXs (ext : Nat → Value) (bs : Nat) (W0 : Wd) (s : State) : Prop :=
  (∀ a, ext a = .null ∨ ∃ t, ext a = .ref t) ∧
  (∀ own idx tx k, Cond.stringRef own idx tx ∈ lwT → strs[k]? = some tx → ∃ q, ext (2 + k) = .ref q ∧ vk_R own idx tx q s) ∧
  (∀ t ∈ stat3, va_Z t.2.1 t.2.2.1 t.2.2.2 (mv ext bs t.1) (fun q => bs ≤ q) s s.heap) ∧
  (∀ a, a < 64 → (wK W0 a).1 = 31 → ∃ t, ext a = .ref t ∧ va_T .int t (wK W0 a).2 (fun j => .int (gI W0 a j)) (fun q => bs ≤ q) s s.heap) ∧
  (∀ a, a < 64 → (wK W0 a).1 = 33 → ∃ t, ext a = .ref t ∧ va_T .byte t (wK W0 a).2 (fun j => .int (gI W0 a j)) (fun q => bs ≤ q) s s.heap) ∧
  (∀ a, a < 64 → (wK W0 a).1 = 32 → ∃ t, ext a = .ref t ∧ va_O "java/lang/String" t (fun q => bs ≤ q) s s.heap ∧ va_OF "java/lang/String" "coder" "B" (.int (gI W0 a 1)) t (fun q => bs ≤ q) s s.heap ∧ va_OF "java/lang/String" "value" "[B" (mv ext bs (va_rf (gR W0 a 0))) t (fun q => bs ≤ q) s s.heap) ∧
  (∀ a, a < 64 → (wK W0 a).1 = 30 → ∃ b, ext a = .ref b ∧ va_X b (wK W0 a).2 (gI W0 a) s s.heap ∧ b < s.heap.size ∧ b < bs) ∧
  (∀ w ∈ lwT, NGk w = true → w.before #[] s = true)
def okP (own : String) (i : Instr) (n : Nat) (av : Value) (sw : List (Int32 × Nat)) : Bool := match i with
  | .iconst k => n == 1 && decide (av = .int (Int32.ofInt k))
  | .bipush k => n == 2 && decide (av = .int (Int8.ofInt k).toInt32)
  | .sipush k => n == 3 && decide (av = .int (Int16.ofInt k).toInt32)
  | .lconst k => n == 1 && decide (av = .long (Int64.ofNat (k : Nat)))
  | .dconst k => n == 1 && (if k = 0 then decide (av = .double FP.dconst0) else if k = 1 then decide (av = .double FP.dconst1) else false)
  | .aconst_null => n == 1 && decide (av = .null)
  | .ldc idx => n == 2 && (match av with
    | .int v => decide (tbw (j0 sw) = some (.constant own idx v))
    | .ref a => decide (2 ≤ a) && decide (a < 18) && (match strs[a - 2]? with
      | some tx => decide (tbw (j0 sw) = some (.stringRef own idx tx))
      | none => false)
    | _ => false)
  | .ldc_w idx => n == 3 && (match av with
    | .int v => decide (tbw (j0 sw) = some (.constant own idx v))
    | .ref a => decide (2 ≤ a) && decide (a < 18) && (match strs[a - 2]? with
      | some tx => decide (tbw (j0 sw) = some (.stringRef own idx tx))
      | none => false)
    | _ => false)
  | .ldc2_w idx => n == 3 && (match av with
    | .long v => decide (tbw (j0 sw) = some (.constantLong own idx v))
    | .double v => decide (tbw (j0 sw) = some (.constantDouble own idx v))
    | _ => false)
  | .getstatic idx => n == 3 && stat3.any (fun t => decide (av = t.1) && decide (tbw (j0 sw) = some (.fieldLink own idx t.2.1 t.2.2.1 t.2.2.2)))
  | .iinc _ k => (n == 3 || n == 6) && decide (av = .int (Int32.ofInt k))
  | .iload _ | .lload _ | .dload _ | .aload _ | .istore _ | .lstore _ | .dstore _ | .astore _ => n == 2
  | _ => n == 1
section PST
variable {p : Program} {l : Launch} {e : Env} {R : Room} {s : State} {m : MethodId} {args : Array Value} {below : List Frame} {meth : Method} {c : Code} {H : Heap} {locs : List Loc} {cells slots : Nat} {Q : State → Prop}
variable {cc : ByteArray} {pc : Nat} {ls : Array Slot} {ext : Nat → Value} {bs nL : Nat} {W0 : Wd} {L L2 : List (Option Value)} {st st2 : List Value}

theorem ext_cat (hE : EXs ext bs W0 s) (a : Nat) : (ext a).category = 1 := by
  rcases hE.1 a with h | ⟨t, h⟩ <;> rw [h] <;> rfl
theorem mv_ref (hE : EXs ext bs W0 s) (x : Nat) : mv ext bs (.ref x) = .null ∨ ∃ b, mv ext bs (.ref x) = .ref b := by
  show (if x < 64 then ext x else .ref (bs + (x - 64))) = .null ∨ ∃ b, (if x < 64 then ext x else .ref (bs + (x - 64))) = .ref b
  split
  · exact hE.1 x
  · exact Or.inr ⟨_, rfl⟩
theorem ok_iload (hx : p.tables.exec = Jvm.exec) (hb : c.code = cc) (hE : EXs ext bs W0 s) (hL : LR ext bs nL L ls) {k : Nat} (h : ldI L st k = some (L2, st2)) (hdg : decode cc pc = .ok (.iload k, 2))
    (kk : ∀ ls2 : Array Slot, LR ext bs nL L2 ls2 → W p l e R s m args below meth c H locs cells slots Q (F0 m (pc + 2) ls2 (st2.map (mv ext bs)))) : W p l e R s m args below meth c H locs cells slots Q (F0 m pc ls (st.map (mv ext bs))) := by
  unfold ldI at h
  split at h
  · rename_i x hx2
    cases h
    exact lv_iload hx hb hdg (hL.2.2.2 _ _ hx2) (kk ls hL)
  · cases h
theorem ok_iload_n (hx : p.tables.exec = Jvm.exec) (hb : c.code = cc) (hE : EXs ext bs W0 s) (hL : LR ext bs nL L ls) {k : Fin 4} (h : ldI L st k = some (L2, st2)) (hdg : decode cc pc = .ok (.iload_n k, 1))
    (kk : ∀ ls2 : Array Slot, LR ext bs nL L2 ls2 → W p l e R s m args below meth c H locs cells slots Q (F0 m (pc + 1) ls2 (st2.map (mv ext bs)))) : W p l e R s m args below meth c H locs cells slots Q (F0 m pc ls (st.map (mv ext bs))) := by
  unfold ldI at h
  split at h
  · rename_i x hx2
    cases h
    exact lv_iload_n hx hb hdg rfl (hL.2.2.2 _ _ hx2) (kk ls hL)
  · cases h
theorem ok_lload (hx : p.tables.exec = Jvm.exec) (hb : c.code = cc) (hE : EXs ext bs W0 s) (hL : LR ext bs nL L ls) {k : Nat} (h : ldL L st k = some (L2, st2)) (hdg : decode cc pc = .ok (.lload k, 2))
    (kk : ∀ ls2 : Array Slot, LR ext bs nL L2 ls2 → W p l e R s m args below meth c H locs cells slots Q (F0 m (pc + 2) ls2 (st2.map (mv ext bs)))) : W p l e R s m args below meth c H locs cells slots Q (F0 m pc ls (st.map (mv ext bs))) := by
  unfold ldL at h
  split at h
  · rename_i x hx2
    cases h
    exact lv_lload hx hb hdg (hL.2.2.2 _ _ hx2) (kk ls hL)
  · cases h
theorem ok_lload_n (hx : p.tables.exec = Jvm.exec) (hb : c.code = cc) (hE : EXs ext bs W0 s) (hL : LR ext bs nL L ls) {k : Fin 4} (h : ldL L st k = some (L2, st2)) (hdg : decode cc pc = .ok (.lload_n k, 1))
    (kk : ∀ ls2 : Array Slot, LR ext bs nL L2 ls2 → W p l e R s m args below meth c H locs cells slots Q (F0 m (pc + 1) ls2 (st2.map (mv ext bs)))) : W p l e R s m args below meth c H locs cells slots Q (F0 m pc ls (st.map (mv ext bs))) := by
  unfold ldL at h
  split at h
  · rename_i x hx2
    cases h
    exact lv_lload_n hx hb hdg rfl (hL.2.2.2 _ _ hx2) (kk ls hL)
  · cases h
theorem ok_dload (hx : p.tables.exec = Jvm.exec) (hb : c.code = cc) (hE : EXs ext bs W0 s) (hL : LR ext bs nL L ls) {k : Nat} (h : ldD L st k = some (L2, st2)) (hdg : decode cc pc = .ok (.dload k, 2))
    (kk : ∀ ls2 : Array Slot, LR ext bs nL L2 ls2 → W p l e R s m args below meth c H locs cells slots Q (F0 m (pc + 2) ls2 (st2.map (mv ext bs)))) : W p l e R s m args below meth c H locs cells slots Q (F0 m pc ls (st.map (mv ext bs))) := by
  unfold ldD at h
  split at h
  · rename_i x hx2
    cases h
    exact lv_dload hx hb hdg (hL.2.2.2 _ _ hx2) (kk ls hL)
  · cases h
theorem ok_dload_n (hx : p.tables.exec = Jvm.exec) (hb : c.code = cc) (hE : EXs ext bs W0 s) (hL : LR ext bs nL L ls) {k : Fin 4} (h : ldD L st k = some (L2, st2)) (hdg : decode cc pc = .ok (.dload_n k, 1))
    (kk : ∀ ls2 : Array Slot, LR ext bs nL L2 ls2 → W p l e R s m args below meth c H locs cells slots Q (F0 m (pc + 1) ls2 (st2.map (mv ext bs)))) : W p l e R s m args below meth c H locs cells slots Q (F0 m pc ls (st.map (mv ext bs))) := by
  unfold ldD at h
  split at h
  · rename_i x hx2
    cases h
    exact lv_dload_n hx hb hdg rfl (hL.2.2.2 _ _ hx2) (kk ls hL)
  · cases h
theorem ok_aload (hx : p.tables.exec = Jvm.exec) (hb : c.code = cc) (hE : EXs ext bs W0 s) (hL : LR ext bs nL L ls) {k : Nat} (h : ldA L st k = some (L2, st2)) (hdg : decode cc pc = .ok (.aload k, 2))
    (kk : ∀ ls2 : Array Slot, LR ext bs nL L2 ls2 → W p l e R s m args below meth c H locs cells slots Q (F0 m (pc + 2) ls2 (st2.map (mv ext bs)))) : W p l e R s m args below meth c H locs cells slots Q (F0 m pc ls (st.map (mv ext bs))) := by
  unfold ldA at h
  split at h
  · rename_i x hx2
    cases h
    have h3 := hL.2.2.2 _ _ hx2
    show W p l e R s m args below meth c H locs cells slots Q (F0 m pc ls (st.map (mv ext bs)))
    have k2 := kk ls hL
    rw [List.map_cons] at k2
    rcases mv_ref hE x with h4 | ⟨b, h4⟩
    · rw [h4] at h3 k2
      exact lv_aloadN hx hb hdg h3 k2
    · rw [h4] at h3 k2
      exact lv_aload hx hb hdg h3 k2
  · rename_i hx2
    cases h
    exact lv_aloadN hx hb hdg (hL.2.2.2 _ _ hx2) (kk ls hL)
  · cases h
theorem ok_aload_n (hx : p.tables.exec = Jvm.exec) (hb : c.code = cc) (hE : EXs ext bs W0 s) (hL : LR ext bs nL L ls) {k : Fin 4} (h : ldA L st k = some (L2, st2)) (hdg : decode cc pc = .ok (.aload_n k, 1))
    (kk : ∀ ls2 : Array Slot, LR ext bs nL L2 ls2 → W p l e R s m args below meth c H locs cells slots Q (F0 m (pc + 1) ls2 (st2.map (mv ext bs)))) : W p l e R s m args below meth c H locs cells slots Q (F0 m pc ls (st.map (mv ext bs))) := by
  unfold ldA at h
  split at h
  · rename_i x hx2
    cases h
    have h3 := hL.2.2.2 _ _ hx2
    show W p l e R s m args below meth c H locs cells slots Q (F0 m pc ls (st.map (mv ext bs)))
    have k2 := kk ls hL
    rw [List.map_cons] at k2
    rcases mv_ref hE x with h4 | ⟨b, h4⟩
    · rw [h4] at h3 k2
      exact lv_aload_nN hx hb hdg rfl h3 k2
    · rw [h4] at h3 k2
      exact lv_aload_n hx hb hdg rfl h3 k2
  · rename_i hx2
    cases h
    exact lv_aload_nN hx hb hdg rfl (hL.2.2.2 _ _ hx2) (kk ls hL)
  · cases h
theorem ok_istore (hx : p.tables.exec = Jvm.exec) (hb : c.code = cc) (hE : EXs ext bs W0 s) (hL : LR ext bs nL L ls) {k : Nat} (h : stI L st k = some (L2, st2)) (hdg : decode cc pc = .ok (.istore k, 2))
    (kk : ∀ ls2 : Array Slot, LR ext bs nL L2 ls2 → W p l e R s m args below meth c H locs cells slots Q (F0 m (pc + 2) ls2 (st2.map (mv ext bs)))) : W p l e R s m args below meth c H locs cells slots Q (F0 m pc ls (st.map (mv ext bs))) := by
  unfold stI at h
  split at h
  · rename_i x r
    split at h
    · rename_i hlt
      cases h
      exact lv_istore hx hb hdg hL.has (by have := hL.2.1; omega) rfl (fun ls2 h2 => kk ls2 (LR_st1 (ext_cat hE) hL hlt h2))
    · cases h
  · cases h
theorem ok_istore_n (hx : p.tables.exec = Jvm.exec) (hb : c.code = cc) (hE : EXs ext bs W0 s) (hL : LR ext bs nL L ls) {k : Fin 4} (h : stI L st k = some (L2, st2)) (hdg : decode cc pc = .ok (.istore_n k, 1))
    (kk : ∀ ls2 : Array Slot, LR ext bs nL L2 ls2 → W p l e R s m args below meth c H locs cells slots Q (F0 m (pc + 1) ls2 (st2.map (mv ext bs)))) : W p l e R s m args below meth c H locs cells slots Q (F0 m pc ls (st.map (mv ext bs))) := by
  unfold stI at h
  split at h
  · rename_i x r
    split at h
    · rename_i hlt
      cases h
      exact lv_istore_n hx hb hdg rfl hL.has (by have := hL.2.1; omega) rfl (fun ls2 h2 => kk ls2 (LR_st1 (ext_cat hE) hL hlt h2))
    · cases h
  · cases h
theorem ok_lstore (hx : p.tables.exec = Jvm.exec) (hb : c.code = cc) (hE : EXs ext bs W0 s) (hL : LR ext bs nL L ls) {k : Nat} (h : stL L st k = some (L2, st2)) (hdg : decode cc pc = .ok (.lstore k, 2))
    (kk : ∀ ls2 : Array Slot, LR ext bs nL L2 ls2 → W p l e R s m args below meth c H locs cells slots Q (F0 m (pc + 2) ls2 (st2.map (mv ext bs)))) : W p l e R s m args below meth c H locs cells slots Q (F0 m pc ls (st.map (mv ext bs))) := by
  unfold stL at h
  split at h
  · rename_i x r
    split at h
    · rename_i hlt
      cases h
      exact lv_lstore hx hb hdg hL.has (by have := hL.2.1; omega) rfl (fun ls2 h2 => kk ls2 (LR_st2 (ext_cat hE) hL hlt h2))
    · cases h
  · cases h
theorem ok_lstore_n (hx : p.tables.exec = Jvm.exec) (hb : c.code = cc) (hE : EXs ext bs W0 s) (hL : LR ext bs nL L ls) {k : Fin 4} (h : stL L st k = some (L2, st2)) (hdg : decode cc pc = .ok (.lstore_n k, 1))
    (kk : ∀ ls2 : Array Slot, LR ext bs nL L2 ls2 → W p l e R s m args below meth c H locs cells slots Q (F0 m (pc + 1) ls2 (st2.map (mv ext bs)))) : W p l e R s m args below meth c H locs cells slots Q (F0 m pc ls (st.map (mv ext bs))) := by
  unfold stL at h
  split at h
  · rename_i x r
    split at h
    · rename_i hlt
      cases h
      exact lv_lstore_n hx hb hdg rfl hL.has (by have := hL.2.1; omega) rfl (fun ls2 h2 => kk ls2 (LR_st2 (ext_cat hE) hL hlt h2))
    · cases h
  · cases h
theorem ok_dstore (hx : p.tables.exec = Jvm.exec) (hb : c.code = cc) (hE : EXs ext bs W0 s) (hL : LR ext bs nL L ls) {k : Nat} (h : stD L st k = some (L2, st2)) (hdg : decode cc pc = .ok (.dstore k, 2))
    (kk : ∀ ls2 : Array Slot, LR ext bs nL L2 ls2 → W p l e R s m args below meth c H locs cells slots Q (F0 m (pc + 2) ls2 (st2.map (mv ext bs)))) : W p l e R s m args below meth c H locs cells slots Q (F0 m pc ls (st.map (mv ext bs))) := by
  unfold stD at h
  split at h
  · rename_i x r
    split at h
    · rename_i hlt
      cases h
      exact lv_dstore hx hb hdg hL.has (by have := hL.2.1; omega) rfl (fun ls2 h2 => kk ls2 (LR_st2 (ext_cat hE) hL hlt h2))
    · cases h
  · cases h
theorem ok_dstore_n (hx : p.tables.exec = Jvm.exec) (hb : c.code = cc) (hE : EXs ext bs W0 s) (hL : LR ext bs nL L ls) {k : Fin 4} (h : stD L st k = some (L2, st2)) (hdg : decode cc pc = .ok (.dstore_n k, 1))
    (kk : ∀ ls2 : Array Slot, LR ext bs nL L2 ls2 → W p l e R s m args below meth c H locs cells slots Q (F0 m (pc + 1) ls2 (st2.map (mv ext bs)))) : W p l e R s m args below meth c H locs cells slots Q (F0 m pc ls (st.map (mv ext bs))) := by
  unfold stD at h
  split at h
  · rename_i x r
    split at h
    · rename_i hlt
      cases h
      exact lv_dstore_n hx hb hdg rfl hL.has (by have := hL.2.1; omega) rfl (fun ls2 h2 => kk ls2 (LR_st2 (ext_cat hE) hL hlt h2))
    · cases h
  · cases h
theorem ok_astore (hx : p.tables.exec = Jvm.exec) (hb : c.code = cc) (hE : EXs ext bs W0 s) (hL : LR ext bs nL L ls) {k : Nat} (h : stA L st k = some (L2, st2)) (hdg : decode cc pc = .ok (.astore k, 2))
    (kk : ∀ ls2 : Array Slot, LR ext bs nL L2 ls2 → W p l e R s m args below meth c H locs cells slots Q (F0 m (pc + 2) ls2 (st2.map (mv ext bs)))) : W p l e R s m args below meth c H locs cells slots Q (F0 m pc ls (st.map (mv ext bs))) := by
  unfold stA at h
  split at h
  · rename_i x r
    split at h
    · rename_i hlt
      cases h
      rw [List.map_cons]
      rcases mv_ref hE x with h4 | ⟨b, h4⟩
      · rw [h4]
        exact lv_astoreN hx hb hdg hL.has (by have := hL.2.1; omega) rfl (fun ls2 h2 => kk ls2 (LR_st1 (v := .ref x) (ext_cat hE) hL hlt (by rw [h4]; exact h2)))
      · rw [h4]
        exact lv_astore hx hb hdg hL.has (by have := hL.2.1; omega) rfl (fun ls2 h2 => kk ls2 (LR_st1 (v := .ref x) (ext_cat hE) hL hlt (by rw [h4]; exact h2)))
    · cases h
  · rename_i r
    split at h
    · rename_i hlt
      cases h
      exact lv_astoreN hx hb hdg hL.has (by have := hL.2.1; omega) rfl (fun ls2 h2 => kk ls2 (LR_st1 (v := .null) (ext_cat hE) hL hlt h2))
    · cases h
  · cases h
theorem ok_astore_n (hx : p.tables.exec = Jvm.exec) (hb : c.code = cc) (hE : EXs ext bs W0 s) (hL : LR ext bs nL L ls) {k : Fin 4} (h : stA L st k = some (L2, st2)) (hdg : decode cc pc = .ok (.astore_n k, 1))
    (kk : ∀ ls2 : Array Slot, LR ext bs nL L2 ls2 → W p l e R s m args below meth c H locs cells slots Q (F0 m (pc + 1) ls2 (st2.map (mv ext bs)))) : W p l e R s m args below meth c H locs cells slots Q (F0 m pc ls (st.map (mv ext bs))) := by
  unfold stA at h
  split at h
  · rename_i x r
    split at h
    · rename_i hlt
      cases h
      rw [List.map_cons]
      rcases mv_ref hE x with h4 | ⟨b, h4⟩
      · rw [h4]
        exact lv_astore_nN hx hb hdg rfl hL.has (by have := hL.2.1; omega) rfl (fun ls2 h2 => kk ls2 (LR_st1 (v := .ref x) (ext_cat hE) hL hlt (by rw [h4]; exact h2)))
      · rw [h4]
        exact lv_astore_n hx hb hdg rfl hL.has (by have := hL.2.1; omega) rfl (fun ls2 h2 => kk ls2 (LR_st1 (v := .ref x) (ext_cat hE) hL hlt (by rw [h4]; exact h2)))
    · cases h
  · rename_i r
    split at h
    · rename_i hlt
      cases h
      exact lv_astore_nN hx hb hdg rfl hL.has (by have := hL.2.1; omega) rfl (fun ls2 h2 => kk ls2 (LR_st1 (v := .null) (ext_cat hE) hL hlt h2))
    · cases h
  · cases h
theorem ok_iconst (hx : p.tables.exec = Jvm.exec) (hb : c.code = cc) (hE : EXs ext bs W0 s) {av : Value} {st : List Value} {k : Int} (hv : av = .int (Int32.ofInt k)) (hdg : decode cc pc = .ok (.iconst k, 1))
    (kk : W p l e R s m args below meth c H locs cells slots Q (F0 m (pc + 1) ls (mv ext bs av :: st))) : W p l e R s m args below meth c H locs cells slots Q (F0 m pc ls st) := by
  subst hv
  exact lv_iconst hx hb hdg rfl kk
theorem ok_bipush (hx : p.tables.exec = Jvm.exec) (hb : c.code = cc) (hE : EXs ext bs W0 s) {av : Value} {st : List Value} {k : Int} (hv : av = .int (Int8.ofInt k).toInt32) (hdg : decode cc pc = .ok (.bipush k, 2))
    (kk : W p l e R s m args below meth c H locs cells slots Q (F0 m (pc + 2) ls (mv ext bs av :: st))) : W p l e R s m args below meth c H locs cells slots Q (F0 m pc ls st) := by
  subst hv
  exact lv_bipush hx hb hdg rfl kk
theorem ok_sipush (hx : p.tables.exec = Jvm.exec) (hb : c.code = cc) (hE : EXs ext bs W0 s) {av : Value} {st : List Value} {k : Int} (hv : av = .int (Int16.ofInt k).toInt32) (hdg : decode cc pc = .ok (.sipush k, 3))
    (kk : W p l e R s m args below meth c H locs cells slots Q (F0 m (pc + 3) ls (mv ext bs av :: st))) : W p l e R s m args below meth c H locs cells slots Q (F0 m pc ls st) := by
  subst hv
  exact lv_sipush hx hb hdg rfl kk
theorem ok_lconst (hx : p.tables.exec = Jvm.exec) (hb : c.code = cc) (hE : EXs ext bs W0 s) {av : Value} {st : List Value} {k : Fin 2} (hv : av = .long (Int64.ofNat (k : Nat))) (hdg : decode cc pc = .ok (.lconst k, 1))
    (kk : W p l e R s m args below meth c H locs cells slots Q (F0 m (pc + 1) ls (mv ext bs av :: st))) : W p l e R s m args below meth c H locs cells slots Q (F0 m pc ls st) := by
  subst hv
  exact lv_lconst hx hb hdg rfl kk
theorem ok_dconst0 (hx : p.tables.exec = Jvm.exec) (hb : c.code = cc) (hE : EXs ext bs W0 s) {av : Value} {st : List Value} (hv : av = .double FP.dconst0) (hdg : decode cc pc = .ok (.dconst 0, 1))
    (kk : W p l e R s m args below meth c H locs cells slots Q (F0 m (pc + 1) ls (mv ext bs av :: st))) : W p l e R s m args below meth c H locs cells slots Q (F0 m pc ls st) := by
  subst hv
  exact lv_dconst0 hx hb hdg kk
theorem ok_dconst1 (hx : p.tables.exec = Jvm.exec) (hb : c.code = cc) (hE : EXs ext bs W0 s) {av : Value} {st : List Value} (hv : av = .double FP.dconst1) (hdg : decode cc pc = .ok (.dconst 1, 1))
    (kk : W p l e R s m args below meth c H locs cells slots Q (F0 m (pc + 1) ls (mv ext bs av :: st))) : W p l e R s m args below meth c H locs cells slots Q (F0 m pc ls st) := by
  subst hv
  exact lv_dconst1 hx hb hdg kk
theorem ok_null (hx : p.tables.exec = Jvm.exec) (hb : c.code = cc) (hE : EXs ext bs W0 s) {av : Value} {st : List Value} (hv : av = .null) (hdg : decode cc pc = .ok (.aconst_null, 1))
    (kk : W p l e R s m args below meth c H locs cells slots Q (F0 m (pc + 1) ls (mv ext bs av :: st))) : W p l e R s m args below meth c H locs cells slots Q (F0 m pc ls st) := by
  subst hv
  exact lv_null hx hb hdg kk
theorem ok_ldcI (hx : p.tables.exec = Jvm.exec) (hb : c.code = cc) (hE : EXs ext bs W0 s) {own : String} (hown : s.vm.findClass own = some m.cls) (hts : ∀ w ∈ lwT, w.before args s = true) {av : Value} {st : List Value} {k : Nat} {v : Int32} (hv : av = .int v) (hw : Cond.constant own k v ∈ lwT) (hdg : decode cc pc = .ok (.ldc k, 2))
    (kk : W p l e R s m args below meth c H locs cells slots Q (F0 m (pc + 2) ls (mv ext bs av :: st))) : W p l e R s m args below meth c H locs cells slots Q (F0 m pc ls st) := by
  subst hv
  exact lv_ldc hx hb hown (hts _ hw) hdg kk
theorem ok_ldcS (hx : p.tables.exec = Jvm.exec) (hb : c.code = cc) (hE : EXs ext bs W0 s) {own : String} (hown : s.vm.findClass own = some m.cls) (hts : ∀ w ∈ lwT, w.before args s = true) {av : Value} {st : List Value} {k x : Nat} {tx : String} (hv : av = .ref (2 + x)) (hx2 : 2 + x < 64) (hs : strs[x]? = some tx) (hw : Cond.stringRef own k tx ∈ lwT) (hdg : decode cc pc = .ok (.ldc k, 2))
    (kk : W p l e R s m args below meth c H locs cells slots Q (F0 m (pc + 2) ls (mv ext bs av :: st))) : W p l e R s m args below meth c H locs cells slots Q (F0 m pc ls st) := by
  subst hv
  obtain ⟨q, h1, h2⟩ := hE.2.1 _ _ _ _ hw hs
  have h3 : mv ext bs (.ref (2 + x)) = .ref q := by show (if 2 + x < 64 then ext (2 + x) else .ref (bs + (2 + x - 64))) = _; rw [if_pos hx2, h1]
  rw [h3] at kk
  exact va_ldcS hx hb hown h2 hdg kk
theorem va_ldcwS {rest : List Value} (hexec : p.tables.exec = Jvm.exec) (hb : c.code = cc) {own tx : String} {index q : Nat} (hown : s.vm.findClass own = some m.cls) (hZ : vk_R own index tx q s) (hdg : decode cc pc = .ok (.ldc_w index, 3))
    (k : W p l e R s m args below meth c H locs cells slots Q (F0 m (pc + 3) ls (.ref q :: rest))) : W p l e R s m args below meth c H locs cells slots Q (F0 m pc ls rest) := by
  intro T hT X
  obtain ⟨t, a1, b1⟩ := k T hT X
  obtain ⟨k0, cf, i, a', hk, hcf, hcp, -, hr, hev'⟩ := Cond.stringRef_spec hown hZ.1
  cases hZ.2.symm.trans hev'
  obtain ⟨k', hk', he⟩ := X.warmed.alike.2.2 _ _ hk
  have hr' : k'.resolved[index]? = some (some (.string q)) := by
    rcases X.warmed.entry hk hk' index with h | ⟨h, -⟩
    · rw [h]; exact hr
    · rw [hr] at h; cases h
  refine ⟨t, ?_, b1⟩
  subst hb
  jvm_step X.here [hexec, hdg, ldc_w.wp_string (e := e) (s := T) (f := F0 m pc ls rest) X.here.top hk' (by rw [he]; exact hcf) hcp hr']
  exact a1
theorem ok_ldcwS (hx : p.tables.exec = Jvm.exec) (hb : c.code = cc) (hE : EXs ext bs W0 s) {own : String} (hown : s.vm.findClass own = some m.cls) (hts : ∀ w ∈ lwT, w.before args s = true) {av : Value} {st : List Value} {k x : Nat} {tx : String} (hv : av = .ref (2 + x)) (hx2 : 2 + x < 64) (hs : strs[x]? = some tx) (hw : Cond.stringRef own k tx ∈ lwT) (hdg : decode cc pc = .ok (.ldc_w k, 3))
    (kk : W p l e R s m args below meth c H locs cells slots Q (F0 m (pc + 3) ls (mv ext bs av :: st))) : W p l e R s m args below meth c H locs cells slots Q (F0 m pc ls st) := by
  subst hv
  obtain ⟨q, h1, h2⟩ := hE.2.1 _ _ _ _ hw hs
  have h3 : mv ext bs (.ref (2 + x)) = .ref q := by show (if 2 + x < 64 then ext (2 + x) else .ref (bs + (2 + x - 64))) = _; rw [if_pos hx2, h1]
  rw [h3] at kk
  exact va_ldcwS hx hb hown h2 hdg kk
theorem ok_ldcw (hx : p.tables.exec = Jvm.exec) (hb : c.code = cc) (hE : EXs ext bs W0 s) {own : String} (hown : s.vm.findClass own = some m.cls) (hts : ∀ w ∈ lwT, w.before args s = true) {av : Value} {st : List Value} {k : Nat} {v : Int32} (hv : av = .int v) (hw : Cond.constant own k v ∈ lwT) (hdg : decode cc pc = .ok (.ldc_w k, 3))
    (kk : W p l e R s m args below meth c H locs cells slots Q (F0 m (pc + 3) ls (mv ext bs av :: st))) : W p l e R s m args below meth c H locs cells slots Q (F0 m pc ls st) := by
  subst hv
  exact lv_ldcw hx hb hown (hts _ hw) hdg kk
theorem ok_ldc2 (hx : p.tables.exec = Jvm.exec) (hb : c.code = cc) (hE : EXs ext bs W0 s) {own : String} (hown : s.vm.findClass own = some m.cls) (hts : ∀ w ∈ lwT, w.before args s = true) {av : Value} {st : List Value} {k : Nat} {v : Int64} (hv : av = .long v) (hw : Cond.constantLong own k v ∈ lwT) (hdg : decode cc pc = .ok (.ldc2_w k, 3))
    (kk : W p l e R s m args below meth c H locs cells slots Q (F0 m (pc + 3) ls (mv ext bs av :: st))) : W p l e R s m args below meth c H locs cells slots Q (F0 m pc ls st) := by
  subst hv
  exact lv_ldc2 hx hb hown (hts _ hw) hdg kk
theorem ok_ldc2d (hx : p.tables.exec = Jvm.exec) (hb : c.code = cc) (hE : EXs ext bs W0 s) {own : String} (hown : s.vm.findClass own = some m.cls) (hts : ∀ w ∈ lwT, w.before args s = true) {av : Value} {st : List Value} {k : Nat} {v : UInt64} (hv : av = .double v) (hw : Cond.constantDouble own k v ∈ lwT) (hdg : decode cc pc = .ok (.ldc2_w k, 3))
    (kk : W p l e R s m args below meth c H locs cells slots Q (F0 m (pc + 3) ls (mv ext bs av :: st))) : W p l e R s m args below meth c H locs cells slots Q (F0 m pc ls st) := by
  subst hv
  exact lv_ldc2d hx hb hown (hts _ hw) hdg kk
theorem ok_getstatic (hx : p.tables.exec = Jvm.exec) (hb : c.code = cc) (hE : EXs ext bs W0 s) (hS : va_S (fun q => bs ≤ q) s.heap H locs) {own : String} (hown : s.vm.findClass own = some m.cls) (hts : ∀ w ∈ lwT, w.before args s = true) {av : Value} {st : List Value} {k : Nat} {t : Value × String × String × String} (ht : t ∈ stat3) (hv : av = t.1) (hw : Cond.fieldLink own k t.2.1 t.2.2.1 t.2.2.2 ∈ lwT) (hdg : decode cc pc = .ok (.getstatic k, 3))
    (kk : W p l e R s m args below meth c H locs cells slots Q (F0 m (pc + 3) ls (mv ext bs av :: st))) : W p l e R s m args below meth c H locs cells slots Q (F0 m pc ls st) := by
  subst hv
  exact va_gets hx hb (hE.2.2.1 t ht) hS hown (hts _ hw) (fun _ h => h) hdg kk
theorem ok_iadd (hx : p.tables.exec = Jvm.exec) (hb : c.code = cc) (hE : EXs ext bs W0 s) (hL : LR ext bs nL L ls) (h : bI (fun x y => x + y) L st = some (L2, st2)) (hdg : decode cc pc = .ok (.iadd, 1))
    (kk : ∀ ls2 : Array Slot, LR ext bs nL L2 ls2 → W p l e R s m args below meth c H locs cells slots Q (F0 m (pc + 1) ls2 (st2.map (mv ext bs)))) : W p l e R s m args below meth c H locs cells slots Q (F0 m pc ls (st.map (mv ext bs))) := by
  unfold bI at h
  split at h
  · cases h
    exact lv_iadd hx hb hdg (kk ls hL)
  · cases h
theorem ok_isub (hx : p.tables.exec = Jvm.exec) (hb : c.code = cc) (hE : EXs ext bs W0 s) (hL : LR ext bs nL L ls) (h : bI (fun x y => x - y) L st = some (L2, st2)) (hdg : decode cc pc = .ok (.isub, 1))
    (kk : ∀ ls2 : Array Slot, LR ext bs nL L2 ls2 → W p l e R s m args below meth c H locs cells slots Q (F0 m (pc + 1) ls2 (st2.map (mv ext bs)))) : W p l e R s m args below meth c H locs cells slots Q (F0 m pc ls (st.map (mv ext bs))) := by
  unfold bI at h
  split at h
  · cases h
    exact lv_isub hx hb hdg (kk ls hL)
  · cases h
theorem ok_imul (hx : p.tables.exec = Jvm.exec) (hb : c.code = cc) (hE : EXs ext bs W0 s) (hL : LR ext bs nL L ls) (h : bI (fun x y => x * y) L st = some (L2, st2)) (hdg : decode cc pc = .ok (.imul, 1))
    (kk : ∀ ls2 : Array Slot, LR ext bs nL L2 ls2 → W p l e R s m args below meth c H locs cells slots Q (F0 m (pc + 1) ls2 (st2.map (mv ext bs)))) : W p l e R s m args below meth c H locs cells slots Q (F0 m pc ls (st.map (mv ext bs))) := by
  unfold bI at h
  split at h
  · cases h
    exact lv_imul hx hb hdg (kk ls hL)
  · cases h
theorem ok_iand (hx : p.tables.exec = Jvm.exec) (hb : c.code = cc) (hE : EXs ext bs W0 s) (hL : LR ext bs nL L ls) (h : bI (fun x y => x &&& y) L st = some (L2, st2)) (hdg : decode cc pc = .ok (.iand, 1))
    (kk : ∀ ls2 : Array Slot, LR ext bs nL L2 ls2 → W p l e R s m args below meth c H locs cells slots Q (F0 m (pc + 1) ls2 (st2.map (mv ext bs)))) : W p l e R s m args below meth c H locs cells slots Q (F0 m pc ls (st.map (mv ext bs))) := by
  unfold bI at h
  split at h
  · cases h
    exact lv_iand hx hb hdg (kk ls hL)
  · cases h
theorem ok_ior (hx : p.tables.exec = Jvm.exec) (hb : c.code = cc) (hE : EXs ext bs W0 s) (hL : LR ext bs nL L ls) (h : bI (fun x y => x ||| y) L st = some (L2, st2)) (hdg : decode cc pc = .ok (.ior, 1))
    (kk : ∀ ls2 : Array Slot, LR ext bs nL L2 ls2 → W p l e R s m args below meth c H locs cells slots Q (F0 m (pc + 1) ls2 (st2.map (mv ext bs)))) : W p l e R s m args below meth c H locs cells slots Q (F0 m pc ls (st.map (mv ext bs))) := by
  unfold bI at h
  split at h
  · cases h
    exact lv_ior hx hb hdg (kk ls hL)
  · cases h
theorem ok_ixor (hx : p.tables.exec = Jvm.exec) (hb : c.code = cc) (hE : EXs ext bs W0 s) (hL : LR ext bs nL L ls) (h : bI (fun x y => x ^^^ y) L st = some (L2, st2)) (hdg : decode cc pc = .ok (.ixor, 1))
    (kk : ∀ ls2 : Array Slot, LR ext bs nL L2 ls2 → W p l e R s m args below meth c H locs cells slots Q (F0 m (pc + 1) ls2 (st2.map (mv ext bs)))) : W p l e R s m args below meth c H locs cells slots Q (F0 m pc ls (st.map (mv ext bs))) := by
  unfold bI at h
  split at h
  · cases h
    exact lv_ixor hx hb hdg (kk ls hL)
  · cases h
theorem ok_ishl (hx : p.tables.exec = Jvm.exec) (hb : c.code = cc) (hE : EXs ext bs W0 s) (hL : LR ext bs nL L ls) (h : bI (fun x y => x <<< (y &&& 31)) L st = some (L2, st2)) (hdg : decode cc pc = .ok (.ishl, 1))
    (kk : ∀ ls2 : Array Slot, LR ext bs nL L2 ls2 → W p l e R s m args below meth c H locs cells slots Q (F0 m (pc + 1) ls2 (st2.map (mv ext bs)))) : W p l e R s m args below meth c H locs cells slots Q (F0 m pc ls (st.map (mv ext bs))) := by
  unfold bI at h
  split at h
  · cases h
    exact lv_ishl hx hb hdg (kk ls hL)
  · cases h
theorem ok_ishr (hx : p.tables.exec = Jvm.exec) (hb : c.code = cc) (hE : EXs ext bs W0 s) (hL : LR ext bs nL L ls) (h : bI (fun x y => x >>> (y &&& 31)) L st = some (L2, st2)) (hdg : decode cc pc = .ok (.ishr, 1))
    (kk : ∀ ls2 : Array Slot, LR ext bs nL L2 ls2 → W p l e R s m args below meth c H locs cells slots Q (F0 m (pc + 1) ls2 (st2.map (mv ext bs)))) : W p l e R s m args below meth c H locs cells slots Q (F0 m pc ls (st.map (mv ext bs))) := by
  unfold bI at h
  split at h
  · cases h
    exact lv_ishr hx hb hdg (kk ls hL)
  · cases h
theorem ok_iushr (hx : p.tables.exec = Jvm.exec) (hb : c.code = cc) (hE : EXs ext bs W0 s) (hL : LR ext bs nL L ls) (h : bI ushI L st = some (L2, st2)) (hdg : decode cc pc = .ok (.iushr, 1))
    (kk : ∀ ls2 : Array Slot, LR ext bs nL L2 ls2 → W p l e R s m args below meth c H locs cells slots Q (F0 m (pc + 1) ls2 (st2.map (mv ext bs)))) : W p l e R s m args below meth c H locs cells slots Q (F0 m pc ls (st.map (mv ext bs))) := by
  unfold bI at h
  split at h
  · cases h
    exact lv_iushr hx hb hdg rfl (kk ls hL)
  · cases h
theorem ok_ladd (hx : p.tables.exec = Jvm.exec) (hb : c.code = cc) (hE : EXs ext bs W0 s) (hL : LR ext bs nL L ls) (h : bL (fun x y => x + y) L st = some (L2, st2)) (hdg : decode cc pc = .ok (.ladd, 1))
    (kk : ∀ ls2 : Array Slot, LR ext bs nL L2 ls2 → W p l e R s m args below meth c H locs cells slots Q (F0 m (pc + 1) ls2 (st2.map (mv ext bs)))) : W p l e R s m args below meth c H locs cells slots Q (F0 m pc ls (st.map (mv ext bs))) := by
  unfold bL at h
  split at h
  · cases h
    exact lv_ladd hx hb hdg (kk ls hL)
  · cases h
theorem ok_lsub (hx : p.tables.exec = Jvm.exec) (hb : c.code = cc) (hE : EXs ext bs W0 s) (hL : LR ext bs nL L ls) (h : bL (fun x y => x - y) L st = some (L2, st2)) (hdg : decode cc pc = .ok (.lsub, 1))
    (kk : ∀ ls2 : Array Slot, LR ext bs nL L2 ls2 → W p l e R s m args below meth c H locs cells slots Q (F0 m (pc + 1) ls2 (st2.map (mv ext bs)))) : W p l e R s m args below meth c H locs cells slots Q (F0 m pc ls (st.map (mv ext bs))) := by
  unfold bL at h
  split at h
  · cases h
    exact lv_lsub hx hb hdg (kk ls hL)
  · cases h
theorem ok_lmul (hx : p.tables.exec = Jvm.exec) (hb : c.code = cc) (hE : EXs ext bs W0 s) (hL : LR ext bs nL L ls) (h : bL (fun x y => x * y) L st = some (L2, st2)) (hdg : decode cc pc = .ok (.lmul, 1))
    (kk : ∀ ls2 : Array Slot, LR ext bs nL L2 ls2 → W p l e R s m args below meth c H locs cells slots Q (F0 m (pc + 1) ls2 (st2.map (mv ext bs)))) : W p l e R s m args below meth c H locs cells slots Q (F0 m pc ls (st.map (mv ext bs))) := by
  unfold bL at h
  split at h
  · cases h
    exact lv_lmul hx hb hdg (kk ls hL)
  · cases h
theorem ok_land (hx : p.tables.exec = Jvm.exec) (hb : c.code = cc) (hE : EXs ext bs W0 s) (hL : LR ext bs nL L ls) (h : bL (fun x y => x &&& y) L st = some (L2, st2)) (hdg : decode cc pc = .ok (.land, 1))
    (kk : ∀ ls2 : Array Slot, LR ext bs nL L2 ls2 → W p l e R s m args below meth c H locs cells slots Q (F0 m (pc + 1) ls2 (st2.map (mv ext bs)))) : W p l e R s m args below meth c H locs cells slots Q (F0 m pc ls (st.map (mv ext bs))) := by
  unfold bL at h
  split at h
  · cases h
    exact lv_land hx hb hdg (kk ls hL)
  · cases h
theorem ok_lor (hx : p.tables.exec = Jvm.exec) (hb : c.code = cc) (hE : EXs ext bs W0 s) (hL : LR ext bs nL L ls) (h : bL (fun x y => x ||| y) L st = some (L2, st2)) (hdg : decode cc pc = .ok (.lor, 1))
    (kk : ∀ ls2 : Array Slot, LR ext bs nL L2 ls2 → W p l e R s m args below meth c H locs cells slots Q (F0 m (pc + 1) ls2 (st2.map (mv ext bs)))) : W p l e R s m args below meth c H locs cells slots Q (F0 m pc ls (st.map (mv ext bs))) := by
  unfold bL at h
  split at h
  · cases h
    exact lv_lor hx hb hdg (kk ls hL)
  · cases h
theorem ok_lxor (hx : p.tables.exec = Jvm.exec) (hb : c.code = cc) (hE : EXs ext bs W0 s) (hL : LR ext bs nL L ls) (h : bL (fun x y => x ^^^ y) L st = some (L2, st2)) (hdg : decode cc pc = .ok (.lxor, 1))
    (kk : ∀ ls2 : Array Slot, LR ext bs nL L2 ls2 → W p l e R s m args below meth c H locs cells slots Q (F0 m (pc + 1) ls2 (st2.map (mv ext bs)))) : W p l e R s m args below meth c H locs cells slots Q (F0 m pc ls (st.map (mv ext bs))) := by
  unfold bL at h
  split at h
  · cases h
    exact lv_lxor hx hb hdg (kk ls hL)
  · cases h
theorem ok_lshl (hx : p.tables.exec = Jvm.exec) (hb : c.code = cc) (hE : EXs ext bs W0 s) (hL : LR ext bs nL L ls) (h : bS shlL L st = some (L2, st2)) (hdg : decode cc pc = .ok (.lshl, 1))
    (kk : ∀ ls2 : Array Slot, LR ext bs nL L2 ls2 → W p l e R s m args below meth c H locs cells slots Q (F0 m (pc + 1) ls2 (st2.map (mv ext bs)))) : W p l e R s m args below meth c H locs cells slots Q (F0 m pc ls (st.map (mv ext bs))) := by
  unfold bS at h
  split at h
  · cases h
    exact lv_lshl hx hb hdg rfl (kk ls hL)
  · cases h
theorem ok_lshr (hx : p.tables.exec = Jvm.exec) (hb : c.code = cc) (hE : EXs ext bs W0 s) (hL : LR ext bs nL L ls) (h : bS shrL L st = some (L2, st2)) (hdg : decode cc pc = .ok (.lshr, 1))
    (kk : ∀ ls2 : Array Slot, LR ext bs nL L2 ls2 → W p l e R s m args below meth c H locs cells slots Q (F0 m (pc + 1) ls2 (st2.map (mv ext bs)))) : W p l e R s m args below meth c H locs cells slots Q (F0 m pc ls (st.map (mv ext bs))) := by
  unfold bS at h
  split at h
  · cases h
    exact lv_lshr hx hb hdg rfl (kk ls hL)
  · cases h
theorem ok_lushr (hx : p.tables.exec = Jvm.exec) (hb : c.code = cc) (hE : EXs ext bs W0 s) (hL : LR ext bs nL L ls) (h : bS ushL L st = some (L2, st2)) (hdg : decode cc pc = .ok (.lushr, 1))
    (kk : ∀ ls2 : Array Slot, LR ext bs nL L2 ls2 → W p l e R s m args below meth c H locs cells slots Q (F0 m (pc + 1) ls2 (st2.map (mv ext bs)))) : W p l e R s m args below meth c H locs cells slots Q (F0 m pc ls (st.map (mv ext bs))) := by
  unfold bS at h
  split at h
  · cases h
    exact lv_lushr hx hb hdg rfl (kk ls hL)
  · cases h
theorem ok_dadd (hx : p.tables.exec = Jvm.exec) (hb : c.code = cc) (hE : EXs ext bs W0 s) (hL : LR ext bs nL L ls) (h : bD FP.dadd L st = some (L2, st2)) (hdg : decode cc pc = .ok (.dadd, 1))
    (kk : ∀ ls2 : Array Slot, LR ext bs nL L2 ls2 → W p l e R s m args below meth c H locs cells slots Q (F0 m (pc + 1) ls2 (st2.map (mv ext bs)))) : W p l e R s m args below meth c H locs cells slots Q (F0 m pc ls (st.map (mv ext bs))) := by
  unfold bD at h
  split at h
  · split at h
    · rename_i hn
      cases h
      exact lv_dadd hx hb hdg (by unfold vf_n64; unfold nN at hn; exact of_decide_eq_true hn) (kk ls hL)
    · cases h
  · cases h
theorem ok_dsub (hx : p.tables.exec = Jvm.exec) (hb : c.code = cc) (hE : EXs ext bs W0 s) (hL : LR ext bs nL L ls) (h : bD FP.dsub L st = some (L2, st2)) (hdg : decode cc pc = .ok (.dsub, 1))
    (kk : ∀ ls2 : Array Slot, LR ext bs nL L2 ls2 → W p l e R s m args below meth c H locs cells slots Q (F0 m (pc + 1) ls2 (st2.map (mv ext bs)))) : W p l e R s m args below meth c H locs cells slots Q (F0 m pc ls (st.map (mv ext bs))) := by
  unfold bD at h
  split at h
  · split at h
    · rename_i hn
      cases h
      exact lv_dsub hx hb hdg (by unfold vf_n64; unfold nN at hn; exact of_decide_eq_true hn) (kk ls hL)
    · cases h
  · cases h
theorem ok_dmul (hx : p.tables.exec = Jvm.exec) (hb : c.code = cc) (hE : EXs ext bs W0 s) (hL : LR ext bs nL L ls) (h : bD FP.dmul L st = some (L2, st2)) (hdg : decode cc pc = .ok (.dmul, 1))
    (kk : ∀ ls2 : Array Slot, LR ext bs nL L2 ls2 → W p l e R s m args below meth c H locs cells slots Q (F0 m (pc + 1) ls2 (st2.map (mv ext bs)))) : W p l e R s m args below meth c H locs cells slots Q (F0 m pc ls (st.map (mv ext bs))) := by
  unfold bD at h
  split at h
  · split at h
    · rename_i hn
      cases h
      exact lv_dmul hx hb hdg (by unfold vf_n64; unfold nN at hn; exact of_decide_eq_true hn) (kk ls hL)
    · cases h
  · cases h
theorem ok_ddiv (hx : p.tables.exec = Jvm.exec) (hb : c.code = cc) (hE : EXs ext bs W0 s) (hL : LR ext bs nL L ls) (h : bD FP.ddiv L st = some (L2, st2)) (hdg : decode cc pc = .ok (.ddiv, 1))
    (kk : ∀ ls2 : Array Slot, LR ext bs nL L2 ls2 → W p l e R s m args below meth c H locs cells slots Q (F0 m (pc + 1) ls2 (st2.map (mv ext bs)))) : W p l e R s m args below meth c H locs cells slots Q (F0 m pc ls (st.map (mv ext bs))) := by
  unfold bD at h
  split at h
  · split at h
    · rename_i hn
      cases h
      exact lv_ddiv hx hb hdg (by unfold vf_n64; unfold nN at hn; exact of_decide_eq_true hn) (kk ls hL)
    · cases h
  · cases h
theorem ok_idiv (hx : p.tables.exec = Jvm.exec) (hb : c.code = cc) (hE : EXs ext bs W0 s) (hL : LR ext bs nL L ls) {av : Value} (h : pst (.idiv) av L st = some (L2, st2)) (hdg : decode cc pc = .ok (.idiv, 1))
    (kk : ∀ ls2 : Array Slot, LR ext bs nL L2 ls2 → W p l e R s m args below meth c H locs cells slots Q (F0 m (pc + 1) ls2 (st2.map (mv ext bs)))) : W p l e R s m args below meth c H locs cells slots Q (F0 m pc ls (st.map (mv ext bs))) := by
  dsimp only [pst] at h
  split at h
  · split at h
    · cases h
    · rename_i hne
      cases h
      exact lv_idiv hx hb hdg hne (kk ls hL)
  · cases h
theorem ok_irem (hx : p.tables.exec = Jvm.exec) (hb : c.code = cc) (hE : EXs ext bs W0 s) (hL : LR ext bs nL L ls) {av : Value} (h : pst (.irem) av L st = some (L2, st2)) (hdg : decode cc pc = .ok (.irem, 1))
    (kk : ∀ ls2 : Array Slot, LR ext bs nL L2 ls2 → W p l e R s m args below meth c H locs cells slots Q (F0 m (pc + 1) ls2 (st2.map (mv ext bs)))) : W p l e R s m args below meth c H locs cells slots Q (F0 m pc ls (st.map (mv ext bs))) := by
  dsimp only [pst] at h
  split at h
  · split at h
    · cases h
    · rename_i hne
      cases h
      exact lv_irem hx hb hdg hne (kk ls hL)
  · cases h
theorem ok_ldiv (hx : p.tables.exec = Jvm.exec) (hb : c.code = cc) (hE : EXs ext bs W0 s) (hL : LR ext bs nL L ls) {av : Value} (h : pst (.ldiv) av L st = some (L2, st2)) (hdg : decode cc pc = .ok (.ldiv, 1))
    (kk : ∀ ls2 : Array Slot, LR ext bs nL L2 ls2 → W p l e R s m args below meth c H locs cells slots Q (F0 m (pc + 1) ls2 (st2.map (mv ext bs)))) : W p l e R s m args below meth c H locs cells slots Q (F0 m pc ls (st.map (mv ext bs))) := by
  dsimp only [pst] at h
  split at h
  · split at h
    · cases h
    · rename_i hne
      cases h
      exact lv_ldiv hx hb hdg hne (kk ls hL)
  · cases h
theorem ok_lrem (hx : p.tables.exec = Jvm.exec) (hb : c.code = cc) (hE : EXs ext bs W0 s) (hL : LR ext bs nL L ls) {av : Value} (h : pst (.lrem) av L st = some (L2, st2)) (hdg : decode cc pc = .ok (.lrem, 1))
    (kk : ∀ ls2 : Array Slot, LR ext bs nL L2 ls2 → W p l e R s m args below meth c H locs cells slots Q (F0 m (pc + 1) ls2 (st2.map (mv ext bs)))) : W p l e R s m args below meth c H locs cells slots Q (F0 m pc ls (st.map (mv ext bs))) := by
  dsimp only [pst] at h
  split at h
  · split at h
    · cases h
    · rename_i hne
      cases h
      exact lv_lrem hx hb hdg hne (kk ls hL)
  · cases h
theorem ok_ineg (hx : p.tables.exec = Jvm.exec) (hb : c.code = cc) (hE : EXs ext bs W0 s) (hL : LR ext bs nL L ls) {av : Value} (h : pst (.ineg) av L st = some (L2, st2)) (hdg : decode cc pc = .ok (.ineg, 1))
    (kk : ∀ ls2 : Array Slot, LR ext bs nL L2 ls2 → W p l e R s m args below meth c H locs cells slots Q (F0 m (pc + 1) ls2 (st2.map (mv ext bs)))) : W p l e R s m args below meth c H locs cells slots Q (F0 m pc ls (st.map (mv ext bs))) := by
  dsimp only [pst] at h
  split at h
  · cases h
    exact lv_ineg hx hb hdg (kk ls hL)
  · cases h
theorem ok_lneg (hx : p.tables.exec = Jvm.exec) (hb : c.code = cc) (hE : EXs ext bs W0 s) (hL : LR ext bs nL L ls) {av : Value} (h : pst (.lneg) av L st = some (L2, st2)) (hdg : decode cc pc = .ok (.lneg, 1))
    (kk : ∀ ls2 : Array Slot, LR ext bs nL L2 ls2 → W p l e R s m args below meth c H locs cells slots Q (F0 m (pc + 1) ls2 (st2.map (mv ext bs)))) : W p l e R s m args below meth c H locs cells slots Q (F0 m pc ls (st.map (mv ext bs))) := by
  dsimp only [pst] at h
  split at h
  · cases h
    exact lv_lneg hx hb hdg (kk ls hL)
  · cases h
theorem ok_i2d (hx : p.tables.exec = Jvm.exec) (hb : c.code = cc) (hE : EXs ext bs W0 s) (hL : LR ext bs nL L ls) {av : Value} (h : pst (.i2d) av L st = some (L2, st2)) (hdg : decode cc pc = .ok (.i2d, 1))
    (kk : ∀ ls2 : Array Slot, LR ext bs nL L2 ls2 → W p l e R s m args below meth c H locs cells slots Q (F0 m (pc + 1) ls2 (st2.map (mv ext bs)))) : W p l e R s m args below meth c H locs cells slots Q (F0 m pc ls (st.map (mv ext bs))) := by
  dsimp only [pst] at h
  split at h
  · cases h
    exact lv_i2d hx hb hdg (kk ls hL)
  · cases h
theorem ok_l2d (hx : p.tables.exec = Jvm.exec) (hb : c.code = cc) (hE : EXs ext bs W0 s) (hL : LR ext bs nL L ls) {av : Value} (h : pst (.l2d) av L st = some (L2, st2)) (hdg : decode cc pc = .ok (.l2d, 1))
    (kk : ∀ ls2 : Array Slot, LR ext bs nL L2 ls2 → W p l e R s m args below meth c H locs cells slots Q (F0 m (pc + 1) ls2 (st2.map (mv ext bs)))) : W p l e R s m args below meth c H locs cells slots Q (F0 m pc ls (st.map (mv ext bs))) := by
  dsimp only [pst] at h
  split at h
  · cases h
    exact lv_l2d hx hb hdg (kk ls hL)
  · cases h
theorem ok_d2l (hx : p.tables.exec = Jvm.exec) (hb : c.code = cc) (hE : EXs ext bs W0 s) (hL : LR ext bs nL L ls) {av : Value} (h : pst (.d2l) av L st = some (L2, st2)) (hdg : decode cc pc = .ok (.d2l, 1))
    (kk : ∀ ls2 : Array Slot, LR ext bs nL L2 ls2 → W p l e R s m args below meth c H locs cells slots Q (F0 m (pc + 1) ls2 (st2.map (mv ext bs)))) : W p l e R s m args below meth c H locs cells slots Q (F0 m pc ls (st.map (mv ext bs))) := by
  dsimp only [pst] at h
  split at h
  · cases h
    exact lv_d2l hx hb hdg (kk ls hL)
  · cases h
theorem ok_dneg (hx : p.tables.exec = Jvm.exec) (hb : c.code = cc) (hE : EXs ext bs W0 s) (hL : LR ext bs nL L ls) {av : Value} (h : pst (.dneg) av L st = some (L2, st2)) (hdg : decode cc pc = .ok (.dneg, 1))
    (kk : ∀ ls2 : Array Slot, LR ext bs nL L2 ls2 → W p l e R s m args below meth c H locs cells slots Q (F0 m (pc + 1) ls2 (st2.map (mv ext bs)))) : W p l e R s m args below meth c H locs cells slots Q (F0 m pc ls (st.map (mv ext bs))) := by
  dsimp only [pst] at h
  split at h
  · cases h
    exact lv_dneg hx hb hdg (kk ls hL)
  · cases h
theorem ok_i2b (hx : p.tables.exec = Jvm.exec) (hb : c.code = cc) (hE : EXs ext bs W0 s) (hL : LR ext bs nL L ls) {av : Value} (h : pst (.i2b) av L st = some (L2, st2)) (hdg : decode cc pc = .ok (.i2b, 1))
    (kk : ∀ ls2 : Array Slot, LR ext bs nL L2 ls2 → W p l e R s m args below meth c H locs cells slots Q (F0 m (pc + 1) ls2 (st2.map (mv ext bs)))) : W p l e R s m args below meth c H locs cells slots Q (F0 m pc ls (st.map (mv ext bs))) := by
  dsimp only [pst] at h
  split at h
  · cases h
    exact lv_i2b hx hb hdg rfl (kk ls hL)
  · cases h
theorem ok_i2c (hx : p.tables.exec = Jvm.exec) (hb : c.code = cc) (hE : EXs ext bs W0 s) (hL : LR ext bs nL L ls) {av : Value} (h : pst (.i2c) av L st = some (L2, st2)) (hdg : decode cc pc = .ok (.i2c, 1))
    (kk : ∀ ls2 : Array Slot, LR ext bs nL L2 ls2 → W p l e R s m args below meth c H locs cells slots Q (F0 m (pc + 1) ls2 (st2.map (mv ext bs)))) : W p l e R s m args below meth c H locs cells slots Q (F0 m pc ls (st.map (mv ext bs))) := by
  dsimp only [pst] at h
  split at h
  · cases h
    exact lv_i2c hx hb hdg rfl (kk ls hL)
  · cases h
theorem ok_i2l (hx : p.tables.exec = Jvm.exec) (hb : c.code = cc) (hE : EXs ext bs W0 s) (hL : LR ext bs nL L ls) {av : Value} (h : pst (.i2l) av L st = some (L2, st2)) (hdg : decode cc pc = .ok (.i2l, 1))
    (kk : ∀ ls2 : Array Slot, LR ext bs nL L2 ls2 → W p l e R s m args below meth c H locs cells slots Q (F0 m (pc + 1) ls2 (st2.map (mv ext bs)))) : W p l e R s m args below meth c H locs cells slots Q (F0 m pc ls (st.map (mv ext bs))) := by
  dsimp only [pst] at h
  split at h
  · cases h
    exact lv_i2l hx hb hdg rfl (kk ls hL)
  · cases h
theorem ok_l2i (hx : p.tables.exec = Jvm.exec) (hb : c.code = cc) (hE : EXs ext bs W0 s) (hL : LR ext bs nL L ls) {av : Value} (h : pst (.l2i) av L st = some (L2, st2)) (hdg : decode cc pc = .ok (.l2i, 1))
    (kk : ∀ ls2 : Array Slot, LR ext bs nL L2 ls2 → W p l e R s m args below meth c H locs cells slots Q (F0 m (pc + 1) ls2 (st2.map (mv ext bs)))) : W p l e R s m args below meth c H locs cells slots Q (F0 m pc ls (st.map (mv ext bs))) := by
  dsimp only [pst] at h
  split at h
  · cases h
    exact lv_l2i hx hb hdg rfl (kk ls hL)
  · cases h
theorem ok_lcmp (hx : p.tables.exec = Jvm.exec) (hb : c.code = cc) (hE : EXs ext bs W0 s) (hL : LR ext bs nL L ls) {av : Value} (h : pst (.lcmp) av L st = some (L2, st2)) (hdg : decode cc pc = .ok (.lcmp, 1))
    (kk : ∀ ls2 : Array Slot, LR ext bs nL L2 ls2 → W p l e R s m args below meth c H locs cells slots Q (F0 m (pc + 1) ls2 (st2.map (mv ext bs)))) : W p l e R s m args below meth c H locs cells slots Q (F0 m pc ls (st.map (mv ext bs))) := by
  dsimp only [pst] at h
  split at h
  · cases h
    exact W.lcmp hx hb hdg (kk ls hL)
  · cases h
theorem ok_dcmp (hx : p.tables.exec = Jvm.exec) (hb : c.code = cc) (hE : EXs ext bs W0 s) (hL : LR ext bs nL L ls) {op : CmpOp} {av : Value} (h : pst (.dcmp op) av L st = some (L2, st2)) (hdg : decode cc pc = .ok (.dcmp op, 1))
    (kk : ∀ ls2 : Array Slot, LR ext bs nL L2 ls2 → W p l e R s m args below meth c H locs cells slots Q (F0 m (pc + 1) ls2 (st2.map (mv ext bs)))) : W p l e R s m args below meth c H locs cells slots Q (F0 m pc ls (st.map (mv ext bs))) := by
  dsimp only [pst] at h
  split at h
  · cases h
    exact lv_dcmp hx hb hdg (kk ls hL)
  · cases h
theorem ok_dup (hx : p.tables.exec = Jvm.exec) (hb : c.code = cc) (hE : EXs ext bs W0 s) (hL : LR ext bs nL L ls) {av : Value} (h : pst .dup av L st = some (L2, st2)) (hdg : decode cc pc = .ok (.dup, 1))
    (kk : ∀ ls2 : Array Slot, LR ext bs nL L2 ls2 → W p l e R s m args below meth c H locs cells slots Q (F0 m (pc + 1) ls2 (st2.map (mv ext bs)))) : W p l e R s m args below meth c H locs cells slots Q (F0 m pc ls (st.map (mv ext bs))) := by
  dsimp only [pst] at h
  split at h
  · split at h
    · cases h
      exact lv_dup hx hb hdg (by rw [mv_cat _ _ _ (ext_cat hE)]; assumption) (kk ls hL)
    · cases h
  · cases h
theorem ok_pop (hx : p.tables.exec = Jvm.exec) (hb : c.code = cc) (hE : EXs ext bs W0 s) (hL : LR ext bs nL L ls) {av : Value} (h : pst .pop av L st = some (L2, st2)) (hdg : decode cc pc = .ok (.pop, 1))
    (kk : ∀ ls2 : Array Slot, LR ext bs nL L2 ls2 → W p l e R s m args below meth c H locs cells slots Q (F0 m (pc + 1) ls2 (st2.map (mv ext bs)))) : W p l e R s m args below meth c H locs cells slots Q (F0 m pc ls (st.map (mv ext bs))) := by
  dsimp only [pst] at h
  split at h
  · split at h
    · cases h
      exact lv_pop hx hb hdg (by rw [mv_cat _ _ _ (ext_cat hE)]; assumption) (kk ls hL)
    · cases h
  · cases h
theorem ok_dup_x1 (hx : p.tables.exec = Jvm.exec) (hb : c.code = cc) (hE : EXs ext bs W0 s) (hL : LR ext bs nL L ls) {av : Value} (h : pst .dup_x1 av L st = some (L2, st2)) (hdg : decode cc pc = .ok (.dup_x1, 1))
    (kk : ∀ ls2 : Array Slot, LR ext bs nL L2 ls2 → W p l e R s m args below meth c H locs cells slots Q (F0 m (pc + 1) ls2 (st2.map (mv ext bs)))) : W p l e R s m args below meth c H locs cells slots Q (F0 m pc ls (st.map (mv ext bs))) := by
  dsimp only [pst] at h
  split at h
  · split at h
    · split at h
      · cases h
        exact lv_dup_x1 hx hb hdg (by rw [mv_cat _ _ _ (ext_cat hE)]; assumption) (by rw [mv_cat _ _ _ (ext_cat hE)]; assumption) (kk ls hL)
      · cases h
    · cases h
  · cases h
theorem ok_dup2 (hx : p.tables.exec = Jvm.exec) (hb : c.code = cc) (hE : EXs ext bs W0 s) (hL : LR ext bs nL L ls) {av : Value} (h : pst .dup2 av L st = some (L2, st2)) (hdg : decode cc pc = .ok (.dup2, 1))
    (kk : ∀ ls2 : Array Slot, LR ext bs nL L2 ls2 → W p l e R s m args below meth c H locs cells slots Q (F0 m (pc + 1) ls2 (st2.map (mv ext bs)))) : W p l e R s m args below meth c H locs cells slots Q (F0 m pc ls (st.map (mv ext bs))) := by
  dsimp only [pst] at h
  split at h
  · split at h
    · split at h
      · cases h
        exact lv_dup2_11 hx hb hdg (by rw [mv_cat _ _ _ (ext_cat hE)]; assumption) (by rw [mv_cat _ _ _ (ext_cat hE)]; assumption) (kk ls hL)
      · cases h
    · cases h
  · cases h
theorem ok_iinc (hx : p.tables.exec = Jvm.exec) (hb : c.code = cc) (hE : EXs ext bs W0 s) (hL : LR ext bs nL L ls) {k : Nat} {n : Int} {av : Value} (hv : av = .int (Int32.ofInt n)) (h : pst (.iinc k n) av L st = some (L2, st2)) (hdg : decode cc pc = .ok (.iinc k n, 3))
    (kk : ∀ ls2 : Array Slot, LR ext bs nL L2 ls2 → W p l e R s m args below meth c H locs cells slots Q (F0 m (pc + 3) ls2 (st2.map (mv ext bs)))) : W p l e R s m args below meth c H locs cells slots Q (F0 m pc ls (st.map (mv ext bs))) := by
  subst hv
  dsimp only [pst] at h
  split at h
  · rename_i x hx2
    split at h
    · rename_i hlt
      cases h
      obtain ⟨i, hi⟩ := List.getElem?_of_mem (lvl_mem (ext := ext) (bs := bs) (L := L) (q := (k, .int x)) |>.mpr ⟨.int x, hx2, rfl⟩)
      exact lv_iinc hx hb hdg hL.has hi rfl (by have := hL.2.1; omega) rfl (fun ls2 h2 => kk ls2 (LR_st1 (v := .int (x + Int32.ofInt n)) (ext_cat hE) hL hlt h2))
    · cases h
  · cases h
theorem ok_iincW (hx : p.tables.exec = Jvm.exec) (hb : c.code = cc) (hE : EXs ext bs W0 s) (hL : LR ext bs nL L ls) {k : Nat} {n : Int} {av : Value} (hv : av = .int (Int32.ofInt n)) (h : pst (.iinc k n) av L st = some (L2, st2)) (hdg : decode cc pc = .ok (.iinc k n, 6))
    (kk : ∀ ls2 : Array Slot, LR ext bs nL L2 ls2 → W p l e R s m args below meth c H locs cells slots Q (F0 m (pc + 6) ls2 (st2.map (mv ext bs)))) : W p l e R s m args below meth c H locs cells slots Q (F0 m pc ls (st.map (mv ext bs))) := by
  subst hv
  dsimp only [pst] at h
  split at h
  · rename_i x hx2
    split at h
    · rename_i hlt
      cases h
      obtain ⟨i, hi⟩ := List.getElem?_of_mem (lvl_mem (ext := ext) (bs := bs) (L := L) (q := (k, .int x)) |>.mpr ⟨.int x, hx2, rfl⟩)
      exact lv_iincW hx hb hdg hL.has hi rfl (by have := hL.2.1; omega) rfl (fun ls2 h2 => kk ls2 (LR_st1 (v := .int (x + Int32.ofInt n)) (ext_cat hE) hL hlt h2))
    · cases h
  · cases h
theorem pst_ok {own : String} {i : Instr} {n : Nat} {av : Value} {sw : List (Int32 × Nat)} (hx : p.tables.exec = Jvm.exec) (hb : c.code = cc) (hE : EXs ext bs W0 s) (hS : va_S (fun q => bs ≤ q) s.heap H locs) (hown : s.vm.findClass own = some m.cls) (hts : ∀ w ∈ lwT, w.before args s = true) (hL : LR ext bs nL L ls) (hok : okP own i n av sw = true) (h : pst i av L st = some (L2, st2)) (hdg : decode cc pc = .ok (i, n))
    (kk : ∀ ls2 : Array Slot, LR ext bs nL L2 ls2 → W p l e R s m args below meth c H locs cells slots Q (F0 m (pc + n) ls2 (st2.map (mv ext bs)))) : W p l e R s m args below meth c H locs cells slots Q (F0 m pc ls (st.map (mv ext bs))) := by
  cases i
  case iload k =>
    obtain rfl : n = 2 := by simpa [okP] using hok
    exact ok_iload hx hb hE hL h hdg kk
  case iload_n k =>
    obtain rfl : n = 1 := by simpa [okP] using hok
    exact ok_iload_n hx hb hE hL h hdg kk
  case lload k =>
    obtain rfl : n = 2 := by simpa [okP] using hok
    exact ok_lload hx hb hE hL h hdg kk
  case lload_n k =>
    obtain rfl : n = 1 := by simpa [okP] using hok
    exact ok_lload_n hx hb hE hL h hdg kk
  case dload k =>
    obtain rfl : n = 2 := by simpa [okP] using hok
    exact ok_dload hx hb hE hL h hdg kk
  case dload_n k =>
    obtain rfl : n = 1 := by simpa [okP] using hok
    exact ok_dload_n hx hb hE hL h hdg kk
  case aload k =>
    obtain rfl : n = 2 := by simpa [okP] using hok
    exact ok_aload hx hb hE hL h hdg kk
  case aload_n k =>
    obtain rfl : n = 1 := by simpa [okP] using hok
    exact ok_aload_n hx hb hE hL h hdg kk
  case istore k =>
    obtain rfl : n = 2 := by simpa [okP] using hok
    exact ok_istore hx hb hE hL h hdg kk
  case istore_n k =>
    obtain rfl : n = 1 := by simpa [okP] using hok
    exact ok_istore_n hx hb hE hL h hdg kk
  case lstore k =>
    obtain rfl : n = 2 := by simpa [okP] using hok
    exact ok_lstore hx hb hE hL h hdg kk
  case lstore_n k =>
    obtain rfl : n = 1 := by simpa [okP] using hok
    exact ok_lstore_n hx hb hE hL h hdg kk
  case dstore k =>
    obtain rfl : n = 2 := by simpa [okP] using hok
    exact ok_dstore hx hb hE hL h hdg kk
  case dstore_n k =>
    obtain rfl : n = 1 := by simpa [okP] using hok
    exact ok_dstore_n hx hb hE hL h hdg kk
  case astore k =>
    obtain rfl : n = 2 := by simpa [okP] using hok
    exact ok_astore hx hb hE hL h hdg kk
  case astore_n k =>
    obtain rfl : n = 1 := by simpa [okP] using hok
    exact ok_astore_n hx hb hE hL h hdg kk
  case iadd =>
    obtain rfl : n = 1 := by simpa [okP] using hok
    exact ok_iadd hx hb hE hL h hdg kk
  case isub =>
    obtain rfl : n = 1 := by simpa [okP] using hok
    exact ok_isub hx hb hE hL h hdg kk
  case imul =>
    obtain rfl : n = 1 := by simpa [okP] using hok
    exact ok_imul hx hb hE hL h hdg kk
  case iand =>
    obtain rfl : n = 1 := by simpa [okP] using hok
    exact ok_iand hx hb hE hL h hdg kk
  case ior =>
    obtain rfl : n = 1 := by simpa [okP] using hok
    exact ok_ior hx hb hE hL h hdg kk
  case ixor =>
    obtain rfl : n = 1 := by simpa [okP] using hok
    exact ok_ixor hx hb hE hL h hdg kk
  case ishl =>
    obtain rfl : n = 1 := by simpa [okP] using hok
    exact ok_ishl hx hb hE hL h hdg kk
  case ishr =>
    obtain rfl : n = 1 := by simpa [okP] using hok
    exact ok_ishr hx hb hE hL h hdg kk
  case iushr =>
    obtain rfl : n = 1 := by simpa [okP] using hok
    exact ok_iushr hx hb hE hL h hdg kk
  case ladd =>
    obtain rfl : n = 1 := by simpa [okP] using hok
    exact ok_ladd hx hb hE hL h hdg kk
  case lsub =>
    obtain rfl : n = 1 := by simpa [okP] using hok
    exact ok_lsub hx hb hE hL h hdg kk
  case lmul =>
    obtain rfl : n = 1 := by simpa [okP] using hok
    exact ok_lmul hx hb hE hL h hdg kk
  case land =>
    obtain rfl : n = 1 := by simpa [okP] using hok
    exact ok_land hx hb hE hL h hdg kk
  case lor =>
    obtain rfl : n = 1 := by simpa [okP] using hok
    exact ok_lor hx hb hE hL h hdg kk
  case lxor =>
    obtain rfl : n = 1 := by simpa [okP] using hok
    exact ok_lxor hx hb hE hL h hdg kk
  case lshl =>
    obtain rfl : n = 1 := by simpa [okP] using hok
    exact ok_lshl hx hb hE hL h hdg kk
  case lshr =>
    obtain rfl : n = 1 := by simpa [okP] using hok
    exact ok_lshr hx hb hE hL h hdg kk
  case lushr =>
    obtain rfl : n = 1 := by simpa [okP] using hok
    exact ok_lushr hx hb hE hL h hdg kk
  case dadd =>
    obtain rfl : n = 1 := by simpa [okP] using hok
    exact ok_dadd hx hb hE hL h hdg kk
  case dsub =>
    obtain rfl : n = 1 := by simpa [okP] using hok
    exact ok_dsub hx hb hE hL h hdg kk
  case dmul =>
    obtain rfl : n = 1 := by simpa [okP] using hok
    exact ok_dmul hx hb hE hL h hdg kk
  case ddiv =>
    obtain rfl : n = 1 := by simpa [okP] using hok
    exact ok_ddiv hx hb hE hL h hdg kk
  case idiv =>
    obtain rfl : n = 1 := by simpa [okP] using hok
    exact ok_idiv hx hb hE hL h hdg kk
  case irem =>
    obtain rfl : n = 1 := by simpa [okP] using hok
    exact ok_irem hx hb hE hL h hdg kk
  case ldiv =>
    obtain rfl : n = 1 := by simpa [okP] using hok
    exact ok_ldiv hx hb hE hL h hdg kk
  case lrem =>
    obtain rfl : n = 1 := by simpa [okP] using hok
    exact ok_lrem hx hb hE hL h hdg kk
  case ineg =>
    obtain rfl : n = 1 := by simpa [okP] using hok
    exact ok_ineg hx hb hE hL h hdg kk
  case lneg =>
    obtain rfl : n = 1 := by simpa [okP] using hok
    exact ok_lneg hx hb hE hL h hdg kk
  case i2d =>
    obtain rfl : n = 1 := by simpa [okP] using hok
    exact ok_i2d hx hb hE hL h hdg kk
  case l2d =>
    obtain rfl : n = 1 := by simpa [okP] using hok
    exact ok_l2d hx hb hE hL h hdg kk
  case d2l =>
    obtain rfl : n = 1 := by simpa [okP] using hok
    exact ok_d2l hx hb hE hL h hdg kk
  case dneg =>
    obtain rfl : n = 1 := by simpa [okP] using hok
    exact ok_dneg hx hb hE hL h hdg kk
  case i2b =>
    obtain rfl : n = 1 := by simpa [okP] using hok
    exact ok_i2b hx hb hE hL h hdg kk
  case i2c =>
    obtain rfl : n = 1 := by simpa [okP] using hok
    exact ok_i2c hx hb hE hL h hdg kk
  case i2l =>
    obtain rfl : n = 1 := by simpa [okP] using hok
    exact ok_i2l hx hb hE hL h hdg kk
  case l2i =>
    obtain rfl : n = 1 := by simpa [okP] using hok
    exact ok_l2i hx hb hE hL h hdg kk
  case lcmp =>
    obtain rfl : n = 1 := by simpa [okP] using hok
    exact ok_lcmp hx hb hE hL h hdg kk
  case dup =>
    obtain rfl : n = 1 := by simpa [okP] using hok
    exact ok_dup hx hb hE hL h hdg kk
  case pop =>
    obtain rfl : n = 1 := by simpa [okP] using hok
    exact ok_pop hx hb hE hL h hdg kk
  case dup_x1 =>
    obtain rfl : n = 1 := by simpa [okP] using hok
    exact ok_dup_x1 hx hb hE hL h hdg kk
  case dup2 =>
    obtain rfl : n = 1 := by simpa [okP] using hok
    exact ok_dup2 hx hb hE hL h hdg kk
  case dcmp op =>
    obtain rfl : n = 1 := by simpa [okP] using hok
    exact ok_dcmp hx hb hE hL h hdg kk
  case iconst k =>
    simp only [okP, Bool.and_eq_true, beq_iff_eq] at hok
    obtain ⟨rfl, hv⟩ := hok
    cases h
    exact ok_iconst hx hb hE (of_decide_eq_true hv) hdg (kk ls hL)
  case bipush k =>
    simp only [okP, Bool.and_eq_true, beq_iff_eq] at hok
    obtain ⟨rfl, hv⟩ := hok
    cases h
    exact ok_bipush hx hb hE (of_decide_eq_true hv) hdg (kk ls hL)
  case sipush k =>
    simp only [okP, Bool.and_eq_true, beq_iff_eq] at hok
    obtain ⟨rfl, hv⟩ := hok
    cases h
    exact ok_sipush hx hb hE (of_decide_eq_true hv) hdg (kk ls hL)
  case lconst k =>
    simp only [okP, Bool.and_eq_true, beq_iff_eq] at hok
    obtain ⟨rfl, hv⟩ := hok
    cases h
    exact ok_lconst hx hb hE (of_decide_eq_true hv) hdg (kk ls hL)
  case aconst_null =>
    simp only [okP, Bool.and_eq_true, beq_iff_eq] at hok
    obtain ⟨rfl, hv⟩ := hok
    cases h
    exact ok_null hx hb hE (of_decide_eq_true hv) hdg (kk ls hL)
  case dconst k =>
    simp only [okP, Bool.and_eq_true, beq_iff_eq] at hok
    obtain ⟨rfl, hv⟩ := hok
    cases h
    split at hv
    · rename_i h0
      subst h0
      exact ok_dconst0 hx hb hE (of_decide_eq_true hv) hdg (kk ls hL)
    · split at hv
      · rename_i h1
        subst h1
        exact ok_dconst1 hx hb hE (of_decide_eq_true hv) hdg (kk ls hL)
      · cases hv
  case ldc k =>
    simp only [okP, Bool.and_eq_true, beq_iff_eq] at hok
    obtain ⟨rfl, hv⟩ := hok
    cases h
    split at hv
    · exact ok_ldcI hx hb hE hown hts rfl (tbw_mem (of_decide_eq_true hv)) hdg (kk ls hL)
    · rename_i a
      simp only [Bool.and_eq_true, decide_eq_true_eq] at hv
      obtain ⟨⟨h2, h3⟩, h4⟩ := hv
      obtain ⟨x, rfl⟩ : ∃ x : Nat, a = (2 + x : Nat) := ⟨a - 2, (Nat.add_sub_of_le h2).symm⟩
      rw [Nat.add_sub_cancel_left] at h4
      split at h4
      · rename_i tx htx
        exact ok_ldcS (x := x) hx hb hE hown hts rfl (by have h9 : (2 + x : Nat) < 18 := h3; omega) htx (tbw_mem (of_decide_eq_true h4)) hdg (kk ls hL)
      · cases h4
    · cases hv
  case ldc_w k =>
    simp only [okP, Bool.and_eq_true, beq_iff_eq] at hok
    obtain ⟨rfl, hv⟩ := hok
    cases h
    split at hv
    · exact ok_ldcw hx hb hE hown hts rfl (tbw_mem (of_decide_eq_true hv)) hdg (kk ls hL)
    · rename_i a
      simp only [Bool.and_eq_true, decide_eq_true_eq] at hv
      obtain ⟨⟨h2, h3⟩, h4⟩ := hv
      obtain ⟨x, rfl⟩ : ∃ x : Nat, a = (2 + x : Nat) := ⟨a - 2, (Nat.add_sub_of_le h2).symm⟩
      rw [Nat.add_sub_cancel_left] at h4
      split at h4
      · rename_i tx htx
        exact ok_ldcwS (x := x) hx hb hE hown hts rfl (by have h9 : (2 + x : Nat) < 18 := h3; omega) htx (tbw_mem (of_decide_eq_true h4)) hdg (kk ls hL)
      · cases h4
    · cases hv
  case ldc2_w k =>
    simp only [okP, Bool.and_eq_true, beq_iff_eq] at hok
    obtain ⟨rfl, hv⟩ := hok
    cases h
    split at hv
    · exact ok_ldc2 hx hb hE hown hts rfl (tbw_mem (of_decide_eq_true hv)) hdg (kk ls hL)
    · exact ok_ldc2d hx hb hE hown hts rfl (tbw_mem (of_decide_eq_true hv)) hdg (kk ls hL)
    · cases hv
  case getstatic k =>
    simp only [okP, Bool.and_eq_true, beq_iff_eq] at hok
    obtain ⟨rfl, hv⟩ := hok
    cases h
    obtain ⟨t, ht, h5⟩ := List.any_eq_true.mp hv
    simp only [Bool.and_eq_true, decide_eq_true_eq] at h5
    exact ok_getstatic hx hb hE hS hown hts ht h5.1 (tbw_mem h5.2) hdg (kk ls hL)
  case iinc k z =>
    simp only [okP, Bool.and_eq_true, Bool.or_eq_true, beq_iff_eq] at hok
    obtain ⟨hn, hv⟩ := hok
    rcases hn with rfl | rfl
    · exact ok_iinc hx hb hE hL (of_decide_eq_true hv) h hdg kk
    · exact ok_iincW hx hb hE hL (of_decide_eq_true hv) h hdg kk
  all_goals (cases h)
end PST
