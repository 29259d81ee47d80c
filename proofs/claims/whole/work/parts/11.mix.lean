/-! jumps, switches, natives, the script: and all of them together -/
section MIX
variable {p : Program} {l : Launch} {e : Env} {R : Room} {s : State} {m : MethodId} {args : Array Value} {below : List Frame} {meth : Method} {c : Code} {H : Heap} {locs : List Loc} {cells slots : Nat} {Q : State → Prop}
variable {cc : ByteArray} {pc : Nat} {ls : Array Slot} {ext : Nat → Value} {bs nL : Nat} {W0 w : Wd} {rest : List Value} {D : va_G} {aC : Nat → ClassId} {own : String}
theorem ofNat_toInt {n : Nat} (h : n < 2147483648) : (Int32.ofNat n).toInt = (n : Int) := nI_toInt h
theorem gto_inj {y d p1 y2 d2 p2 : Nat} {l1 l2 : List (Option Value)} {s1 s2 : List Value} {w1 w2 : Wd} (h : gto y d p1 l1 s1 w1 = .inr (.inl (y2, d2, p2, l2, s2, w2))) : y2 = y ∧ d2 = d ∧ p2 = p1 ∧ l2 = l1 ∧ s2 = s1 ∧ w2 = w1 := by
  unfold gto at h
  cases h
  exact ⟨rfl, rfl, rfl, rfl, rfl, rfl⟩
theorem ok_tsw (hx : p.tables.exec = Jvm.exec) (hb : c.code = cc) {df lo hi : Int} {offs : Array Int} {n t pc2 : Nat} {sw : List (Int32 × Nat)} {x : Int32} (ht : (pc : Int) + df = (t : Int)) (hok : okTS pc lo hi offs sw = true) (hsw : (∃ (j : Nat) (q : Int32 × Nat), sw[j]? = some q ∧ x = q.1 ∧ pc2 = q.2) ∨ ((∀ q ∈ sw, ¬ x = q.1) ∧ pc2 = t)) (hdg : decode cc pc = .ok (.tableswitch df lo hi offs, n))
    (kk : W p l e R s m args below meth c H locs (cells) (slots) Q (F0 m pc2 ls rest)) : W p l e R s m args below meth c H locs (cells) (slots) Q (F0 m pc ls (.int x :: rest)) := by
  unfold okTS at hok
  simp only [Bool.and_eq_true, decide_eq_true_eq, List.all_eq_true, List.mem_range] at hok
  obtain ⟨⟨⟨⟨h1, h2⟩, h3⟩, h4⟩, h5⟩ := hok
  rcases hsw with ⟨j, q, g1, g2, g3⟩ | ⟨g1, g2⟩
  · have hj : j < sw.length := (List.getElem?_eq_some_iff.mp g1).1
    have h6 := h5 j (by omega)
    rw [g1] at h6
    dsimp only at h6
    split at h6
    · rename_i o ho
      simp only [Bool.and_eq_true, decide_eq_true_eq] at h6
      have hxi : x.toInt = ((lo.toNat + j : Nat) : Int) := by
        rw [g2, h6.1]
        exact ofNat_toInt (by omega)
      exact lv_tableIn (off := o) (tgt := pc2) hx hb hdg (by omega) (by omega) (by rw [hxi, show (((lo.toNat + j : Nat) : Int) - lo).toNat = j by omega]; exact ho) (by rw [h6.2, g3]) kk
    · cases h6
  · refine lv_tableOut (tgt := pc2) hx hb hdg ?_ (by rw [ht, g2]) kk
    rcases (show x.toInt < lo ∨ lo ≤ x.toInt by omega) with h | h
    · exact Or.inl h
    · rcases (show hi < x.toInt ∨ x.toInt ≤ hi by omega) with h7 | h7
      · exact Or.inr h7
      · exfalso
        have h6 := h5 (x.toInt - lo).toNat (by omega)
        cases hq : sw[(x.toInt - lo).toNat]? with
        | none =>
          have := List.getElem?_eq_none_iff.mp hq
          omega
        | some q =>
          rw [hq] at h6
          dsimp only at h6
          split at h6
          · simp only [Bool.and_eq_true, decide_eq_true_eq] at h6
            refine g1 q (List.mem_of_getElem? hq) ?_
            apply Int32.toInt_inj.mp
            rw [h6.1, ofNat_toInt (by omega)]
            omega
          · cases h6
theorem ls_off {df : Int} {t : Nat} (ht : (pc : Int) + df = (t : Int)) {x : Int32} : ∀ {ps : List (Int × Int)} {sw : List (Int32 × Nat)} {pc2 : Nat}, okLS pc ps sw = true → ((∃ (j : Nat) (q : Int32 × Nat), sw[j]? = some q ∧ x = q.1 ∧ pc2 = q.2 ∧ ∀ i q2, i < j → sw[i]? = some q2 → ¬ x = q2.1) ∨ ((∀ q ∈ sw, ¬ x = q.1) ∧ pc2 = t)) → ∃ off, Op.lookupswitch.offset ps df x.toInt = off ∧ (pc : Int) + off = (pc2 : Int) := by
  intro ps
  induction ps with
  | nil =>
    intro sw pc2 hok h
    cases sw with
    | nil =>
      rcases h with ⟨j, q, h1, _⟩ | ⟨_, h2⟩
      · cases h1
      · exact ⟨df, rfl, by rw [ht, h2]⟩
    | cons b t2 => cases hok
  | cons a r ih =>
    intro sw pc2 hok h
    cases sw with
    | nil => cases hok
    | cons b t2 =>
      unfold okLS at hok
      simp only [Bool.and_eq_true, decide_eq_true_eq] at hok
      obtain ⟨⟨h1, h2⟩, h3⟩ := hok
      by_cases hxb : x = b.1
      · refine ⟨a.2, ?_, ?_⟩
        · rw [show a = (a.1, a.2) from rfl, Op.lookupswitch.offset_cons, if_pos (by rw [hxb, h1])]
        · rcases h with ⟨j, q, g1, g2, g3, g4⟩ | ⟨g1, g2⟩
          · cases j with
            | zero => cases g1; rw [h2, g3]
            | succ j => exact absurd hxb (g4 0 b (Nat.succ_pos j) rfl)
          · exact absurd hxb (g1 b List.mem_cons_self)
      · obtain ⟨off, e1, e2⟩ := ih h3 (pc2 := pc2) (by
          rcases h with ⟨j, q, g1, g2, g3, g4⟩ | ⟨g1, g2⟩
          · cases j with
            | zero => cases g1; exact absurd g2 hxb
            | succ j => exact Or.inl ⟨j, q, g1, g2, g3, fun i q2 hi hq => g4 (i + 1) q2 (by omega) hq⟩
          · exact Or.inr ⟨fun q hq => g1 q (List.mem_cons_of_mem _ hq), g2⟩)
        refine ⟨off, ?_, e2⟩
        rw [show a = (a.1, a.2) from rfl, lv_osw hxb h1]
        exact e1
theorem swk_first {x : Int32} {df : Nat} {sw : List (Int32 × Nat)} {k : Nat → Pl} {P : Pl} (h : swk x df sw k = P) : (∃ (j : Nat) (q : Int32 × Nat), sw[j]? = some q ∧ x = q.1 ∧ k q.2 = P ∧ ∀ i q2, i < j → sw[i]? = some q2 → ¬ x = q2.1) ∨ ((∀ q ∈ sw, ¬ x = q.1) ∧ k df = P) := by
  induction sw with
  | nil => exact Or.inr ⟨fun q hq => absurd hq List.not_mem_nil, h⟩
  | cons a r ih =>
    unfold swk at h
    split at h
    · rename_i hx
      exact Or.inl ⟨0, a, rfl, hx, h, fun i q2 hi _ => absurd hi (Nat.not_lt_zero i)⟩
    · rename_i hx
      rcases ih h with ⟨j, q, h1, h2, h3, h4⟩ | ⟨h1, h2⟩
      · refine Or.inl ⟨j + 1, q, h1, h2, h3, fun i q2 hi hq => ?_⟩
        cases i with
        | zero => cases hq; exact hx
        | succ i => exact h4 i q2 (by omega) hq
      · refine Or.inr ⟨fun q hq => ?_, h2⟩
        rcases List.mem_cons.mp hq with rfl | hq
        · exact hx
        · exact h1 q hq
theorem ok_script (hx : p.tables.exec = Jvm.exec) (hb : c.code = cc) (hE : EXs ext bs W0 s) (hown : s.vm.findClass own = some m.cls) (hts : ∀ w ∈ lwT, w.before args s = true) (hK : va_K D vwCl (tyL aC) s) (hS : va_S (fun q => bs ≤ q) s.heap H locs) (hR : HR ext bs aC D W0 w H) {a : Nat} {i : Int32} (hc : (wK w a).1 = 30) (hi : inB i (wK w a).2 = true) (hdg : decode cc pc = .ok (.iaload, 1))
    (kk : W p l e R s m args below meth c H locs (cells) (slots) Q (F0 m (pc + 1) ls (.int (gI w a i.toNatClampNeg) :: rest))) : W p l e R s m args below meth c H locs (cells) (slots) Q (F0 m pc ls (.int i :: mv ext bs (.ref a) :: rest)) := by
  have ha := HR_ext hR hc (by omega) (by omega)
  have h3 := hR.2.2.1 a ha
  have h5 := hc
  rw [h3.1] at h5
  obtain ⟨b, e1, e2, e3, e4⟩ := hE.2.2.2.2.2.2.1 a ha h5
  rw [mv_ext bs ext ha, e1]
  rw [h3.2.1] at kk
  exact va_sld hx hb e2 e3 (Nat.not_le.mpr e4) hS (by rw [← h3.1]; exact inB_in hi) hdg kk
theorem ok_scrlen (hx : p.tables.exec = Jvm.exec) (hb : c.code = cc) (hE : EXs ext bs W0 s) (hown : s.vm.findClass own = some m.cls) (hts : ∀ w ∈ lwT, w.before args s = true) (hK : va_K D vwCl (tyL aC) s) (hS : va_S (fun q => bs ≤ q) s.heap H locs) (hR : HR ext bs aC D W0 w H) {a : Nat} (hc : (wK w a).1 = 30) (hdg : decode cc pc = .ok (.arraylength, 1))
    (kk : W p l e R s m args below meth c H locs (cells) (slots) Q (F0 m (pc + 1) ls (.int (Int32.ofNat (wK w a).2) :: rest))) : W p l e R s m args below meth c H locs (cells) (slots) Q (F0 m pc ls (mv ext bs (.ref a) :: rest)) := by
  have ha := HR_ext hR hc (by omega) (by omega)
  have h3 := hR.2.2.1 a ha
  have h5 := hc
  rw [h3.1] at h5
  obtain ⟨b, e1, e2, e3, e4⟩ := hE.2.2.2.2.2.2.1 a ha h5
  rw [mv_ext bs ext ha, e1]
  rw [h3.1] at kk
  exact va_slen hx hb e2 e3 (Nat.not_le.mpr e4) hS hdg kk
theorem cat_map (hE : EXs ext bs W0 s) : ∀ st : List Value, (((st.map (mv ext bs)).map fun v => v.category).sum) = catS st := by
  intro st
  induction st with
  | nil => rfl
  | cons v r ih =>
    simp only [List.map_cons, List.sum_cons]
    rw [ih, mv_cat _ _ _ (ext_cat hE)]
    rfl
theorem ok_objinit (hx : p.tables.exec = Jvm.exec) (hb : c.code = cc) (hE : EXs ext bs W0 s) (hown : s.vm.findClass own = some m.cls) (hts : ∀ w ∈ lwT, w.before args s = true) (hK : va_K D vwCl (tyL aC) s) (hS : va_S (fun q => bs ≤ q) s.heap H locs) (hR : HR ext bs aC D W0 w H) {a idx : Nat} {st : List Value} (hnL : ls.size = c.maxLocals) (ha : 64 ≤ a) (hcs : catS st ≤ 8) (hfr : 1 ≤ R.frames) (hlo : 64 ≤ R.locals) (h1 : Cond.methodLink own idx Lib.objectInit ∈ lwT) (h2 : Cond.instanceMethod Lib.objectInit ∈ lwT) (h3 : Cond.code Lib.objectInit ⟨#[0xb1]⟩ 1 none ∈ lwT) (hdg : decode cc pc = .ok (.invokespecial idx, 3))
    (kk : W p l e R s m args below meth c H locs (cells) (slots) Q (F0 m (pc + 3) ls (st.map (mv ext bs)))) : W p l e R s m args below meth c H locs (cells) (slots) Q (F0 m pc ls ((Value.ref a :: st).map (mv ext bs))) := by
  rw [List.map_cons, mv_in bs ext ha]
  refine W.objInit hx hb hown (hts _ h1) (hts _ h2) (hts _ h3) rfl hnL rfl hdg hfr (by show 2 * 0 + ((st.map (mv ext bs)).map fun v => v.category).sum + 12 ≤ _; rw [cat_map hE]; omega) kk
theorem ok_nl2d (hx : p.tables.exec = Jvm.exec) (hb : c.code = cc) (hE : EXs ext bs W0 s) (hown : s.vm.findClass own = some m.cls) (hts : ∀ w ∈ lwT, w.before args s = true) (hK : va_K D vwCl (tyL aC) s) (hS : va_S (fun q => bs ≤ q) s.heap H locs) (hR : HR ext bs aC D W0 w H) {b : Int64} {idx : Nat} {st : List Value} (hnL : c.maxLocals = ls.size) (hcs : catS st ≤ 8) (hsg : sgn b = false) (hfr : 1 ≤ R.frames) (hlo : 64 ≤ R.locals) (h1 : Cond.methodLink own idx ⟨"java/lang/Double", "longBitsToDouble", "(J)D"⟩ ∈ lwT) (h2 : Cond.native ⟨"java/lang/Double", "longBitsToDouble", "(J)D"⟩ ∈ lwT) (h3 : Cond.static ⟨"java/lang/Double", "longBitsToDouble", "(J)D"⟩ ∈ lwT) (h4 : Cond.initialized "java/lang/Double" ∈ lwT) (hdg : decode cc pc = .ok (.invokestatic idx, 3))
    (kk : W p l e R s m args below meth c H locs (cells) (slots) Q (F0 m (pc + 3) ls ((Value.double b.toUInt64 :: st).map (mv ext bs)))) : W p l e R s m args below meth c H locs (cells) (slots) Q (F0 m pc ls ((Value.long b :: st).map (mv ext bs))) := by
  exact vn_l2d hx hb hnL hown (hts _ h1) (hts _ h2) (hts _ h3) (hts _ h4) hsg hfr (by rw [cat_map hE]; omega) hdg kk
theorem ok_nd2l (hx : p.tables.exec = Jvm.exec) (hb : c.code = cc) (hE : EXs ext bs W0 s) (hown : s.vm.findClass own = some m.cls) (hts : ∀ w ∈ lwT, w.before args s = true) (hK : va_K D vwCl (tyL aC) s) (hS : va_S (fun q => bs ≤ q) s.heap H locs) (hR : HR ext bs aC D W0 w H) {b : UInt64} {idx : Nat} {st : List Value} (hnL : c.maxLocals = ls.size) (hcs : catS st ≤ 8) (hfr : 1 ≤ R.frames) (hlo : 64 ≤ R.locals) (h1 : Cond.methodLink own idx ⟨"java/lang/Double", "doubleToRawLongBits", "(D)J"⟩ ∈ lwT) (h2 : Cond.native ⟨"java/lang/Double", "doubleToRawLongBits", "(D)J"⟩ ∈ lwT) (h3 : Cond.static ⟨"java/lang/Double", "doubleToRawLongBits", "(D)J"⟩ ∈ lwT) (h4 : Cond.initialized "java/lang/Double" ∈ lwT) (hdg : decode cc pc = .ok (.invokestatic idx, 3))
    (kk : W p l e R s m args below meth c H locs (cells) (slots) Q (F0 m (pc + 3) ls ((Value.long b.toInt64 :: st).map (mv ext bs)))) : W p l e R s m args below meth c H locs (cells) (slots) Q (F0 m pc ls ((Value.double b :: st).map (mv ext bs))) := by
  exact vn_d2l hx hb hnL hown (hts _ h1) (hts _ h2) (hts _ h3) (hts _ h4) hfr (by rw [cat_map hE]; omega) hdg kk
end MIX
