/-! arraycopy; and all of the steps that neither call nor end -/
def j3 (sw : List (Int32 × Nat)) : Nat := j0 (sw.drop 3)
/-- the natives' words -/
def okN (own : String) (idx c : Nat) (sw : List (Int32 × Nat)) : Bool := match c with
  | 0 => decide (tbw (j0 sw) = some (.methodLink own idx Lib.objectInit)) && decide (tbw (j1 sw) = some (.instanceMethod Lib.objectInit)) && decide (tbw (j2 sw) = some (.code Lib.objectInit ⟨#[0xb1]⟩ 1 none))
  | 1 => decide (tbw (j0 sw) = some (.methodLink own idx ⟨"java/lang/Double", "longBitsToDouble", "(J)D"⟩)) && decide (tbw (j1 sw) = some (.native ⟨"java/lang/Double", "longBitsToDouble", "(J)D"⟩)) && decide (tbw (j2 sw) = some (.static ⟨"java/lang/Double", "longBitsToDouble", "(J)D"⟩)) && decide (tbw (j3 sw) = some (.initialized "java/lang/Double"))
  | 2 => decide (tbw (j0 sw) = some (.methodLink own idx ⟨"java/lang/Double", "doubleToRawLongBits", "(D)J"⟩)) && decide (tbw (j1 sw) = some (.native ⟨"java/lang/Double", "doubleToRawLongBits", "(D)J"⟩)) && decide (tbw (j2 sw) = some (.static ⟨"java/lang/Double", "doubleToRawLongBits", "(D)J"⟩)) && decide (tbw (j3 sw) = some (.initialized "java/lang/Double"))
  | 3 => decide (tbw (j0 sw) = some (.methodLink own idx arraycopyName)) && decide (tbw (j1 sw) = some (.native arraycopyName)) && decide (tbw (j2 sw) = some (.static arraycopyName)) && decide (tbw (j3 sw) = some (.initialized "java/lang/System"))
  | 4 => decide (tbw (j0 sw) = some (.methodLink own idx Lib.Math.max.name)) && decide (tbw (j1 sw) = some (.code Lib.Math.max.name Lib.Math.max.code 2 (some .int))) && decide (tbw (j2 sw) = some (.static Lib.Math.max.name)) && decide (tbw (j3 sw) = some (.initialized "java/lang/Math"))
  | 5 => decide (tbw (j0 sw) = some (.methodLink own idx Lib.Math.min.name)) && decide (tbw (j1 sw) = some (.code Lib.Math.min.name Lib.Math.min.code 2 (some .int))) && decide (tbw (j2 sw) = some (.static Lib.Math.min.name)) && decide (tbw (j3 sw) = some (.initialized "java/lang/Math"))
  | 6 => decide (tbw (j0 sw) = some (.methodLink own idx Lib.Math.abs.name)) && decide (tbw (j1 sw) = some (.code Lib.Math.abs.name Lib.Math.abs.code 1 (some .int))) && decide (tbw (j2 sw) = some (.static Lib.Math.abs.name)) && decide (tbw (j3 sw) = some (.initialized "java/lang/Math"))
  | 7 => decide (tbw (j0 sw) = some (.methodLink own idx Lib.MathLoose.max_long.x)) && decide (tbw (j1 sw) = some (.code Lib.MathLoose.max_long.x Lib.MathLoose.max_long.code 4 (some .long))) && decide (tbw (j2 sw) = some (.static Lib.MathLoose.max_long.x)) && decide (tbw (j3 sw) = some (.initialized "java/lang/Math"))
  | 8 => decide (tbw (j0 sw) = some (.methodLink own idx Lib.MathLoose.abs_long.x)) && decide (tbw (j1 sw) = some (.code Lib.MathLoose.abs_long.x Lib.MathLoose.abs_long.code 2 (some .long))) && decide (tbw (j2 sw) = some (.static Lib.MathLoose.abs_long.x)) && decide (tbw (j3 sw) = some (.initialized "java/lang/Math"))
  | _ => false
def okNs (own : String) (i : Instr) (ax : List Nat) (sw : List (Int32 × Nat)) : Bool := match i with
  | .invokestatic idx => match ax with
    | [c] => decide (1 ≤ c) && okN own idx c sw
    | _ => true
  | .invokespecial idx => match ax with
    | [c] => decide (c = 0) && okN own idx c sw
    | _ => true
  | _ => true
section ALL
variable {p : Program} {l : Launch} {e : Env} {R : Room} {s : State} {m : MethodId} {args : Array Value} {below : List Frame} {meth : Method} {c : Code} {H : Heap} {locs : List Loc} {cells slots : Nat} {Q : State → Prop}
variable {cc : ByteArray} {pc : Nat} {ls : Array Slot} {ext : Nat → Value} {bs nL : Nat} {W0 w : Wd} {rest : List Value} {D : va_G} {aC : Nat → ClassId} {own : String}
theorem ok_copy (hx : p.tables.exec = Jvm.exec) (hb : c.code = cc) (hE : EXs ext bs W0 s) (hown : s.vm.findClass own = some m.cls) (hts : ∀ w ∈ lwT, w.before args s = true) (hK : va_K D vwCl (tyL aC) s) (hS : va_S (fun q => bs ≤ q) s.heap H locs) (hR : HR ext bs aC D W0 w H) {a b idx : Nat} {n dp sp : Int32} {st : List Value} (hnL : c.maxLocals = ls.size) (ha1 : (wK w a).1 = 23) (hb1 : (wK w b).1 = 23) (h1 : ¬ sp < 0) (h2 : ¬ dp < 0) (h3 : ¬ n < 0) (h4 : sp.toNatClampNeg + n.toNatClampNeg ≤ (wK w a).2) (h5 : dp.toNatClampNeg + n.toNatClampNeg ≤ (wK w b).2) (hcs : catS st ≤ 8) (hfr : 1 ≤ R.frames) (hlo : 64 ≤ R.locals) (g1 : Cond.methodLink own idx arraycopyName ∈ lwT) (g2 : Cond.native arraycopyName ∈ lwT) (g3 : Cond.static arraycopyName ∈ lwT) (g4 : Cond.initialized "java/lang/System" ∈ lwT) (hdg : decode cc pc = .ok (.invokestatic idx, 3))
    (kk : ∀ (H2 : Heap) (locs2 : List Loc), HR ext bs aC D W0 (cpL w a sp.toNatClampNeg b dp.toNatClampNeg n.toNatClampNeg) H2 → va_S (fun q => bs ≤ q) s.heap H2 locs2 → W p l e R s m args below meth c H2 locs2 (cells) (slots) Q (F0 m (pc + 3) ls (st.map (mv ext bs)))) : W p l e R s m args below meth c H locs (cells) (slots) Q (F0 m pc ls ((Value.int n :: .int dp :: .ref b :: .int sp :: .ref a :: st).map (mv ext bs))) := by
  obtain ⟨ha, hga⟩ := HR_arr hR (by omega : 20 ≤ (wK w a).1) (by omega)
  obtain ⟨hb2, hgb⟩ := HR_arr hR (by omega : 20 ≤ (wK w b).1) (by omega)
  rw [cev_L ha1] at hga
  rw [cev_L hb1] at hgb
  show W p l e R s m args below meth c H locs (cells) (slots) Q (F0 m pc ls (.int n :: .int dp :: mv ext bs (.ref b) :: .int sp :: mv ext bs (.ref a) :: st.map (mv ext bs)))
  rw [mv_in bs ext ha, mv_in bs ext hb2]
  refine va_copyl hx hb hnL hown (hts _ g1) (hts _ g2) (hts _ g3) (hts _ g4) hK (HR_P hR) (wls_D ext bs aC w) hS (a - 64) (b - 64) 3 3 hga hgb rfl rfl rfl h1 h2 h3 h4 h5 (fun _ _ => rfl) hfr ?_ hdg (fun H1 locs1 hP hD hS2 => kk H1 locs1 ?_ hS2)
  · rw [cat_map hE]
    have h9 : nativeFrameWords "java/lang/System" "arraycopy" 5 ≤ 40 := by decide
    omega
  · refine HR_set hR hb2 rfl rfl (fun _ _ => rfl) (fun b9 h => u1_ne h) (fun _ _ => rfl) (fun _ _ => rfl) (fun j b9 h => rd_ge hR hb2 h) ?_
    rw [show cev ext bs aC (cpL w a sp.toNatClampNeg b dp.toNatClampNeg n.toNatClampNeg) b = _ from cev_L hb1]
    rw [show gL (cpL w a sp.toNatClampNeg b dp.toNatClampNeg n.toNatClampNeg) b = va_cpy (gL w a) (gL w b) sp.toNatClampNeg dp.toNatClampNeg n.toNatClampNeg from u1_at]
    exact hP
theorem pnat0 {y d pc : Nat} {L : List (Option Value)} {st : List Value} {c2 : Cfg} (h : pnat y d pc L st w 0 = .inr (.inl c2)) : ∃ (a : Nat) (r : List Value) (d1 : Nat), st = .ref a :: r ∧ 64 ≤ a ∧ catS r ≤ 8 ∧ d = d1 + 1 ∧ gto y d (pc + 3) L r w = .inr (.inl c2) := by
  cases st with
  | nil => cases h
  | cons v r =>
    cases v with
    | ref a =>
      change (if 64 ≤ a then (if catS r ≤ 8 then dpos d (gto y d (pc + 3) L r w) else no) else no) = _ at h
      split at h
      · rename_i ha
        split at h
        · rename_i hcs
          cases d with
          | zero => cases h
          | succ d => exact ⟨a, r, d, rfl, ha, hcs, rfl, h⟩
        · cases h
      · cases h
    | _ => cases h
theorem pcall_ng {y d pc y2 na ci mx : Nat} {L : List (Option Value)} {st : List Value} {c2 : Cfg} (h : pcall y d pc L st w y2 na ci mx = .inr (.inl c2)) : False := by
  unfold pcall at h
  split at h
  · cases h
  · split at h
    · split at h
      · split at h
        · split at h <;> cases h
        · cases h
      · cases h
    · cases h
theorem sval_N {w2 : Wd} {a k kd : Nat} {v : Value} (h : sval w a k kd v = some w2) : wN w2 = wN w ∧ wS w2 = wS w := by
  unfold sval at h
  split at h
  · split at h <;> cases h
    exact ⟨rfl, rfl⟩
  · split at h <;> cases h
    exact ⟨rfl, rfl⟩
  · split at h <;> cases h
    exact ⟨rfl, rfl⟩
  · split at h
    · split at h <;> cases h
      exact ⟨rfl, rfl⟩
    · cases h
      exact ⟨rfl, rfl⟩
    · cases h
  · split at h
    · split at h <;> cases h
      exact ⟨rfl, rfl⟩
    · cases h
set_option maxHeartbeats 2000000 in
theorem pln_ok {init : Bool} (hin : init = true → meth.name = "<init>") {y d y2 d2 pc2 : Nat} {L L2 : List (Option Value)} {st st2 : List Value} {w2 : Wd} {i : Instr} {n : Nat} {ax : List Nat} {sw : List (Int32 × Nat)} (hx : p.tables.exec = Jvm.exec) (hb : c.code = cc) (hml : c.maxLocals = ls.size) (hE : EXs ext bs W0 s) (hown : s.vm.findClass own = some m.cls) (hts : ∀ w ∈ lwT, w.before args s = true) (hK : va_K D vwCl (tyL aC) s) (hS : va_S (fun q => bs ≤ q) s.heap H locs) (hR : HR ext bs aC D W0 w H) (hz : s.heap.size + cells = bs + (wN w - 64)) (hbs : bs ≤ s.heap.size) (hfr : d ≤ R.frames) (hlo : 64 * d ≤ R.locals) (hok : okL own init pc i n ax sw = true) (hokN : okNs own i ax sw = true) (h : pln y d pc L st w i n ax sw = .inr (.inl (y2, d2, pc2, L2, st2, w2))) (hrc : cells + (wN w2 - wN w) ≤ R.cells) (hrs : slots + (wS w2 - wS w) ≤ R.slots) (hdg : decode cc pc = .ok (i, n))
    (kk : y2 = y → d2 = d → L2 = L → ∀ (H2 : Heap) (locs2 : List Loc), HR ext bs aC D W0 w2 H2 → va_S (fun q => bs ≤ q) s.heap H2 locs2 → W p l e R s m args below meth c H2 locs2 (cells + (wN w2 - wN w)) (slots + (wS w2 - wS w)) Q (F0 m pc2 ls (st2.map (mv ext bs)))) : W p l e R s m args below meth c H locs (cells) (slots) Q (F0 m pc ls (st.map (mv ext bs))) := by
  have ku : ∀ {H2 : Heap} {locs2 : List Loc} {g : JFrame}, wN w2 = wN w → wS w2 = wS w → W p l e R s m args below meth c H2 locs2 (cells + (wN w2 - wN w)) (slots + (wS w2 - wS w)) Q g → W p l e R s m args below meth c H2 locs2 cells slots Q g := by
    intro H2 locs2 g e1 e2 h
    rw [e1, e2, Nat.sub_self, Nat.sub_self] at h
    exact h
  have kz : w2 = w → y2 = y → d2 = d → L2 = L → W p l e R s m args below meth c H locs cells slots Q (F0 m pc2 ls (st2.map (mv ext bs))) := by
    intro e0 e1 e2 e3
    subst e0
    exact ku rfl rfl (kk e1 e2 e3 H locs hR hS)
  cases i
  case goto off =>
    dsimp only [pln] at h
    split at h
    · simp only [okL, Bool.and_eq_true, beq_iff_eq, decide_eq_true_eq] at hok
      obtain ⟨rfl, rfl, rfl, rfl, rfl, rfl⟩ := gto_inj h
      exact lv_goto hx hb (hok.1 ▸ hdg) hok.2 (kz rfl rfl rfl rfl)
    · cases h
  case ifCond cnd off =>
    dsimp only [pln] at h
    split at h
    · rename_i t
      simp only [okL, Bool.and_eq_true, beq_iff_eq, decide_eq_true_eq] at hok
      obtain ⟨rfl, ht⟩ := hok
      split at h
      · cases cnd
        case eq =>
          dsimp only [pbr] at h
          refine lv_if_eq (tgt := t) hx hb hdg ht (fun hc => ?_) (fun hc => ?_)
          · rw [if_pos hc] at h
            obtain ⟨rfl, rfl, rfl, rfl, rfl, rfl⟩ := gto_inj h
            exact (kz rfl rfl rfl rfl)
          · rw [if_neg hc] at h
            obtain ⟨rfl, rfl, rfl, rfl, rfl, rfl⟩ := gto_inj h
            exact (kz rfl rfl rfl rfl)
        case ne =>
          dsimp only [pbr] at h
          refine lv_if_ne (tgt := t) hx hb hdg ht (fun hc => ?_) (fun hc => ?_)
          · rw [if_pos hc] at h
            obtain ⟨rfl, rfl, rfl, rfl, rfl, rfl⟩ := gto_inj h
            exact (kz rfl rfl rfl rfl)
          · rw [if_neg (not_not_intro hc)] at h
            obtain ⟨rfl, rfl, rfl, rfl, rfl, rfl⟩ := gto_inj h
            exact (kz rfl rfl rfl rfl)
        case lt =>
          dsimp only [pbr] at h
          refine lv_if_lt (tgt := t) hx hb hdg ht (fun hc => ?_) (fun hc => ?_)
          · rw [if_pos hc] at h
            obtain ⟨rfl, rfl, rfl, rfl, rfl, rfl⟩ := gto_inj h
            exact (kz rfl rfl rfl rfl)
          · rw [if_neg hc] at h
            obtain ⟨rfl, rfl, rfl, rfl, rfl, rfl⟩ := gto_inj h
            exact (kz rfl rfl rfl rfl)
        case ge =>
          dsimp only [pbr] at h
          refine lv_if_ge (tgt := t) hx hb hdg ht (fun hc => ?_) (fun hc => ?_)
          · rw [if_pos hc] at h
            obtain ⟨rfl, rfl, rfl, rfl, rfl, rfl⟩ := gto_inj h
            exact (kz rfl rfl rfl rfl)
          · rw [if_neg hc] at h
            obtain ⟨rfl, rfl, rfl, rfl, rfl, rfl⟩ := gto_inj h
            exact (kz rfl rfl rfl rfl)
        case gt =>
          dsimp only [pbr] at h
          refine lv_if_gt (tgt := t) hx hb hdg ht (fun hc => ?_) (fun hc => ?_)
          · rw [if_pos hc] at h
            obtain ⟨rfl, rfl, rfl, rfl, rfl, rfl⟩ := gto_inj h
            exact (kz rfl rfl rfl rfl)
          · rw [if_neg hc] at h
            obtain ⟨rfl, rfl, rfl, rfl, rfl, rfl⟩ := gto_inj h
            exact (kz rfl rfl rfl rfl)
        case le =>
          dsimp only [pbr] at h
          refine lv_if_le (tgt := t) hx hb hdg ht (fun hc => ?_) (fun hc => ?_)
          · rw [if_pos hc] at h
            obtain ⟨rfl, rfl, rfl, rfl, rfl, rfl⟩ := gto_inj h
            exact (kz rfl rfl rfl rfl)
          · rw [if_neg hc] at h
            obtain ⟨rfl, rfl, rfl, rfl, rfl, rfl⟩ := gto_inj h
            exact (kz rfl rfl rfl rfl)
      · cases h
    · cases h
  case if_icmp cnd off =>
    dsimp only [pln] at h
    split at h
    · rename_i t
      simp only [okL, Bool.and_eq_true, beq_iff_eq, decide_eq_true_eq] at hok
      obtain ⟨rfl, ht⟩ := hok
      split at h
      · cases cnd
        case eq =>
          dsimp only [pbr] at h
          refine lv_icmp_eq (tgt := t) hx hb hdg ht (fun hc => ?_) (fun hc => ?_)
          · rw [if_pos hc] at h
            obtain ⟨rfl, rfl, rfl, rfl, rfl, rfl⟩ := gto_inj h
            exact (kz rfl rfl rfl rfl)
          · rw [if_neg hc] at h
            obtain ⟨rfl, rfl, rfl, rfl, rfl, rfl⟩ := gto_inj h
            exact (kz rfl rfl rfl rfl)
        case ne =>
          dsimp only [pbr] at h
          refine lv_icmp_ne (tgt := t) hx hb hdg ht (fun hc => ?_) (fun hc => ?_)
          · rw [if_pos hc] at h
            obtain ⟨rfl, rfl, rfl, rfl, rfl, rfl⟩ := gto_inj h
            exact (kz rfl rfl rfl rfl)
          · rw [if_neg (not_not_intro hc)] at h
            obtain ⟨rfl, rfl, rfl, rfl, rfl, rfl⟩ := gto_inj h
            exact (kz rfl rfl rfl rfl)
        case lt =>
          dsimp only [pbr] at h
          refine lv_icmp_lt (tgt := t) hx hb hdg ht (fun hc => ?_) (fun hc => ?_)
          · rw [if_pos hc] at h
            obtain ⟨rfl, rfl, rfl, rfl, rfl, rfl⟩ := gto_inj h
            exact (kz rfl rfl rfl rfl)
          · rw [if_neg hc] at h
            obtain ⟨rfl, rfl, rfl, rfl, rfl, rfl⟩ := gto_inj h
            exact (kz rfl rfl rfl rfl)
        case ge =>
          dsimp only [pbr] at h
          refine lv_icmp_ge (tgt := t) hx hb hdg ht (fun hc => ?_) (fun hc => ?_)
          · rw [if_pos hc] at h
            obtain ⟨rfl, rfl, rfl, rfl, rfl, rfl⟩ := gto_inj h
            exact (kz rfl rfl rfl rfl)
          · rw [if_neg hc] at h
            obtain ⟨rfl, rfl, rfl, rfl, rfl, rfl⟩ := gto_inj h
            exact (kz rfl rfl rfl rfl)
        case gt =>
          dsimp only [pbr] at h
          refine lv_icmp_gt (tgt := t) hx hb hdg ht (fun hc => ?_) (fun hc => ?_)
          · rw [if_pos hc] at h
            obtain ⟨rfl, rfl, rfl, rfl, rfl, rfl⟩ := gto_inj h
            exact (kz rfl rfl rfl rfl)
          · rw [if_neg hc] at h
            obtain ⟨rfl, rfl, rfl, rfl, rfl, rfl⟩ := gto_inj h
            exact (kz rfl rfl rfl rfl)
        case le =>
          dsimp only [pbr] at h
          refine lv_icmp_le (tgt := t) hx hb hdg ht (fun hc => ?_) (fun hc => ?_)
          · rw [if_pos hc] at h
            obtain ⟨rfl, rfl, rfl, rfl, rfl, rfl⟩ := gto_inj h
            exact (kz rfl rfl rfl rfl)
          · rw [if_neg hc] at h
            obtain ⟨rfl, rfl, rfl, rfl, rfl, rfl⟩ := gto_inj h
            exact (kz rfl rfl rfl rfl)
      · cases h
    · cases h
  case ifnull off =>
    dsimp only [pln] at h
    split at h
    · rename_i t
      simp only [okL, Bool.and_eq_true, beq_iff_eq, decide_eq_true_eq] at hok
      obtain ⟨rfl, ht⟩ := hok
      split at h
      · obtain ⟨rfl, rfl, rfl, rfl, rfl, rfl⟩ := gto_inj h
        exact lv_ifnullN hx hb hdg ht (kz rfl rfl rfl rfl)
      · split at h
        · rename_i ha
          obtain ⟨rfl, rfl, rfl, rfl, rfl, rfl⟩ := gto_inj h
          rw [List.map_cons, mv_in bs ext ha]
          exact lv_ifnull hx hb hdg (kz rfl rfl rfl rfl)
        · cases h
      · cases h
    · cases h
  case ifnonnull off =>
    dsimp only [pln] at h
    split at h
    · rename_i t
      simp only [okL, Bool.and_eq_true, beq_iff_eq, decide_eq_true_eq] at hok
      obtain ⟨rfl, ht⟩ := hok
      split at h
      · obtain ⟨rfl, rfl, rfl, rfl, rfl, rfl⟩ := gto_inj h
        exact lv_ifnonnullN hx hb hdg (kz rfl rfl rfl rfl)
      · split at h
        · rename_i ha
          obtain ⟨rfl, rfl, rfl, rfl, rfl, rfl⟩ := gto_inj h
          rw [List.map_cons, mv_in bs ext ha]
          exact lv_ifnonnull hx hb hdg ht (kz rfl rfl rfl rfl)
        · cases h
      · cases h
    · cases h
  case tableswitch df lo hi offs =>
    dsimp only [pln] at h
    split at h
    · simp only [okL, Bool.and_eq_true, beq_iff_eq, decide_eq_true_eq] at hok
      split at h
      · rcases swk_first h with ⟨j, q, g1, g2, g3, g4⟩ | ⟨g1, g2⟩
        · obtain ⟨rfl, rfl, rfl, rfl, rfl, rfl⟩ := gto_inj g3
          exact ok_tsw hx hb hok.1 hok.2 (Or.inl ⟨j, q, g1, g2, rfl⟩) hdg (kz rfl rfl rfl rfl)
        · obtain ⟨rfl, rfl, rfl, rfl, rfl, rfl⟩ := gto_inj g2
          exact ok_tsw hx hb hok.1 hok.2 (Or.inr ⟨g1, rfl⟩) hdg (kz rfl rfl rfl rfl)
      · cases h
    · cases h
  case lookupswitch df ps =>
    dsimp only [pln] at h
    split at h
    · simp only [okL, Bool.and_eq_true, beq_iff_eq, decide_eq_true_eq] at hok
      split at h
      · rcases swk_first h with ⟨j, q, g1, g2, g3, g4⟩ | ⟨g1, g2⟩
        · obtain ⟨rfl, rfl, rfl, rfl, rfl, rfl⟩ := gto_inj g3
          obtain ⟨off, e1, e2⟩ := ls_off hok.1.1 hok.2 (Or.inl ⟨j, q, g1, g2, rfl, g4⟩)
          exact lv_lookup hx hb hdg hok.1.2 e1 e2 (kz rfl rfl rfl rfl)
        · obtain ⟨rfl, rfl, rfl, rfl, rfl, rfl⟩ := gto_inj g2
          obtain ⟨off, e1, e2⟩ := ls_off hok.1.1 hok.2 (Or.inr ⟨g1, rfl⟩)
          exact lv_lookup hx hb hdg hok.1.2 e1 e2 (kz rfl rfl rfl rfl)
      · cases h
    · cases h
  case getfield idx =>
    dsimp only [pln] at h
    split at h
    · simp only [okL, Bool.and_eq_true, beq_iff_eq] at hok
      obtain ⟨rfl, hok⟩ := hok
      split at h
      · split at h
        · rename_i hc
          obtain ⟨rfl, rfl, rfl, rfl, rfl, rfl⟩ := gto_inj h
          exact ok_getfield hx hb hE hown hts hK hS hR hok hc hdg (kz rfl rfl rfl rfl)
        · cases h
      · cases h
    · cases h
  case putfield idx =>
    dsimp only [pln] at h
    split at h
    · simp only [okL, Bool.and_eq_true, beq_iff_eq] at hok
      obtain ⟨rfl, hok⟩ := hok
      split at h
      · split at h
        · rename_i hc
          split at h
          · rename_i w3 hv
            obtain ⟨rfl, rfl, rfl, rfl, rfl, rfl⟩ := gto_inj h
            obtain ⟨e1, e2⟩ := sval_N hv
            exact ok_putfield hx hb hE hown hts hK hS hR hin hok hc hv hdg (fun H2 locs2 hR2 hS2 => ku e1 e2 (kk rfl rfl rfl H2 locs2 hR2 hS2))
          · cases h
        · cases h
      · cases h
    · cases h
  case iaload =>
    obtain rfl : n = 1 := by simpa [okL] using hok
    dsimp only [pln] at h
    split at h
    · split at h
      · rename_i hc
        split at h
        · rename_i hi
          obtain ⟨rfl, rfl, rfl, rfl, rfl, rfl⟩ := gto_inj h
          simp only [isIA, Bool.or_eq_true, beq_iff_eq] at hc
          rcases hc with (hc | hc) | hc
          · exact ok_iaload hx hb hE hown hts hK hS hR hc hi hdg (kz rfl rfl rfl rfl)
          · exact ok_script hx hb hE hown hts hK hS hR hc hi hdg (kz rfl rfl rfl rfl)
          · exact ok_ialoadX hx hb hE hown hts hK hS hR hc hi hdg (kz rfl rfl rfl rfl)
        · cases h
      · cases h
    · cases h
  case baload =>
    obtain rfl : n = 1 := by simpa [okL] using hok
    dsimp only [pln] at h
    split at h
    · split at h
      · rename_i hc
        split at h
        · rename_i hi
          obtain ⟨rfl, rfl, rfl, rfl, rfl, rfl⟩ := gto_inj h
          simp only [isBA, Bool.or_eq_true, beq_iff_eq] at hc
          rcases hc with (hc | hc) | hc
          · exact ok_baloadB hx hb hE hown hts hK hS hR hc hi hdg (kz rfl rfl rfl rfl)
          · exact ok_baloadZ hx hb hE hown hts hK hS hR hc hi hdg (kz rfl rfl rfl rfl)
          · exact ok_baloadX hx hb hE hown hts hK hS hR hc hi hdg (kz rfl rfl rfl rfl)
        · cases h
      · cases h
    · cases h
  case laload =>
    obtain rfl : n = 1 := by simpa [okL] using hok
    dsimp only [pln] at h
    split at h
    · split at h
      · rename_i hc
        split at h
        · rename_i hi
          obtain ⟨rfl, rfl, rfl, rfl, rfl, rfl⟩ := gto_inj h
          exact ok_laload hx hb hE hown hts hK hS hR hc hi hdg (kz rfl rfl rfl rfl)
        · cases h
      · cases h
    · cases h
  case daload =>
    obtain rfl : n = 1 := by simpa [okL] using hok
    dsimp only [pln] at h
    split at h
    · split at h
      · rename_i hc
        split at h
        · rename_i hi
          obtain ⟨rfl, rfl, rfl, rfl, rfl, rfl⟩ := gto_inj h
          exact ok_daload hx hb hE hown hts hK hS hR hc hi hdg (kz rfl rfl rfl rfl)
        · cases h
      · cases h
    · cases h
  case aaload =>
    obtain rfl : n = 1 := by simpa [okL] using hok
    dsimp only [pln] at h
    split at h
    · split at h
      · rename_i hc
        split at h
        · rename_i hi
          obtain ⟨rfl, rfl, rfl, rfl, rfl, rfl⟩ := gto_inj h
          exact ok_aaload hx hb hE hown hts hK hS hR hc hi hdg (kz rfl rfl rfl rfl)
        · cases h
      · cases h
    · cases h
  case iastore =>
    obtain rfl : n = 1 := by simpa [okL] using hok
    dsimp only [pln] at h
    split at h
    · split at h
      · rename_i hc
        split at h
        · rename_i hi
          obtain ⟨rfl, rfl, rfl, rfl, rfl, rfl⟩ := gto_inj h
          exact ok_iastore hx hb hE hown hts hK hS hR hc hi hdg (fun H2 locs2 hR2 hS2 => ku rfl rfl (kk rfl rfl rfl H2 locs2 hR2 hS2))
        · cases h
      · cases h
    · cases h
  case lastore =>
    obtain rfl : n = 1 := by simpa [okL] using hok
    dsimp only [pln] at h
    split at h
    · split at h
      · rename_i hc
        split at h
        · rename_i hi
          obtain ⟨rfl, rfl, rfl, rfl, rfl, rfl⟩ := gto_inj h
          exact ok_lastore hx hb hE hown hts hK hS hR hc hi hdg (fun H2 locs2 hR2 hS2 => ku rfl rfl (kk rfl rfl rfl H2 locs2 hR2 hS2))
        · cases h
      · cases h
    · cases h
  case dastore =>
    obtain rfl : n = 1 := by simpa [okL] using hok
    dsimp only [pln] at h
    split at h
    · split at h
      · rename_i hc
        split at h
        · rename_i hi
          obtain ⟨rfl, rfl, rfl, rfl, rfl, rfl⟩ := gto_inj h
          exact ok_dastore hx hb hE hown hts hK hS hR hc hi hdg (fun H2 locs2 hR2 hS2 => ku rfl rfl (kk rfl rfl rfl H2 locs2 hR2 hS2))
        · cases h
      · cases h
    · cases h
  case bastore =>
    obtain rfl : n = 1 := by simpa [okL] using hok
    dsimp only [pln] at h
    split at h
    · split at h
      · rename_i hc
        split at h
        · rename_i hi
          obtain ⟨rfl, rfl, rfl, rfl, rfl, rfl⟩ := gto_inj h
          exact ok_bastoreB hx hb hE hown hts hK hS hR hc hi hdg (fun H2 locs2 hR2 hS2 => ku rfl rfl (kk rfl rfl rfl H2 locs2 hR2 hS2))
        · cases h
      · split at h
        · rename_i hc
          split at h
          · rename_i hi
            obtain ⟨rfl, rfl, rfl, rfl, rfl, rfl⟩ := gto_inj h
            exact ok_bastoreZ hx hb hE hown hts hK hS hR hc hi hdg (fun H2 locs2 hR2 hS2 => ku rfl rfl (kk rfl rfl rfl H2 locs2 hR2 hS2))
          · cases h
        · cases h
    · cases h
  case aastore =>
    obtain rfl : n = 1 := by simpa [okL] using hok
    dsimp only [pln] at h
    split at h
    · split at h
      · rename_i hc
        split at h
        · rename_i hv
          split at h
          · rename_i hi
            obtain ⟨rfl, rfl, rfl, rfl, rfl, rfl⟩ := gto_inj h
            exact ok_aastoreM hx hb hE hown hts hK hS hR hc hv hi hdg (fun H2 locs2 hR2 hS2 => ku rfl rfl (kk rfl rfl rfl H2 locs2 hR2 hS2))
          · cases h
        · cases h
      · split at h
        · rename_i hc
          split at h
          · rename_i hv
            split at h
            · rename_i hi
              obtain ⟨rfl, rfl, rfl, rfl, rfl, rfl⟩ := gto_inj h
              exact ok_aastoreR hx hb hE hown hts hK hS hR hc hv hi hdg (fun H2 locs2 hR2 hS2 => ku rfl rfl (kk rfl rfl rfl H2 locs2 hR2 hS2))
            · cases h
          · cases h
        · cases h
    · cases h
  case arraylength =>
    obtain rfl : n = 1 := by simpa [okL] using hok
    dsimp only [pln] at h
    split at h
    · split at h
      · rename_i hc
        obtain ⟨rfl, rfl, rfl, rfl, rfl, rfl⟩ := gto_inj h
        rename_i a9 r9
        by_cases h30 : (wK w2 a9).1 = 30
        · exact ok_scrlen hx hb hE hown hts hK hS hR h30 hdg (kz rfl rfl rfl rfl)
        · exact ok_alen hx hb hE hown hts hK hS hR hc h30 hdg (kz rfl rfl rfl rfl)
      · cases h
    · cases h
  case new idx =>
    dsimp only [pln] at h
    split at h
    · rename_i ci nf
      simp only [okL, Bool.and_eq_true, beq_iff_eq] at hok
      obtain ⟨rfl, hok⟩ := hok
      split at hok
      · rename_i q hq
        simp only [Bool.and_eq_true, decide_eq_true_eq] at hok
        obtain ⟨⟨⟨g1, g2⟩, g3⟩, g4⟩ := hok
        obtain ⟨rfl, rfl, rfl, rfl, rfl, rfl⟩ := gto_inj h
        have hc1 : cells + 1 ≤ R.cells := by have := hrc; rw [show wN (nw w _ _) = wN w + 1 from rfl, Nat.add_sub_cancel_left] at this; exact this
        refine ok_new (j := 0) (k3 := 0) (k4 := 0) hx hb hE hown hts hK hS hR hz hbs hq g1 (tbw_mem g2) (tbw_mem g3) (tbw_mem g4) hc1 (by have := hrs; rw [show wS (nw w _ _) = wS w + _ from rfl, Nat.add_sub_cancel_left] at this; exact this) hdg (fun H2 locs2 hR2 hS2 => ?_)
        have k3 := kk rfl rfl rfl H2 locs2 hR2 hS2
        rw [show wN (nw w _ _) = wN w + 1 from rfl, show wS (nw w _ _) = wS w + _ from rfl, Nat.add_sub_cancel_left, Nat.add_sub_cancel_left, List.map_cons, mv_in bs ext hR.2.2.2.2.1] at k3
        exact k3
      · cases hok
    · cases h
  case newarray at1 =>
    dsimp only [pln] at h
    split at h
    · simp only [okL, Bool.and_eq_true, beq_iff_eq, decide_eq_true_eq] at hok
      obtain ⟨rfl, g1, g2⟩ := hok
      split at h
      · split at h
        · cases h
        · rename_i hk
          split at h
          · rename_i hk2
            obtain ⟨rfl, rfl, rfl, rfl, rfl, rfl⟩ := gto_inj h
            have hc1 : cells + 1 ≤ R.cells := by have := hrc; rw [show wN (nw w _ _) = wN w + 1 from rfl, Nat.add_sub_cancel_left] at this; exact this
            refine ok_newarray hx hb hE hown hts hK hS hR hz hbs g1 hk hk2 (tbw_mem g2) hc1 (by have := hrs; rw [show wS (nw w _ _) = wS w + _ from rfl, Nat.add_sub_cancel_left] at this; exact this) hdg (fun H2 locs2 hR2 hS2 => ?_)
            have k3 := kk rfl rfl rfl H2 locs2 hR2 hS2
            rw [show wN (nw w _ _) = wN w + 1 from rfl, show wS (nw w _ _) = wS w + _ from rfl, Nat.add_sub_cancel_left, Nat.add_sub_cancel_left, List.map_cons, mv_in bs ext hR.2.2.2.2.1] at k3
            exact k3
          · cases h
      · cases h
    · cases h
  case anewarray idx =>
    dsimp only [pln] at h
    split at h
    · simp only [okL, Bool.and_eq_true, beq_iff_eq] at hok
      obtain ⟨rfl, hok⟩ := hok
      split at h
      · split at h
        · cases h
        · rename_i hk
          split at h
          · rename_i hk2
            obtain ⟨rfl, rfl, rfl, rfl, rfl, rfl⟩ := gto_inj h
            split at hok
            · rename_i e9
              cases e9
              simp only [Bool.and_eq_true, decide_eq_true_eq] at hok
              obtain ⟨g1, g2⟩ := hok
              have hc1 : cells + 1 ≤ R.cells := by have := hrc; rw [show wN (nw w _ _) = wN w + 1 from rfl, Nat.add_sub_cancel_left] at this; exact this
              refine ok_anew (t0 := 5) hx hb hE hown hts hK hS hR hz hbs (by omega) (by omega) rfl hk hk2 (tbw_mem g1) (tbw_mem g2) hc1 (by have := hrs; rw [show wS (nw w _ _) = wS w + _ from rfl, Nat.add_sub_cancel_left] at this; exact this) hdg (fun H2 locs2 hR2 hS2 => ?_)
              have k3 := kk rfl rfl rfl H2 locs2 hR2 hS2
              rw [show wN (nw w _ _) = wN w + 1 from rfl, show wS (nw w _ _) = wS w + _ from rfl, Nat.add_sub_cancel_left, Nat.add_sub_cancel_left, List.map_cons, mv_in bs ext hR.2.2.2.2.1] at k3
              exact k3
            · rename_i e9
              cases e9
              simp only [Bool.and_eq_true, decide_eq_true_eq] at hok
              obtain ⟨g1, g2⟩ := hok
              have hc1 : cells + 1 ≤ R.cells := by have := hrc; rw [show wN (nw w _ _) = wN w + 1 from rfl, Nat.add_sub_cancel_left] at this; exact this
              refine ok_anew (t0 := 6) hx hb hE hown hts hK hS hR hz hbs (by omega) (by omega) rfl hk hk2 (tbw_mem g1) (tbw_mem g2) hc1 (by have := hrs; rw [show wS (nw w _ _) = wS w + _ from rfl, Nat.add_sub_cancel_left] at this; exact this) hdg (fun H2 locs2 hR2 hS2 => ?_)
              have k3 := kk rfl rfl rfl H2 locs2 hR2 hS2
              rw [show wN (nw w _ _) = wN w + 1 from rfl, show wS (nw w _ _) = wS w + _ from rfl, Nat.add_sub_cancel_left, Nat.add_sub_cancel_left, List.map_cons, mv_in bs ext hR.2.2.2.2.1] at k3
              exact k3
            · cases hok
          · cases h
      · cases h
    · cases h
  case multianewarray idx dd =>
    simp only [okL, Bool.and_eq_true, beq_iff_eq, decide_eq_true_eq] at hok
    obtain ⟨⟨⟨⟨rfl, rfl⟩, g1⟩, g2⟩, g3⟩ := hok
    dsimp only [pln] at h
    split at h
    · split at h
      · cases h
      · rename_i hk
        split at h
        · cases h
        · rename_i hn
          split at h
          · rename_i hk2
            split at h
            · rename_i hn2
              obtain ⟨rfl, rfl, rfl, rfl, rfl, rfl⟩ := gto_inj h
              have e1 : ∀ n9 k9, wN (nwm w n9 k9) - wN w = 1 + n9 := fun n9 k9 => by show wN w + 1 + n9 - wN w = _; omega
              have e2 : ∀ n9 k9, wS (nwm w n9 k9) - wS w = n9 + n9 * k9 := fun n9 k9 => by show wS w + n9 + n9 * k9 - wS w = _; omega
              rw [e1] at hrc
              rw [e2] at hrs
              refine ok_mna hx hb hE hown hts hK hS hR hz hbs hn hk hn2 hk2 (tbw_mem g1) (tbw_mem g2) (tbw_mem g3) hrc hrs hdg (fun H2 locs2 hR2 hS2 => ?_)
              have k3 := kk rfl rfl rfl H2 locs2 hR2 hS2
              rw [e1, e2, List.map_cons, mv_in bs ext hR.2.2.2.2.1, ← Nat.add_assoc, ← Nat.add_assoc] at k3
              exact k3
            · cases h
          · cases h
    · cases h
  case invokestatic idx =>
    obtain rfl : n = 3 := by simpa [okL] using hok
    dsimp only [pln] at h
    split at h
    · rename_i cN
      simp only [okNs, Bool.and_eq_true, decide_eq_true_eq] at hokN
      obtain ⟨hc1, hokN⟩ := hokN
      unfold pnat at h
      split at h
      · omega
      · simp only [okN, Bool.and_eq_true, decide_eq_true_eq] at hokN
        obtain ⟨⟨⟨g1, g2⟩, g3⟩, g4⟩ := hokN
        split at h
        · split at h
          · rename_i hsg
            split at h
            · rename_i hcs
              cases d with
              | zero => cases h
              | succ d =>
                have hfr1 : 1 ≤ R.frames := by omega
                have hlo1 : 64 ≤ R.locals := by omega
                obtain ⟨rfl, rfl, rfl, rfl, rfl, rfl⟩ := gto_inj h
                exact ok_nl2d hx hb hE hown hts hK hS hR hml hcs hsg hfr1 hlo1 (tbw_mem g1) (tbw_mem g2) (tbw_mem g3) (tbw_mem g4) hdg (kz rfl rfl rfl rfl)
            · cases h
          · cases h
        · cases h
      · simp only [okN, Bool.and_eq_true, decide_eq_true_eq] at hokN
        obtain ⟨⟨⟨g1, g2⟩, g3⟩, g4⟩ := hokN
        split at h
        · split at h
          · rename_i hcs
            cases d with
            | zero => cases h
            | succ d =>
              have hfr1 : 1 ≤ R.frames := by omega
              have hlo1 : 64 ≤ R.locals := by omega
              obtain ⟨rfl, rfl, rfl, rfl, rfl, rfl⟩ := gto_inj h
              exact ok_nd2l hx hb hE hown hts hK hS hR hml hcs hfr1 hlo1 (tbw_mem g1) (tbw_mem g2) (tbw_mem g3) (tbw_mem g4) hdg (kz rfl rfl rfl rfl)
          · cases h
        · cases h
      · simp only [okN, Bool.and_eq_true, decide_eq_true_eq] at hokN
        obtain ⟨⟨⟨g1, g2⟩, g3⟩, g4⟩ := hokN
        split at h
        · split at h
          · rename_i k1
            split at h
            · rename_i k2
              split at h
              · cases h
              rename_i k3
              split at h
              · cases h
              rename_i k4
              split at h
              · cases h
              rename_i k5
              split at h
              · rename_i k6
                split at h
                · rename_i k7
                  split at h
                  · rename_i hcs
                    cases d with
                    | zero => cases h
                    | succ d =>
                      have hfr1 : 1 ≤ R.frames := by omega
                      have hlo1 : 64 ≤ R.locals := by omega
                      obtain ⟨rfl, rfl, rfl, rfl, rfl, rfl⟩ := gto_inj h
                      exact ok_copy hx hb hE hown hts hK hS hR hml k1 k2 k3 k4 k5 k6 k7 hcs hfr1 hlo1 (tbw_mem g1) (tbw_mem g2) (tbw_mem g3) (tbw_mem g4) hdg (fun H2 locs2 hR2 hS2 => ku rfl rfl (kk rfl rfl rfl H2 locs2 hR2 hS2))
                  · cases h
                · cases h
              · cases h
            · cases h
          · cases h
        · cases h
      · simp only [okN, Bool.and_eq_true, decide_eq_true_eq] at hokN
        obtain ⟨⟨⟨g1, g2⟩, g3⟩, g4⟩ := hokN
        split at h
        · split at h
          · rename_i hcs
            cases d with
            | zero => cases h
            | succ d =>
              have hfr1 : 1 ≤ R.frames := by omega
              have hlo1 : 64 ≤ R.locals := by omega
              obtain ⟨rfl, rfl, rfl, rfl, rfl, rfl⟩ := gto_inj h
              exact va_mmax hx hb hml hown (hts _ (tbw_mem g1)) (hts _ (tbw_mem g3)) (hts _ (tbw_mem g4)) (hts _ (tbw_mem g2)) hfr1 (by rw [cat_map hE]; omega) (by omega) (by omega) hdg (kz rfl rfl rfl rfl)
          · cases h
        · cases h
      · simp only [okN, Bool.and_eq_true, decide_eq_true_eq] at hokN
        obtain ⟨⟨⟨g1, g2⟩, g3⟩, g4⟩ := hokN
        split at h
        · split at h
          · rename_i hcs
            cases d with
            | zero => cases h
            | succ d =>
              have hfr1 : 1 ≤ R.frames := by omega
              have hlo1 : 64 ≤ R.locals := by omega
              obtain ⟨rfl, rfl, rfl, rfl, rfl, rfl⟩ := gto_inj h
              exact va_mmin hx hb hml hown (hts _ (tbw_mem g1)) (hts _ (tbw_mem g3)) (hts _ (tbw_mem g4)) (hts _ (tbw_mem g2)) hfr1 (by rw [cat_map hE]; omega) (by omega) (by omega) hdg (kz rfl rfl rfl rfl)
          · cases h
        · cases h
      · simp only [okN, Bool.and_eq_true, decide_eq_true_eq] at hokN
        obtain ⟨⟨⟨g1, g2⟩, g3⟩, g4⟩ := hokN
        split at h
        · split at h
          · rename_i hcs
            cases d with
            | zero => cases h
            | succ d =>
              have hfr1 : 1 ≤ R.frames := by omega
              have hlo1 : 64 ≤ R.locals := by omega
              obtain ⟨rfl, rfl, rfl, rfl, rfl, rfl⟩ := gto_inj h
              exact va_mabs hx hb hml hown (hts _ (tbw_mem g1)) (hts _ (tbw_mem g3)) (hts _ (tbw_mem g4)) (hts _ (tbw_mem g2)) hfr1 (by rw [cat_map hE]; omega) (by omega) (by omega) hdg (kz rfl rfl rfl rfl)
          · cases h
        · cases h
      · simp only [okN, Bool.and_eq_true, decide_eq_true_eq] at hokN
        obtain ⟨⟨⟨g1, g2⟩, g3⟩, g4⟩ := hokN
        split at h
        · split at h
          · rename_i hcs
            cases d with
            | zero => cases h
            | succ d =>
              have hfr1 : 1 ≤ R.frames := by omega
              have hlo1 : 64 ≤ R.locals := by omega
              obtain ⟨rfl, rfl, rfl, rfl, rfl, rfl⟩ := gto_inj h
              exact va_mmax_long hx hb hml hown (hts _ (tbw_mem g1)) (hts _ (tbw_mem g3)) (hts _ (tbw_mem g4)) (hts _ (tbw_mem g2)) hfr1 (by rw [cat_map hE]; omega) (by omega) (by omega) hdg (kz rfl rfl rfl rfl)
          · cases h
        · cases h
      · simp only [okN, Bool.and_eq_true, decide_eq_true_eq] at hokN
        obtain ⟨⟨⟨g1, g2⟩, g3⟩, g4⟩ := hokN
        split at h
        · split at h
          · rename_i hcs
            cases d with
            | zero => cases h
            | succ d =>
              have hfr1 : 1 ≤ R.frames := by omega
              have hlo1 : 64 ≤ R.locals := by omega
              obtain ⟨rfl, rfl, rfl, rfl, rfl, rfl⟩ := gto_inj h
              exact va_mabs_long hx hb hml hown (hts _ (tbw_mem g1)) (hts _ (tbw_mem g3)) (hts _ (tbw_mem g4)) (hts _ (tbw_mem g2)) hfr1 (by rw [cat_map hE]; omega) (by omega) (by omega) hdg (kz rfl rfl rfl rfl)
          · cases h
        · cases h
      · cases h
    · exact (pcall_ng h).elim
    · cases h
  case invokespecial idx =>
    obtain rfl : n = 3 := by simpa [okL] using hok
    dsimp only [pln] at h
    split at h
    · rename_i cN
      simp only [okNs, Bool.and_eq_true, decide_eq_true_eq] at hokN
      obtain ⟨hc1, hokN⟩ := hokN
      subst hc1
      simp only [okN, Bool.and_eq_true, decide_eq_true_eq] at hokN
      obtain ⟨⟨g1, g2⟩, g3⟩ := hokN
      obtain ⟨a, r, d1, rfl, ha, hcs, rfl, h⟩ := pnat0 h
      obtain ⟨rfl, rfl, rfl, rfl, rfl, rfl⟩ := gto_inj h
      exact ok_objinit hx hb hE hown hts hK hS hR hml.symm ha hcs (by omega) (by omega) (tbw_mem g1) (tbw_mem g2) (tbw_mem g3) hdg (kz rfl rfl rfl rfl)
    · exact (pcall_ng h).elim
    · cases h
  case invokevirtual idx =>
    dsimp only [pln] at h
    split at h
    · exact (pcall_ng h).elim
    · cases h
  case ireturn =>
    dsimp only [pln] at h
    split at h
    · split at h
      · split at h <;> cases h
      · cases h
    · cases h
  case lreturn =>
    dsimp only [pln] at h
    split at h <;> cases h
  case dreturn =>
    dsimp only [pln] at h
    split at h <;> cases h
  case areturn =>
    dsimp only [pln] at h
    split at h <;> cases h
  case return_ =>
    dsimp only [pln] at h
    split at h <;> cases h
  all_goals (cases h)
end ALL
