def stf (ci k kd : Nat) : Option (String × String) := if ci = 32 then (if k = 0 then (if kd = 3 then some ("value", "[B") else none) else if k = 1 then (if kd = 0 then some ("coder", "B") else none) else none) else none
def okG (own : String) (idx ci k kd j : Nat) : Bool := match vwCl[ci]? with
  | some q => decide (k < q.2.2) && kd == fkd ci k && decide (tbw j = some (.fieldLink own idx (q.2.1 k).1 (q.2.1 k).2.1 (q.2.1 k).2.2.1))
  | none => match stf ci k kd with
    | some f => decide (tbw j = some (.fieldLink own idx "java/lang/String" f.1 f.2))
    | none => false
def okPut (own : String) (init : Bool) (idx ci k kd j : Nat) : Bool := match vwCl[ci]? with
  | some q => decide (k < q.2.2) && kd == fkd ci k && decide (tbw j = some (.fieldLink own idx (q.2.1 k).1 (q.2.1 k).2.1 (q.2.1 k).2.2.1)) && (!(q.2.1 k).2.2.2 || (init && decide ((q.2.1 k).1 = own))) && (decide (¬ kd = 0) || decide (vwTy ci k = .int))
  | none => false
def okTS (pc : Nat) (lo hi : Int) (offs : Array Int) (sw : List (Int32 × Nat)) : Bool := decide (0 ≤ lo) && decide (lo ≤ hi) && decide (hi < 1000) && decide (sw.length = (hi - lo + 1).toNat) && (List.range (hi - lo + 1).toNat).all (fun j => match sw[j]? with
  | some q => (match offs[j]? with
    | some o => decide (q.1 = Int32.ofNat (lo.toNat + j)) && decide ((pc : Int) + o = (q.2 : Int))
    | none => false)
  | none => false)
def okLS (pc : Nat) : List (Int × Int) → List (Int32 × Nat) → Bool
  | [], [] => true
  | a :: r, b :: t => decide (b.1.toInt = a.1) && decide ((pc : Int) + a.2 = (b.2 : Int)) && okLS pc r t
  | _, _ => false
def okAt (a : ArrayType) (t : Nat) : Bool := match a with
  | .int => t == 20
  | .byte => t == 21
  | .boolean => t == 22
  | .long => t == 23
  | .double => t == 24
  | _ => false
def okL (own : String) (init : Bool) (pc : Nat) (i : Instr) (n : Nat) (ax : List Nat) (sw : List (Int32 × Nat)) : Bool := match i with
  | .goto off | .ifCond _ off | .if_icmp _ off | .ifnull off | .ifnonnull off => n == 3 && (match ax with
    | [t] => decide ((pc : Int) + off = (t : Int))
    | _ => false)
  | .tableswitch df lo hi offs => match ax with
    | [t] => decide ((pc : Int) + df = (t : Int)) && okTS pc lo hi offs sw
    | _ => false
  | .lookupswitch df ps => match ax with
    | [t] => decide ((pc : Int) + df = (t : Int)) && (ps.toList.zip (ps.toList.drop 1)).all (fun (a, next) => a.1 < next.1) && okLS pc ps.toList sw
    | _ => false
  | .getfield idx => n == 3 && (match ax with
    | [ci, k, kd] => okG own idx ci k kd (j0 sw)
    | _ => false)
  | .putfield idx => n == 3 && (match ax with
    | [ci, k, kd] => okPut own init idx ci k kd (j0 sw)
    | _ => false)
  | .new idx => n == 3 && (match ax with
    | [ci, nf] => (match vwCl[ci]? with
      | some q => decide (nf = q.2.2) && decide (tbw (j0 sw) = some (.classLink own idx q.1)) && decide (tbw (j1 sw) = some (.instantiable q.1 q.2.2)) && decide (tbw (j2 sw) = some (.initialized q.1))
      | none => false)
    | _ => false)
  | .newarray a => n == 2 && (match ax with
    | [t] => okAt a t && decide (tbw (j0 sw) = some (.arrayClass (newarray.typeOf a)))
    | _ => false)
  | .anewarray idx => n == 3 && (match ax with
    | [25] => decide (tbw (j0 sw) = some (.classLink own idx "BelfryHouse$Method")) && decide (tbw (j1 sw) = some (.arrayOver (.object "BelfryHouse$Method")))
    | [26] => decide (tbw (j0 sw) = some (.classLink own idx "BelfryHouse$Rule")) && decide (tbw (j1 sw) = some (.arrayOver (.object "BelfryHouse$Rule")))
    | _ => false)
  | .invokestatic _ | .invokespecial _ | .invokevirtual _ => n == 3
  | .multianewarray idx d => n == 4 && d == 2 && decide (tbw (j0 sw) = some (.classLink own idx "[[J")) && decide (tbw (j1 sw) = some (.arrayOver (.array .long))) && decide (tbw (j2 sw) = some (.arrayClass .long))
  | _ => n == 1
section PLN
variable {p : Program} {l : Launch} {e : Env} {R : Room} {s : State} {m : MethodId} {args : Array Value} {below : List Frame} {meth : Method} {c : Code} {H : Heap} {locs : List Loc} {cells slots : Nat} {Q : State → Prop}
variable {cc : ByteArray} {pc : Nat} {ls : Array Slot} {ext : Nat → Value} {bs nL : Nat} {W0 w : Wd} {rest : List Value} {D : va_G} {aC : Nat → ClassId} {own : String}
theorem mv_in (bs : Nat) (ext : Nat → Value) {a : Nat} (h : 64 ≤ a) : mv ext bs (.ref a) = .ref (bs + (a - 64)) := by
  show (if a < 64 then ext a else .ref (bs + (a - 64))) = _
  rw [if_neg (by omega)]
theorem mv_rf (ext : Nat → Value) (bs : Nat) {r : Option Nat} (h : ∀ b, r = some b → 64 ≤ b) : mv ext bs (va_rf r) = va_rf (rmp bs r) := by
  cases r with
  | none => rfl
  | some b => exact mv_in bs ext (h b rfl)
theorem map_rg {n k : Nat} {g : Nat → Value} (hk : k < n) : ((List.range n).map g)[k]? = some (g k) := by
  rw [List.getElem?_map, List.getElem?_range hk]
  rfl
theorem inB_in {i : Int32} {n : Nat} (h : inB i n = true) : vp_in i n := by
  unfold inB at h
  simp only [Bool.and_eq_true, Bool.not_eq_true', decide_eq_false_iff_not, decide_eq_true_eq] at h
  rintro (q | q)
  · exact h.1 q
  · omega
theorem HR_in {H : Heap} (hR : HR ext bs aC D W0 w H) {a t n : Nat} (hk : wK w a = (t, n)) (ht : t < 30) : 64 ≤ a ∧ a < wN w := hR.1 a (by rw [hk]; exact ht)
theorem HR_P {H : Heap} (hR : HR ext bs aC D W0 w H) : va_P D vwCl (wls ext bs aC w) H := hR.2.2.2.2.2
theorem HR_obj {H : Heap} (hR : HR ext bs aC D W0 w H) {a ci : Nat} (hk : (wK w a).1 = ci) (hc : ci < 11) : 64 ≤ a ∧ (wls ext bs aC w)[a - 64]? = some (bs + (a - 64), .inr (ci, (List.range (nfld ci)).map (fun k => mv ext bs (fval w a k (fkd ci k))))) := by
  have h1 := hR.1 a (by omega)
  refine ⟨h1.1, ?_⟩
  rw [wls_get h1.1 h1.2]
  unfold cev
  rw [if_pos (by omega), (hR.2.1 a).1 (by omega), hk]
theorem HR_arr {H : Heap} (hR : HR ext bs aC D W0 w H) {a : Nat} (h1 : 20 ≤ (wK w a).1) (h2 : (wK w a).1 < 30) : 64 ≤ a ∧ (wls ext bs aC w)[a - 64]? = some (bs + (a - 64), cev ext bs aC w a) := by
  have h3 := hR.1 a h2
  exact ⟨h3.1, wls_get h3.1 h3.2⟩
theorem cev_I {a t : Nat} (h : (wK w a).1 = t) (h1 : 20 ≤ t) (h2 : t < 23) : cev ext bs aC w a = .inl (aC t, (wK w a).2, .inl (gI w a)) := by
  unfold cev
  rw [if_neg (by omega), if_pos (by omega), h]
theorem cev_L {a : Nat} (h : (wK w a).1 = 23) : cev ext bs aC w a = .inl (aC 23, (wK w a).2, .inr (.inl (gL w a))) := by
  unfold cev
  rw [if_neg (by omega), if_neg (by omega), if_pos h, h]
theorem cev_D {a : Nat} (h : (wK w a).1 = 24) : cev ext bs aC w a = .inl (aC 24, (wK w a).2, .inr (.inr (.inr (.inl (gD w a))))) := by
  unfold cev
  rw [if_neg (by omega), if_neg (by omega), if_neg (by omega), if_pos h, h]
theorem cev_R {a t : Nat} (h : (wK w a).1 = t) (h1 : 25 ≤ t) : cev ext bs aC w a = .inl (aC t, (wK w a).2, .inr (.inr (.inr (.inr (fun j => rmp bs (gR w a j)))))) := by
  unfold cev
  rw [if_neg (by omega), if_neg (by omega), if_neg (by omega), if_neg (by omega), h]
theorem nf_of {ci : Nat} {q : vw_C} (h : vwCl[ci]? = some q) : nfld ci = q.2.2 := by
  unfold nfld
  rw [h]
theorem rd_ge {H : Heap} (hR : HR ext bs aC D W0 w H) {a j b : Nat} (ha : 64 ≤ a) (h : gR w a j = some b) : 64 ≤ b := hR.2.2.2.1 a j b ha h

theorem HR_ext {H : Heap} (hR : HR ext bs aC D W0 w H) {a t : Nat} (h : (wK w a).1 = t) (h1 : 30 ≤ t) (h2 : t < 99) : a < 64 := by
  rcases Nat.lt_or_ge a 64 with q | q
  · exact q
  · have h3 := (hR.2.1 a).2 q
    omega
theorem mv_ext (bs : Nat) (ext : Nat → Value) {a : Nat} (h : a < 64) : mv ext bs (.ref a) = ext a := by
  show (if a < 64 then ext a else .ref (bs + (a - 64))) = _
  rw [if_pos h]
theorem ok_getfield (hx : p.tables.exec = Jvm.exec) (hb : c.code = cc) (hE : EXs ext bs W0 s) (hown : s.vm.findClass own = some m.cls) (hts : ∀ w ∈ lwT, w.before args s = true) (hK : va_K D vwCl (tyL aC) s) (hS : va_S (fun q => bs ≤ q) s.heap H locs) (hR : HR ext bs aC D W0 w H) {idx a ci k kd j : Nat} (hok : okG own idx ci k kd j = true) (hc : (wK w a).1 = ci) (hdg : decode cc pc = .ok (.getfield idx, 3))
    (kk : W p l e R s m args below meth c H locs (cells) (slots) Q (F0 m (pc + 3) ls (mv ext bs (fval w a k kd) :: rest))) : W p l e R s m args below meth c H locs (cells) (slots) Q (F0 m pc ls (mv ext bs (.ref a) :: rest)) := by
  unfold okG at hok
  split at hok
  · rename_i q hq
    simp only [Bool.and_eq_true, decide_eq_true_eq, beq_iff_eq] at hok
    obtain ⟨⟨h1, h2⟩, h3⟩ := hok
    obtain ⟨ha, hg⟩ := HR_obj hR hc (cls_lt hq)
    rw [mv_in bs ext ha]
    exact va_get (v := mv ext bs (fval w a k kd)) (C := q.1) (T := q.2.1) (N := q.2.2) hx hb hts (cls_ok ci q hq).1 hown hK (HR_P hR) (a - 64) hg hq k h1 (hts _ (tbw_mem h3)) (fun _ h => h) (by rw [nf_of hq, map_rg h1, h2]) hdg kk
  · split at hok
    · rename_i f hf
      have hok := of_decide_eq_true hok
      unfold stf at hf
      split at hf
      · rename_i h32
        have ha := HR_ext hR (hc.trans h32) (by omega) (by omega)
        have hx3 := hR.2.2.1 a ha
        have h5 := hc.trans h32
        rw [hx3.1] at h5
        obtain ⟨t, e1, e2, e3, e4⟩ := hE.2.2.2.2.2.1 a ha h5
        rw [mv_ext bs ext ha, e1]
        split at hf
        · split at hf
          · rename_i hk0 hkd
            subst hk0; subst hkd; cases hf
            rw [← hx3.2.2] at e4
            exact vk_getf hx hb e4 hS hown (hts _ (tbw_mem hok)) (fun _ h => h) hdg kk
          · cases hf
        · split at hf
          · split at hf
            · rename_i hk0 hk1 hkd
              subst hk1; subst hkd; cases hf
              rw [← hx3.2.1] at e3
              exact vk_getf hx hb e3 hS hown (hts _ (tbw_mem hok)) (fun _ h => h) hdg kk
            · cases hf
          · cases hf
      · cases hf
    · cases hok
theorem ok_iaload (hx : p.tables.exec = Jvm.exec) (hb : c.code = cc) (hE : EXs ext bs W0 s) (hown : s.vm.findClass own = some m.cls) (hts : ∀ w ∈ lwT, w.before args s = true) (hK : va_K D vwCl (tyL aC) s) (hS : va_S (fun q => bs ≤ q) s.heap H locs) (hR : HR ext bs aC D W0 w H) {a : Nat} {i : Int32} (hc : (wK w a).1 = 20) (hi : inB i (wK w a).2 = true) (hdg : decode cc pc = .ok (.iaload, 1))
    (kk : W p l e R s m args below meth c H locs (cells) (slots) Q (F0 m (pc + 1) ls (.int (gI w a i.toNatClampNeg) :: rest))) : W p l e R s m args below meth c H locs (cells) (slots) Q (F0 m pc ls (.int i :: mv ext bs (.ref a) :: rest)) := by
  obtain ⟨ha, hg⟩ := HR_arr hR (by omega : 20 ≤ (wK w a).1) (by omega)
  rw [mv_in bs ext ha]
  rw [cev_I hc (by omega) (by omega)] at hg
  exact va_iald hx hb hK (HR_P hR) (a - 64) 0 hg rfl (inB_in hi) hdg kk
theorem ok_ialoadX (hx : p.tables.exec = Jvm.exec) (hb : c.code = cc) (hE : EXs ext bs W0 s) (hown : s.vm.findClass own = some m.cls) (hts : ∀ w ∈ lwT, w.before args s = true) (hK : va_K D vwCl (tyL aC) s) (hS : va_S (fun q => bs ≤ q) s.heap H locs) (hR : HR ext bs aC D W0 w H) {a : Nat} {i : Int32} (hc : (wK w a).1 = 31) (hi : inB i (wK w a).2 = true) (hdg : decode cc pc = .ok (.iaload, 1))
    (kk : W p l e R s m args below meth c H locs (cells) (slots) Q (F0 m (pc + 1) ls (.int (gI w a i.toNatClampNeg) :: rest))) : W p l e R s m args below meth c H locs (cells) (slots) Q (F0 m pc ls (.int i :: mv ext bs (.ref a) :: rest)) := by
  have ha := HR_ext hR hc (by omega) (by omega)
  have h3 := hR.2.2.1 a ha
  have h5 := hc
  rw [h3.1] at h5
  obtain ⟨t, e1, e2⟩ := hE.2.2.2.1 a ha h5
  rw [mv_ext bs ext ha, e1]
  exact va_ti hx hb e2 hS (by rw [← h3.1]; exact inB_in hi) (by rw [h3.2.1]) hdg kk
theorem ok_baloadB (hx : p.tables.exec = Jvm.exec) (hb : c.code = cc) (hE : EXs ext bs W0 s) (hown : s.vm.findClass own = some m.cls) (hts : ∀ w ∈ lwT, w.before args s = true) (hK : va_K D vwCl (tyL aC) s) (hS : va_S (fun q => bs ≤ q) s.heap H locs) (hR : HR ext bs aC D W0 w H) {a : Nat} {i : Int32} (hc : (wK w a).1 = 21) (hi : inB i (wK w a).2 = true) (hdg : decode cc pc = .ok (.baload, 1))
    (kk : W p l e R s m args below meth c H locs (cells) (slots) Q (F0 m (pc + 1) ls (.int (gI w a i.toNatClampNeg) :: rest))) : W p l e R s m args below meth c H locs (cells) (slots) Q (F0 m pc ls (.int i :: mv ext bs (.ref a) :: rest)) := by
  obtain ⟨ha, hg⟩ := HR_arr hR (by omega : 20 ≤ (wK w a).1) (by omega)
  rw [mv_in bs ext ha]
  rw [cev_I hc (by omega) (by omega)] at hg
  exact va_bald hx hb hK (HR_P hR) (a - 64) 1 hg rfl (inB_in hi) hdg kk
theorem ok_baloadZ (hx : p.tables.exec = Jvm.exec) (hb : c.code = cc) (hE : EXs ext bs W0 s) (hown : s.vm.findClass own = some m.cls) (hts : ∀ w ∈ lwT, w.before args s = true) (hK : va_K D vwCl (tyL aC) s) (hS : va_S (fun q => bs ≤ q) s.heap H locs) (hR : HR ext bs aC D W0 w H) {a : Nat} {i : Int32} (hc : (wK w a).1 = 22) (hi : inB i (wK w a).2 = true) (hdg : decode cc pc = .ok (.baload, 1))
    (kk : W p l e R s m args below meth c H locs (cells) (slots) Q (F0 m (pc + 1) ls (.int (gI w a i.toNatClampNeg) :: rest))) : W p l e R s m args below meth c H locs (cells) (slots) Q (F0 m pc ls (.int i :: mv ext bs (.ref a) :: rest)) := by
  obtain ⟨ha, hg⟩ := HR_arr hR (by omega : 20 ≤ (wK w a).1) (by omega)
  rw [mv_in bs ext ha]
  rw [cev_I hc (by omega) (by omega)] at hg
  exact va_zald hx hb hK (HR_P hR) (a - 64) 2 hg rfl (inB_in hi) hdg kk
theorem ok_baloadX (hx : p.tables.exec = Jvm.exec) (hb : c.code = cc) (hE : EXs ext bs W0 s) (hown : s.vm.findClass own = some m.cls) (hts : ∀ w ∈ lwT, w.before args s = true) (hK : va_K D vwCl (tyL aC) s) (hS : va_S (fun q => bs ≤ q) s.heap H locs) (hR : HR ext bs aC D W0 w H) {a : Nat} {i : Int32} (hc : (wK w a).1 = 33) (hi : inB i (wK w a).2 = true) (hdg : decode cc pc = .ok (.baload, 1))
    (kk : W p l e R s m args below meth c H locs (cells) (slots) Q (F0 m (pc + 1) ls (.int (gI w a i.toNatClampNeg) :: rest))) : W p l e R s m args below meth c H locs (cells) (slots) Q (F0 m pc ls (.int i :: mv ext bs (.ref a) :: rest)) := by
  have ha := HR_ext hR hc (by omega) (by omega)
  have h3 := hR.2.2.1 a ha
  have h5 := hc
  rw [h3.1] at h5
  obtain ⟨t, e1, e2⟩ := hE.2.2.2.2.1 a ha h5
  rw [mv_ext bs ext ha, e1]
  exact va_tb hx hb e2 hS (by rw [← h3.1]; exact inB_in hi) (by rw [h3.2.1]) hdg kk
theorem ok_laload (hx : p.tables.exec = Jvm.exec) (hb : c.code = cc) (hE : EXs ext bs W0 s) (hown : s.vm.findClass own = some m.cls) (hts : ∀ w ∈ lwT, w.before args s = true) (hK : va_K D vwCl (tyL aC) s) (hS : va_S (fun q => bs ≤ q) s.heap H locs) (hR : HR ext bs aC D W0 w H) {a : Nat} {i : Int32} (hc : (wK w a).1 = 23) (hi : inB i (wK w a).2 = true) (hdg : decode cc pc = .ok (.laload, 1))
    (kk : W p l e R s m args below meth c H locs (cells) (slots) Q (F0 m (pc + 1) ls (.long (gL w a i.toNatClampNeg) :: rest))) : W p l e R s m args below meth c H locs (cells) (slots) Q (F0 m pc ls (.int i :: mv ext bs (.ref a) :: rest)) := by
  obtain ⟨ha, hg⟩ := HR_arr hR (by omega : 20 ≤ (wK w a).1) (by omega)
  rw [mv_in bs ext ha]
  rw [cev_L hc] at hg
  exact va_lald hx hb hK (HR_P hR) (a - 64) 3 hg rfl (inB_in hi) hdg kk
theorem ok_daload (hx : p.tables.exec = Jvm.exec) (hb : c.code = cc) (hE : EXs ext bs W0 s) (hown : s.vm.findClass own = some m.cls) (hts : ∀ w ∈ lwT, w.before args s = true) (hK : va_K D vwCl (tyL aC) s) (hS : va_S (fun q => bs ≤ q) s.heap H locs) (hR : HR ext bs aC D W0 w H) {a : Nat} {i : Int32} (hc : (wK w a).1 = 24) (hi : inB i (wK w a).2 = true) (hdg : decode cc pc = .ok (.daload, 1))
    (kk : W p l e R s m args below meth c H locs (cells) (slots) Q (F0 m (pc + 1) ls (.double (gD w a i.toNatClampNeg) :: rest))) : W p l e R s m args below meth c H locs (cells) (slots) Q (F0 m pc ls (.int i :: mv ext bs (.ref a) :: rest)) := by
  obtain ⟨ha, hg⟩ := HR_arr hR (by omega : 20 ≤ (wK w a).1) (by omega)
  rw [mv_in bs ext ha]
  rw [cev_D hc] at hg
  exact va_dald hx hb hK (HR_P hR) (a - 64) 4 hg rfl (inB_in hi) hdg kk
theorem ra_ald (hx : p.tables.exec = Jvm.exec) (hb : c.code = cc) (hK : va_K D vwCl (tyL aC) s) {ws : va_W} (hP : va_P D vwCl ws H) {a : Nat} (q0 t0 : Nat) {cA : ClassId} {ty : FieldType} (hrf : ty.isReference = true) {n : Nat} {f : Nat → Option Nat} (ha : ws[q0]? = some (a, .inl (cA, n, .inr (.inr (.inr (.inr f)))))) (ht : (tyL aC)[t0]? = some (cA, ty)) {i : Int32} (hin : vp_in i n) (hdg : decode cc pc = .ok (.aaload, 1))
    (kk : W p l e R s m args below meth c H locs (cells) (slots) Q (F0 m (pc + 1) ls (va_rf (f i.toNatClampNeg) :: rest))) : W p l e R s m args below meth c H locs (cells) (slots) Q (F0 m pc ls (.int i :: .ref a :: rest)) := by
  have hlt : i.toNatClampNeg < n := by
    rcases Nat.lt_or_ge i.toNatClampNeg n with q | q
    · exact q
    · exact absurd (Or.inr q) hin
  exact W.aald (v := va_rf (f i.toNatClampNeg)) (ty := ty) hx hb (hP q0 _ ha) ((hK.2 t0 _ ht).1 n (fun j => va_rf (f j))) hrf (fun q => by cases q) (by show ¬ (i < 0 ∨ (arrV _ _ _).slots.size ≤ _); rw [arrV_size]; exact hin) (by show (arrV _ _ _).slots[_]? = _; rw [arrV_read _ _ hlt]) rfl rfl hdg kk
theorem ok_aaload (hx : p.tables.exec = Jvm.exec) (hb : c.code = cc) (hE : EXs ext bs W0 s) (hown : s.vm.findClass own = some m.cls) (hts : ∀ w ∈ lwT, w.before args s = true) (hK : va_K D vwCl (tyL aC) s) (hS : va_S (fun q => bs ≤ q) s.heap H locs) (hR : HR ext bs aC D W0 w H) {a : Nat} {i : Int32} (hc : isRA (wK w a).1 = true) (hi : inB i (wK w a).2 = true) (hdg : decode cc pc = .ok (.aaload, 1))
    (kk : W p l e R s m args below meth c H locs (cells) (slots) Q (F0 m (pc + 1) ls (mv ext bs (va_rf (gR w a i.toNatClampNeg)) :: rest))) : W p l e R s m args below meth c H locs (cells) (slots) Q (F0 m pc ls (.int i :: mv ext bs (.ref a) :: rest)) := by
  have h3 : (wK w a).1 = 25 ∨ (wK w a).1 = 26 ∨ (wK w a).1 = 27 := by
    unfold isRA at hc
    simp only [Bool.or_eq_true, beq_iff_eq] at hc
    omega
  obtain ⟨ha, hg⟩ := HR_arr hR (by omega : 20 ≤ (wK w a).1) (by omega)
  rw [mv_rf ext bs (fun b h => rd_ge hR ha h)] at kk
  rw [mv_in bs ext ha]
  rcases h3 with h3 | h3 | h3
  · rw [cev_R h3 (by omega)] at hg
    exact ra_ald hx hb hK (HR_P hR) (a - 64) 5 rfl hg rfl (inB_in hi) hdg kk
  · rw [cev_R h3 (by omega)] at hg
    exact ra_ald hx hb hK (HR_P hR) (a - 64) 6 rfl hg rfl (inB_in hi) hdg kk
  · rw [cev_R h3 (by omega)] at hg
    exact ra_ald hx hb hK (HR_P hR) (a - 64) 7 rfl hg rfl (inB_in hi) hdg kk
theorem ok_alen (hx : p.tables.exec = Jvm.exec) (hb : c.code = cc) (hE : EXs ext bs W0 s) (hown : s.vm.findClass own = some m.cls) (hts : ∀ w ∈ lwT, w.before args s = true) (hK : va_K D vwCl (tyL aC) s) (hS : va_S (fun q => bs ≤ q) s.heap H locs) (hR : HR ext bs aC D W0 w H) {a : Nat} (hc : isAr (wK w a).1 = true) (hne : ¬ (wK w a).1 = 30) (hdg : decode cc pc = .ok (.arraylength, 1))
    (kk : W p l e R s m args below meth c H locs (cells) (slots) Q (F0 m (pc + 1) ls (.int (Int32.ofNat (wK w a).2) :: rest))) : W p l e R s m args below meth c H locs (cells) (slots) Q (F0 m pc ls (mv ext bs (.ref a) :: rest)) := by
  unfold isAr at hc
  simp only [Bool.or_eq_true, beq_iff_eq] at hc
  by_cases h33 : (wK w a).1 = 33
  · have ha := HR_ext hR h33 (by omega) (by omega)
    have h3 := hR.2.2.1 a ha
    have h5 := h33
    rw [h3.1] at h5
    obtain ⟨t, e1, e2⟩ := hE.2.2.2.2.1 a ha h5
    rw [mv_ext bs ext ha, e1]
    exact va_tlen hx hb e2 hS (by rw [h3.1]) hdg kk
  · obtain ⟨ha, hg⟩ := HR_arr hR (by omega : 20 ≤ (wK w a).1) (by omega)
    rw [mv_in bs ext ha]
    have h7 : (wK w a).1 = 20 ∨ (wK w a).1 = 21 ∨ (wK w a).1 = 22 ∨ (wK w a).1 = 23 ∨ (wK w a).1 = 24 ∨ (wK w a).1 = 25 ∨ (wK w a).1 = 26 ∨ (wK w a).1 = 27 := by omega
    rcases h7 with h | h | h | h | h | h | h | h
    · rw [cev_I h (by omega) (by omega)] at hg
      exact va_alen hx hb hK (HR_P hR) (a - 64) 0 hg rfl rfl hdg kk
    · rw [cev_I h (by omega) (by omega)] at hg
      exact va_alen hx hb hK (HR_P hR) (a - 64) 1 hg rfl rfl hdg kk
    · rw [cev_I h (by omega) (by omega)] at hg
      exact va_alen hx hb hK (HR_P hR) (a - 64) 2 hg rfl rfl hdg kk
    · rw [cev_L h] at hg
      exact va_alen hx hb hK (HR_P hR) (a - 64) 3 hg rfl rfl hdg kk
    · rw [cev_D h] at hg
      exact va_alen hx hb hK (HR_P hR) (a - 64) 4 hg rfl rfl hdg kk
    · rw [cev_R h (by omega)] at hg
      exact va_alen hx hb hK (HR_P hR) (a - 64) 5 hg rfl rfl hdg kk
    · rw [cev_R h (by omega)] at hg
      exact va_alen hx hb hK (HR_P hR) (a - 64) 6 hg rfl rfl hdg kk
    · rw [cev_R h (by omega)] at hg
      exact va_alen hx hb hK (HR_P hR) (a - 64) 7 hg rfl rfl hdg kk
theorem and1_cases (x : Int32) : x &&& 1 = 0 ∨ x &&& 1 = 1 := by
  have h : (x &&& 1).toBitVec = BitVec.setWidth 32 (BitVec.ofBool (x.toBitVec.getLsbD 0)) := by
    rw [Int32.toBitVec_and]
    exact BitVec.and_one_eq_setWidth_ofBool_getLsbD
  cases hb : x.toBitVec.getLsbD 0
  · left
    apply Int32.toBitVec_inj.mp
    rw [h, hb]
    rfl
  · right
    apply Int32.toBitVec_inj.mp
    rw [h, hb]
    rfl
theorem fits_and1 (x : Int32) : fits .boolean (.int (x &&& 1)) = true := by
  rcases and1_cases x with h | h <;> rw [h] <;> rfl
theorem u2_ne {α : Type} {g : Nat → Nat → α} {a k b : Nat} {v : α} (h : ¬ b = a) : u2 g a k v b = g b := by
  funext j
  simp [u2, h]
theorem u2_at {α : Type} {g : Nat → Nat → α} {a k j : Nat} {v : α} : u2 g a k v a j = if j = k then v else g a j := by simp [u2]
theorem cev_eq {w2 : Wd} {b : Nat} (h0 : wK w2 b = wK w b) (h1 : gI w2 b = gI w b) (h2 : gL w2 b = gL w b) (h3 : gD w2 b = gD w b) (h4 : gR w2 b = gR w b) : cev ext bs aC w2 b = cev ext bs aC w b := by
  have hf : ∀ k kd, fval w2 b k kd = fval w b k kd := by
    intro k kd
    unfold fval
    rw [h1, h2, h3, h4]
  unfold cev
  rw [h0, h1, h2, h3, h4]
  simp only [hf]
theorem HR_set {H H1 : Heap} {w2 : Wd} (hR : HR ext bs aC D W0 w H) {a : Nat} (ha : 64 ≤ a) (hK2 : wK w2 = wK w) (hN : wN w2 = wN w) (hI : ∀ b, ¬ b = a → gI w2 b = gI w b) (hL : ∀ b, ¬ b = a → gL w2 b = gL w b) (hD2 : ∀ b, ¬ b = a → gD w2 b = gD w b) (hRf : ∀ b, ¬ b = a → gR w2 b = gR w b) (hrr : ∀ j b, gR w2 a j = some b → 64 ≤ b)
    (hP : va_P D vwCl ((wls ext bs aC w).set (a - 64) (bs + (a - 64), cev ext bs aC w2 a)) H1) : HR ext bs aC D W0 w2 H1 := by
  rw [wls_set ha hN (fun b _ h => cev_eq (by rw [hK2]) (hI b h) (hL b h) (hD2 b h) (hRf b h))] at hP
  refine ⟨fun b h => ?_, fun b => ?_, fun b h => ?_, fun b j x h1 h2 => ?_, by rw [hN]; exact hR.2.2.2.2.1, hP⟩
  · rw [hK2] at h
    rw [hN]
    exact hR.1 b h
  · rw [hK2]
    exact hR.2.1 b
  · have hne : ¬ b = a := by omega
    rw [hK2, hI b hne, hRf b hne]
    exact hR.2.2.1 b h
  · by_cases hba : b = a
    · subst hba
      exact hrr j x h2
    · rw [hRf b hba] at h2
      exact hR.2.2.2.1 b j x h1 h2
theorem map_set {n k : Nat} {g g2 : Nat → Value} {v : Value} (h1 : g2 k = v) (h2 : ∀ j, ¬ j = k → g2 j = g j) : (List.range n).map g2 = ((List.range n).map g).set k v := by
  apply List.ext_getElem?
  intro j
  rw [List.getElem?_set]
  by_cases hj : j < n
  · rw [map_rg hj, map_rg hj]
    by_cases hk : k = j
    · subst hk
      rw [if_pos rfl, if_pos (by simp; exact hj), h1]
    · rw [if_neg hk, h2 j (fun q => hk q.symm)]
  · have e1 : ∀ g3 : Nat → Value, ((List.range n).map g3)[j]? = none := fun g3 => List.getElem?_eq_none_iff.mpr (by simp; omega)
    rw [e1, e1]
    by_cases hk : k = j
    · subst hk
      rw [if_pos rfl, if_neg (by simp; omega)]
    · rw [if_neg hk]
theorem ok_iastore (hx : p.tables.exec = Jvm.exec) (hb : c.code = cc) (hE : EXs ext bs W0 s) (hown : s.vm.findClass own = some m.cls) (hts : ∀ w ∈ lwT, w.before args s = true) (hK : va_K D vwCl (tyL aC) s) (hS : va_S (fun q => bs ≤ q) s.heap H locs) (hR : HR ext bs aC D W0 w H) {a : Nat} {i : Int32} {x : Int32} (hc : (wK w a).1 = 20) (hi : inB i (wK w a).2 = true) (hdg : decode cc pc = .ok (.iastore, 1))
    (kk : ∀ (H2 : Heap) (locs2 : List Loc), HR ext bs aC D W0 (sI w a i.toNatClampNeg x) H2 → va_S (fun q => bs ≤ q) s.heap H2 locs2 → W p l e R s m args below meth c H2 locs2 (cells) (slots) Q (F0 m (pc + 1) ls (rest))) : W p l e R s m args below meth c H locs (cells) (slots) Q (F0 m pc ls (.int x :: .int i :: mv ext bs (.ref a) :: rest)) := by
  obtain ⟨ha, hg⟩ := HR_arr hR (by omega : 20 ≤ (wK w a).1) (by omega)
  rw [mv_in bs ext ha]
  rw [cev_I hc (by omega) (by omega)] at hg
  refine va_iast hx hb hK (HR_P hR) (wls_D ext bs aC w) hS (a - 64) 0 hg rfl (inB_in hi) hdg (fun H1 locs1 hP hD hS2 => kk H1 locs1 ?_ hS2)
  refine HR_set hR ha rfl rfl (fun b h => u2_ne h) (fun _ _ => rfl) (fun _ _ => rfl) (fun _ _ => rfl) (fun j b h => rd_ge hR ha h) ?_
  rw [show cev ext bs aC (sI w a i.toNatClampNeg x) a = _ from cev_I hc (by omega) (by omega)]
  rw [show gI (sI w a i.toNatClampNeg x) a = upd (gI w a) i.toNatClampNeg x from by funext j; exact u2_at]
  exact hP
theorem ok_bastoreB (hx : p.tables.exec = Jvm.exec) (hb : c.code = cc) (hE : EXs ext bs W0 s) (hown : s.vm.findClass own = some m.cls) (hts : ∀ w ∈ lwT, w.before args s = true) (hK : va_K D vwCl (tyL aC) s) (hS : va_S (fun q => bs ≤ q) s.heap H locs) (hR : HR ext bs aC D W0 w H) {a : Nat} {i : Int32} {x : Int32} (hc : (wK w a).1 = 21) (hi : inB i (wK w a).2 = true) (hdg : decode cc pc = .ok (.bastore, 1))
    (kk : ∀ (H2 : Heap) (locs2 : List Loc), HR ext bs aC D W0 (sI w a i.toNatClampNeg (vp_nar .byte x)) H2 → va_S (fun q => bs ≤ q) s.heap H2 locs2 → W p l e R s m args below meth c H2 locs2 (cells) (slots) Q (F0 m (pc + 1) ls (rest))) : W p l e R s m args below meth c H locs (cells) (slots) Q (F0 m pc ls (.int x :: .int i :: mv ext bs (.ref a) :: rest)) := by
  obtain ⟨ha, hg⟩ := HR_arr hR (by omega : 20 ≤ (wK w a).1) (by omega)
  rw [mv_in bs ext ha]
  rw [cev_I hc (by omega) (by omega)] at hg
  refine va_bast hx hb hK (HR_P hR) (wls_D ext bs aC w) hS (a - 64) 1 hg rfl (inB_in hi) hdg (fun H1 locs1 hP hD hS2 => kk H1 locs1 ?_ hS2)
  refine HR_set hR ha rfl rfl (fun b h => u2_ne h) (fun _ _ => rfl) (fun _ _ => rfl) (fun _ _ => rfl) (fun j b h => rd_ge hR ha h) ?_
  rw [show cev ext bs aC (sI w a i.toNatClampNeg (vp_nar .byte x)) a = _ from cev_I hc (by omega) (by omega)]
  rw [show gI (sI w a i.toNatClampNeg (vp_nar .byte x)) a = upd (gI w a) i.toNatClampNeg (vp_nar .byte x) from by funext j; exact u2_at]
  exact hP
theorem ok_bastoreZ (hx : p.tables.exec = Jvm.exec) (hb : c.code = cc) (hE : EXs ext bs W0 s) (hown : s.vm.findClass own = some m.cls) (hts : ∀ w ∈ lwT, w.before args s = true) (hK : va_K D vwCl (tyL aC) s) (hS : va_S (fun q => bs ≤ q) s.heap H locs) (hR : HR ext bs aC D W0 w H) {a : Nat} {i : Int32} {x : Int32} (hc : (wK w a).1 = 22) (hi : inB i (wK w a).2 = true) (hdg : decode cc pc = .ok (.bastore, 1))
    (kk : ∀ (H2 : Heap) (locs2 : List Loc), HR ext bs aC D W0 (sI w a i.toNatClampNeg (vp_nar .boolean x)) H2 → va_S (fun q => bs ≤ q) s.heap H2 locs2 → W p l e R s m args below meth c H2 locs2 (cells) (slots) Q (F0 m (pc + 1) ls (rest))) : W p l e R s m args below meth c H locs (cells) (slots) Q (F0 m pc ls (.int x :: .int i :: mv ext bs (.ref a) :: rest)) := by
  obtain ⟨ha, hg⟩ := HR_arr hR (by omega : 20 ≤ (wK w a).1) (by omega)
  rw [mv_in bs ext ha]
  rw [cev_I hc (by omega) (by omega)] at hg
  refine va_zast hx hb hK (HR_P hR) (wls_D ext bs aC w) hS (a - 64) 2 hg rfl (inB_in hi) hdg (fun H1 locs1 hP hD hS2 => kk H1 locs1 ?_ hS2)
  refine HR_set hR ha rfl rfl (fun b h => u2_ne h) (fun _ _ => rfl) (fun _ _ => rfl) (fun _ _ => rfl) (fun j b h => rd_ge hR ha h) ?_
  rw [show cev ext bs aC (sI w a i.toNatClampNeg (vp_nar .boolean x)) a = _ from cev_I hc (by omega) (by omega)]
  rw [show gI (sI w a i.toNatClampNeg (vp_nar .boolean x)) a = upd (gI w a) i.toNatClampNeg (vp_nar .boolean x) from by funext j; exact u2_at]
  exact hP
theorem ok_lastore (hx : p.tables.exec = Jvm.exec) (hb : c.code = cc) (hE : EXs ext bs W0 s) (hown : s.vm.findClass own = some m.cls) (hts : ∀ w ∈ lwT, w.before args s = true) (hK : va_K D vwCl (tyL aC) s) (hS : va_S (fun q => bs ≤ q) s.heap H locs) (hR : HR ext bs aC D W0 w H) {a : Nat} {i : Int32} {x : Int64} (hc : (wK w a).1 = 23) (hi : inB i (wK w a).2 = true) (hdg : decode cc pc = .ok (.lastore, 1))
    (kk : ∀ (H2 : Heap) (locs2 : List Loc), HR ext bs aC D W0 (sL w a i.toNatClampNeg x) H2 → va_S (fun q => bs ≤ q) s.heap H2 locs2 → W p l e R s m args below meth c H2 locs2 (cells) (slots) Q (F0 m (pc + 1) ls (rest))) : W p l e R s m args below meth c H locs (cells) (slots) Q (F0 m pc ls (.long x :: .int i :: mv ext bs (.ref a) :: rest)) := by
  obtain ⟨ha, hg⟩ := HR_arr hR (by omega : 20 ≤ (wK w a).1) (by omega)
  rw [mv_in bs ext ha]
  rw [cev_L hc] at hg
  refine va_last hx hb hK (HR_P hR) (wls_D ext bs aC w) hS (a - 64) 3 hg rfl (inB_in hi) hdg (fun H1 locs1 hP hD hS2 => kk H1 locs1 ?_ hS2)
  refine HR_set hR ha rfl rfl (fun _ _ => rfl) (fun b h => u2_ne h) (fun _ _ => rfl) (fun _ _ => rfl) (fun j b h => rd_ge hR ha h) ?_
  rw [show cev ext bs aC (sL w a i.toNatClampNeg x) a = _ from cev_L hc]
  rw [show gL (sL w a i.toNatClampNeg x) a = vp_updL (gL w a) i.toNatClampNeg x from by funext j; exact u2_at]
  exact hP
theorem ok_dastore (hx : p.tables.exec = Jvm.exec) (hb : c.code = cc) (hE : EXs ext bs W0 s) (hown : s.vm.findClass own = some m.cls) (hts : ∀ w ∈ lwT, w.before args s = true) (hK : va_K D vwCl (tyL aC) s) (hS : va_S (fun q => bs ≤ q) s.heap H locs) (hR : HR ext bs aC D W0 w H) {a : Nat} {i : Int32} {x : UInt64} (hc : (wK w a).1 = 24) (hi : inB i (wK w a).2 = true) (hdg : decode cc pc = .ok (.dastore, 1))
    (kk : ∀ (H2 : Heap) (locs2 : List Loc), HR ext bs aC D W0 (sD w a i.toNatClampNeg x) H2 → va_S (fun q => bs ≤ q) s.heap H2 locs2 → W p l e R s m args below meth c H2 locs2 (cells) (slots) Q (F0 m (pc + 1) ls (rest))) : W p l e R s m args below meth c H locs (cells) (slots) Q (F0 m pc ls (.double x :: .int i :: mv ext bs (.ref a) :: rest)) := by
  obtain ⟨ha, hg⟩ := HR_arr hR (by omega : 20 ≤ (wK w a).1) (by omega)
  rw [mv_in bs ext ha]
  rw [cev_D hc] at hg
  refine va_dast hx hb hK (HR_P hR) (wls_D ext bs aC w) hS (a - 64) 4 hg rfl (inB_in hi) hdg (fun H1 locs1 hP hD hS2 => kk H1 locs1 ?_ hS2)
  refine HR_set hR ha rfl rfl (fun _ _ => rfl) (fun _ _ => rfl) (fun b h => u2_ne h) (fun _ _ => rfl) (fun j b h => rd_ge hR ha h) ?_
  rw [show cev ext bs aC (sD w a i.toNatClampNeg x) a = _ from cev_D hc]
  rw [show gD (sD w a i.toNatClampNeg x) a = vf_upd (gD w a) i.toNatClampNeg x from by funext j; exact u2_at]
  exact hP
theorem ok_aastoreM (hx : p.tables.exec = Jvm.exec) (hb : c.code = cc) (hE : EXs ext bs W0 s) (hown : s.vm.findClass own = some m.cls) (hts : ∀ w ∈ lwT, w.before args s = true) (hK : va_K D vwCl (tyL aC) s) (hS : va_S (fun q => bs ≤ q) s.heap H locs) (hR : HR ext bs aC D W0 w H) {a v : Nat} {i : Int32} (hc : (wK w a).1 = 25) (hv : (wK w v).1 = 3) (hi : inB i (wK w a).2 = true) (hdg : decode cc pc = .ok (.aastore, 1))
    (kk : ∀ (H2 : Heap) (locs2 : List Loc), HR ext bs aC D W0 (sR w a i.toNatClampNeg (some v)) H2 → va_S (fun q => bs ≤ q) s.heap H2 locs2 → W p l e R s m args below meth c H2 locs2 (cells) (slots) Q (F0 m (pc + 1) ls (rest))) : W p l e R s m args below meth c H locs (cells) (slots) Q (F0 m pc ls (mv ext bs (.ref v) :: .int i :: mv ext bs (.ref a) :: rest)) := by
  obtain ⟨ha, hg⟩ := HR_arr hR (by omega : 20 ≤ (wK w a).1) (by omega)
  obtain ⟨hv1, hv2⟩ := HR_obj hR hv (by omega)
  rw [mv_in bs ext ha, mv_in bs ext hv1]
  rw [cev_R hc (by omega)] at hg
  refine va_astq hx hb hK (HR_P hR) (wls_D ext bs aC w) hS (a - 64) 5 (v - 64) 3 hg rfl hv2 rfl (inB_in hi) hdg (fun H1 locs1 hP hD hS2 => kk H1 locs1 ?_ hS2)
  refine HR_set hR ha rfl rfl (fun _ _ => rfl) (fun _ _ => rfl) (fun _ _ => rfl) (fun b h => u2_ne h) (fun j b h => ?_) ?_
  · have h2 : (if j = i.toNatClampNeg then some v else gR w a j) = some b := by rw [← h]; exact u2_at.symm
    split at h2
    · cases h2; exact hv1
    · exact rd_ge hR ha h2
  rw [show cev ext bs aC (sR w a i.toNatClampNeg (some v)) a = _ from cev_R hc (by omega)]
  have e9 : (fun j => rmp bs (gR (sR w a i.toNatClampNeg (some v)) a j)) = va_up (fun j => rmp bs (gR w a j)) i.toNatClampNeg (some (bs + (v - 64))) := by
    funext j
    show rmp bs (u2 (gR w) a i.toNatClampNeg (some v) a j) = _
    rw [u2_at]
    unfold va_up
    split <;> rfl
  rw [e9]
  exact hP
theorem ok_aastoreR (hx : p.tables.exec = Jvm.exec) (hb : c.code = cc) (hE : EXs ext bs W0 s) (hown : s.vm.findClass own = some m.cls) (hts : ∀ w ∈ lwT, w.before args s = true) (hK : va_K D vwCl (tyL aC) s) (hS : va_S (fun q => bs ≤ q) s.heap H locs) (hR : HR ext bs aC D W0 w H) {a v : Nat} {i : Int32} (hc : (wK w a).1 = 26) (hv : (wK w v).1 = 6) (hi : inB i (wK w a).2 = true) (hdg : decode cc pc = .ok (.aastore, 1))
    (kk : ∀ (H2 : Heap) (locs2 : List Loc), HR ext bs aC D W0 (sR w a i.toNatClampNeg (some v)) H2 → va_S (fun q => bs ≤ q) s.heap H2 locs2 → W p l e R s m args below meth c H2 locs2 (cells) (slots) Q (F0 m (pc + 1) ls (rest))) : W p l e R s m args below meth c H locs (cells) (slots) Q (F0 m pc ls (mv ext bs (.ref v) :: .int i :: mv ext bs (.ref a) :: rest)) := by
  obtain ⟨ha, hg⟩ := HR_arr hR (by omega : 20 ≤ (wK w a).1) (by omega)
  obtain ⟨hv1, hv2⟩ := HR_obj hR hv (by omega)
  rw [mv_in bs ext ha, mv_in bs ext hv1]
  rw [cev_R hc (by omega)] at hg
  refine va_astq hx hb hK (HR_P hR) (wls_D ext bs aC w) hS (a - 64) 6 (v - 64) 6 hg rfl hv2 rfl (inB_in hi) hdg (fun H1 locs1 hP hD hS2 => kk H1 locs1 ?_ hS2)
  refine HR_set hR ha rfl rfl (fun _ _ => rfl) (fun _ _ => rfl) (fun _ _ => rfl) (fun b h => u2_ne h) (fun j b h => ?_) ?_
  · have h2 : (if j = i.toNatClampNeg then some v else gR w a j) = some b := by rw [← h]; exact u2_at.symm
    split at h2
    · cases h2; exact hv1
    · exact rd_ge hR ha h2
  rw [show cev ext bs aC (sR w a i.toNatClampNeg (some v)) a = _ from cev_R hc (by omega)]
  have e9 : (fun j => rmp bs (gR (sR w a i.toNatClampNeg (some v)) a j)) = va_up (fun j => rmp bs (gR w a j)) i.toNatClampNeg (some (bs + (v - 64))) := by
    funext j
    show rmp bs (u2 (gR w) a i.toNatClampNeg (some v) a j) = _
    rw [u2_at]
    unfold va_up
    split <;> rfl
  rw [e9]
  exact hP
theorem put_any (hx : p.tables.exec = Jvm.exec) (hb : c.code = cc) (hown : s.vm.findClass own = some m.cls) (hts : ∀ w ∈ lwT, w.before args s = true) (hK : va_K D vwCl (tyL aC) s) (hS : va_S (fun q => bs ≤ q) s.heap H locs) {ws : va_W} (hP : va_P D vwCl ws H) (hD : va_D (fun q => bs ≤ q) ws) {init : Bool} (hin : init = true → meth.name = "<init>") {idx ci k kd j q0 a : Nat} (hok : okPut own init idx ci k kd j = true) {fs : List Value} (he : ws[q0]? = some (a, .inr (ci, fs))) (hl : fs.length = nfld ci) {v : Value} (hn : narrow (vwTy ci k) v = v) (hfit : fits (vwTy ci k) v = true) (hdg : decode cc pc = .ok (.putfield idx, 3))
    (kk : ∀ (H1 : Heap) (locs1 : List Loc), va_P D vwCl (ws.set q0 (a, .inr (ci, fs.set k v))) H1 → va_S (fun q => bs ≤ q) s.heap H1 locs1 → W p l e R s m args below meth c H1 locs1 (cells) (slots) Q (F0 m (pc + 3) ls rest)) : W p l e R s m args below meth c H locs (cells) (slots) Q (F0 m pc ls (v :: .ref a :: rest)) := by
  unfold okPut at hok
  split at hok
  · rename_i q hq
    simp only [Bool.and_eq_true, Bool.or_eq_true, Bool.not_eq_true', decide_eq_true_eq, beq_iff_eq] at hok
    obtain ⟨⟨⟨⟨h1, h2⟩, h3⟩, h4⟩, h5⟩ := hok
    obtain ⟨c1, c2, c3⟩ := cls_ok ci q hq
    have hl2 : k < fs.length := by rw [hl, nf_of hq]; exact h1
    rcases h4 with h4 | ⟨h4, h6⟩
    · exact va_put (C := q.1) (T := q.2.1) (N := q.2.2) hx hb hts c1 (vwTy ci) c2 c3 hown hK hP hD hS q0 he hq k h1 (hts _ (tbw_mem h3)) (fun _ h => h) h4 (c2 k h1) hn hfit hl2 hdg (fun H1 locs1 hP1 _ hS1 => kk H1 locs1 hP1 hS1)
    · by_cases hf : (q.2.1 k).2.2.2 = false
      · exact va_put (C := q.1) (T := q.2.1) (N := q.2.2) hx hb hts c1 (vwTy ci) c2 c3 hown hK hP hD hS q0 he hq k h1 (hts _ (tbw_mem h3)) (fun _ h => h) hf (c2 k h1) hn hfit hl2 hdg (fun H1 locs1 hP1 _ hS1 => kk H1 locs1 hP1 hS1)
      · exact va_putF (C := q.1) (T := q.2.1) (N := q.2.2) hx hb hts c1 (vwTy ci) c2 c3 hown hK hP hD hS q0 he hq k h1 (hts _ (tbw_mem h3)) (fun _ h => h) (by cases hz : (q.2.1 k).2.2.2 <;> simp_all) (hin h4) h6 (c2 k h1) hn hfit hl2 hdg (fun H1 locs1 hP1 _ hS1 => kk H1 locs1 hP1 hS1)
  · cases hok
theorem ok_putfield (hx : p.tables.exec = Jvm.exec) (hb : c.code = cc) (hE : EXs ext bs W0 s) (hown : s.vm.findClass own = some m.cls) (hts : ∀ w ∈ lwT, w.before args s = true) (hK : va_K D vwCl (tyL aC) s) (hS : va_S (fun q => bs ≤ q) s.heap H locs) (hR : HR ext bs aC D W0 w H) {init : Bool} (hin : init = true → meth.name = "<init>") {idx a ci k kd j : Nat} {v : Value} {w2 : Wd} (hok : okPut own init idx ci k kd j = true) (hc : (wK w a).1 = ci) (hv : sval w a k kd v = some w2) (hdg : decode cc pc = .ok (.putfield idx, 3))
    (kk : ∀ (H2 : Heap) (locs2 : List Loc), HR ext bs aC D W0 (w2) H2 → va_S (fun q => bs ≤ q) s.heap H2 locs2 → W p l e R s m args below meth c H2 locs2 (cells) (slots) Q (F0 m (pc + 3) ls (rest))) : W p l e R s m args below meth c H locs (cells) (slots) Q (F0 m pc ls (mv ext bs v :: mv ext bs (.ref a) :: rest)) := by
  have hci : ci < 11 ∧ kd = kindOf (vwTy ci k) ∧ (¬ kd = 0 ∨ vwTy ci k = .int) := by
    unfold okPut at hok
    split at hok
    · rename_i q hq
      simp only [Bool.and_eq_true, Bool.or_eq_true, decide_eq_true_eq, beq_iff_eq] at hok
      exact ⟨cls_lt hq, hok.1.1.1.2, hok.2⟩
    · cases hok
  obtain ⟨hc1, hkd, hty⟩ := hci
  obtain ⟨ha, hg⟩ := HR_obj hR hc hc1
  rw [mv_in bs ext ha]
  have key : ∀ (hn : narrow (vwTy ci k) (mv ext bs v) = mv ext bs v) (hfit : fits (vwTy ci k) (mv ext bs v) = true), wK w2 = wK w → wN w2 = wN w → (∀ b, ¬ b = a → gI w2 b = gI w b) → (∀ b, ¬ b = a → gL w2 b = gL w b) → (∀ b, ¬ b = a → gD w2 b = gD w b) → (∀ b, ¬ b = a → gR w2 b = gR w b) → (∀ j b, gR w2 a j = some b → 64 ≤ b) → mv ext bs (fval w2 a k kd) = mv ext bs v → (∀ j kd2, ¬ j = k → fval w2 a j kd2 = fval w a j kd2) → W p l e R s m args below meth c H locs (cells) (slots) Q (F0 m pc ls (mv ext bs v :: .ref (bs + (a - 64)) :: rest)) := by
    intro hn hfit e1 e2 e3 e4 e5 e6 e7 e8 e9
    refine put_any hx hb hown hts hK hS (HR_P hR) (wls_D ext bs aC w) hin hok hg (by simp) hn hfit hdg (fun H1 locs1 hP1 hS1 => kk H1 locs1 ?_ hS1)
    refine HR_set hR ha e1 e2 e3 e4 e5 e6 e7 ?_
    have e10 : cev ext bs aC w2 a = .inr (ci, ((List.range (nfld ci)).map (fun k => mv ext bs (fval w a k (fkd ci k)))).set k (mv ext bs v)) := by
      unfold cev
      rw [e1, if_pos (by omega), (hR.2.1 a).1 (by omega), hc]
      rw [map_set (g := fun k => mv ext bs (fval w a k (fkd ci k))) (v := mv ext bs v)]
      · show mv ext bs (fval w2 a k (kindOf (vwTy ci k))) = _
        rw [← hkd, e8]
      · intro j hj
        show mv ext bs _ = mv ext bs _
        rw [e9 j _ hj]
    rw [e10]
    exact hP1
  unfold sval at hv
  split at hv
  · split at hv
    · rename_i x
      cases hv
      have ht : vwTy ci k = .int := by
        rcases hty with h | h
        · exact absurd rfl h
        · exact h
      exact key (by rw [ht]; rfl) (by rw [ht]; rfl) rfl rfl (fun b h => u2_ne h) (fun _ _ => rfl) (fun _ _ => rfl) (fun _ _ => rfl) (fun j b h => rd_ge hR ha h) (by show Value.int (u2 (gI w) a k x a k) = _; rw [u2_at, if_pos rfl]; rfl) (fun j kd2 h => by unfold fval; split <;> first | rfl | (show Value.int (u2 (gI w) a k x a j) = _; rw [u2_at, if_neg h]))
    · cases hv
  · split at hv
    · rename_i x
      cases hv
      have ht : vwTy ci k = .long := by
        cases h9 : vwTy ci k <;> rw [h9] at hkd <;> first | rfl | (simp [kindOf] at hkd)
      exact key (by rw [ht]; rfl) (by rw [ht]; rfl) rfl rfl (fun _ _ => rfl) (fun b h => u2_ne h) (fun _ _ => rfl) (fun _ _ => rfl) (fun j b h => rd_ge hR ha h) (by show Value.long (u2 (gL w) a k x a k) = _; rw [u2_at, if_pos rfl]; rfl) (fun j kd2 h => by unfold fval; split <;> first | rfl | (show Value.long (u2 (gL w) a k x a j) = _; rw [u2_at, if_neg h]))
    · cases hv
  · split at hv
    · rename_i x
      cases hv
      have ht : vwTy ci k = .double := by
        cases h9 : vwTy ci k <;> rw [h9] at hkd <;> first | rfl | (simp [kindOf] at hkd)
      exact key (by rw [ht]; rfl) (by rw [ht]; rfl) rfl rfl (fun _ _ => rfl) (fun _ _ => rfl) (fun b h => u2_ne h) (fun _ _ => rfl) (fun j b h => rd_ge hR ha h) (by show Value.double (u2 (gD w) a k x a k) = _; rw [u2_at, if_pos rfl]; rfl) (fun j kd2 h => by unfold fval; split <;> first | rfl | (show Value.double (u2 (gD w) a k x a j) = _; rw [u2_at, if_neg h]))
    · cases hv
  · have ht : (∃ n, vwTy ci k = .object n) ∨ ∃ t, vwTy ci k = .array t := by
      cases h9 : vwTy ci k with
      | object n => exact Or.inl ⟨n, rfl⟩
      | array t => exact Or.inr ⟨t, rfl⟩
      | _ => rw [h9] at hkd; exact absurd hkd (by decide)
    split at hv
    · rename_i b
      split at hv
      · rename_i hb64
        cases hv
        have e := mv_in bs ext hb64
        exact key (by rw [e]; rcases ht with ⟨n, h⟩ | ⟨n, h⟩ <;> rw [h] <;> rfl) (by rw [e]; rcases ht with ⟨n, h⟩ | ⟨n, h⟩ <;> rw [h] <;> rfl) rfl rfl (fun _ _ => rfl) (fun _ _ => rfl) (fun _ _ => rfl) (fun b h => u2_ne h) (fun j b2 h => by
          have h2 : (if j = k then some b else gR w a j) = some b2 := by rw [← h]; exact u2_at.symm
          split at h2
          · cases h2; exact hb64
          · exact rd_ge hR ha h2) (by show mv ext bs (va_rf (u2 (gR w) a k (some b) a k)) = _; rw [u2_at, if_pos rfl]; rfl) (fun j kd2 h => by unfold fval; split <;> first | rfl | (show va_rf (u2 (gR w) a k (some b) a j) = _; rw [u2_at, if_neg h]))
      · cases hv
    · cases hv
      exact key (by rcases ht with ⟨n, h⟩ | ⟨n, h⟩ <;> rw [h] <;> rfl) (by rcases ht with ⟨n, h⟩ | ⟨n, h⟩ <;> rw [h] <;> rfl) rfl rfl (fun _ _ => rfl) (fun _ _ => rfl) (fun _ _ => rfl) (fun b h => u2_ne h) (fun j b2 h => by
          have h2 : (if j = k then none else gR w a j) = some b2 := by rw [← h]; exact u2_at.symm
          split at h2
          · cases h2
          · exact rd_ge hR ha h2) (by show mv ext bs (va_rf (u2 (gR w) a k none a k)) = _; rw [u2_at, if_pos rfl]; rfl) (fun j kd2 h => by unfold fval; split <;> first | rfl | (show va_rf (u2 (gR w) a k none a j) = _; rw [u2_at, if_neg h]))
    · cases hv
  · rename_i h0 h1 h2 h3
    have ht : vwTy ci k = .boolean := by
      cases h9 : vwTy ci k <;> rw [h9] at hkd <;> first | rfl | (exact absurd hkd (by assumption))
    split at hv
    · rename_i x
      split at hv
      · rename_i hx9
        cases hv
        have hx8 : x &&& 1 = x := hx9
        have hf9 : fits .boolean (.int x) = true := by
          have e : fits .boolean (.int (x &&& 1)) = true := fits_and1 x
          rw [hx8] at e
          exact e
        exact key (by rw [ht]; show Value.int (x &&& 1) = _; rw [hx8]; rfl) (by rw [ht]; exact hf9) rfl rfl (fun b h => u2_ne h) (fun _ _ => rfl) (fun _ _ => rfl) (fun _ _ => rfl) (fun j b h => rd_ge hR ha h) (by subst hkd; rw [ht]; show Value.int (u2 (gI w) a k x a k) = _; rw [u2_at, if_pos rfl]; rfl) (fun j kd2 h => by unfold fval; split <;> first | rfl | (show Value.int (u2 (gI w) a k x a j) = _; rw [u2_at, if_neg h]))
      · cases hv
    · cases hv
end PLN
