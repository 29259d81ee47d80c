/-! THE START: the abstract machine's first world, and the law from its entry -/
def chs (k : Nat) : List Int32 := ([[119, 104, 101, 110], [110, 111, 116], [97, 116], [98, 101, 102, 111, 114, 101], [101, 118, 101, 110], [114, 111, 117, 110, 100], [99, 97, 108, 108, 101, 100], [101, 118, 101, 114, 121], [97, 110, 100], [99, 114, 111, 115, 115], [112, 108, 97, 99, 101, 115], [106, 117, 109, 112], [116, 117, 114, 110], [104, 111, 108, 100], [116, 119, 105, 99, 101], [117, 110, 100, 111]] : List (List Int32)).getD k []
def ridx (k : Nat) : Nat := ([71, 95, 117, 119, 101, 107, 109, 111, 80, 129, 135, 140, 145, 150, 152, 157] : List Nat).getD k 0
def facs : List Int32 := [1, 1, 2, 6, 24, 120, 720, 5040, 40320]
/-- outside the world: 0 the script, 1 the factorials, 2 .. the texts, 18 .. their bytes, 40 a formatter -/
def W00 (L : Nat) (xs : Nat → Int32) : Wd := (fun a => if a = 0 then (30, L) else if a = 1 then (31, 9) else if a < 18 then (32, 2) else if a < 34 then (33, (chs (a - 18)).length) else (99, 0), fun a j => if a = 0 then xs j else if a = 1 then facs.getD j 0 else if a < 18 then 0 else if a < 34 then (chs (a - 18)).getD j 0 else 0, fun _ _ => 0, fun _ _ => 0, fun a j => if 2 ≤ a ∧ a < 18 ∧ j = 0 then some (a + 16) else none, 64, 0)
def extF (b t1 : Nat) (fm : Value) (K V : Nat → Nat) : Nat → Value := fun a => if a = 0 then .ref b else if a = 1 then .ref t1 else if a < 18 then .ref (K (a - 2)) else if a < 34 then .ref (V (a - 18)) else if a = 40 then fm else .null
/-- a text and its bytes stand in the heap -/
def strA (bs : Nat) (s : State) (k q v : Nat) : Prop := (∀ own idx tx, Cond.stringRef own idx tx ∈ lwT → strs[k]? = some tx → vk_R own idx tx q s) ∧ va_O "java/lang/String" q (fun x => bs ≤ x) s s.heap ∧ va_OF "java/lang/String" "coder" "B" (.int 0) q (fun x => bs ≤ x) s s.heap ∧ va_OF "java/lang/String" "value" "[B" (.ref v) q (fun x => bs ≤ x) s s.heap ∧ va_T .byte v (chs k).length (fun j => .int ((chs k).getD j 0)) (fun x => bs ≤ x) s s.heap
theorem tb0_mem {j : Nat} {w : Jvm.Cond} (h : (tsub (j / 1000))[j % 1000]? = some w) : w ∈ lw_tbl := by
  have h1 : w ∈ tsub (j / 1000) := List.mem_of_getElem? h
  generalize j / 1000 = k at h1
  unfold lw_tbl tables_1
  unfold tsub at h1
  split at h1
  all_goals first | (exact absurd h1 List.not_mem_nil) | (simp only [List.mem_append]; simp only [h1, true_or, or_true])
theorem one_str {args : Array Value} {s : State} {n own1 : Nat} {o1 o2 : String} {i1 i2 : Nat} {tx : String} {cs : List Int32} (hlen : cs.length < 2 ^ 31) (hex : (Cond.exactly (.string o1 i1) "java/lang/String").before args s = true) (hco : (Cond.eq (.field (.string o1 i1) "java/lang/String" "coder" "B") (.int 0)).before args s = true) (har : (Cond.arrayOf (.field (.string o1 i1) "java/lang/String" "value" "[B") .byte).before args s = true) (hle : (Cond.eq (.length (.field (.string o1 i1) "java/lang/String" "value" "[B")) (.int (Int32.ofNat cs.length))).before args s = true)
    (hel : ∀ j : Nat, j < cs.length → (Cond.eq (.elem (.field (.string o1 i1) "java/lang/String" "value" "[B") (.int (Int32.ofNat j))) (.int (cs.getD j 0))).before args s = true) (heq : (Cond.eq (.string o1 i1) (.string o2 i2)).before args s = true) (hr1 : (Cond.stringRef o1 i1 tx).before args s = true) (hr2 : (Cond.stringRef o2 i2 tx).before args s = true) :
    ∃ q v : Nat, vk_R o1 i1 tx q s ∧ vk_R o2 i2 tx q s ∧ va_O "java/lang/String" q (fun x => s.heap.size ≤ x) s s.heap ∧ va_OF "java/lang/String" "coder" "B" (.int 0) q (fun x => s.heap.size ≤ x) s s.heap ∧ va_OF "java/lang/String" "value" "[B" (.ref v) q (fun x => s.heap.size ≤ x) s s.heap ∧ va_T .byte v cs.length (fun j => .int (cs.getD j 0)) (fun x => s.heap.size ≤ x) s s.heap := by
  obtain ⟨adK, adV, hS, hev⟩ := vk_Sof (N := 1) (tm := fun _ => .string o1 i1) (len := [cs.length]) (byt := [cs]) (A := fun x => s.heap.size ≤ x) (args := args) (s := s) (fun i hi => by obtain rfl : i = 0 := (by omega); exact hlen) (fun i hi => hex) (fun i hi => hco) (fun i hi => har) (fun i hi => by obtain rfl : i = 0 := (by omega); exact hle) (fun i hi j hj => by obtain rfl : i = 0 := (by omega); exact hel j hj) (fun i j hi hj hne => by omega) (fun a h1 h2 => by omega)
  have h0 := hS.1 0 (by omega)
  have he := hev 0 (by omega)
  obtain ⟨y, e1, e2⟩ := Cond.eq_one (show (Cond.eq (.string o1 i1) (.string o2 i2)).holds args s none s [] = true from heq)
  have h2 : (Term.string o2 i2).eval args s none [] s = some (.ref (adK 0)) := by rw [e2, ← e1]; exact he
  exact ⟨adK 0, adV 0, vk_R.of hr1 he, vk_R.of hr2 h2, h0⟩
theorem sref_of {own tx : String} {idx : Nat} (h : Cond.stringRef own idx tx ∈ lwT) : (own, idx, tx) ∈ ([("BelfryHouse$Reader", 71, "when"), ("BelfryHouseModel", 274, "when"), ("BelfryHouse$Reader", 95, "not"), ("BelfryHouseModel", 224, "not"), ("BelfryHouse$Reader", 117, "at"), ("BelfryHouseModel", 232, "at"), ("BelfryHouse$Reader", 119, "before"), ("BelfryHouseModel", 234, "before"), ("BelfryHouse$Reader", 101, "even"), ("BelfryHouseModel", 238, "even"), ("BelfryHouse$Reader", 107, "round"), ("BelfryHouseModel", 240, "round"), ("BelfryHouse$Reader", 109, "called"), ("BelfryHouseModel", 242, "called"), ("BelfryHouse$Reader", 111, "every"), ("BelfryHouseModel", 236, "every"), ("BelfryHouse$Reader", 80, "and"), ("BelfryHouseModel", 279, "and"), ("BelfryHouse$Reader", 129, "cross"), ("BelfryHouseModel", 244, "cross"), ("BelfryHouse$Reader", 135, "places"), ("BelfryHouseModel", 246, "places"), ("BelfryHouse$Reader", 140, "jump"), ("BelfryHouseModel", 248, "jump"), ("BelfryHouse$Reader", 145, "turn"), ("BelfryHouseModel", 250, "turn"), ("BelfryHouse$Reader", 150, "hold"), ("BelfryHouseModel", 252, "hold"), ("BelfryHouse$Reader", 152, "twice"), ("BelfryHouseModel", 254, "twice"), ("BelfryHouse$Reader", 157, "undo"), ("BelfryHouseModel", 256, "undo")] : List (String × Nat × String)) := by
  have h1 : lwT.all (fun w => match w with
    | .stringRef a b c => decide ((a, b, c) ∈ ([("BelfryHouse$Reader", 71, "when"), ("BelfryHouseModel", 274, "when"), ("BelfryHouse$Reader", 95, "not"), ("BelfryHouseModel", 224, "not"), ("BelfryHouse$Reader", 117, "at"), ("BelfryHouseModel", 232, "at"), ("BelfryHouse$Reader", 119, "before"), ("BelfryHouseModel", 234, "before"), ("BelfryHouse$Reader", 101, "even"), ("BelfryHouseModel", 238, "even"), ("BelfryHouse$Reader", 107, "round"), ("BelfryHouseModel", 240, "round"), ("BelfryHouse$Reader", 109, "called"), ("BelfryHouseModel", 242, "called"), ("BelfryHouse$Reader", 111, "every"), ("BelfryHouseModel", 236, "every"), ("BelfryHouse$Reader", 80, "and"), ("BelfryHouseModel", 279, "and"), ("BelfryHouse$Reader", 129, "cross"), ("BelfryHouseModel", 244, "cross"), ("BelfryHouse$Reader", 135, "places"), ("BelfryHouseModel", 246, "places"), ("BelfryHouse$Reader", 140, "jump"), ("BelfryHouseModel", 248, "jump"), ("BelfryHouse$Reader", 145, "turn"), ("BelfryHouseModel", 250, "turn"), ("BelfryHouse$Reader", 150, "hold"), ("BelfryHouseModel", 252, "hold"), ("BelfryHouse$Reader", 152, "twice"), ("BelfryHouseModel", 254, "twice"), ("BelfryHouse$Reader", 157, "undo"), ("BelfryHouseModel", 256, "undo")] : List (String × Nat × String)))
    | _ => true) = true := by decide +kernel
  exact of_decide_eq_true (List.all_eq_true.mp h1 _ h)
set_option maxRecDepth 100000 in
theorem str_0 {args : Array Value} {s : State} (hts : ∀ w ∈ lwT, w.before args s = true) (hg : ∀ c ∈ flatC (Jvm.Cond.and given_1 narrow_1), c.before args s = true) : ∃ q v : Nat, strA s.heap.size s 0 q v := by
  obtain ⟨q, v, h1, h2, h3⟩ := one_str (n := 0) (own1 := 0) (o1 := "BelfryHouse$Reader") (i1 := 71) (o2 := "BelfryHouseModel") (i2 := 274) (tx := "when") (cs := chs 0) (args := args) (s := s) (by decide) (hg _ (by decide +kernel)) (hg _ (by decide +kernel)) (hg _ (by decide +kernel)) (hg _ (by decide +kernel)) (fun j hj => by
    have hj : j < 4 := hj
    match j, hj with
    | 0, _ => exact hg _ (by decide +kernel)
    | 1, _ => exact hg _ (by decide +kernel)
    | 2, _ => exact hg _ (by decide +kernel)
    | 3, _ => exact hg _ (by decide +kernel)) (hg _ (by decide +kernel)) (hts _ (tbw_mem (j := 3046) (by decide +kernel))) (hts _ (tbw_mem (j := 6198) (by decide +kernel)))
  refine ⟨q, v, fun own idx tx hw hs => ?_, h3⟩
  have htx : tx = "when" := by
    have : strs[0]? = some "when" := rfl
    rw [this] at hs
    exact (Option.some.inj hs).symm
  subst htx
  have h4 := sref_of hw
  have h5 : (own, idx) = ("BelfryHouse$Reader", 71) ∨ (own, idx) = ("BelfryHouseModel", 274) := by
    simp at h4 ⊢
    exact h4
  rcases h5 with h5 | h5 <;> cases h5
  · exact h1
  · exact h2
set_option maxRecDepth 100000 in
theorem str_1 {args : Array Value} {s : State} (hts : ∀ w ∈ lwT, w.before args s = true) (hg : ∀ c ∈ flatC (Jvm.Cond.and given_1 narrow_1), c.before args s = true) : ∃ q v : Nat, strA s.heap.size s 1 q v := by
  obtain ⟨q, v, h1, h2, h3⟩ := one_str (n := 0) (own1 := 0) (o1 := "BelfryHouse$Reader") (i1 := 95) (o2 := "BelfryHouseModel") (i2 := 224) (tx := "not") (cs := chs 1) (args := args) (s := s) (by decide) (hg _ (by decide +kernel)) (hg _ (by decide +kernel)) (hg _ (by decide +kernel)) (hg _ (by decide +kernel)) (fun j hj => by
    have hj : j < 3 := hj
    match j, hj with
    | 0, _ => exact hg _ (by decide +kernel)
    | 1, _ => exact hg _ (by decide +kernel)
    | 2, _ => exact hg _ (by decide +kernel)) (hg _ (by decide +kernel)) (hts _ (tbw_mem (j := 3107) (by decide +kernel))) (hts _ (tbw_mem (j := 6209) (by decide +kernel)))
  refine ⟨q, v, fun own idx tx hw hs => ?_, h3⟩
  have htx : tx = "not" := by
    have : strs[1]? = some "not" := rfl
    rw [this] at hs
    exact (Option.some.inj hs).symm
  subst htx
  have h4 := sref_of hw
  have h5 : (own, idx) = ("BelfryHouse$Reader", 95) ∨ (own, idx) = ("BelfryHouseModel", 224) := by
    simp at h4 ⊢
    exact h4
  rcases h5 with h5 | h5 <;> cases h5
  · exact h1
  · exact h2
set_option maxRecDepth 100000 in
theorem str_2 {args : Array Value} {s : State} (hts : ∀ w ∈ lwT, w.before args s = true) (hg : ∀ c ∈ flatC (Jvm.Cond.and given_1 narrow_1), c.before args s = true) : ∃ q v : Nat, strA s.heap.size s 2 q v := by
  obtain ⟨q, v, h1, h2, h3⟩ := one_str (n := 0) (own1 := 0) (o1 := "BelfryHouse$Reader") (i1 := 117) (o2 := "BelfryHouseModel") (i2 := 232) (tx := "at") (cs := chs 2) (args := args) (s := s) (by decide) (hg _ (by decide +kernel)) (hg _ (by decide +kernel)) (hg _ (by decide +kernel)) (hg _ (by decide +kernel)) (fun j hj => by
    have hj : j < 2 := hj
    match j, hj with
    | 0, _ => exact hg _ (by decide +kernel)
    | 1, _ => exact hg _ (by decide +kernel)) (hg _ (by decide +kernel)) (hts _ (tbw_mem (j := 3120) (by decide +kernel))) (hts _ (tbw_mem (j := 6218) (by decide +kernel)))
  refine ⟨q, v, fun own idx tx hw hs => ?_, h3⟩
  have htx : tx = "at" := by
    have : strs[2]? = some "at" := rfl
    rw [this] at hs
    exact (Option.some.inj hs).symm
  subst htx
  have h4 := sref_of hw
  have h5 : (own, idx) = ("BelfryHouse$Reader", 117) ∨ (own, idx) = ("BelfryHouseModel", 232) := by
    simp at h4 ⊢
    exact h4
  rcases h5 with h5 | h5 <;> cases h5
  · exact h1
  · exact h2
set_option maxRecDepth 100000 in
theorem str_3 {args : Array Value} {s : State} (hts : ∀ w ∈ lwT, w.before args s = true) (hg : ∀ c ∈ flatC (Jvm.Cond.and given_1 narrow_1), c.before args s = true) : ∃ q v : Nat, strA s.heap.size s 3 q v := by
  obtain ⟨q, v, h1, h2, h3⟩ := one_str (n := 0) (own1 := 0) (o1 := "BelfryHouse$Reader") (i1 := 119) (o2 := "BelfryHouseModel") (i2 := 234) (tx := "before") (cs := chs 3) (args := args) (s := s) (by decide) (hg _ (by decide +kernel)) (hg _ (by decide +kernel)) (hg _ (by decide +kernel)) (hg _ (by decide +kernel)) (fun j hj => by
    have hj : j < 6 := hj
    match j, hj with
    | 0, _ => exact hg _ (by decide +kernel)
    | 1, _ => exact hg _ (by decide +kernel)
    | 2, _ => exact hg _ (by decide +kernel)
    | 3, _ => exact hg _ (by decide +kernel)
    | 4, _ => exact hg _ (by decide +kernel)
    | 5, _ => exact hg _ (by decide +kernel)) (hg _ (by decide +kernel)) (hts _ (tbw_mem (j := 3125) (by decide +kernel))) (hts _ (tbw_mem (j := 6219) (by decide +kernel)))
  refine ⟨q, v, fun own idx tx hw hs => ?_, h3⟩
  have htx : tx = "before" := by
    have : strs[3]? = some "before" := rfl
    rw [this] at hs
    exact (Option.some.inj hs).symm
  subst htx
  have h4 := sref_of hw
  have h5 : (own, idx) = ("BelfryHouse$Reader", 119) ∨ (own, idx) = ("BelfryHouseModel", 234) := by
    simp at h4 ⊢
    exact h4
  rcases h5 with h5 | h5 <;> cases h5
  · exact h1
  · exact h2
set_option maxRecDepth 100000 in
theorem str_4 {args : Array Value} {s : State} (hts : ∀ w ∈ lwT, w.before args s = true) (hg : ∀ c ∈ flatC (Jvm.Cond.and given_1 narrow_1), c.before args s = true) : ∃ q v : Nat, strA s.heap.size s 4 q v := by
  obtain ⟨q, v, h1, h2, h3⟩ := one_str (n := 0) (own1 := 0) (o1 := "BelfryHouse$Reader") (i1 := 101) (o2 := "BelfryHouseModel") (i2 := 238) (tx := "even") (cs := chs 4) (args := args) (s := s) (by decide) (hg _ (by decide +kernel)) (hg _ (by decide +kernel)) (hg _ (by decide +kernel)) (hg _ (by decide +kernel)) (fun j hj => by
    have hj : j < 4 := hj
    match j, hj with
    | 0, _ => exact hg _ (by decide +kernel)
    | 1, _ => exact hg _ (by decide +kernel)
    | 2, _ => exact hg _ (by decide +kernel)
    | 3, _ => exact hg _ (by decide +kernel)) (hg _ (by decide +kernel)) (hts _ (tbw_mem (j := 3126) (by decide +kernel))) (hts _ (tbw_mem (j := 6221) (by decide +kernel)))
  refine ⟨q, v, fun own idx tx hw hs => ?_, h3⟩
  have htx : tx = "even" := by
    have : strs[4]? = some "even" := rfl
    rw [this] at hs
    exact (Option.some.inj hs).symm
  subst htx
  have h4 := sref_of hw
  have h5 : (own, idx) = ("BelfryHouse$Reader", 101) ∨ (own, idx) = ("BelfryHouseModel", 238) := by
    simp at h4 ⊢
    exact h4
  rcases h5 with h5 | h5 <;> cases h5
  · exact h1
  · exact h2
set_option maxRecDepth 100000 in
theorem str_5 {args : Array Value} {s : State} (hts : ∀ w ∈ lwT, w.before args s = true) (hg : ∀ c ∈ flatC (Jvm.Cond.and given_1 narrow_1), c.before args s = true) : ∃ q v : Nat, strA s.heap.size s 5 q v := by
  obtain ⟨q, v, h1, h2, h3⟩ := one_str (n := 0) (own1 := 0) (o1 := "BelfryHouse$Reader") (i1 := 107) (o2 := "BelfryHouseModel") (i2 := 240) (tx := "round") (cs := chs 5) (args := args) (s := s) (by decide) (hg _ (by decide +kernel)) (hg _ (by decide +kernel)) (hg _ (by decide +kernel)) (hg _ (by decide +kernel)) (fun j hj => by
    have hj : j < 5 := hj
    match j, hj with
    | 0, _ => exact hg _ (by decide +kernel)
    | 1, _ => exact hg _ (by decide +kernel)
    | 2, _ => exact hg _ (by decide +kernel)
    | 3, _ => exact hg _ (by decide +kernel)
    | 4, _ => exact hg _ (by decide +kernel)) (hg _ (by decide +kernel)) (hts _ (tbw_mem (j := 3127) (by decide +kernel))) (hts _ (tbw_mem (j := 6222) (by decide +kernel)))
  refine ⟨q, v, fun own idx tx hw hs => ?_, h3⟩
  have htx : tx = "round" := by
    have : strs[5]? = some "round" := rfl
    rw [this] at hs
    exact (Option.some.inj hs).symm
  subst htx
  have h4 := sref_of hw
  have h5 : (own, idx) = ("BelfryHouse$Reader", 107) ∨ (own, idx) = ("BelfryHouseModel", 240) := by
    simp at h4 ⊢
    exact h4
  rcases h5 with h5 | h5 <;> cases h5
  · exact h1
  · exact h2
set_option maxRecDepth 100000 in
theorem str_6 {args : Array Value} {s : State} (hts : ∀ w ∈ lwT, w.before args s = true) (hg : ∀ c ∈ flatC (Jvm.Cond.and given_1 narrow_1), c.before args s = true) : ∃ q v : Nat, strA s.heap.size s 6 q v := by
  obtain ⟨q, v, h1, h2, h3⟩ := one_str (n := 0) (own1 := 0) (o1 := "BelfryHouse$Reader") (i1 := 109) (o2 := "BelfryHouseModel") (i2 := 242) (tx := "called") (cs := chs 6) (args := args) (s := s) (by decide) (hg _ (by decide +kernel)) (hg _ (by decide +kernel)) (hg _ (by decide +kernel)) (hg _ (by decide +kernel)) (fun j hj => by
    have hj : j < 6 := hj
    match j, hj with
    | 0, _ => exact hg _ (by decide +kernel)
    | 1, _ => exact hg _ (by decide +kernel)
    | 2, _ => exact hg _ (by decide +kernel)
    | 3, _ => exact hg _ (by decide +kernel)
    | 4, _ => exact hg _ (by decide +kernel)
    | 5, _ => exact hg _ (by decide +kernel)) (hg _ (by decide +kernel)) (hts _ (tbw_mem (j := 3128) (by decide +kernel))) (hts _ (tbw_mem (j := 6223) (by decide +kernel)))
  refine ⟨q, v, fun own idx tx hw hs => ?_, h3⟩
  have htx : tx = "called" := by
    have : strs[6]? = some "called" := rfl
    rw [this] at hs
    exact (Option.some.inj hs).symm
  subst htx
  have h4 := sref_of hw
  have h5 : (own, idx) = ("BelfryHouse$Reader", 109) ∨ (own, idx) = ("BelfryHouseModel", 242) := by
    simp at h4 ⊢
    exact h4
  rcases h5 with h5 | h5 <;> cases h5
  · exact h1
  · exact h2
set_option maxRecDepth 100000 in
theorem str_7 {args : Array Value} {s : State} (hts : ∀ w ∈ lwT, w.before args s = true) (hg : ∀ c ∈ flatC (Jvm.Cond.and given_1 narrow_1), c.before args s = true) : ∃ q v : Nat, strA s.heap.size s 7 q v := by
  obtain ⟨q, v, h1, h2, h3⟩ := one_str (n := 0) (own1 := 0) (o1 := "BelfryHouse$Reader") (i1 := 111) (o2 := "BelfryHouseModel") (i2 := 236) (tx := "every") (cs := chs 7) (args := args) (s := s) (by decide) (hg _ (by decide +kernel)) (hg _ (by decide +kernel)) (hg _ (by decide +kernel)) (hg _ (by decide +kernel)) (fun j hj => by
    have hj : j < 5 := hj
    match j, hj with
    | 0, _ => exact hg _ (by decide +kernel)
    | 1, _ => exact hg _ (by decide +kernel)
    | 2, _ => exact hg _ (by decide +kernel)
    | 3, _ => exact hg _ (by decide +kernel)
    | 4, _ => exact hg _ (by decide +kernel)) (hg _ (by decide +kernel)) (hts _ (tbw_mem (j := 3129) (by decide +kernel))) (hts _ (tbw_mem (j := 6220) (by decide +kernel)))
  refine ⟨q, v, fun own idx tx hw hs => ?_, h3⟩
  have htx : tx = "every" := by
    have : strs[7]? = some "every" := rfl
    rw [this] at hs
    exact (Option.some.inj hs).symm
  subst htx
  have h4 := sref_of hw
  have h5 : (own, idx) = ("BelfryHouse$Reader", 111) ∨ (own, idx) = ("BelfryHouseModel", 236) := by
    simp at h4 ⊢
    exact h4
  rcases h5 with h5 | h5 <;> cases h5
  · exact h1
  · exact h2
set_option maxRecDepth 100000 in
theorem str_8 {args : Array Value} {s : State} (hts : ∀ w ∈ lwT, w.before args s = true) (hg : ∀ c ∈ flatC (Jvm.Cond.and given_1 narrow_1), c.before args s = true) : ∃ q v : Nat, strA s.heap.size s 8 q v := by
  obtain ⟨q, v, h1, h2, h3⟩ := one_str (n := 0) (own1 := 0) (o1 := "BelfryHouse$Reader") (i1 := 80) (o2 := "BelfryHouseModel") (i2 := 279) (tx := "and") (cs := chs 8) (args := args) (s := s) (by decide) (hg _ (by decide +kernel)) (hg _ (by decide +kernel)) (hg _ (by decide +kernel)) (hg _ (by decide +kernel)) (fun j hj => by
    have hj : j < 3 := hj
    match j, hj with
    | 0, _ => exact hg _ (by decide +kernel)
    | 1, _ => exact hg _ (by decide +kernel)
    | 2, _ => exact hg _ (by decide +kernel)) (hg _ (by decide +kernel)) (hts _ (tbw_mem (j := 3130) (by decide +kernel))) (hts _ (tbw_mem (j := 6224) (by decide +kernel)))
  refine ⟨q, v, fun own idx tx hw hs => ?_, h3⟩
  have htx : tx = "and" := by
    have : strs[8]? = some "and" := rfl
    rw [this] at hs
    exact (Option.some.inj hs).symm
  subst htx
  have h4 := sref_of hw
  have h5 : (own, idx) = ("BelfryHouse$Reader", 80) ∨ (own, idx) = ("BelfryHouseModel", 279) := by
    simp at h4 ⊢
    exact h4
  rcases h5 with h5 | h5 <;> cases h5
  · exact h1
  · exact h2
set_option maxRecDepth 100000 in
theorem str_9 {args : Array Value} {s : State} (hts : ∀ w ∈ lwT, w.before args s = true) (hg : ∀ c ∈ flatC (Jvm.Cond.and given_1 narrow_1), c.before args s = true) : ∃ q v : Nat, strA s.heap.size s 9 q v := by
  obtain ⟨q, v, h1, h2, h3⟩ := one_str (n := 0) (own1 := 0) (o1 := "BelfryHouse$Reader") (i1 := 129) (o2 := "BelfryHouseModel") (i2 := 244) (tx := "cross") (cs := chs 9) (args := args) (s := s) (by decide) (hg _ (by decide +kernel)) (hg _ (by decide +kernel)) (hg _ (by decide +kernel)) (hg _ (by decide +kernel)) (fun j hj => by
    have hj : j < 5 := hj
    match j, hj with
    | 0, _ => exact hg _ (by decide +kernel)
    | 1, _ => exact hg _ (by decide +kernel)
    | 2, _ => exact hg _ (by decide +kernel)
    | 3, _ => exact hg _ (by decide +kernel)
    | 4, _ => exact hg _ (by decide +kernel)) (hg _ (by decide +kernel)) (hts _ (tbw_mem (j := 3136) (by decide +kernel))) (hts _ (tbw_mem (j := 6229) (by decide +kernel)))
  refine ⟨q, v, fun own idx tx hw hs => ?_, h3⟩
  have htx : tx = "cross" := by
    have : strs[9]? = some "cross" := rfl
    rw [this] at hs
    exact (Option.some.inj hs).symm
  subst htx
  have h4 := sref_of hw
  have h5 : (own, idx) = ("BelfryHouse$Reader", 129) ∨ (own, idx) = ("BelfryHouseModel", 244) := by
    simp at h4 ⊢
    exact h4
  rcases h5 with h5 | h5 <;> cases h5
  · exact h1
  · exact h2
set_option maxRecDepth 100000 in
theorem str_10 {args : Array Value} {s : State} (hts : ∀ w ∈ lwT, w.before args s = true) (hg : ∀ c ∈ flatC (Jvm.Cond.and given_1 narrow_1), c.before args s = true) : ∃ q v : Nat, strA s.heap.size s 10 q v := by
  obtain ⟨q, v, h1, h2, h3⟩ := one_str (n := 0) (own1 := 0) (o1 := "BelfryHouse$Reader") (i1 := 135) (o2 := "BelfryHouseModel") (i2 := 246) (tx := "places") (cs := chs 10) (args := args) (s := s) (by decide) (hg _ (by decide +kernel)) (hg _ (by decide +kernel)) (hg _ (by decide +kernel)) (hg _ (by decide +kernel)) (fun j hj => by
    have hj : j < 6 := hj
    match j, hj with
    | 0, _ => exact hg _ (by decide +kernel)
    | 1, _ => exact hg _ (by decide +kernel)
    | 2, _ => exact hg _ (by decide +kernel)
    | 3, _ => exact hg _ (by decide +kernel)
    | 4, _ => exact hg _ (by decide +kernel)
    | 5, _ => exact hg _ (by decide +kernel)) (hg _ (by decide +kernel)) (hts _ (tbw_mem (j := 3143) (by decide +kernel))) (hts _ (tbw_mem (j := 6230) (by decide +kernel)))
  refine ⟨q, v, fun own idx tx hw hs => ?_, h3⟩
  have htx : tx = "places" := by
    have : strs[10]? = some "places" := rfl
    rw [this] at hs
    exact (Option.some.inj hs).symm
  subst htx
  have h4 := sref_of hw
  have h5 : (own, idx) = ("BelfryHouse$Reader", 135) ∨ (own, idx) = ("BelfryHouseModel", 246) := by
    simp at h4 ⊢
    exact h4
  rcases h5 with h5 | h5 <;> cases h5
  · exact h1
  · exact h2
set_option maxRecDepth 100000 in
theorem str_11 {args : Array Value} {s : State} (hts : ∀ w ∈ lwT, w.before args s = true) (hg : ∀ c ∈ flatC (Jvm.Cond.and given_1 narrow_1), c.before args s = true) : ∃ q v : Nat, strA s.heap.size s 11 q v := by
  obtain ⟨q, v, h1, h2, h3⟩ := one_str (n := 0) (own1 := 0) (o1 := "BelfryHouse$Reader") (i1 := 140) (o2 := "BelfryHouseModel") (i2 := 248) (tx := "jump") (cs := chs 11) (args := args) (s := s) (by decide) (hg _ (by decide +kernel)) (hg _ (by decide +kernel)) (hg _ (by decide +kernel)) (hg _ (by decide +kernel)) (fun j hj => by
    have hj : j < 4 := hj
    match j, hj with
    | 0, _ => exact hg _ (by decide +kernel)
    | 1, _ => exact hg _ (by decide +kernel)
    | 2, _ => exact hg _ (by decide +kernel)
    | 3, _ => exact hg _ (by decide +kernel)) (hg _ (by decide +kernel)) (hts _ (tbw_mem (j := 3148) (by decide +kernel))) (hts _ (tbw_mem (j := 6231) (by decide +kernel)))
  refine ⟨q, v, fun own idx tx hw hs => ?_, h3⟩
  have htx : tx = "jump" := by
    have : strs[11]? = some "jump" := rfl
    rw [this] at hs
    exact (Option.some.inj hs).symm
  subst htx
  have h4 := sref_of hw
  have h5 : (own, idx) = ("BelfryHouse$Reader", 140) ∨ (own, idx) = ("BelfryHouseModel", 248) := by
    simp at h4 ⊢
    exact h4
  rcases h5 with h5 | h5 <;> cases h5
  · exact h1
  · exact h2
set_option maxRecDepth 100000 in
theorem str_12 {args : Array Value} {s : State} (hts : ∀ w ∈ lwT, w.before args s = true) (hg : ∀ c ∈ flatC (Jvm.Cond.and given_1 narrow_1), c.before args s = true) : ∃ q v : Nat, strA s.heap.size s 12 q v := by
  obtain ⟨q, v, h1, h2, h3⟩ := one_str (n := 0) (own1 := 0) (o1 := "BelfryHouse$Reader") (i1 := 145) (o2 := "BelfryHouseModel") (i2 := 250) (tx := "turn") (cs := chs 12) (args := args) (s := s) (by decide) (hg _ (by decide +kernel)) (hg _ (by decide +kernel)) (hg _ (by decide +kernel)) (hg _ (by decide +kernel)) (fun j hj => by
    have hj : j < 4 := hj
    match j, hj with
    | 0, _ => exact hg _ (by decide +kernel)
    | 1, _ => exact hg _ (by decide +kernel)
    | 2, _ => exact hg _ (by decide +kernel)
    | 3, _ => exact hg _ (by decide +kernel)) (hg _ (by decide +kernel)) (hts _ (tbw_mem (j := 3159) (by decide +kernel))) (hts _ (tbw_mem (j := 6232) (by decide +kernel)))
  refine ⟨q, v, fun own idx tx hw hs => ?_, h3⟩
  have htx : tx = "turn" := by
    have : strs[12]? = some "turn" := rfl
    rw [this] at hs
    exact (Option.some.inj hs).symm
  subst htx
  have h4 := sref_of hw
  have h5 : (own, idx) = ("BelfryHouse$Reader", 145) ∨ (own, idx) = ("BelfryHouseModel", 250) := by
    simp at h4 ⊢
    exact h4
  rcases h5 with h5 | h5 <;> cases h5
  · exact h1
  · exact h2
set_option maxRecDepth 100000 in
theorem str_13 {args : Array Value} {s : State} (hts : ∀ w ∈ lwT, w.before args s = true) (hg : ∀ c ∈ flatC (Jvm.Cond.and given_1 narrow_1), c.before args s = true) : ∃ q v : Nat, strA s.heap.size s 13 q v := by
  obtain ⟨q, v, h1, h2, h3⟩ := one_str (n := 0) (own1 := 0) (o1 := "BelfryHouse$Reader") (i1 := 150) (o2 := "BelfryHouseModel") (i2 := 252) (tx := "hold") (cs := chs 13) (args := args) (s := s) (by decide) (hg _ (by decide +kernel)) (hg _ (by decide +kernel)) (hg _ (by decide +kernel)) (hg _ (by decide +kernel)) (fun j hj => by
    have hj : j < 4 := hj
    match j, hj with
    | 0, _ => exact hg _ (by decide +kernel)
    | 1, _ => exact hg _ (by decide +kernel)
    | 2, _ => exact hg _ (by decide +kernel)
    | 3, _ => exact hg _ (by decide +kernel)) (hg _ (by decide +kernel)) (hts _ (tbw_mem (j := 3167) (by decide +kernel))) (hts _ (tbw_mem (j := 6233) (by decide +kernel)))
  refine ⟨q, v, fun own idx tx hw hs => ?_, h3⟩
  have htx : tx = "hold" := by
    have : strs[13]? = some "hold" := rfl
    rw [this] at hs
    exact (Option.some.inj hs).symm
  subst htx
  have h4 := sref_of hw
  have h5 : (own, idx) = ("BelfryHouse$Reader", 150) ∨ (own, idx) = ("BelfryHouseModel", 252) := by
    simp at h4 ⊢
    exact h4
  rcases h5 with h5 | h5 <;> cases h5
  · exact h1
  · exact h2
set_option maxRecDepth 100000 in
theorem str_14 {args : Array Value} {s : State} (hts : ∀ w ∈ lwT, w.before args s = true) (hg : ∀ c ∈ flatC (Jvm.Cond.and given_1 narrow_1), c.before args s = true) : ∃ q v : Nat, strA s.heap.size s 14 q v := by
  obtain ⟨q, v, h1, h2, h3⟩ := one_str (n := 0) (own1 := 0) (o1 := "BelfryHouse$Reader") (i1 := 152) (o2 := "BelfryHouseModel") (i2 := 254) (tx := "twice") (cs := chs 14) (args := args) (s := s) (by decide) (hg _ (by decide +kernel)) (hg _ (by decide +kernel)) (hg _ (by decide +kernel)) (hg _ (by decide +kernel)) (fun j hj => by
    have hj : j < 5 := hj
    match j, hj with
    | 0, _ => exact hg _ (by decide +kernel)
    | 1, _ => exact hg _ (by decide +kernel)
    | 2, _ => exact hg _ (by decide +kernel)
    | 3, _ => exact hg _ (by decide +kernel)
    | 4, _ => exact hg _ (by decide +kernel)) (hg _ (by decide +kernel)) (hts _ (tbw_mem (j := 3168) (by decide +kernel))) (hts _ (tbw_mem (j := 6234) (by decide +kernel)))
  refine ⟨q, v, fun own idx tx hw hs => ?_, h3⟩
  have htx : tx = "twice" := by
    have : strs[14]? = some "twice" := rfl
    rw [this] at hs
    exact (Option.some.inj hs).symm
  subst htx
  have h4 := sref_of hw
  have h5 : (own, idx) = ("BelfryHouse$Reader", 152) ∨ (own, idx) = ("BelfryHouseModel", 254) := by
    simp at h4 ⊢
    exact h4
  rcases h5 with h5 | h5 <;> cases h5
  · exact h1
  · exact h2
set_option maxRecDepth 100000 in
theorem str_15 {args : Array Value} {s : State} (hts : ∀ w ∈ lwT, w.before args s = true) (hg : ∀ c ∈ flatC (Jvm.Cond.and given_1 narrow_1), c.before args s = true) : ∃ q v : Nat, strA s.heap.size s 15 q v := by
  obtain ⟨q, v, h1, h2, h3⟩ := one_str (n := 0) (own1 := 0) (o1 := "BelfryHouse$Reader") (i1 := 157) (o2 := "BelfryHouseModel") (i2 := 256) (tx := "undo") (cs := chs 15) (args := args) (s := s) (by decide) (hg _ (by decide +kernel)) (hg _ (by decide +kernel)) (hg _ (by decide +kernel)) (hg _ (by decide +kernel)) (fun j hj => by
    have hj : j < 4 := hj
    match j, hj with
    | 0, _ => exact hg _ (by decide +kernel)
    | 1, _ => exact hg _ (by decide +kernel)
    | 2, _ => exact hg _ (by decide +kernel)
    | 3, _ => exact hg _ (by decide +kernel)) (hg _ (by decide +kernel)) (hts _ (tbw_mem (j := 3170) (by decide +kernel))) (hts _ (tbw_mem (j := 6235) (by decide +kernel)))
  refine ⟨q, v, fun own idx tx hw hs => ?_, h3⟩
  have htx : tx = "undo" := by
    have : strs[15]? = some "undo" := rfl
    rw [this] at hs
    exact (Option.some.inj hs).symm
  subst htx
  have h4 := sref_of hw
  have h5 : (own, idx) = ("BelfryHouse$Reader", 157) ∨ (own, idx) = ("BelfryHouseModel", 256) := by
    simp at h4 ⊢
    exact h4
  rcases h5 with h5 | h5 <;> cases h5
  · exact h1
  · exact h2
theorem str_all {args : Array Value} {s : State} (hts : ∀ w ∈ lwT, w.before args s = true) (hg : ∀ c ∈ flatC (Jvm.Cond.and given_1 narrow_1), c.before args s = true) : ∃ K V : Nat → Nat, ∀ k, k < 16 → strA s.heap.size s k (K k) (V k) := by
  have h : ∀ k, ∃ q : Nat × Nat, k < 16 → strA s.heap.size s k q.1 q.2 := by
    intro k
    by_cases hk : k < 16
    · have h1 : ∃ q v : Nat, strA s.heap.size s k q v := by
        match k, hk with
        | 0, _ => exact str_0 hts hg
        | 1, _ => exact str_1 hts hg
        | 2, _ => exact str_2 hts hg
        | 3, _ => exact str_3 hts hg
        | 4, _ => exact str_4 hts hg
        | 5, _ => exact str_5 hts hg
        | 6, _ => exact str_6 hts hg
        | 7, _ => exact str_7 hts hg
        | 8, _ => exact str_8 hts hg
        | 9, _ => exact str_9 hts hg
        | 10, _ => exact str_10 hts hg
        | 11, _ => exact str_11 hts hg
        | 12, _ => exact str_12 hts hg
        | 13, _ => exact str_13 hts hg
        | 14, _ => exact str_14 hts hg
        | 15, _ => exact str_15 hts hg
        | n + 16, h => exact absurd h (by omega)
      obtain ⟨q, v, h2⟩ := h1
      exact ⟨(q, v), fun _ => h2⟩
    · exact ⟨(0, 0), fun h => absurd h hk⟩
  exact ⟨fun k => (Classical.choose (h k)).1, fun k => (Classical.choose (h k)).2, fun k hk => Classical.choose_spec (h k) hk⟩
theorem stat_all {args : Array Value} {s : State} (hts0 : ∀ w ∈ lw_tbl, w.before args s = true) (hg : ∀ c ∈ flatC (Jvm.Cond.and given_1 narrow_1), c.before args s = true) : ∃ (t1 : Nat) (fm : Value), (fm = .null ∨ ∃ t, fm = .ref t) ∧ va_Z RX7 "FACTORIALS" "[I" (.ref t1) (fun x => s.heap.size ≤ x) s s.heap ∧ va_T .int t1 9 (fun j => .int (facs.getD j 0)) (fun x => s.heap.size ≤ x) s s.heap ∧ va_Z "java/lang/String" "COMPACT_STRINGS" "Z" (.int 1) (fun x => s.heap.size ≤ x) s s.heap ∧ va_Z "jdk/internal/util/Preconditions" "SIOOBE_FORMATTER" "Ljava/util/function/BiFunction;" fm (fun x => s.heap.size ≤ x) s s.heap := by
  have hA : ∀ a : Nat, a < s.heap.size → ¬ (fun x => s.heap.size ≤ x) a := fun a h1 h2 => by have h3 : s.heap.size ≤ a := h2; omega
  have tv : ∀ {t : Term} {v : Value}, (∃ x : Int32, v = .int x) → ∀ (t2 : Term), t2.eval args s none [] s = some v → (Cond.eq t t2).before args s = true → t.eval args s none [] s = some v := by
    intro t v _ t2 h2 h
    obtain ⟨y, e1, e2⟩ := Cond.eq_one (show (Cond.eq t t2).holds args s none s [] = true from h)
    rw [e1, ← e2, h2]
  obtain ⟨t1, e1, hT⟩ := va_Tof (args := args) (s := s) (tm := .static "BelfryHouse$Rows" "FACTORIALS" "[I") (ty := .int) (N := 9) (f := fun j => .int (facs.getD j 0)) (A := fun x => s.heap.size ≤ x) (by decide) (hg _ (by decide +kernel)) (tv ⟨_, rfl⟩ (.int 9) rfl (hg _ (by decide +kernel))) (fun j hj => by
    match j, hj with
    | 0, _ => exact tv ⟨_, rfl⟩ (.int 1) rfl (hg _ (by decide +kernel))
    | 1, _ => exact tv ⟨_, rfl⟩ (.int 1) rfl (hg _ (by decide +kernel))
    | 2, _ => exact tv ⟨_, rfl⟩ (.int 2) rfl (hg _ (by decide +kernel))
    | 3, _ => exact tv ⟨_, rfl⟩ (.int 6) rfl (hg _ (by decide +kernel))
    | 4, _ => exact tv ⟨_, rfl⟩ (.int 24) rfl (hg _ (by decide +kernel))
    | 5, _ => exact tv ⟨_, rfl⟩ (.int 120) rfl (hg _ (by decide +kernel))
    | 6, _ => exact tv ⟨_, rfl⟩ (.int 720) rfl (hg _ (by decide +kernel))
    | 7, _ => exact tv ⟨_, rfl⟩ (.int 5040) rfl (hg _ (by decide +kernel))
    | 8, _ => exact tv ⟨_, rfl⟩ (.int 40320) rfl (hg _ (by decide +kernel))) hA
  have hC := va_Zof (args := args) (s := s) (C := "java/lang/String") (n := "COMPACT_STRINGS") (d := "Z") (v := .int 1) (A := fun x => s.heap.size ≤ x) (hts0 _ (tb0_mem (j := 3064) (by decide +kernel))) (hts0 _ (tb0_mem (j := 1016) (by decide +kernel))) (tv ⟨_, rfl⟩ (.int 1) rfl (hg _ (by decide +kernel))) hA
  have hF := va_Zref (args := args) (s := s) (C := "BelfryHouse$Rows") (n := "FACTORIALS") (d := "[I") (t := t1) (A := fun x => s.heap.size ≤ x) (hts0 _ (tb0_mem (j := 2169) (by decide +kernel))) (hts0 _ (tb0_mem (j := 1008) (by decide +kernel))) e1 hA
  have hQ := va_Zqof (args := args) (s := s) (C := "jdk/internal/util/Preconditions") (n := "SIOOBE_FORMATTER") (d := "Ljava/util/function/BiFunction;") (A := fun x => s.heap.size ≤ x) (hts0 _ (tb0_mem (j := 3080) (by decide +kernel))) (hts0 _ (tb0_mem (j := 1018) (by decide +kernel))) (hg _ (by decide +kernel)) hA
  rcases hQ with hQ | ⟨t, hQ⟩
  · exact ⟨t1, .null, Or.inl rfl, hF, hT, hC, hQ⟩
  · exact ⟨t1, .ref t, Or.inr ⟨t, rfl⟩, hF, hT, hC, hQ⟩
theorem arr_prim {args : Array Value} {s : State} {ty : FieldType} (hp : ty = .int ∨ ty = .byte ∨ ty = .boolean ∨ ty = .long ∨ ty = .double) (h : (Cond.arrayClass ty).before args s = true) : ∃ cA : ClassId, ArrOfT s cA ty ∧ va_RA s cA ty := by
  obtain ⟨cA, kA, comp, h1, h2, h3⟩ := Cond.arrayClass_spec (show (Cond.arrayClass ty).holds args s none s [] = true from h)
  refine ⟨cA, fun n z => ⟨(fun k h => by cases h), kA, h2, comp, h3⟩, ?_⟩
  rcases hp with rfl | rfl | rfl | rfl | rfl <;> exact h1
theorem arr_obj {args : Array Value} {s : State} {C : String} (h : (Cond.arrayOver (.object C)).before args s = true) : ∃ cA : ClassId, ArrOfT s cA (.object C) ∧ va_RA s cA (.object C) := by
  obtain ⟨comp, cA, kA, h1, h2, h3, h4, h5⟩ := Cond.arrayOver_spec (show (Cond.arrayOver (.object C)).holds args s none s [] = true from h)
  exact ⟨cA, fun n z => ⟨(fun k h => by cases h), kA, h3, comp, h4⟩, kA, comp, h3, h4, h1, h5⟩
theorem arr_arr {args : Array Value} {s : State} (h : (Cond.arrayOver (.array .long)).before args s = true) : ∃ cA : ClassId, ArrOfT s cA (.array .long) ∧ va_RA s cA (.array .long) := by
  obtain ⟨comp, cA, kA, h1, h2, h3, h4⟩ := Cond.arrayOver_specA (show (Cond.arrayOver (.array .long)).holds args s none s [] = true from h)
  exact ⟨cA, fun n z => ⟨(fun k h => by cases h), kA, h2, comp, h3⟩, h4⟩
theorem K_all {args : Array Value} {s : State} (hts : ∀ w ∈ lwT, w.before args s = true) : ∃ (D : va_G) (aC : Nat → ClassId), va_K D vwCl (tyL aC) s := by
  have hk : ∀ k : Nat, ∃ d : ClassId × (Nat → Nat), ∀ q : vw_C, vwCl[k]? = some q → u_Kn s q.1 q.2.1 q.2.2 d.1 d.2 := by
    intro k
    match k with
    | 0 =>
      obtain ⟨c, i, h⟩ := u_known (C := RX0) (T := TX0) (N := 11) (n := 11) hts (cls_ok 0 _ rfl).1 (hts _ (tbw_mem (j := 1142) (by decide +kernel)))
      exact ⟨(c, i), fun q hq => by cases (show some (RX0, TX0, 11) = some q from hq); exact h⟩
    | 1 =>
      obtain ⟨c, i, h⟩ := u_known (C := RX1) (T := TX1) (N := 6) (n := 6) hts (cls_ok 1 _ rfl).1 (hts _ (tbw_mem (j := 1092) (by decide +kernel)))
      exact ⟨(c, i), fun q hq => by cases (show some (RX1, TX1, 6) = some q from hq); exact h⟩
    | 2 =>
      obtain ⟨c, i, h⟩ := u_known (C := RX2) (T := TX2) (N := 4) (n := 4) hts (cls_ok 2 _ rfl).1 (hts _ (tbw_mem (j := 1120) (by decide +kernel)))
      exact ⟨(c, i), fun q hq => by cases (show some (RX2, TX2, 4) = some q from hq); exact h⟩
    | 3 =>
      obtain ⟨c, i, h⟩ := u_known (C := RX3) (T := TX3) (N := 3) (n := 3) hts (cls_ok 3 _ rfl).1 (hts _ (tbw_mem (j := 2191) (by decide +kernel)))
      exact ⟨(c, i), fun q hq => by cases (show some (RX3, TX3, 3) = some q from hq); exact h⟩
    | 4 =>
      obtain ⟨c, i, h⟩ := u_known (C := RX4) (T := TX4) (N := 8) (n := 8) hts (cls_ok 4 _ rfl).1 (hts _ (tbw_mem (j := 2185) (by decide +kernel)))
      exact ⟨(c, i), fun q hq => by cases (show some (RX4, TX4, 8) = some q from hq); exact h⟩
    | 5 =>
      obtain ⟨c, i, h⟩ := u_known (C := RX6) (T := TX6) (N := 11) (n := 11) hts (cls_ok 5 _ rfl).1 (hts _ (tbw_mem (j := 1191) (by decide +kernel)))
      exact ⟨(c, i), fun q hq => by cases (show some (RX6, TX6, 11) = some q from hq); exact h⟩
    | 6 =>
      obtain ⟨c, i, h⟩ := u_known (C := RX8) (T := TX8) (N := 6) (n := 6) hts (cls_ok 6 _ rfl).1 (hts _ (tbw_mem (j := 3019) (by decide +kernel)))
      exact ⟨(c, i), fun q hq => by cases (show some (RX8, TX8, 6) = some q from hq); exact h⟩
    | 7 =>
      obtain ⟨c, i, h⟩ := u_known (C := RX9) (T := TX9) (N := 13) (n := 13) hts (cls_ok 7 _ rfl).1 (hts _ (tbw_mem (j := 1035) (by decide +kernel)))
      exact ⟨(c, i), fun q hq => by cases (show some (RX9, TX9, 13) = some q from hq); exact h⟩
    | 8 =>
      obtain ⟨c, i, h⟩ := u_known (C := RX10) (T := TX10) (N := 3) (n := 3) hts (cls_ok 8 _ rfl).1 (hts _ (tbw_mem (j := 2000) (by decide +kernel)))
      exact ⟨(c, i), fun q hq => by cases (show some (RX10, TX10, 3) = some q from hq); exact h⟩
    | 9 =>
      obtain ⟨c, i, h⟩ := u_known (C := RX11) (T := TX11) (N := 11) (n := 11) hts (cls_ok 9 _ rfl).1 (hts _ (tbw_mem (j := 1025) (by decide +kernel)))
      exact ⟨(c, i), fun q hq => by cases (show some (RX11, TX11, 11) = some q from hq); exact h⟩
    | 10 =>
      obtain ⟨c, i, h⟩ := u_known (C := RX12) (T := TX12) (N := 68) (n := 68) hts (cls_ok 10 _ rfl).1 (hts _ (tbw_mem (j := 5146) (by decide +kernel)))
      exact ⟨(c, i), fun q hq => by cases (show some (RX12, TX12, 68) = some q from hq); exact h⟩
    | n + 11 => exact ⟨(0, fun _ => 0), fun q h => by simp [vwCl] at h⟩
  have a0 := arr_prim (ty := .int) (by simp) (hts _ (tbw_mem (j := 1090) (by decide +kernel)))
  have a1 := arr_prim (ty := .byte) (by simp) (hts _ (tbw_mem (j := 1089) (by decide +kernel)))
  have a2 := arr_prim (ty := .boolean) (by simp) (hts _ (tbw_mem (j := 1118) (by decide +kernel)))
  have a3 := arr_prim (ty := .long) (by simp) (hts _ (tbw_mem (j := 1140) (by decide +kernel)))
  have a4 := arr_prim (ty := .double) (by simp) (hts _ (tbw_mem (j := 6121) (by decide +kernel)))
  have a5 := arr_obj (C := "BelfryHouse$Method") (hts _ (tbw_mem (j := 1033) (by decide +kernel)))
  have a6 := arr_obj (C := "BelfryHouse$Rule") (hts _ (tbw_mem (j := 2197) (by decide +kernel)))
  have a7 := arr_arr (hts _ (tbw_mem (j := 2006) (by decide +kernel)))
  obtain ⟨c0, h0⟩ := a0
  obtain ⟨c1, h1⟩ := a1
  obtain ⟨c2, h2⟩ := a2
  obtain ⟨c3, h3⟩ := a3
  obtain ⟨c4, h4⟩ := a4
  obtain ⟨c5, h5⟩ := a5
  obtain ⟨c6, h6⟩ := a6
  obtain ⟨c7, h7⟩ := a7
  refine ⟨(fun k => (Classical.choose (hk k)).1, fun k => (Classical.choose (hk k)).2), fun t => if t = 20 then c0 else if t = 21 then c1 else if t = 22 then c2 else if t = 23 then c3 else if t = 24 then c4 else if t = 25 then c5 else if t = 26 then c6 else c7, fun k q hq => Classical.choose_spec (hk k) q hq, fun k q hq => ?_⟩
  match k, hq with
  | 0, hq => cases hq; exact h0
  | 1, hq => cases hq; exact h1
  | 2, hq => cases hq; exact h2
  | 3, hq => cases hq; exact h3
  | 4, hq => cases hq; exact h4
  | 5, hq => cases hq; exact h5
  | 6, hq => cases hq; exact h6
  | 7, hq => cases hq; exact h7
  | n + 8, hq => simp [tyL] at hq
