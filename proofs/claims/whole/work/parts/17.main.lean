/-! THE TIE, proved: by induction on the steps -/
theorem popn_spec : ∀ (n : Nat) (st : List Value) (q : List Value × List Value), popn n st = some q → st = q.1.reverse ++ q.2 ∧ q.1.length = n := by
  intro n
  induction n with
  | zero => intro st q h; cases h; exact ⟨rfl, rfl⟩
  | succ n ih =>
    intro st q h
    cases st with
    | nil => cases h
    | cons v st =>
      unfold popn at h
      split at h
      · rename_i as r h1
        cases h
        obtain ⟨e1, e2⟩ := ih st _ h1
        refine ⟨?_, by simp [e2]⟩
        dsimp only at e1 ⊢
        rw [e1]
        simp
      · cases h
theorem pcall_spec {y d pc y2 na ci mx : Nat} {L : List (Option Value)} {st : List Value} {w : Wd} {qq : Cfg × (Option Value × Wd → Cfg)} (h : pcall y d pc L st w y2 na ci mx = .inr (.inr qq)) : ∃ (a : List Value × List Value) (d2 : Nat), popn na st = some a ∧ rcv w ci a.1 = true ∧ (lents a.1).length ≤ mx ∧ catS a.2 ≤ 8 ∧ d = d2 + 1 ∧ qq = ((y2, d2, 0, lentry mx a.1, [], w), fun v => (y, d2 + 1, pc + 3, L, v.1.toList ++ a.2, v.2)) := by
  unfold pcall at h
  split at h
  · cases h
  · rename_i a ha
    split at h
    · rename_i h1
      split at h
      · rename_i h2
        split at h
        · rename_i h3
          cases d with
          | zero => cases h
          | succ d2 => cases h; exact ⟨a, d2, ha, h1, h2, h3, rfl, rfl⟩
        · cases h
      · cases h
    · cases h
theorem pcall_nr {y d pc y2 na ci mx : Nat} {L : List (Option Value)} {st : List Value} {w : Wd} {r : Option Value × Wd} (h : pcall y d pc L st w y2 na ci mx = .inl (some r)) : False := by
  unfold pcall at h
  split at h
  · cases h
  · split at h
    · split at h
      · split at h
        · split at h <;> cases h
        · cases h
      · cases h
    · cases h
def isC (i : Instr) (idx : Nat) : Prop := i = .invokestatic idx ∨ i = .invokevirtual idx ∨ i = .invokespecial idx
theorem pbr_n {y d pc t : Nat} {L : List (Option Value)} {r : List Value} {w : Wd} {cd : Prop} {hc : Decidable cd} : ∃ c2, pbr y d pc L r w t cd hc = .inr (.inl c2) := by
  unfold pbr
  split <;> exact ⟨_, rfl⟩
theorem swk_n {x : Int32} {df : Nat} {k : Nat → Pl} (hk : ∀ t, ∃ c2, k t = .inr (.inl c2)) : ∀ sw, ∃ c2, swk x df sw k = .inr (.inl c2) := by
  intro sw
  induction sw with
  | nil => exact hk df
  | cons a r ih =>
    unfold swk
    split
    · exact hk _
    · exact ih
theorem pnat_n {y d pc cn : Nat} {L : List (Option Value)} {st : List Value} {w : Wd} : (∃ c2, pnat y d pc L st w cn = .inr (.inl c2)) ∨ pnat y d pc L st w cn = no := by
  unfold pnat dpos
  repeat' (first | (exact Or.inr rfl) | (exact Or.inl ⟨_, rfl⟩) | split)
set_option maxHeartbeats 4000000 in
theorem pln_call {y d pc n : Nat} {L : List (Option Value)} {st : List Value} {w : Wd} {i : Instr} {ax : List Nat} {sw : List (Int32 × Nat)} {qq : Cfg × (Option Value × Wd → Cfg)} (h : pln y d pc L st w i n ax sw = .inr (.inr qq)) : ∃ (idx knd y2 na ci mx : Nat), isC i idx ∧ ax = [knd, y2, na, ci, mx] ∧ pcall y d pc L st w y2 na ci mx = .inr (.inr qq) := by
  cases i
  case invokestatic idx =>
    dsimp only [pln] at h
    split at h
    · rcases pnat_n (y := y) (d := d) (pc := pc) (L := L) (st := st) (w := w) with ⟨c2, h2⟩ | h2
      · rw [h2] at h; cases h
      · rw [h2] at h; cases h
    · exact ⟨idx, _, _, _, _, _, Or.inl rfl, rfl, h⟩
    · cases h
  case invokespecial idx =>
    dsimp only [pln] at h
    split at h
    · rcases pnat_n (y := y) (d := d) (pc := pc) (L := L) (st := st) (w := w) with ⟨c2, h2⟩ | h2
      · rw [h2] at h; cases h
      · rw [h2] at h; cases h
    · exact ⟨idx, _, _, _, _, _, Or.inr (Or.inr rfl), rfl, h⟩
    · cases h
  case invokevirtual idx =>
    dsimp only [pln] at h
    split at h
    · exact ⟨idx, _, _, _, _, _, Or.inr (Or.inl rfl), rfl, h⟩
    · cases h
  case ifCond c off =>
    exfalso
    dsimp only [pln] at h
    split at h
    · split at h
      · cases c <;> (dsimp only at h; obtain ⟨c2, h2⟩ := pbr_n (y := y) (d := d) (pc := pc) (L := L) (w := w); rw [h2] at h; cases h)
      · cases h
    · cases h
  case if_icmp c off =>
    exfalso
    dsimp only [pln] at h
    split at h
    · split at h
      · cases c <;> (dsimp only at h; obtain ⟨c2, h2⟩ := pbr_n (y := y) (d := d) (pc := pc) (L := L) (w := w); rw [h2] at h; cases h)
      · cases h
    · cases h
  case tableswitch df lo hi offs =>
    exfalso
    dsimp only [pln] at h
    split at h
    · split at h
      · rename_i x r
        obtain ⟨c2, h2⟩ := swk_n (x := x) (df := _) (k := fun t2 => gto y d t2 L r w) (fun t => ⟨_, rfl⟩) sw
        rw [h2] at h
        cases h
      · cases h
    · cases h
  case lookupswitch df ps =>
    exfalso
    dsimp only [pln] at h
    split at h
    · split at h
      · rename_i x r
        obtain ⟨c2, h2⟩ := swk_n (x := x) (df := _) (k := fun t2 => gto y d t2 L r w) (fun t => ⟨_, rfl⟩) sw
        rw [h2] at h
        cases h
      · cases h
    · cases h
  all_goals (exfalso; dsimp only [pln] at h; repeat' (first | (cases h; done) | split at h))
theorem vpn {ty : FieldType} {x : Int32} (hty : ty = .boolean ∨ ty = .byte ∨ ty = .char) (h : vp_nar ty x = x) : narrow ty (.int x) = .int x := by
  rcases hty with rfl | rfl | rfl
  · show Value.int (x &&& 1) = _
    exact congrArg Value.int h
  · exact congrArg Value.int h
  · exact congrArg Value.int h
set_option maxHeartbeats 4000000 in
theorem pln_ret {y d pc n : Nat} {L : List (Option Value)} {st : List Value} {w : Wd} {i : Instr} {ax : List Nat} {sw : List (Int32 × Nat)} {r : Option Value} {w2 : Wd} {ret : Option FieldType} (hok : okR ret i ax = true) (h : pln y d pc L st w i n ax sw = .inl (some (r, w2))) : w2 = w ∧ RetI ret i st r := by
  cases i
  case ireturn =>
    dsimp only [pln] at h
    split at h
    · rename_i rt
      split at h
      · rename_i x
        split at h
        · rename_i hn
          cases h
          refine ⟨rfl, Or.inl ⟨rfl, x, ?_⟩⟩
          unfold okR at hok
          dsimp only at hok
          split at hok
          · exact ⟨.int, rfl, rfl, rfl, rfl⟩
          · have e := of_decide_eq_true hok
            cases e
            exact ⟨.boolean, rfl, rfl, rfl, vpn (Or.inl rfl) (of_decide_eq_true hn)⟩
          · have e := of_decide_eq_true hok
            cases e
            exact ⟨.byte, rfl, rfl, rfl, vpn (Or.inr (Or.inl rfl)) (of_decide_eq_true hn)⟩
          · have e := of_decide_eq_true hok
            cases e
            exact ⟨.char, rfl, rfl, rfl, vpn (Or.inr (Or.inr rfl)) (of_decide_eq_true hn)⟩
          · cases hok
        · cases h
      · cases h
    · cases h
  case lreturn =>
    dsimp only [pln] at h
    split at h
    · cases h
      exact ⟨rfl, Or.inr (Or.inl ⟨rfl, _, rfl, rfl, of_decide_eq_true hok⟩)⟩
    · cases h
  case dreturn =>
    dsimp only [pln] at h
    split at h
    · cases h
      exact ⟨rfl, Or.inr (Or.inr (Or.inl ⟨rfl, _, rfl, rfl, of_decide_eq_true hok⟩))⟩
    · cases h
  case areturn =>
    have hty : ∃ ty, ret = some ty ∧ ((∃ n, ty = .object n) ∨ ∃ t, ty = .array t) := by
      unfold okR at hok
      dsimp only at hok
      split at hok
      · exact ⟨_, rfl, Or.inl ⟨_, rfl⟩⟩
      · exact ⟨_, rfl, Or.inr ⟨_, rfl⟩⟩
      · cases hok
    obtain ⟨ty, e1, e2⟩ := hty
    dsimp only [pln] at h
    split at h
    · cases h
      exact ⟨rfl, Or.inr (Or.inr (Or.inr (Or.inl ⟨rfl, _, ty, rfl, rfl, Or.inr ⟨_, rfl⟩, e1, e2⟩)))⟩
    · cases h
      exact ⟨rfl, Or.inr (Or.inr (Or.inr (Or.inl ⟨rfl, _, ty, rfl, rfl, Or.inl rfl, e1, e2⟩)))⟩
    · cases h
  case return_ =>
    dsimp only [pln] at h
    split at h
    · cases h
      exact ⟨rfl, Or.inr (Or.inr (Or.inr (Or.inr ⟨rfl, rfl, rfl, of_decide_eq_true hok⟩)))⟩
    · cases h
  case invokestatic idx =>
    exfalso
    dsimp only [pln] at h
    split at h
    · rcases pnat_n (y := y) (d := d) (pc := pc) (L := L) (st := st) (w := w) with ⟨c2, h2⟩ | h2
      · rw [h2] at h; cases h
      · rw [h2] at h; cases h
    · exact pcall_nr h
    · cases h
  case invokespecial idx =>
    exfalso
    dsimp only [pln] at h
    split at h
    · rcases pnat_n (y := y) (d := d) (pc := pc) (L := L) (st := st) (w := w) with ⟨c2, h2⟩ | h2
      · rw [h2] at h; cases h
      · rw [h2] at h; cases h
    · exact pcall_nr h
    · cases h
  case invokevirtual idx =>
    exfalso
    dsimp only [pln] at h
    split at h
    · exact pcall_nr h
    · cases h
  case ifCond c off =>
    exfalso
    dsimp only [pln] at h
    split at h
    · split at h
      · cases c <;> (dsimp only at h; obtain ⟨c2, h2⟩ := pbr_n (y := y) (d := d) (pc := pc) (L := L) (w := w); rw [h2] at h; cases h)
      · cases h
    · cases h
  case if_icmp c off =>
    exfalso
    dsimp only [pln] at h
    split at h
    · split at h
      · cases c <;> (dsimp only at h; obtain ⟨c2, h2⟩ := pbr_n (y := y) (d := d) (pc := pc) (L := L) (w := w); rw [h2] at h; cases h)
      · cases h
    · cases h
  case tableswitch df lo hi offs =>
    exfalso
    dsimp only [pln] at h
    split at h
    · split at h
      · rename_i x r9
        obtain ⟨c2, h2⟩ := swk_n (x := x) (df := _) (k := fun t2 => gto y d t2 L r9 w) (fun t => ⟨_, rfl⟩) sw
        rw [h2] at h
        cases h
      · cases h
    · cases h
  case lookupswitch df ps =>
    exfalso
    dsimp only [pln] at h
    split at h
    · split at h
      · rename_i x r9
        obtain ⟨c2, h2⟩ := swk_n (x := x) (df := _) (k := fun t2 => gto y d t2 L r9 w) (fun t => ⟨_, rfl⟩) sw
        rw [h2] at h
        cases h
      · cases h
    · cases h
  all_goals (exfalso; dsimp only [pln] at h; repeat' (first | (cases h; done) | split at h))
