/-! THE ROWS OF THE REAL MACHINE under jumps and the world's reads and writes -/
def tyL (aC : Nat → ClassId) : List (ClassId × FieldType) := [(aC 20, .int), (aC 21, .byte), (aC 22, .boolean), (aC 23, .long), (aC 24, .double), (aC 25, .object "BelfryHouse$Method"), (aC 26, .object "BelfryHouse$Rule"), (aC 27, .array .long)]
def clsOK (ci : Nat) : Prop := ∀ q : vw_C, vwCl[ci]? = some q → (∀ w ∈ u_ws q.1 q.2.1 q.2.2, w ∈ lwT) ∧ (∀ k, k < q.2.2 → parseFieldDescriptor (q.2.1 k).2.2.1 = some (vwTy ci k)) ∧ (∀ a, a < q.2.2 → ∀ b, b < q.2.2 → a ≠ b → (q.2.1 a).2.1 ≠ (q.2.1 b).2.1)

set_option maxRecDepth 100000 in
theorem cls_ok_0 : clsOK 0 := by
  intro q h
  cases (show some (RX0, TX0, 11) = some q from h)
  exact ⟨by decide +kernel, tyX0_ok, nmX0⟩
set_option maxRecDepth 100000 in
theorem cls_ok_1 : clsOK 1 := by
  intro q h
  cases (show some (RX1, TX1, 6) = some q from h)
  exact ⟨by decide +kernel, tyX1_ok, nmX1⟩
set_option maxRecDepth 100000 in
theorem cls_ok_2 : clsOK 2 := by
  intro q h
  cases (show some (RX2, TX2, 4) = some q from h)
  exact ⟨by decide +kernel, tyX2_ok, nmX2⟩
set_option maxRecDepth 100000 in
theorem cls_ok_3 : clsOK 3 := by
  intro q h
  cases (show some (RX3, TX3, 3) = some q from h)
  exact ⟨by decide +kernel, tyX3_ok, nmX3⟩
set_option maxRecDepth 100000 in
theorem cls_ok_4 : clsOK 4 := by
  intro q h
  cases (show some (RX4, TX4, 8) = some q from h)
  exact ⟨by decide +kernel, tyX4_ok, nmX4⟩
set_option maxRecDepth 100000 in
theorem cls_ok_5 : clsOK 5 := by
  intro q h
  cases (show some (RX6, TX6, 11) = some q from h)
  exact ⟨by decide +kernel, tyX6_ok, nmX6⟩
set_option maxRecDepth 100000 in
theorem cls_ok_6 : clsOK 6 := by
  intro q h
  cases (show some (RX8, TX8, 6) = some q from h)
  exact ⟨by decide +kernel, tyX8_ok, nmX8⟩
set_option maxRecDepth 100000 in
theorem cls_ok_7 : clsOK 7 := by
  intro q h
  cases (show some (RX9, TX9, 13) = some q from h)
  exact ⟨by decide +kernel, tyX9_ok, nmX9⟩
set_option maxRecDepth 100000 in
theorem cls_ok_8 : clsOK 8 := by
  intro q h
  cases (show some (RX10, TX10, 3) = some q from h)
  exact ⟨by decide +kernel, tyX10_ok, nmX10⟩
set_option maxRecDepth 100000 in
theorem cls_ok_9 : clsOK 9 := by
  intro q h
  cases (show some (RX11, TX11, 11) = some q from h)
  exact ⟨by decide +kernel, tyX11_ok, nmX11⟩
set_option maxRecDepth 100000 in
theorem cls_ok_10 : clsOK 10 := by
  intro q h
  cases (show some (RX12, TX12, 68) = some q from h)
  exact ⟨by decide +kernel, tyX12_ok, nmX12⟩
theorem cls_ok (ci : Nat) : clsOK ci := by
  match ci with
  | 0 => exact cls_ok_0
  | 1 => exact cls_ok_1
  | 2 => exact cls_ok_2
  | 3 => exact cls_ok_3
  | 4 => exact cls_ok_4
  | 5 => exact cls_ok_5
  | 6 => exact cls_ok_6
  | 7 => exact cls_ok_7
  | 8 => exact cls_ok_8
  | 9 => exact cls_ok_9
  | 10 => exact cls_ok_10
  | n + 11 => intro q h; simp [vwCl] at h
theorem cls_lt {ci : Nat} {q : vw_C} (h : vwCl[ci]? = some q) : ci < 11 := by
  have := (List.getElem?_eq_some_iff.mp h).1
  exact this
