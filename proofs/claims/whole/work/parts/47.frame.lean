/-! what is got after a set -/
theorem gI_sI (w : Wd) (a k b j : Nat) (x : Int32) : gI (sI w a k x) b j = if b = a then (if j = k then x else gI w b j) else gI w b j := rfl
theorem gL_sL (w : Wd) (a k b j : Nat) (x : Int64) : gL (sL w a k x) b j = if b = a then (if j = k then x else gL w b j) else gL w b j := rfl
theorem gD_sD (w : Wd) (a k b j : Nat) (x : UInt64) : gD (sD w a k x) b j = if b = a then (if j = k then x else gD w b j) else gD w b j := rfl
theorem gR_sR (w : Wd) (a k b j : Nat) (x : Option Nat) : gR (sR w a k x) b j = if b = a then (if j = k then x else gR w b j) else gR w b j := rfl
theorem gI_same (w : Wd) (a k : Nat) (x : Int32) : gI (sI w a k x) a k = x := (if_pos rfl).trans (if_pos rfl)
theorem gI_ne (w : Wd) {a b : Nat} (k j : Nat) (x : Int32) (h : b ≠ a) : gI (sI w a k x) b j = gI w b j := if_neg h
theorem gI_nk (w : Wd) (a : Nat) {k j : Nat} (x : Int32) (h : j ≠ k) : gI (sI w a k x) a j = gI w a j := (if_pos rfl).trans (if_neg h)
theorem gL_same (w : Wd) (a k : Nat) (x : Int64) : gL (sL w a k x) a k = x := (if_pos rfl).trans (if_pos rfl)
theorem gL_ne (w : Wd) {a b : Nat} (k j : Nat) (x : Int64) (h : b ≠ a) : gL (sL w a k x) b j = gL w b j := if_neg h
theorem gL_nk (w : Wd) (a : Nat) {k j : Nat} (x : Int64) (h : j ≠ k) : gL (sL w a k x) a j = gL w a j := (if_pos rfl).trans (if_neg h)
/-- nothing but whole numbers in cells of S has changed -/
def Only (S : Nat → Prop) (w v : Wd) : Prop := wK v = wK w ∧ gL v = gL w ∧ gD v = gD w ∧ gR v = gR w ∧ wN v = wN w ∧ wS v = wS w ∧ ∀ a, ¬ S a → ∀ j, gI v a j = gI w a j
theorem Only.refl (S : Nat → Prop) (w : Wd) : Only S w w := ⟨rfl, rfl, rfl, rfl, rfl, rfl, fun _ _ _ => rfl⟩
theorem Only.trans {S : Nat → Prop} {u v w : Wd} (h : Only S u v) (k : Only S v w) : Only S u w := by
  obtain ⟨a1, a2, a3, a4, a5, a6, a7⟩ := h
  obtain ⟨b1, b2, b3, b4, b5, b6, b7⟩ := k
  exact ⟨b1.trans a1, b2.trans a2, b3.trans a3, b4.trans a4, b5.trans a5, b6.trans a6, fun a ha j => (b7 a ha j).trans (a7 a ha j)⟩
theorem Only.mono {S T : Nat → Prop} {w v : Wd} (h : Only S w v) (hs : ∀ a, S a → T a) : Only T w v := by
  obtain ⟨a1, a2, a3, a4, a5, a6, a7⟩ := h
  exact ⟨a1, a2, a3, a4, a5, a6, fun a ha j => a7 a (fun hh => ha (hs a hh)) j⟩
theorem Only.sI {S : Nat → Prop} {w v : Wd} (h : Only S w v) {a : Nat} (k : Nat) (x : Int32) (ha : S a) : Only S w (sI v a k x) := by
  obtain ⟨a1, a2, a3, a4, a5, a6, a7⟩ := h
  refine ⟨a1, a2, a3, a4, a5, a6, fun b hb j => ?_⟩
  have e : b ≠ a := by
    intro e
    subst e
    exact hb ha
  exact (gI_ne v k j x e).trans (a7 b hb j)
theorem Only.fix {S : Nat → Prop} {w v : Wd} (h : Only S w v) (hS : ¬ S 1) (hW : Fix w) : Fix v := by
  obtain ⟨a1, a2, a3, a4, a5, a6, a7⟩ := h
  refine ⟨fun a h1 h2 h3 => ?_, fun a k b hr => ?_, fun j => ?_⟩
  · rw [a1]; exact hW.1 a h1 h2 h3
  · rw [a4]; exact hW.2.1 a k b hr
  · rw [a7 1 hS]; exact hW.2.2 j
