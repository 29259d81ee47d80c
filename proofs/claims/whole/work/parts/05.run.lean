/-! RUNS of the abstract machine: one step, so many steps, what a run comes to -/
def plan (c : Cfg) : Pl := match mtab c.1 c.2.2.1 with
  | none => no
  | some e => match pst e.1 e.2.2.2.1 c.2.2.2.1 c.2.2.2.2.1 with
    | some q => gto c.1 c.2.1 (c.2.2.1 + e.2.1) q.1 q.2 c.2.2.2.2.2
    | none => pln c.1 c.2.1 c.2.2.1 c.2.2.2.1 c.2.2.2.2.1 c.2.2.2.2.2 e.1 e.2.1 e.2.2.1 e.2.2.2.2
/-- one step, what stands behind it being X -/
def stp (X : Cfg → Rs) (c : Cfg) : Rs := match plan c with
  | .inl r => r
  | .inr (.inl c1) => X c1
  | .inr (.inr q) => match X q.1 with
    | some v => X (q.2 v)
    | none => none
def ex : Nat → Cfg → Rs
  | 0 => fun _ => none
  | f + 1 => stp (ex f)
theorem stp_mono {X Y : Cfg → Rs} (h : ∀ c r, X c = some r → Y c = some r) (c : Cfg) (r : Option Value × Wd) (hr : stp X c = some r) : stp Y c = some r := by
  unfold stp at hr ⊢
  split at hr
  · exact hr
  · exact h _ _ hr
  · rename_i q _
    cases hx : X q.1 with
    | none => rw [hx] at hr; cases hr
    | some v =>
      rw [hx] at hr
      rw [h _ _ hx]
      exact h _ _ hr
theorem ex_mono (f : Nat) : ∀ (c : Cfg) (r : Option Value × Wd), ex f c = some r → ex (f + 1) c = some r := by
  induction f with
  | zero => intro c r h; cases h
  | succ f ih => exact fun c r h => stp_mono ih c r h
theorem ex_le {f g : Nat} (hle : f ≤ g) : ∀ (c : Cfg) (r : Option Value × Wd), ex f c = some r → ex g c = some r := by
  induction hle with
  | refl => exact fun _ _ h => h
  | step _ ih => exact fun c r h => ex_mono _ c r (ih c r h)
/-- what a run comes to -/
noncomputable def val (c : Cfg) : Rs := by
  classical
  exact if h : ∃ (f : Nat) (r : Option Value × Wd), ex f c = some r then some (Classical.choose (Classical.choose_spec h)) else none
theorem val_of {c : Cfg} {f : Nat} {r : Option Value × Wd} (h : ex f c = some r) : val c = some r := by
  have h1 : ∃ (f : Nat) (r : Option Value × Wd), ex f c = some r := ⟨f, r, h⟩
  unfold val
  rw [dif_pos h1]
  have h2 := Classical.choose_spec (Classical.choose_spec h1)
  generalize Classical.choose (Classical.choose_spec h1) = r2 at h2 ⊢
  generalize Classical.choose h1 = f2 at h2
  have h3 := ex_le (Nat.le_max_left f f2) _ _ h
  have h4 := ex_le (Nat.le_max_right f f2) _ _ h2
  rw [h3] at h4
  exact h4.symm
theorem val_ex {c : Cfg} {r : Option Value × Wd} (h : val c = some r) : ∃ f, ex f c = some r := by
  unfold val at h
  by_cases h1 : ∃ (f : Nat) (r : Option Value × Wd), ex f c = some r
  · rw [dif_pos h1] at h
    have h2 := Classical.choose_spec (Classical.choose_spec h1)
    rw [Option.some.inj h] at h2
    exact ⟨_, h2⟩
  · rw [dif_neg h1] at h
    cases h
theorem val_eq (c : Cfg) : val c = stp val c := by
  cases hs : stp val c with
  | some r =>
    have : ∃ f, stp (ex f) c = some r := by
      unfold stp at hs ⊢
      split at hs
      · exact ⟨0, hs⟩
      · exact val_ex hs
      · rename_i q _
        cases hx : val q.1 with
        | none => rw [hx] at hs; cases hs
        | some v =>
          rw [hx] at hs
          obtain ⟨f1, h1⟩ := val_ex hx
          obtain ⟨f2, h2⟩ := val_ex hs
          refine ⟨max f1 f2, ?_⟩
          rw [ex_le (Nat.le_max_left f1 f2) _ _ h1]
          exact ex_le (Nat.le_max_right f1 f2) _ _ h2
    obtain ⟨f, h⟩ := this
    exact val_of (f := f + 1) h
  | none =>
    cases hv : val c with
    | none => rfl
    | some r =>
      obtain ⟨f, h⟩ := val_ex hv
      cases f with
      | zero => cases h
      | succ f =>
        have h2 := stp_mono (fun c r h => val_of h) c r h
        rw [hs] at h2
        cases h2
def stpn : Nat → (Cfg → Rs) → Cfg → Rs
  | 0, X => X
  | k + 1, X => stp (stpn k X)
theorem val_n (k : Nat) : stpn k val = val := by
  induction k with
  | zero => rfl
  | succ k ih =>
    funext c
    show stp (stpn k val) c = val c
    rw [ih]
    exact (val_eq c).symm
/-- k steps that neither call nor end -/
theorem val_s (k : Nat) {c c2 : Cfg} (h : ∀ X, stpn k X c = X c2) : val c = val c2 := by
  rw [← h val, val_n]
theorem val_c {c : Cfg} {q : Cfg × (Option Value × Wd → Cfg)} {v : Option Value × Wd} (hp : plan c = .inr (.inr q)) (h : val q.1 = some v) : val c = val (q.2 v) := by
  rw [val_eq c]
  unfold stp
  rw [hp]
  show (match val q.1 with | some v => val (q.2 v) | none => none) = _
  rw [h]
theorem val_r {c : Cfg} {r : Rs} (hp : plan c = .inl r) : val c = r := by
  rw [val_eq c]
  unfold stp
  rw [hp]
theorem val_g {c c2 : Cfg} (hp : plan c = .inr (.inl c2)) : val c = val c2 := by
  rw [val_eq c]
  unfold stp
  rw [hp]
