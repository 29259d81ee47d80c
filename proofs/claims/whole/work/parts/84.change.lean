/-! CHANGES, as they are read -/
/-- two places: of a jump, or (s) of a turn -/
abbrev Two (s : Bool) (k : Tk) (N a : Nat) : Prop := k.1 = 2 ∧ 1 ≤ k.2.2.2 ∧ k.2.2.2 ≤ N ∧ (if s = true then a < k.2.2.2 else k.2.2.2 ≠ a)
abbrev ChR : Type := (Nat → Nat) × Nat × Tk
section PCH
variable (N : Nat) (t : Nat → Int32) (T : Nat)
def pSm (P : Nat → Tk → Except Nat ChR) : Nat → ChR → Except Nat ChR
  | 0, r => if isSg t r.2.2 41 = true then .ok (r.1, r.2.1, nxt t T r.2.2) else .error r.2.2.2.1
  | n + 1, r => if isSg t r.2.2 44 = true then
      (match P r.2.1 (nxt t T r.2.2) with
        | .error e => .error e
        | .ok s => pSm P n (fun x => r.1 (s.1 x), s.2.1, s.2.2))
    else if isSg t r.2.2 41 = true then .ok (r.1, r.2.1, nxt t T r.2.2) else .error r.2.2.2.1
def pTwo (s : Bool) (c : Nat) (k : Tk) : Except Nat ChR :=
  if InR k 1 N then
    (if Two s (nxt t T k) N k.2.2.2 then .ok (apL (fun p => p) (if s = true then tnL (k.2.2.2 - 1) ((nxt t T k).2.2.2 - 1) (((nxt t T k).2.2.2 - 1 + 1 - (k.2.2.2 - 1)) / 2) else jmL (k.2.2.2 - 1) ((nxt t T k).2.2.2 - 1)), c, nxt t T (nxt t T k))
     else .error (nxt t T k).2.1)
  else .error k.2.1
def pPl (c : Nat) (k : Tk) : Except Nat ChR :=
  if k.1 = 2 ∧ pOk N (dgA t k.2.1) (k.2.2.1 - k.2.1) 0 0 = true then .ok (apL (fun p => p) (pLst N (dgA t k.2.1) (k.2.2.1 - k.2.1) 0 0), c, nxt t T k) else .error k.2.1
def pCh : Nat → Nat → Tk → Except Nat ChR
  | 0, _, k => .error k.2.1
  | f + 1, c, k => if 40 ≤ c then .error k.2.1
    else if isWd t k 9 = true then .ok (apL (fun p => p) (prL 0 (N / 2)), c + 1, nxt t T k)
    else if isWd t k 10 = true then pPl N t T (c + 1) (nxt t T k)
    else if isWd t k 11 = true then pTwo N t T false (c + 1) (nxt t T k)
    else if isWd t k 12 = true then pTwo N t T true (c + 1) (nxt t T k)
    else if isWd t k 13 = true then .ok (fun p => p, c + 1, nxt t T k)
    else if isWd t k 14 = true then (match pCh f (c + 1) (nxt t T k) with
      | .error e => .error e
      | .ok r => .ok (fun x => r.1 (r.1 x), r.2.1, r.2.2))
    else if isWd t k 15 = true then (match pCh f (c + 1) (nxt t T k) with
      | .error e => .error e
      | .ok r => .ok (iv r.1 N, r.2.1, r.2.2))
    else if isSg t k 40 = true then (match pCh f (c + 1) (nxt t T k) with
      | .error e => .error e
      | .ok r => pSm t T (pCh f) 40 r)
    else .error k.2.1
end PCH
section FACTS
variable {N : Nat} {t : Nat → Int32} {T : Nat}
abbrev ChOK (N : Nat) (t : Nat → Int32) (T c : Nat) (r : ChR) : Prop := c < r.2.1 ∧ r.2.1 ≤ 40 ∧ IsRow N r.1 ∧ TkIn t T r.2.2
theorem pTwo_ok {s : Bool} {c : Nat} {k : Tk} (hk : TkIn t T k) {r : ChR} (h : pTwo N t T s c k = .ok r) : r.2.1 = c ∧ IsRow N r.1 ∧ TkIn t T r.2.2 := by
  unfold pTwo at h
  split at h
  · rename_i h1
    split at h
    · rename_i h2
      cases h
      obtain ⟨g1, g2, g3, g4⟩ := h2
      obtain ⟨i1, i2, i3⟩ := h1
      refine ⟨rfl, apL_row _ (IsRow.id N) ?_, hk.nxt.nxt⟩
      cases s with
      | true =>
        rw [if_pos rfl] at g4 ⊢
        exact tnL_ok _ _ _ (by omega) (by omega) (by omega)
      | false =>
        rw [if_neg (by decide)]
        exact jmL_ok (by omega) (by omega)
    · cases h
  · cases h
theorem pPl_ok {c : Nat} {k : Tk} (hk : TkIn t T k) {r : ChR} (h : pPl N t T c k = .ok r) : r.2.1 = c ∧ IsRow N r.1 ∧ TkIn t T r.2.2 := by
  unfold pPl at h
  split at h
  · rename_i h1
    cases h
    exact ⟨rfl, apL_row _ (IsRow.id N) (pLst_ok _ _ _ (Nat.zero_le N) h1.2), hk.nxt⟩
  · cases h
theorem pSm_ok {P : Nat → Tk → Except Nat ChR} (hP : ∀ c k r, TkIn t T k → P c k = .ok r → ChOK N t T c r) : ∀ n r0 r, r0.2.1 ≤ 40 → IsRow N r0.1 → TkIn t T r0.2.2 → pSm t T P n r0 = .ok r → r0.2.1 ≤ r.2.1 ∧ r.2.1 ≤ 40 ∧ IsRow N r.1 ∧ TkIn t T r.2.2
  | 0, r0, r, hc, hr, hk, h => by
    unfold pSm at h
    split at h
    · cases h; exact ⟨Nat.le_refl _, hc, hr, hk.nxt⟩
    · cases h
  | n + 1, r0, r, hc, hr, hk, h => by
    unfold pSm at h
    split at h
    · cases hp : P r0.2.1 (nxt t T r0.2.2) with
      | error e => rw [hp] at h; cases h
      | ok s =>
        rw [hp] at h
        obtain ⟨s1, s2, s3, s4⟩ := hP _ _ _ hk.nxt hp
        obtain ⟨q1, q2, q3, q4⟩ := pSm_ok hP n (fun x => r0.1 (s.1 x), s.2.1, s.2.2) r s2 (hr.comp s3) s4 h
        exact ⟨Nat.le_trans (Nat.le_of_lt s1) q1, q2, q3, q4⟩
    · split at h
      · cases h; exact ⟨Nat.le_refl _, hc, hr, hk.nxt⟩
      · cases h
theorem pCh_ok : ∀ f c k r, TkIn t T k → pCh N t T f c k = .ok r → ChOK N t T c r
  | 0, c, k, r, _, h => by cases h
  | f + 1, c, k, r, hk, h => by
    unfold pCh at h
    split at h
    · cases h
    rename_i hc
    split at h
    · cases h; exact ⟨Nat.lt_succ_self c, by dsimp only; omega, apL_row _ (IsRow.id N) (prL_ok _ _ (by omega)), hk.nxt⟩
    split at h
    · obtain ⟨h1, h2, h3⟩ := pPl_ok hk.nxt h; exact ⟨by omega, by omega, h2, h3⟩
    split at h
    · obtain ⟨h1, h2, h3⟩ := pTwo_ok hk.nxt h; exact ⟨by omega, by omega, h2, h3⟩
    split at h
    · obtain ⟨h1, h2, h3⟩ := pTwo_ok hk.nxt h; exact ⟨by omega, by omega, h2, h3⟩
    split at h
    · cases h; exact ⟨Nat.lt_succ_self c, by dsimp only; omega, IsRow.id N, hk.nxt⟩
    split at h
    · cases hp : pCh N t T f (c + 1) (nxt t T k) with
      | error e => rw [hp] at h; cases h
      | ok s =>
        rw [hp] at h; cases h
        obtain ⟨s1, s2, s3, s4⟩ := pCh_ok f _ _ _ hk.nxt hp
        exact ⟨by dsimp only; omega, s2, s3.comp s3, s4⟩
    split at h
    · cases hp : pCh N t T f (c + 1) (nxt t T k) with
      | error e => rw [hp] at h; cases h
      | ok s =>
        rw [hp] at h; cases h
        obtain ⟨s1, s2, s3, s4⟩ := pCh_ok f _ _ _ hk.nxt hp
        exact ⟨by dsimp only; omega, s2, s3.iv, s4⟩
    split at h
    · cases hp : pCh N t T f (c + 1) (nxt t T k) with
      | error e => rw [hp] at h; cases h
      | ok s =>
        rw [hp] at h
        obtain ⟨s1, s2, s3, s4⟩ := pCh_ok f _ _ _ hk.nxt hp
        obtain ⟨q1, q2, q3, q4⟩ := pSm_ok (fun c k r hk h => pCh_ok f c k r hk h) 40 s r s2 s3 s4 h
        exact ⟨by omega, q2, q3, q4⟩
    · cases h
end FACTS
/-! the class's jump and turn -/
section CTWO
variable {o M T N : Nat} {t : Nat → Int32} {k : Tk} {w : Wd}
theorem fo_31 {F : Option Nat} {p : Nat} (hF : ∀ f, F = some f → f < 2 ^ 31) (hp : p < 2 ^ 31) : ∀ f, fo F p = some f → f < 2 ^ 31 := by
  intro f hf
  cases F with
  | none => cases hf; exact hp
  | some g => cases hf; exact hF f rfl
theorem TkIn.at31 {w : Wd} {o M T N : Nat} {t : Nat → Int32} {k : Tk} (h : TkIn t T k) (hR : Rd w o M T N t) : k.2.1 < 2 ^ 31 := by
  have := h.2.1; have := h.2.2.1; have := hR.2.2.2.2.2.2.1; omega
theorem none31 : ∀ f, (none : Option Nat) = some f → f < 2 ^ 31 := fun f h => by cases h
theorem c_jump (d : Nat) (h3 : 3 ≤ N) (hN : N ≤ 8) (hW : Fix w) (hR : Rd w o M T N t) (hk : TkC w o t k) (hin : TkIn t T k) (h1 : gI w o 1 = -1) (c : Nat) :
    (∀ r, pTwo N t T false c k = .ok r → ∃ v, val (94, d + 5, 0, [some (.ref o), some (.int (nI (pkN N (fun p => p)))), none, none], [], w) = some (some (.int (nI (pkN N r.1))), v) ∧ Fr (FTf o) w v ∧ TkC v o t r.2.2 ∧ gI v o 1 = -1) ∧
    (∀ e, pTwo N t T false c k = .error e → ∃ r v, val (94, d + 5, 0, [some (.ref o), some (.int (nI (pkN N (fun p => p)))), none, none], [], w) = some (some (.int r), v) ∧ Fr (FTf o) w v ∧ gI v o 1 = nI e) := by
  obtain ⟨v1, a1, a2, a3, a4⟩ := c_within (d + 1) hW hR hk hin none31 h1 (a := 1) (b := N) (by omega) (by omega)
  have hR1 := hR.tf a2
  have hW1 := a2.fixO (ftf_lo hR.1) hW
  have hin1 : TkIn t T (if InR k 1 N then nxt t T k else k) := by
    split
    · exact hin.nxt
    · exact hin
  have hb1 : 1 ≤ (if InR k 1 N then k.2.2.2 else 1) ∧ (if InR k 1 N then k.2.2.2 else 1) ≤ N := by
    by_cases h : InR k 1 N
    · rw [if_pos h]; exact ⟨h.2.1, h.2.2⟩
    · rw [if_neg h]; omega
  obtain ⟨v2, b1, b2, b3, b4⟩ := c_but d hW1 hR1 hN a3 hin1 (F := if InR k 1 N then none else fo none k.2.1) (by
    split
    · exact none31
    · exact fo_31 none31 (hin.at31 hR)) a4 (c := if InR k 1 N then k.2.2.2 else 1) (by omega)
  have hR2 := hR1.tf b2
  have e1 : ∀ (x y : Nat), x = (if InR k 1 N then k.2.2.2 else 1) → y = (if InR (if InR k 1 N then nxt t T k else k) 1 N ∧ (if InR k 1 N then nxt t T k else k).2.2.2 ≠ (if InR k 1 N then k.2.2.2 else 1) then (if InR k 1 N then nxt t T k else k).2.2.2 else 1) → val (94, d + 5, 0, [some (.ref o), some (.int (nI (pkN N (fun p => p)))), none, none], [], w) = some (some (.int (nI (pkN N (apL (fun p => p) (jmL (x - 1) (y - 1)))))), v2) := by
    intro x y hx hy
    have hxb : 1 ≤ x ∧ x ≤ N := by rw [hx]; exact hb1
    have hyb : 1 ≤ y ∧ y ≤ N := by
      rw [hy]
      have gen : ∀ (k' : Tk) (z : Nat), 1 ≤ (if InR k' 1 N ∧ k'.2.2.2 ≠ z then k'.2.2.2 else 1) ∧ (if InR k' 1 N ∧ k'.2.2.2 ≠ z then k'.2.2.2 else 1) ≤ N := fun k' z => by
        by_cases h : InR k' 1 N ∧ k'.2.2.2 ≠ z
        · rw [if_pos h]; exact ⟨h.1.2.1, h.1.2.2⟩
        · rw [if_neg h]; omega
      exact gen _ _
    refine (tr_94 (d + 2) w o _ 8 hR.2.1).trans ?_
    rw [hR.2.2.2.2.2.1]
    refine (val_call (pc2 := 10) rfl rfl rfl rfl (rcvO hR.2.1 (by decide)) (Nat.le_of_ble_eq_true rfl) (Nat.le_of_ble_eq_true rfl) rfl a1 rfl).trans ?_
    refine (tr_94_10 (d + 2) v1 o _ _ 8 hR1.2.1).trans ?_
    rw [hR1.2.2.2.2.2.1]
    refine (val_call (pc2 := 21) rfl rfl rfl rfl (rcvO hR1.2.1 (by decide)) (Nat.le_of_ble_eq_true rfl) (Nat.le_of_ble_eq_true rfl) rfl b1 rfl).trans ?_
    refine (tr_94_21 (d + 2) v2 o _ _ _ 8 hR2.2.1).trans ?_
    rw [← hy, ← hx, hR2.2.2.2.2.2.1, show nI x - 1 = nI (x - 1) from n_sub (b := 1) (by omega), show nI y - 1 = nI (y - 1) from n_sub (b := 1) (by omega)]
    refine (val_call (pc2 := 36) rfl rfl rfl rfl rfl (Nat.le_of_ble_eq_true rfl) (Nat.le_of_ble_eq_true rfl) rfl (c145 hN (d + 2) v2 (i := x - 1) (j := y - 1) (by omega) (by omega) (IsRow.id N)) rfl).trans ?_
    exact tr_94_36 (d + 2) v2 o _ _ _ _
  have e2 := e1 _ _ rfl rfl
  unfold pTwo
  by_cases hI : InR k 1 N
  · rw [if_pos hI]
    rw [if_pos hI, if_pos hI] at b4 e2
    rw [if_pos hI, if_pos hI] at b3
    by_cases hT : Two false (nxt t T k) N k.2.2.2
    · have hI2 : InR (nxt t T k) 1 N := ⟨hT.1, hT.2.1, hT.2.2.1⟩
      have hne : (nxt t T k).2.2.2 ≠ k.2.2.2 := hT.2.2.2
      rw [if_pos hT]
      rw [if_pos ⟨hI2, hne⟩] at e2 b3
      rw [if_pos hI, if_pos ⟨hI2, hne⟩] at b4
      refine ⟨fun r hr => ?_, fun e he => by cases he⟩
      cases hr
      exact ⟨v2, e2, a2.trans b2, b3, b4⟩
    · rw [if_neg hT]
      refine ⟨fun r hr => (by cases hr), fun e he => ?_⟩
      cases he
      have : ¬ (InR (nxt t T k) 1 N ∧ (nxt t T k).2.2.2 ≠ k.2.2.2) := fun h => hT ⟨h.1.1, h.1.2.1, h.1.2.2, h.2⟩
      rw [if_pos hI, if_neg this] at b4
      exact ⟨_, v2, e2, a2.trans b2, b4⟩
  · rw [if_neg hI]
    refine ⟨fun r hr => (by cases hr), fun e he => ?_⟩
    cases he
    rw [if_neg hI, if_neg hI, if_neg hI] at b4
    refine ⟨_, v2, e2, a2.trans b2, b4.trans ?_⟩
    split <;> rfl
theorem c_turn (d : Nat) (h3 : 3 ≤ N) (hN : N ≤ 8) (hW : Fix w) (hR : Rd w o M T N t) (hk : TkC w o t k) (hin : TkIn t T k) (h1 : gI w o 1 = -1) (c : Nat) :
    (∀ r, pTwo N t T true c k = .ok r → ∃ v, val (95, d + 4, 0, [some (.ref o), some (.int (nI (pkN N (fun p => p)))), none, none], [], w) = some (some (.int (nI (pkN N r.1))), v) ∧ Fr (FTf o) w v ∧ TkC v o t r.2.2 ∧ gI v o 1 = -1) ∧
    (∀ e, pTwo N t T true c k = .error e → ∃ r v, val (95, d + 4, 0, [some (.ref o), some (.int (nI (pkN N (fun p => p)))), none, none], [], w) = some (some (.int r), v) ∧ Fr (FTf o) w v ∧ gI v o 1 = nI e) := by
  obtain ⟨v1, a1, a2, a3, a4⟩ := c_within d hW hR hk hin none31 h1 (a := 1) (b := N) (by omega) (by omega)
  have hR1 := hR.tf a2
  have hW1 := a2.fixO (ftf_lo hR.1) hW
  have hin1 : TkIn t T (if InR k 1 N then nxt t T k else k) := by
    split
    · exact hin.nxt
    · exact hin
  have hb1 : 1 ≤ (if InR k 1 N then k.2.2.2 else 1) ∧ (if InR k 1 N then k.2.2.2 else 1) ≤ N := by
    by_cases h : InR k 1 N
    · rw [if_pos h]; exact ⟨h.2.1, h.2.2⟩
    · rw [if_neg h]; omega
  generalize hx : (if InR k 1 N then k.2.2.2 else 1) = x at a1 hb1
  obtain ⟨v2, b1, b2, b3, b4⟩ := c_within d hW1 hR1 a3 hin1 (F := if InR k 1 N then none else fo none k.2.1) (by
    split
    · exact none31
    · exact fo_31 none31 (hin.at31 hR)) a4 (a := x + 1) (b := N) (by omega) (by omega)
  have hR2 := hR1.tf b2
  have hI01 : ∀ k' : Tk, (if InR k' (x + 1) N then k'.2.2.2 else x + 1) = (if InR k' (x + 1) N then k'.2.2.2 else x + 1) := fun _ => rfl
  have e1 : val (95, d + 4, 0, [some (.ref o), some (.int (nI (pkN N (fun p => p)))), none, none], [], w) = val (95, d + 4, 23, [some (.ref o), some (.int (nI (pkN N (fun p => p)))), some (.int (nI x)), none], [.int (nI (if InR (if InR k 1 N then nxt t T k else k) (x + 1) N then (if InR k 1 N then nxt t T k else k).2.2.2 else x + 1))], v2) := by
    refine (tr_95 (d + 1) w o _ 8 hR.2.1).trans ?_
    rw [hR.2.2.2.2.2.1]
    refine (val_call (pc2 := 10) rfl rfl rfl rfl (rcvO hR.2.1 (by decide)) (Nat.le_of_ble_eq_true rfl) (Nat.le_of_ble_eq_true rfl) rfl a1 rfl).trans ?_
    refine (tr_95_10 (d + 1) v1 o _ _ 8 hR1.2.1).trans ?_
    rw [n_succ, hR1.2.2.2.2.2.1]
    refine (val_call (pc2 := 23) rfl rfl rfl rfl (rcvO hR1.2.1 (by decide)) (Nat.le_of_ble_eq_true rfl) (Nat.le_of_ble_eq_true rfl) rfl b1 rfl).trans ?_
    rfl
  have e21 := tr_95_23 (d + 1) v2 o (nI (pkN N (fun p => p))) (nI x) (nI (if InR (if InR k 1 N then nxt t T k else k) (x + 1) N then (if InR k 1 N then nxt t T k else k).2.2.2 else x + 1)) 8 hR2.2.1
  unfold pTwo
  by_cases hI : InR k 1 N
  · rw [if_pos hI]
    rw [if_pos hI] at hx
    rw [if_pos hI] at b3 b4 e1 e21
    rw [if_pos hI] at b4
    subst hx
    by_cases hT : Two true (nxt t T k) N k.2.2.2
    · have hlt : k.2.2.2 < (nxt t T k).2.2.2 := hT.2.2.2
      have hI2 : InR (nxt t T k) (k.2.2.2 + 1) N := ⟨hT.1, hlt, hT.2.2.1⟩
      rw [if_pos hT]
      rw [if_pos hI2] at e1 b3 e21 b4
      refine ⟨fun r hr => ?_, fun e he => by cases he⟩
      cases hr
      refine ⟨v2, e1.trans (e21.trans ?_), a2.trans b2, b3, b4⟩
      have h2b := hT.2.2.1
      rw [b4, if_neg (show ¬ 0 ≤ ftI none by decide), hR2.2.2.2.2.2.1, show nI (nxt t T k).2.2.2 - 1 = nI ((nxt t T k).2.2.2 - 1) from n_sub (b := 1) (by omega), show nI k.2.2.2 - 1 = nI (k.2.2.2 - 1) from n_sub (b := 1) (by omega)]
      refine (val_call (pc2 := 45) rfl rfl rfl rfl rfl (Nat.le_of_ble_eq_true rfl) (Nat.le_of_ble_eq_true rfl) rfl (c146 hN (d + 1) v2 (i := k.2.2.2 - 1) (j := (nxt t T k).2.2.2 - 1) (by omega) (by omega) (IsRow.id N)) rfl).trans ?_
      exact tr_95_45 (d + 1) v2 o _ _ _ _
    · rw [if_neg hT]
      refine ⟨fun r hr => (by cases hr), fun e he => ?_⟩
      cases he
      have : ¬ InR (nxt t T k) (k.2.2.2 + 1) N := fun h => hT ⟨h.1, by have := h.2.1; omega, h.2.2, show k.2.2.2 < (nxt t T k).2.2.2 from h.2.1⟩
      rw [if_neg this] at b4 e1 e21
      refine ⟨nI (pkN N (fun p => p)), v2, e1.trans (e21.trans ?_), a2.trans b2, b4⟩
      rw [b4, if_pos ((ftI_none (fo_31 none31 (hin.nxt.at31 hR))).mpr rfl)]
  · rw [if_neg hI]
    refine ⟨fun r hr => (by cases hr), fun e he => ?_⟩
    cases he
    rw [if_neg hI] at b4
    rw [if_neg hI] at b4
    have b5 : gI v2 o 1 = nI k.2.1 := b4.trans (by split <;> rfl)
    refine ⟨nI (pkN N (fun p => p)), v2, e1.trans (e21.trans ?_), a2.trans b2, b5⟩
    rw [b5, if_pos (show (0 : Int32) ≤ nI k.2.1 from n_le (a := 0) (Nat.zero_le _) (hin.at31 hR))]
end CTWO
