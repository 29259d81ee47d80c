/-! METHOD, the class's side -/
section PME
variable (N : Nat) (t : Nat → Int32) (T : Nat)
def pRs : Nat → List Ru → Nat → Tk → Except Nat (List Ru × Nat)
  | 0, _, _, k => .error k.2.1
  | n + 1, rs, c, k => match pRu N t T c k with
    | .error e => .error e
    | .ok q => if q.2.2.1 = 0 then .ok (rs ++ [q.1], q.2.1) else pRs n (rs ++ [q.1]) q.2.1 q.2.2
def pMe : Except Nat (List Ru × Nat) := pRs N t T 20 [] 0 (tok t T 0)
end PME
abbrev ru0 : Ru := ([], fun p => p)
/-- a method at M: its rules, its COUNT -/
def MeV (w : Wd) (N M : Nat) (rs : List Ru) (c : Nat) : Prop := 151 ≤ M ∧ M + 2 + 5 * rs.length ≤ wN w ∧ wK w M = (3, 3) ∧ wK w (M + 1) = (26, 20) ∧ gR w M 0 = some (M + 1) ∧ gI w M 1 = nI rs.length ∧ gI w M 2 = nI c ∧ rs.length ≤ 20 ∧ ∀ j, j < rs.length → gR w (M + 1) j = some (M + 2 + 5 * j) ∧ RuC w N (M + 2 + 5 * j) (rs.getD j ru0)
theorem RuL.gw {S : List (Nat × Option Nat)} {n s : Nat} {w v : Wd} {r : Nat} {cs : List Cd} (h : RuL w r cs) (hg : Gw S n s w v) (hr : r + 4 < wN w) (hs : ∀ a j, r ≤ a → a ≤ r + 4 → inS S a j = false) : RuL v r cs := by
  obtain ⟨h1, ⟨h2, h3, h4, h5⟩, ⟨h6, h7, h8, h9⟩, h10, h11, h12⟩ := h
  have sr : ∀ j, inS S r j = false := fun j => hs r j (Nat.le_refl r) (by omega)
  refine ⟨(hg.2.1 _ (by omega)).trans h1, ⟨(hg.r (by omega) (sr 0)).trans h2, (hg.r (by omega) (sr 1)).trans h3, (hg.r (by omega) (sr 2)).trans h4, (hg.r (by omega) (sr 3)).trans h5⟩, ⟨(hg.2.1 _ (by omega)).trans h6, (hg.2.1 _ (by omega)).trans h7, (hg.2.1 _ (by omega)).trans h8, (hg.2.1 _ (by omega)).trans h9⟩, h10, (hg.i (by omega) (sr 4)).trans h11, fun i hi => ?_⟩
  obtain ⟨g1, g2, g3, g4⟩ := h12 i hi
  exact ⟨(hg.i (by omega) (hs _ _ (by omega) (by omega))).trans g1, (hg.i (by omega) (hs _ _ (by omega) (by omega))).trans g2, (hg.i (by omega) (hs _ _ (by omega) (by omega))).trans g3, (hg.i (by omega) (hs _ _ (by omega) (by omega))).trans g4⟩
theorem RuC.gw {S : List (Nat × Option Nat)} {n s : Nat} {w v : Wd} {N r : Nat} {u : Ru} (h : RuC w N r u) (hg : Gw S n s w v) (hr : r + 4 < wN w) (hs : ∀ a j, r ≤ a → a ≤ r + 4 → inS S a j = false) : RuC v N r u :=
  ⟨h.1.gw hg hr hs, (hg.i (by omega) (hs r 5 (Nat.le_refl r) (by omega))).trans h.2⟩
theorem MeV.gw {S : List (Nat × Option Nat)} {n s : Nat} {w v : Wd} {N M c : Nat} {rs : List Ru} (h : MeV w N M rs c) (hg : Gw S n s w v) (hs : ∀ a j, M ≤ a → inS S a j = false) : MeV v N M rs c := by
  obtain ⟨h0, h1, h2, h3, h4, h5, h6, h7, h8⟩ := h
  refine ⟨h0, by have := hg.1.1; omega, (hg.2.1 _ (by omega)).trans h2, (hg.2.1 _ (by omega)).trans h3, (hg.r (by omega) (hs _ _ (Nat.le_refl M))).trans h4, (hg.i (by omega) (hs _ _ (Nat.le_refl M))).trans h5, (hg.i (by omega) (hs _ _ (Nat.le_refl M))).trans h6, h7, fun j hj => ?_⟩
  obtain ⟨g1, g2⟩ := h8 j hj
  exact ⟨(hg.r (by omega) (hs _ _ (by omega))).trans g1, g2.gw hg (by omega) (fun a j h _ => hs a j (by omega))⟩
theorem frl_off {o M i a j : Nat} (h1 : a ≠ o) (h2 : a ≠ M) (h3 : a ≠ M + 1 ∨ j ≠ i) : inS (FRl o M i) a j = false := inS_no (fun s hs e => by
  simp only [List.mem_cons, List.mem_nil_iff, or_false] at hs
  rcases hs with rfl | rfl | rfl | rfl | rfl | rfl | rfl | rfl
  · refine ⟨fun hh => (by cases hh), fun hh => ?_⟩
    have e2 : M + 1 = a := e
    cases hh
    omega
  · exact absurd e.symm h2
  · exact absurd e.symm h2
  all_goals exact absurd e.symm h1)
abbrev FMe (o M : Nat) : List (Nat × Option Nat) := [(M + 1, none), (M, some 1), (M, some 2), (o, some 1), (o, some 5), (o, some 6), (o, some 7), (o, some 8)]
theorem Gw.frl {o M i n s : Nat} {w v : Wd} (h : Gw (FRl o M i) n s w v) : Gw (FMe o M) n s w v := by
  refine ⟨h.1, h.2.1, fun a k ha hs => h.2.2 a k ha ?_⟩
  cases e : inS (FRl o M i) a k with
  | false => rfl
  | true =>
    obtain ⟨x, h1, h2, h3⟩ := inS_iff.mp e
    simp only [List.mem_cons, List.mem_nil_iff, or_false] at h1
    have : inS (FMe o M) a k = true := by
      rcases h1 with rfl | rfl | rfl | rfl | rfl | rfl | rfl | rfl
      · exact inS_iff.mpr ⟨(M + 1, none), by simp, h2, Or.inl rfl⟩
      · exact inS_iff.mpr ⟨(M, some 1), by simp, h2, h3⟩
      · exact inS_iff.mpr ⟨(M, some 2), by simp, h2, h3⟩
      · exact inS_iff.mpr ⟨(o, some 1), by simp, h2, h3⟩
      · exact inS_iff.mpr ⟨(o, some 5), by simp, h2, h3⟩
      · exact inS_iff.mpr ⟨(o, some 6), by simp, h2, h3⟩
      · exact inS_iff.mpr ⟨(o, some 7), by simp, h2, h3⟩
      · exact inS_iff.mpr ⟨(o, some 8), by simp, h2, h3⟩
    rw [this] at hs
    cases hs
theorem getD_snocR {rs : List Ru} {u : Ru} {i : Nat} : (rs ++ [u]).getD i ru0 = if i < rs.length then rs.getD i ru0 else if i = rs.length then u else ru0 := by
  by_cases h : i < rs.length
  · rw [if_pos h]
    simp [List.getD, List.getElem?_append_left h]
  · rw [if_neg h]
    by_cases e : i = rs.length
    · subst e
      rw [if_pos rfl]
      simp [List.getD]
    · rw [if_neg e]
      have : (rs ++ [u])[i]? = none := List.getElem?_eq_none (by rw [List.length_append]; show rs.length + 1 ≤ i; omega)
      simp [List.getD, this]
section CME
variable {o M T N : Nat} {t : Nat → Int32}
theorem c_rules (d : Nat) (h3 : 3 ≤ N) (hN : N ≤ 8) (hoM : o < M) : ∀ n rs (w : Wd) (k : Tk) (c : Nat), n + rs.length = 20 → Sc w o M T N t k c → c ≤ 40 → wN w = M + 2 + 5 * rs.length → MeV w N M rs c → (rs.length = 0 ∨ k.1 ≠ 0) →
    (∀ q, pRs N t T n rs c k = .ok q → ∃ v, val (87, d + 20, 6, [some (.ref o), some (.int (nI rs.length))], [], w) = some (none, v) ∧ Gw (FMe o M) (5 * n) (38 * n) w v ∧ gI v o 1 = -1 ∧ Rd v o M T N t ∧ MeV v N M q.1 q.2) ∧
    (∀ e, pRs N t T n rs c k = .error e → ∃ v, val (87, d + 20, 6, [some (.ref o), some (.int (nI rs.length))], [], w) = some (none, v) ∧ Gw (FMe o M) (5 * n) (38 * n) w v ∧ gI v o 1 = nI e ∧ e ≤ T ∧ Rd v o M T N t)
  | 0, rs, w, k, c, hn, hS, hc, hw, hV, hk0 => by
    have hk := hS.2.2.1.2.1
    refine ⟨fun q hq => (by cases hq), fun e he => ?_⟩
    cases he
    have hl : rs.length = 20 := by omega
    have hk0' : k.1 ≠ 0 := hk0.elim (fun h => by omega) id
    rw [hl]
    obtain ⟨v, x1, x2, x3, x4⟩ := c_ref (d + 19) hS
    refine ⟨v, (tr_87_6 (d + 11) w o _ 8 hk).trans ?_, ?_, x3, hS.2.2.2.2.1.fr, x4⟩
    · rw [if_neg (show ¬ (20 : Int32) < nI 20 by decide), hS.2.2.2.2.2.1, if_neg (by decide), if_neg (show ¬ nI 20 = 0 by decide), if_neg (fun h => hk0' ((hS.2.2.2.1.k0 hS.2.2.2.2.1.1).mp h)), if_neg (show ¬ ¬ nI 20 = 20 from fun h => h rfl)]
      refine (val_call (pc2 := 40) rfl rfl rfl rfl (rcvO hk (by decide)) (Nat.le_of_ble_eq_true rfl) (Nat.le_of_ble_eq_true rfl) rfl x1 rfl).trans ?_
      refine (tr_87_40 (d + 11) v o _).trans ((tr_87_47 (d + 11) v o _).trans ((tr_87_6 (d + 11) v o _ 8 x4.2.1).trans ?_))
      rw [if_pos (show (20 : Int32) < nI 20 + 1 by decide)]
    · exact Gw.of (x2.sub (fun s hs => List.mem_cons_of_mem _ (List.mem_cons_of_mem _ hs)))
  | n + 1, rs, w, k, c, hn, hS, hc, hw, hV, hk0 => by
    have hk := hS.2.2.1.2.1
    have hM151 := hS.2.2.2.2.2.2.2.1
    obtain ⟨m0, m1, m2, m3, m4, m5, m6, m7, m8⟩ := id hV
    obtain ⟨y, z⟩ := c_rule d h3 hN (i := rs.length) hS hc (by omega) (by omega) (by omega) (by omega) m3 m4 m5 (by omega)
    have e0 : val (87, d + 20, 6, [some (.ref o), some (.int (nI rs.length))], [], w) = val (87, d + 20, 44, [some (.ref o), some (.int (nI rs.length))], [.ref o], w) := by
      refine (tr_87_6 (d + 11) w o _ 8 hk).trans ?_
      rw [if_neg (show ¬ (20 : Int32) < nI rs.length from n_nlt (a := 20) (by omega) (by omega)), hS.2.2.2.2.2.1, if_neg (by decide), if_pos (show ¬ nI rs.length = 20 from n_ne (b := 20) (by omega) (by omega) (by omega))]
      by_cases h0 : rs.length = 0
      · rw [if_pos (show nI rs.length = 0 by rw [h0]; rfl)]
      · rw [if_neg (n_ne0 h0 (by omega)), if_neg (fun h => (hk0.elim (fun h => absurd h h0) id) ((hS.2.2.2.1.k0 hS.2.2.2.2.1.1).mp h))]
    unfold pRs
    cases hp : pRu N t T c k with
    | error er =>
      refine ⟨fun q hq => (by cases hq), fun e he => ?_⟩
      cases he
      obtain ⟨v, x1, x2, x3, x4⟩ := z er hp
      have hT := hS.2.2.1.2.2.2.2.2.2.1
      have her := pRu_err hS.2.2.2.2.1 hp
      refine ⟨v, e0.trans ?_, x2.frl.up (by omega) (by omega), x3, her, x4⟩
      refine (val_call (pc2 := 47) rfl rfl rfl rfl (rcvO hk (by decide)) (Nat.le_of_ble_eq_true rfl) (Nat.le_of_ble_eq_true rfl) rfl x1 rfl).trans ?_
      refine (tr_87_47 (d + 11) v o _).trans ((tr_87_6 (d + 11) v o _ 8 x4.2.1).trans ?_)
      rw [x3, if_pos (show (0 : Int32) ≤ nI er from n_le (a := 0) (Nat.zero_le er) (by omega))]
      split <;> rfl
    | ok p =>
      obtain ⟨v, x1, x2, x3, x4, x5, x6, x7⟩ := y p hp
      obtain ⟨p1, p2, p3, p4⟩ := pRu_ok hS.2.2.2.2.1 hp
      have hkv := x4.2.2.1.2.1
      have hl : (rs ++ [p.1]).length = rs.length + 1 := List.length_append
      have e1 : val (87, d + 20, 6, [some (.ref o), some (.int (nI rs.length))], [], w) = val (87, d + 20, 6, [some (.ref o), some (.int (nI (rs ++ [p.1]).length))], [], v) := by
        refine e0.trans ?_
        refine (val_call (pc2 := 47) rfl rfl rfl rfl (rcvO hk (by decide)) (Nat.le_of_ble_eq_true rfl) (Nat.le_of_ble_eq_true rfl) rfl x1 rfl).trans ?_
        refine (tr_87_47 (d + 11) v o _).trans ?_
        rw [n_succ, hl]
      have hV2 : MeV v N M (rs ++ [p.1]) p.2.1 := by
        refine ⟨m0, by rw [hl]; omega, x4.2.2.2.2.2.2.1, (x2.2.1 _ (by omega)).trans m3, ?_, by rw [hl]; exact x7, x4.2.2.2.2.2.2.2.2.2, by rw [hl]; omega, fun j hj => ?_⟩
        · refine (x2.r (by omega) (inS_no (fun s hs e => ?_))).trans m4
          simp only [List.mem_cons, List.mem_nil_iff, or_false] at hs
          rcases hs with rfl | rfl | rfl | rfl | rfl | rfl | rfl | rfl
          · exact absurd (show M + 1 = M from e) (by omega)
          · exact ⟨fun h => (by cases h), fun h => (by cases h)⟩
          · exact ⟨fun h => (by cases h), fun h => (by cases h)⟩
          all_goals exact absurd (show o = M from e) (by omega)
        · rw [hl] at hj
          rw [getD_snocR]
          by_cases e : j < rs.length
          · rw [if_pos e]
            obtain ⟨g1, g2⟩ := m8 j e
            exact ⟨(x2.r (by omega) (frl_off (by omega) (by omega) (Or.inr (by omega)))).trans g1, g2.gw x2 (by omega) (fun a j2 h1 h2 => frl_off (by omega) (by omega) (Or.inl (by omega)))⟩
          · have ej : j = rs.length := by omega
            rw [if_neg e, if_pos ej, ej, ← hw]
            exact ⟨x6, x5⟩
      rw [e1]
      dsimp only
      by_cases hend : p.2.2.1 = 0
      · rw [if_pos hend]
        refine ⟨fun q hq => ?_, fun e he => (by cases he)⟩
        cases hq
        refine ⟨v, (tr_87_6 (d + 11) v o _ 8 hkv).trans ?_, x2.frl.up (by omega) (by omega), x4.2.2.2.2.2.1, x4.2.2.1, hV2⟩
        rw [hl, if_neg (show ¬ (20 : Int32) < nI (rs.length + 1) from n_nlt (a := 20) (by omega) (by omega)), x4.2.2.2.2.2.1, if_neg (by decide), if_neg (n_ne0 (by omega) (by omega)), if_pos ((x4.2.2.2.1.k0 x4.2.2.2.2.1.1).mpr hend)]
      · rw [if_neg hend]
        obtain ⟨b1, b2⟩ := c_rules d h3 hN hoM n (rs ++ [p.1]) v p.2.2 p.2.1 (by omega) x4 p3 (by rw [hl]; omega) hV2 (Or.inr hend)
        refine ⟨fun q hq => ?_, fun e he => ?_⟩
        · obtain ⟨u, g1, g2, g3⟩ := b1 q hq
          exact ⟨u, g1, (x2.frl.trans g2).up (by omega) (by omega), g3⟩
        · obtain ⟨u, g1, g2, g3⟩ := b2 e he
          exact ⟨u, g1, (x2.frl.trans g2).up (by omega) (by omega), g3⟩
end CME
