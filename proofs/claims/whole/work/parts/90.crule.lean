/-! THE READER: a rule -/
abbrev Ru : Type := List Cd × (Nat → Nat)
section PRU
variable (N : Nat) (t : Nat → Int32) (T : Nat)
def pCs : Nat → List Cd → Tk → Except Nat (List Cd × Tk)
  | 0, _, k => .error k.2.1
  | n + 1, cs, k => match pCd N t T k with
    | .error e => .error e
    | .ok q => if isWd t q.2 8 = true then pCs n (cs ++ [q.1]) (nxt t T q.2) else .ok (cs ++ [q.1], q.2)
def pWh (k : Tk) : Except Nat (List Cd × Tk) := if isWd t k 0 = true then pCs N t T 8 [] (nxt t T k) else .ok ([], k)
def pRu (c : Nat) (k : Tk) : Except Nat (Ru × Nat × Tk) :=
  match pWh N t T k with
  | .error e => .error e
  | .ok q => match pCh N t T 6 c q.2 with
    | .error e => .error e
    | .ok r => if isSg t r.2.2 59 = true then .ok ((q.1, r.1), r.2.1, nxt t T r.2.2) else .error r.2.2.2.1
end PRU
abbrev RuOK (N : Nat) (u : Ru) : Prop := (∀ x, x ∈ u.1 → CdOK N x) ∧ u.1.length ≤ 8 ∧ IsRow N u.2
section PRF
variable {N : Nat} {t : Nat → Int32} {T : Nat}
theorem pCs_ok : ∀ n cs k q, TkIn t T k → (∀ x, x ∈ cs → CdOK N x) → n + cs.length = 8 → pCs N t T n cs k = .ok q → (∀ x, x ∈ q.1 → CdOK N x) ∧ q.1.length ≤ 8 ∧ TkIn t T q.2
  | 0, cs, k, q, _, _, _, h => by cases h
  | n + 1, cs, k, q, hk, hc, hn, h => by
    unfold pCs at h
    cases hp : pCd N t T k with
    | error e => rw [hp] at h; cases h
    | ok p =>
      rw [hp] at h
      obtain ⟨p1, p2⟩ := pCd_ok hk hp
      have hc2 : ∀ x, x ∈ cs ++ [p.1] → CdOK N x := fun x hx => by
        rcases List.mem_append.mp hx with hx | hx
        · exact hc x hx
        · rw [List.mem_singleton.mp hx]; exact p1
      have hl : (cs ++ [p.1]).length = cs.length + 1 := List.length_append
      dsimp only at h
      split at h
      · exact pCs_ok n _ _ q p2.nxt hc2 (by omega) h
      · cases h
        exact ⟨hc2, by rw [hl]; omega, p2⟩
theorem pCs_err : ∀ n cs k e, TkIn t T k → pCs N t T n cs k = .error e → e ≤ T
  | 0, cs, k, e, hk, h => by cases h; exact hk.fr
  | n + 1, cs, k, e, hk, h => by
    unfold pCs at h
    cases hp : pCd N t T k with
    | error e2 => rw [hp] at h; cases h; exact pCd_err hk hp
    | ok p =>
      rw [hp] at h
      obtain ⟨p1, p2⟩ := pCd_ok hk hp
      dsimp only at h
      split at h
      · exact pCs_err n _ _ e p2.nxt h
      · cases h
theorem pWh_ok {k : Tk} (hk : TkIn t T k) {q : List Cd × Tk} (h : pWh N t T k = .ok q) : (∀ x, x ∈ q.1 → CdOK N x) ∧ q.1.length ≤ 8 ∧ TkIn t T q.2 := by
  unfold pWh at h
  split at h
  · exact pCs_ok 8 [] _ q hk.nxt (fun x hx => by cases hx) rfl h
  · cases h
    exact ⟨fun x hx => (by cases hx), Nat.zero_le 8, hk⟩
theorem pWh_err {k : Tk} (hk : TkIn t T k) {e : Nat} (h : pWh N t T k = .error e) : e ≤ T := by
  unfold pWh at h
  split at h
  · exact pCs_err 8 [] _ e hk.nxt h
  · cases h
theorem pRu_ok {c : Nat} {k : Tk} (hk : TkIn t T k) {q : Ru × Nat × Tk} (h : pRu N t T c k = .ok q) : RuOK N q.1 ∧ c < q.2.1 ∧ q.2.1 ≤ 40 ∧ TkIn t T q.2.2 := by
  unfold pRu at h
  cases hp : pWh N t T k with
  | error e => rw [hp] at h; cases h
  | ok p =>
    rw [hp] at h
    obtain ⟨p1, p2, p3⟩ := pWh_ok hk hp
    dsimp only at h
    cases hr : pCh N t T 6 c p.2 with
    | error e => rw [hr] at h; cases h
    | ok r =>
      rw [hr] at h
      obtain ⟨r1, r2, r3, r4⟩ := pCh_ok 6 c p.2 r p3 hr
      dsimp only at h
      split at h
      · cases h
        exact ⟨⟨p1, p2, r3⟩, r1, r2, r4.nxt⟩
      · cases h
theorem pRu_err {c : Nat} {k : Tk} (hk : TkIn t T k) {e : Nat} (h : pRu N t T c k = .error e) : e ≤ T := by
  unfold pRu at h
  cases hp : pWh N t T k with
  | error e2 => rw [hp] at h; cases h; exact pWh_err hk hp
  | ok p =>
    rw [hp] at h
    obtain ⟨p1, p2, p3⟩ := pWh_ok hk hp
    dsimp only at h
    cases hr : pCh N t T 6 c p.2 with
    | error e2 => rw [hr] at h; cases h; exact pCh_err 6 c p.2 _ p3 hr
    | ok r =>
      rw [hr] at h
      obtain ⟨r1, r2, r3, r4⟩ := pCh_ok 6 c p.2 r p3 hr
      dsimp only at h
      split at h
      · cases h
      · cases h; exact r4.fr
end PRF
section CRU
variable {o M T N c r : Nat} {t : Nat → Int32}
/-- out of the conditions with a fault -/
theorem c_cdOut (d : Nat) {u : Wd} (hR : Rd u o M T N t) {e : Nat} (he : gI u o 1 = nI e) (h31 : e < 2 ^ 31) {i : Nat} (hi : i ≤ 8) (l2 : Int32) : ∃ l2' l3', val (88, d + 8, 45, [some (.ref o), some (.ref r), some (.int l2), some (.int (nI i))], [], u) = val (88, d + 8, 109, [some (.ref o), some (.ref r), some (.int l2'), some (.int l3')], [], u) := by
  have hF : (0 : Int32) ≤ gI u o 1 := by rw [he]; exact n_le (a := 0) (Nat.zero_le e) h31
  refine ⟨0, nI i + 1, (tr_88_45 d u o r _ _ 8 hR.2.1).trans ?_⟩
  rw [if_pos hF]
  refine (tr_88_17 d u o r _ _ 8 hR.2.1).trans ?_
  rw [if_pos (show (0 : Int32) = 0 from rfl), if_pos hF, if_pos hF]
  split <;> rfl
theorem c_conds (d : Nat) (hN : N ≤ 8) : ∀ n cs (w : Wd) (k : Tk), n + cs.length = 8 → Sr w o M T N t k c r cs →
    (∀ q, pCs N t T n cs k = .ok q → ∃ v l2 l3, val (88, d + 8, 17, [some (.ref o), some (.ref r), some (.int 1), some (.int (nI cs.length))], [], w) = val (88, d + 8, 83, [some (.ref o), some (.ref r), some (.int l2), some (.int l3)], [.int 0, .ref o, .ref r], v) ∧ Fr (FCd o M r) w v ∧ Sr v o M T N t q.2 c r q.1) ∧
    (∀ e, pCs N t T n cs k = .error e → ∃ v l2 l3, val (88, d + 8, 17, [some (.ref o), some (.ref r), some (.int 1), some (.int (nI cs.length))], [], w) = val (88, d + 8, 109, [some (.ref o), some (.ref r), some (.int l2), some (.int l3)], [], v) ∧ Fr (FCd o M r) w v ∧ gI v o 1 = nI e ∧ Rd v o M T N t)
  | 0, cs, w, k, hn, hS => by
    have hk := hS.1.2.2.1.2.1
    refine ⟨fun q hq => (by cases hq), fun e he => ?_⟩
    cases he
    have hl : cs.length = 8 := by omega
    rw [hl]
    obtain ⟨v, x1, x2, x3, x4⟩ := c_ref (d + 7) hS.1
    obtain ⟨l2, l3, y1⟩ := c_cdOut (r := r) d x4 x3 (hS.1.2.2.2.2.1.at31 hS.1.2.2.1) (i := 8) (Nat.le_refl 8) 1
    refine ⟨v, l2, l3, (tr_88_17 d w o r _ _ 8 hk).trans ?_, x2.cr, x3, x4⟩
    rw [if_neg (show ¬ (8 : Int32) < nI 8 by decide), if_neg (show ¬ (1 : Int32) = 0 by decide), if_neg (show ¬ ¬ nI 8 = 8 from fun h => h rfl)]
    refine (val_call (pc2 := 37) rfl rfl rfl rfl (rcvO hk (by decide)) (Nat.le_of_ble_eq_true rfl) (Nat.le_of_ble_eq_true rfl) rfl x1 rfl).trans ?_
    exact (tr_88_37 d v o r _ _).trans y1
  | n + 1, cs, w, k, hn, hS => by
    have hk := hS.1.2.2.1.2.1
    have hT := hS.1.2.2.1.2.2.2.2.2.2.1
    have e0 := tr_88_17 d w o r 1 (nI cs.length) 8 hk
    rw [if_neg (show ¬ (8 : Int32) < nI cs.length from n_nlt (a := 8) (by omega) (by omega)), if_neg (show ¬ (1 : Int32) = 0 by decide), if_pos (show ¬ nI cs.length = 8 from n_ne (b := 8) (by omega) (by omega) (by omega))] at e0
    obtain ⟨y, z⟩ := c_rcond d hN hS (by omega)
    unfold pCs
    cases hp : pCd N t T k with
    | error er =>
      refine ⟨fun q hq => (by cases hq), fun e he => ?_⟩
      cases he
      obtain ⟨v, x1, x2, x3, x4⟩ := z er hp
      obtain ⟨l2, l3, y1⟩ := c_cdOut (r := r) d x4 x3 (by have := pCd_err hS.1.2.2.2.2.1 hp; omega) (i := cs.length) (by omega) 1
      refine ⟨v, l2, l3, e0.trans ?_, x2, x3, x4⟩
      refine (val_call (pc2 := 45) rfl rfl rfl rfl (rcvO hk (by decide)) (Nat.le_of_ble_eq_true rfl) (Nat.le_of_ble_eq_true rfl) rfl x1 rfl).trans ?_
      exact y1
    | ok p =>
      obtain ⟨v, x1, x2, x3⟩ := y p hp
      have hkv := x3.1.2.2.1.2.1
      have h1v := x3.1.2.2.2.2.2.1
      have hl : (cs ++ [p.1]).length = cs.length + 1 := List.length_append
      have e1 : val (88, d + 8, 17, [some (.ref o), some (.ref r), some (.int 1), some (.int (nI cs.length))], [], w) = val (88, d + 8, 55, [some (.ref o), some (.ref r), some (.int 1), some (.int (nI cs.length))], [.ref 10, .ref o], v) := by
        refine e0.trans ?_
        refine (val_call (pc2 := 45) rfl rfl rfl rfl (rcvO hk (by decide)) (Nat.le_of_ble_eq_true rfl) (Nat.le_of_ble_eq_true rfl) rfl x1 rfl).trans ?_
        refine (tr_88_45 d v o r _ _ 8 hkv).trans ?_
        rw [h1v, if_neg (by decide)]
      dsimp only
      cases ha : isWd t p.2 8 with
      | true =>
        rw [if_pos rfl]
        obtain ⟨u, q1, q2, q3⟩ := c_twYes (d + 2) x3.1 (j := 8) (by decide) ha
        have hS2 := x3.ch q2.tkf.ch q3
        obtain ⟨b1, b2⟩ := c_conds d hN n (cs ++ [p.1]) u (nxt t T p.2) (by omega) hS2
        have e2 : val (88, d + 8, 17, [some (.ref o), some (.ref r), some (.int 1), some (.int (nI cs.length))], [], w) = val (88, d + 8, 17, [some (.ref o), some (.ref r), some (.int 1), some (.int (nI (cs ++ [p.1]).length))], [], u) := by
          refine e1.trans ?_
          refine (val_call (pc2 := 58) rfl rfl rfl rfl (rcvO hkv (by decide)) (Nat.le_of_ble_eq_true rfl) (Nat.le_of_ble_eq_true rfl) rfl q1 rfl).trans ?_
          refine (tr_88_58 d u o r _ _ _).trans ?_
          rw [if_neg (show ¬ (1 : Int32) = 0 by decide), n_succ, hl]
        rw [e2]
        have fA : Fr (FCd o M r) w u := x2.trans (q2.tkf.ch (M := M)).cr
        refine ⟨fun q hq => ?_, fun e he => ?_⟩
        · obtain ⟨v2, l2, l3, g1, g2, g3⟩ := b1 q hq
          exact ⟨v2, l2, l3, g1, fA.trans g2, g3⟩
        · obtain ⟨v2, l2, l3, g1, g2, g3⟩ := b2 e he
          exact ⟨v2, l2, l3, g1, fA.trans g2, g3⟩
      | false =>
        rw [if_neg (show ¬ false = true by decide)]
        refine ⟨fun q hq => ?_, fun e he => (by cases he)⟩
        cases hq
        refine ⟨v, 0, nI (cs.length + 1), e1.trans ?_, x2, x3⟩
        refine (val_call (pc2 := 58) rfl rfl rfl rfl (rcvO hkv (by decide)) (Nat.le_of_ble_eq_true rfl) (Nat.le_of_ble_eq_true rfl) rfl (c_twNo (d + 2) x3.1 (j := 8) (by decide) ha) rfl).trans ?_
        refine (tr_88_58 d v o r _ _ _).trans ?_
        rw [if_pos (show (0 : Int32) = 0 from rfl), n_succ]
        refine (tr_88_17 d v o r _ _ 8 hkv).trans ?_
        rw [if_neg (show ¬ (8 : Int32) < nI (cs.length + 1) from n_nlt (a := 8) (by omega) (by omega)), if_pos (show (0 : Int32) = 0 from rfl), h1v, if_neg (by decide)]
theorem Sc.gw {w v : Wd} {k : Tk} {n s : Nat} (h : Sc w o M T N t k c) (hg : Gw [] n s w v) (hb : 151 ≤ wN w) (ho : o < wN w) (hM : M < wN w) : Sc v o M T N t k c := by
  obtain ⟨a1, a2, ⟨r1, r2, r3, r4, r5, r6, r7, r8⟩, ⟨k1, k2, k3⟩, a5, a6, a7, a8, a9, a10⟩ := h
  have e : ∀ a j, a < 151 → inS [] a j = false := fun _ _ _ => rfl
  have ho' : ∀ j, gI v o j = gI w o j := fun j => hg.i ho rfl
  exact ⟨hg.fixO hb e a1, hg.txO hb e a2, ⟨r1, (hg.2.1 o ho).trans r2, (hg.r ho rfl).trans r3, (hg.r ho rfl).trans r4, (ho' 3).trans r5, (ho' 4).trans r6, r7, fun i hi => (hg.i (by omega) rfl).trans (r8 i hi)⟩, ⟨by rw [ho' 5]; exact k1, (ho' 6).trans k2, (ho' 7).trans k3⟩, a5, (ho' 1).trans a6, (hg.2.1 M hM).trans a7, a8, a9, (hg.i hM rfl).trans a10⟩
/-- a rule, as it was read -/
def RuC (w : Wd) (N r : Nat) (u : Ru) : Prop := RuL w r u.1 ∧ gI w r 5 = nI (pkN N u.2)
abbrev FRl (o M i : Nat) : List (Nat × Option Nat) := [(M + 1, some i), (M, some 1), (M, some 2), (o, some 1), (o, some 5), (o, some 6), (o, some 7), (o, some 8)]
end CRU
