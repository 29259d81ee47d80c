/-! THE READER: changes -/
abbrev FCh (o M : Nat) : List (Nat × Option Nat) := [(M, some 2), (o, some 1), (o, some 5), (o, some 6), (o, some 7), (o, some 8)]
theorem fch_off {o M a j : Nat} (h1 : a ≠ o ∨ (j < 5 ∧ j ≠ 1)) (h2 : a ≠ M ∨ j ≠ 2) : inS (FCh o M) a j = false := inS_no (fun s hs e => by
  simp only [List.mem_cons, List.mem_nil_iff, or_false] at hs
  rcases hs with rfl | rfl | rfl | rfl | rfl | rfl
  · refine ⟨fun hh => (by cases hh), fun hh => ?_⟩
    have e2 : M = a := e
    cases hh
    omega
  all_goals
    refine ⟨fun hh => (by cases hh), fun hh => ?_⟩
    have e2 : o = a := e
    cases hh
    omega)
theorem Fr.ch {o M : Nat} {w v : Wd} (h : Fr (FTf o) w v) : Fr (FCh o M) w v := h.sub (fun s hs => List.mem_cons_of_mem _ hs)
def Sc (w : Wd) (o M T N : Nat) (t : Nat → Int32) (k : Tk) (c : Nat) : Prop := Fix w ∧ TX w ∧ Rd w o M T N t ∧ TkC w o t k ∧ TkIn t T k ∧ gI w o 1 = -1 ∧ wK w M = (3, 3) ∧ 151 ≤ M ∧ M ≠ o ∧ gI w M 2 = nI c
section CCH
variable {w v : Wd} {o M T N c c' : Nat} {t : Nat → Int32} {k k' : Tk}
theorem Sc.stepC (h : Sc w o M T N t k c) (hf : Fr (FCh o M) w v) (hk : TkC v o t k') (hin : TkIn t T k') (h1 : gI v o 1 = -1) (h2 : gI v M 2 = nI c') : Sc v o M T N t k' c' := by
  obtain ⟨a1, a2, a3, a4, a5, a6, a7, a8, a9, a10⟩ := h
  have hlo : ∀ a j, a < 151 → inS (FCh o M) a j = false := fun a j ha => fch_off (Or.inl (by have := a3.1; omega)) (Or.inl (by omega))
  exact ⟨hf.fixO hlo a1, hf.txO hlo a2, a3.fr hf (fun j hj hj1 => fch_off (Or.inr ⟨hj, hj1⟩) (Or.inl (Ne.symm a9))) (fun i => hlo 65 i (by omega)), hk, hin, h1, by rw [hf.k]; exact a7, a8, a9, h2⟩
theorem Sc.stepF (h : Sc w o M T N t k c) (hf : Fr (FTf o) w v) (hk : TkC v o t k') (hin : TkIn t T k') (h1 : gI v o 1 = -1) : Sc v o M T N t k' c :=
  h.stepC hf.ch hk hin h1 ((hf.i M 2 (ftf_off (Or.inl h.2.2.2.2.2.2.2.2.1))).trans h.2.2.2.2.2.2.2.2.2)
theorem Sc.step (h : Sc w o M T N t k c) (hf : Fr (FTk o) w v) (hk : TkC v o t k') (hin : TkIn t T k') : Sc v o M T N t k' c :=
  h.stepF hf.tkf hk hin ((hf.i o 1 (ftk_off (Or.inr (by decide)))).trans h.2.2.2.2.2.1)
theorem c_twNo (d : Nat) (h : Sc w o M T N t k c) {j : Nat} (hj : j < 16) (hn : isWd t k j = false) : val (83, d + 5, 0, [some (.ref o), some (.ref (2 + j)), none], [], w) = some (some (.int 0), w) := by
  obtain ⟨a1, a2, a3, a4, a5, -⟩ := h
  have e := c_isWord d a1 a2 a3 a4 a5 hj
  rw [hn] at e
  refine (tr_83 d w o (2 + j)).trans ?_
  refine (val_call (pc2 := 5) rfl rfl rfl rfl (rcvO a3.2.1 (by decide)) (Nat.le_of_ble_eq_true rfl) (Nat.le_of_ble_eq_true rfl) rfl e rfl).trans ?_
  refine (tr_83_5 d w o (2 + j) _).trans ?_
  rw [if_pos (show b01 false = 0 from rfl)]
  exact tr_83_14 d w o (2 + j) _ rfl
theorem c_twYes (d : Nat) (h : Sc w o M T N t k c) {j : Nat} (hj : j < 16) (hy : isWd t k j = true) : ∃ v, val (83, d + 5, 0, [some (.ref o), some (.ref (2 + j)), none], [], w) = some (some (.int 1), v) ∧ Fr (FTk o) w v ∧ Sc v o M T N t (nxt t T k) c := by
  obtain ⟨v, e1, e2, e3⟩ := c_takesWord d h.1 h.2.1 h.2.2.1 h.2.2.2.1 h.2.2.2.2.1 hj
  rw [hy] at e1
  rw [hy, if_pos rfl] at e3
  exact ⟨v, e1, e2, h.step e2 e3 h.2.2.2.2.1.nxt⟩
theorem c_tsNo (d : Nat) (h : Sc w o M T N t k c) {x : Int32} (hn : isSg t k x = false) : val (84, d + 3, 0, [some (.ref o), some (.int x), none], [], w) = some (some (.int 0), w) := by
  obtain ⟨a1, a2, a3, a4, a5, -⟩ := h
  have e0 := c_sign d a1 a3 a4 a5 x
  rw [hn, if_neg (by decide)] at e0
  exact e0
theorem c_tsYes (d : Nat) (h : Sc w o M T N t k c) {x : Int32} (hy : isSg t k x = true) : ∃ v, val (84, d + 3, 0, [some (.ref o), some (.int x), none], [], w) = some (some (.int 1), v) ∧ Fr (FTk o) w v ∧ Sc v o M T N t (nxt t T k) c := by
  obtain ⟨v, e1, e2, e3⟩ := c_takesSign d h.1 h.2.2.1 h.2.2.2.1 h.2.2.2.2.1 x
  rw [hy] at e1
  rw [hy, if_pos rfl] at e3
  exact ⟨v, e1, e2, h.step e2 e3 h.2.2.2.2.1.nxt⟩
/-- refused -/
theorem c_ref (d : Nat) (h : Sc w o M T N t k c) : ∃ v, val (75, d, 0, [some (.ref o)], [], w) = some (none, v) ∧ Fr (FCh o M) w v ∧ gI v o 1 = nI k.2.1 ∧ Rd v o M T N t := by
  obtain ⟨v, e1, e2, e3⟩ := c_refuse d h.2.2.1 h.2.2.2.1 h.2.2.2.2.2.1
  exact ⟨v, e1, e2.o1.ch, e3, h.2.2.1.tf e2.o1⟩
end CCH
section CCH2
variable {o M T N : Nat} {t : Nat → Int32}
theorem TkIn.fr {T : Nat} {k : Tk} (h : TkIn t T k) : k.2.1 ≤ T := Nat.le_trans h.2.1 h.2.2.1
theorem pTwo_err {s : Bool} {c : Nat} {k : Tk} (hk : TkIn t T k) {e : Nat} (h : pTwo N t T s c k = .error e) : e ≤ T := by
  unfold pTwo at h
  split at h
  · split at h
    · cases h
    · cases h; exact hk.nxt.fr
  · cases h; exact hk.fr
theorem pPl_err {c : Nat} {k : Tk} (hk : TkIn t T k) {e : Nat} (h : pPl N t T c k = .error e) : e ≤ T := by
  unfold pPl at h
  split at h
  · cases h
  · cases h; exact hk.fr
theorem pSm_err {P : Nat → Tk → Except Nat ChR} (hP : ∀ c k r, TkIn t T k → P c k = .ok r → ChOK N t T c r) (hE : ∀ c k e, TkIn t T k → P c k = .error e → e ≤ T) : ∀ n r0 e, TkIn t T r0.2.2 → pSm t T P n r0 = .error e → e ≤ T
  | 0, r0, e, hk, h => by
    unfold pSm at h
    split at h
    · cases h
    · cases h; exact hk.fr
  | n + 1, r0, e, hk, h => by
    unfold pSm at h
    split at h
    · cases hp : P r0.2.1 (nxt t T r0.2.2) with
      | error e2 => rw [hp] at h; cases h; exact hE _ _ _ hk.nxt hp
      | ok s =>
        rw [hp] at h
        obtain ⟨s1, s2, s3, s4⟩ := hP _ _ _ hk.nxt hp
        exact pSm_err hP hE n (fun x => r0.1 (s.1 x), s.2.1, s.2.2) e s4 h
    · split at h
      · cases h
      · cases h; exact hk.fr
theorem pCh_err : ∀ f c k e, TkIn t T k → pCh N t T f c k = .error e → e ≤ T
  | 0, c, k, e, hk, h => by cases h; exact hk.fr
  | f + 1, c, k, e, hk, h => by
    unfold pCh at h
    split at h
    · cases h; exact hk.fr
    split at h
    · cases h
    split at h
    · exact pPl_err hk.nxt h
    split at h
    · exact pTwo_err hk.nxt h
    split at h
    · exact pTwo_err hk.nxt h
    split at h
    · cases h
    split at h
    · cases hp : pCh N t T f (c + 1) (nxt t T k) with
      | error e2 => rw [hp] at h; cases h; exact pCh_err f _ _ _ hk.nxt hp
      | ok s => rw [hp] at h; cases h
    split at h
    · cases hp : pCh N t T f (c + 1) (nxt t T k) with
      | error e2 => rw [hp] at h; cases h; exact pCh_err f _ _ _ hk.nxt hp
      | ok s => rw [hp] at h; cases h
    split at h
    · cases hp : pCh N t T f (c + 1) (nxt t T k) with
      | error e2 => rw [hp] at h; cases h; exact pCh_err f _ _ _ hk.nxt hp
      | ok s =>
        rw [hp] at h
        exact pSm_err (fun c k r hk h => pCh_ok f c k r hk h) (fun c k e hk h => pCh_err f c k e hk h) 40 s e (pCh_ok f _ _ _ hk.nxt hp).2.2.2 h
    · cases h; exact hk.fr
/-- readChange, of so many levels left -/
def ChP (o M T N : Nat) (t : Nat → Int32) (f : Nat) : Prop := ∀ (w : Wd) (c : Nat) (k : Tk) (D : Nat), 2 * f + 6 ≤ D → Sc w o M T N t k c → c ≤ 40 →
    (∀ r, pCh N t T f c k = .ok r → ∃ v, val (91, D, 0, [some (.ref o), some (.int (nI (6 - f))), none, none], [], w) = some (some (.int (nI (pkN N r.1))), v) ∧ Fr (FCh o M) w v ∧ Sc v o M T N t r.2.2 r.2.1) ∧
    (∀ e, pCh N t T f c k = .error e → ∃ r v, val (91, D, 0, [some (.ref o), some (.int (nI (6 - f))), none, none], [], w) = some (some (.int r), v) ∧ Fr (FCh o M) w v ∧ gI v o 1 = nI e ∧ Rd v o M T N t)
theorem c_someL (h3 : 3 ≤ N) (hN : N ≤ 8) {f : Nat} (hf : f < 6) (hP : ChP o M T N t f) (D : Nat) (hD : 2 * f + 6 ≤ D) : ∀ n (w : Wd) (r0 : ChR) (l4 : Nat), n + l4 = 41 → Sc w o M T N t r0.2.2 r0.2.1 → r0.2.1 ≤ 40 → IsRow N r0.1 →
    (∀ r, pSm t T (pCh N t T f) n r0 = .ok r → ∃ v, val (92, D + 1, 10, [some (.ref o), some (.int (nI (5 - f))), some (.int (nI (pkN N r0.1))), some (.int (nI l4))], [], w) = some (some (.int (nI (pkN N r.1))), v) ∧ Fr (FCh o M) w v ∧ Sc v o M T N t r.2.2 r.2.1) ∧
    (∀ e, pSm t T (pCh N t T f) n r0 = .error e → ∃ r v, val (92, D + 1, 10, [some (.ref o), some (.int (nI (5 - f))), some (.int (nI (pkN N r0.1))), some (.int (nI l4))], [], w) = some (some (.int r), v) ∧ Fr (FCh o M) w v ∧ gI v o 1 = nI e ∧ Rd v o M T N t) := by
  obtain ⟨d, rfl⟩ : ∃ d, D = d + 3 := ⟨D - 3, by omega⟩
  have close : ∀ (w : Wd) (r0 : ChR) (l4 : Nat), Sc w o M T N t r0.2.2 r0.2.1 → 
      (isSg t r0.2.2 41 = true → ∃ v, val (92, d + 4, 64, [some (.ref o), some (.int (nI (5 - f))), some (.int (nI (pkN N r0.1))), some (.int (nI l4))], [.int 41, .ref o], w) = some (some (.int (nI (pkN N r0.1))), v) ∧ Fr (FCh o M) w v ∧ Sc v o M T N t (nxt t T r0.2.2) r0.2.1) ∧
      (isSg t r0.2.2 41 = false → ∃ r v, val (92, d + 4, 64, [some (.ref o), some (.int (nI (5 - f))), some (.int (nI (pkN N r0.1))), some (.int (nI l4))], [.int 41, .ref o], w) = some (some (.int r), v) ∧ Fr (FCh o M) w v ∧ gI v o 1 = nI r0.2.2.2.1 ∧ Rd v o M T N t) := by
    intro w r0 l4 hS
    have hk := hS.2.2.1.2.1
    refine ⟨fun hy => ?_, fun hn => ?_⟩
    · obtain ⟨v, e1, e2, e3⟩ := c_tsYes d hS hy
      refine ⟨v, ?_, e2.tkf.ch, e3⟩
      refine (val_call (pc2 := 67) rfl rfl rfl rfl (rcvO hk (by decide)) (Nat.le_of_ble_eq_true rfl) (Nat.le_of_ble_eq_true rfl) rfl e1 rfl).trans ?_
      refine (tr_92_67 (d + 1) v o _ _ _ _).trans ?_
      rw [if_pos (by decide)]
      exact tr_92_74 (d + 1) v o _ _ _
    · obtain ⟨v, e1, e2, e3, e4⟩ := c_ref (d + 3) hS
      refine ⟨nI (pkN N r0.1), v, ?_, e2, e3, e4⟩
      refine (val_call (pc2 := 67) rfl rfl rfl rfl (rcvO hk (by decide)) (Nat.le_of_ble_eq_true rfl) (Nat.le_of_ble_eq_true rfl) rfl (c_tsNo d hS hn) rfl).trans ?_
      refine (tr_92_67 (d + 1) w o _ _ _ _).trans ?_
      rw [if_neg (fun h => h rfl)]
      refine (val_call (pc2 := 74) rfl rfl rfl rfl (rcvO hk (by decide)) (Nat.le_of_ble_eq_true rfl) (Nat.le_of_ble_eq_true rfl) rfl e1 rfl).trans ?_
      exact tr_92_74 (d + 1) v o _ _ _
  intro n
  induction n with
  | zero =>
    intro w r0 l4 hl hS hc hr
    have h1 := hS.2.2.2.2.2.1
    have e0 := tr_92_10 (d + 1) w o (nI (5 - f)) (nI (pkN N r0.1)) (nI l4) 8 hS.2.2.1.2.1
    rw [h1, if_pos (show (40 : Int32) < nI l4 from n_lt (a := 40) (by omega) (by omega)), if_neg (by decide)] at e0
    obtain ⟨y, z⟩ := close w r0 l4 hS
    unfold pSm
    cases hs : isSg t r0.2.2 41 with
    | true =>
      obtain ⟨v, e1, e2, e3⟩ := y hs
      rw [if_pos rfl]
      refine ⟨fun r hr => ?_, fun e he => by cases he⟩
      cases hr
      exact ⟨v, e0.trans e1, e2, e3⟩
    | false =>
      obtain ⟨r', v, e1, e2, e3⟩ := z hs
      rw [if_neg (by decide)]
      refine ⟨fun r hr => (by cases hr), fun e he => ?_⟩
      cases he
      exact ⟨r', v, e0.trans e1, e2, e3⟩
  | succ n ih =>
    intro w r0 l4 hl hS hc hr
    have h1 := hS.2.2.2.2.2.1
    have hk := hS.2.2.1.2.1
    have e0 := tr_92_10 (d + 1) w o (nI (5 - f)) (nI (pkN N r0.1)) (nI l4) 8 hk
    rw [h1, if_neg (show ¬ (40 : Int32) < nI l4 from n_nlt (a := 40) (by omega) (by omega)), if_neg (by decide)] at e0
    unfold pSm
    cases hcm : isSg t r0.2.2 44 with
    | false =>
      rw [if_neg (by decide)]
      have e1 : val (92, d + 4, 26, [some (.ref o), some (.int (nI (5 - f))), some (.int (nI (pkN N r0.1))), some (.int (nI l4))], [.int 44, .ref o], w) = val (92, d + 4, 64, [some (.ref o), some (.int (nI (5 - f))), some (.int (nI (pkN N r0.1))), some (.int (nI l4))], [.int 41, .ref o], w) := by
        refine (val_call (pc2 := 29) rfl rfl rfl rfl (rcvO hk (by decide)) (Nat.le_of_ble_eq_true rfl) (Nat.le_of_ble_eq_true rfl) rfl (c_tsNo d hS hcm) rfl).trans ?_
        refine (tr_92_29 (d + 1) w o _ _ _ _ 8 hk).trans ?_
        rw [if_pos rfl, h1, if_neg (by decide)]
      obtain ⟨y, z⟩ := close w r0 l4 hS
      cases hs : isSg t r0.2.2 41 with
      | true =>
        obtain ⟨v, x1, x2, x3⟩ := y hs
        rw [if_pos rfl]
        refine ⟨fun r hr => ?_, fun e he => by cases he⟩
        cases hr
        exact ⟨v, e0.trans (e1.trans x1), x2, x3⟩
      | false =>
        obtain ⟨r', v, x1, x2, x3⟩ := z hs
        rw [if_neg (by decide)]
        refine ⟨fun r hr => (by cases hr), fun e he => ?_⟩
        cases he
        exact ⟨r', v, e0.trans (e1.trans x1), x2, x3⟩
    | true =>
      rw [if_pos rfl]
      obtain ⟨v, x1, x2, x3⟩ := c_tsYes d hS hcm
      have hkv := x3.2.2.1.2.1
      have e1 : val (92, d + 4, 26, [some (.ref o), some (.int (nI (5 - f))), some (.int (nI (pkN N r0.1))), some (.int (nI l4))], [.int 44, .ref o], w) = val (92, d + 4, 41, [some (.ref o), some (.int (nI (5 - f))), some (.int (nI (pkN N r0.1))), some (.int (nI l4))], [.int (nI (6 - f)), .ref o, .int (nI (pkN N r0.1)), .int (nI N)], v) := by
        refine (val_call (pc2 := 29) rfl rfl rfl rfl (rcvO hk (by decide)) (Nat.le_of_ble_eq_true rfl) (Nat.le_of_ble_eq_true rfl) rfl x1 rfl).trans ?_
        refine (tr_92_29 (d + 1) v o _ _ _ _ 8 hkv).trans ?_
        rw [if_neg (by decide), n_succ, x3.2.2.1.2.2.2.2.2.1, show 5 - f + 1 = 6 - f by omega]
      obtain ⟨y, z⟩ := hP v r0.2.1 (nxt t T r0.2.2) (d + 3) hD x3 hc
      cases hp : pCh N t T f r0.2.1 (nxt t T r0.2.2) with
      | error er =>
        obtain ⟨r', u, y1, y2, y3, y4⟩ := z er hp
        refine ⟨fun r hr => (by cases hr), fun e he => ?_⟩
        cases he
        have hT := x3.2.2.1.2.2.2.2.2.2.1
        have hF : (0 : Int32) ≤ gI u o 1 := by
          rw [y3]
          exact n_le (a := 0) (Nat.zero_le er) (by have := pCh_err f _ _ _ x3.2.2.2.2.1 hp; omega)
        refine ⟨fn_136 (nI N) (nI (pkN N r0.1)) r', u, e0.trans (e1.trans ?_), x2.tkf.ch.trans y2, y3, y4⟩
        refine (val_call (pc2 := 44) rfl rfl rfl rfl (rcvO hkv (by decide)) (Nat.le_of_ble_eq_true rfl) (Nat.le_of_ble_eq_true rfl) rfl y1 rfl).trans ?_
        refine (val_call (pc2 := 47) rfl rfl rfl rfl rfl (Nat.le_of_ble_eq_true rfl) (Nat.le_of_ble_eq_true rfl) rfl (ev_136 (d + 2) u (nI N) (nI (pkN N r0.1)) r' (okn h3 hN)) rfl).trans ?_
        refine (tr_92_47 (d + 1) u o _ _ _ _).trans ?_
        refine (tr_92_10 (d + 1) u o _ _ _ 8 y4.2.1).trans ?_
        rw [if_pos hF, if_pos hF]
        split
        · exact tr_92_74 (d + 1) u o _ _ _
        · exact tr_92_74 (d + 1) u o _ _ _
      | ok s =>
        obtain ⟨u, y1, y2, y3⟩ := y s hp
        obtain ⟨s1, s2, s3, s4⟩ := pCh_ok f _ _ _ x3.2.2.2.2.1 hp
        obtain ⟨b1, b2⟩ := ih u (fun x => r0.1 (s.1 x), s.2.1, s.2.2) (l4 + 1) (by omega) y3 s2 (hr.comp s3)
        have e2 : val (92, d + 4, 10, [some (.ref o), some (.int (nI (5 - f))), some (.int (nI (pkN N r0.1))), some (.int (nI l4))], [], w) = val (92, d + 4, 10, [some (.ref o), some (.int (nI (5 - f))), some (.int (nI (pkN N (fun x => r0.1 (s.1 x))))), some (.int (nI (l4 + 1)))], [], u) := by
          refine e0.trans (e1.trans ?_)
          refine (val_call (pc2 := 44) rfl rfl rfl rfl (rcvO hkv (by decide)) (Nat.le_of_ble_eq_true rfl) (Nat.le_of_ble_eq_true rfl) rfl y1 rfl).trans ?_
          refine (val_call (pc2 := 47) rfl rfl rfl rfl rfl (Nat.le_of_ble_eq_true rfl) (Nat.le_of_ble_eq_true rfl) rfl (ev_136 (d + 2) u (nI N) (nI (pkN N r0.1)) (nI (pkN N s.1)) (okn h3 hN)) rfl).trans ?_
          rw [r_136 hN hr.1 s3.1]
          refine (tr_92_47 (d + 1) u o _ _ _ _).trans ?_
          rw [n_succ]
        rw [e2]
        refine ⟨fun r hr2 => ?_, fun e he => ?_⟩
        · obtain ⟨v2, q1, q2, q3⟩ := b1 r hr2
          exact ⟨v2, q1, (x2.tkf.ch.trans y2).trans q2, q3⟩
        · obtain ⟨r', v2, q1, q2, q3⟩ := b2 e he
          exact ⟨r', v2, q1, (x2.tkf.ch.trans y2).trans q2, q3⟩
theorem c_change (h3 : 3 ≤ N) (hN : N ≤ 8) : ∀ f, f ≤ 6 → ChP o M T N t f := by
  intro f
  induction f with
  | zero =>
    intro _ w c k D hD hS hc
    obtain ⟨d, rfl⟩ : ∃ d, D = d + 6 := ⟨D - 6, by omega⟩
    have hk := hS.2.2.1.2.1
    refine ⟨fun r hr => (by cases hr), fun e he => ?_⟩
    cases he
    obtain ⟨v, e1, e2, e3, e4⟩ := c_ref (d + 5) hS
    refine ⟨nI (pkN N (fun p => p)), v, (tr_91 d w o _ 8 hk).trans ?_, e2, e3, e4⟩
    rw [hS.2.2.1.2.2.2.2.2.1]
    refine (val_call (pc2 := 7) rfl rfl rfl rfl rfl (Nat.le_of_ble_eq_true rfl) (Nat.le_of_ble_eq_true rfl) rfl (ev_133 (d + 5) w (nI N) (okn h3 hN)) rfl).trans ?_
    rw [r_133 hN]
    refine (tr_91_7 d w o _ _ 8 hk M hS.2.2.1.2.2.2.1 3 hS.2.2.2.2.2.2.1).trans ?_
    have e27 : val (91, d + 6, 27, [some (.ref o), some (.int (nI 6)), some (.int (nI (pkN N (fun p => p)))), none], [.ref o], w) = some (some (.int (nI (pkN N (fun p => p)))), v) := by
      refine (val_call (pc2 := 30) rfl rfl rfl rfl (rcvO hk (by decide)) (Nat.le_of_ble_eq_true rfl) (Nat.le_of_ble_eq_true rfl) rfl e1 rfl).trans ?_
      exact tr_91_30 d v o _ _
    split
    · exact e27
    · rw [if_neg (show ¬ nI (6 - 0) < 6 by decide)]
      exact e27
  | succ f ih =>
    intro hf w c k D hD hS hc
    obtain ⟨d, rfl⟩ : ∃ d, D = d + 8 := ⟨D - 8, by omega⟩
    have hP := ih (by omega)
    have hk := hS.2.2.1.2.1
    have hn := hS.2.2.1.2.2.2.2.2.1
    have e0 : val (91, d + 8, 0, [some (.ref o), some (.int (nI (6 - (f + 1)))), none, none], [], w) = val (91, d + 8, 7, [some (.ref o), some (.int (nI (5 - f))), none, none], [.int (nI (pkN N (fun p => p)))], w) := by
      rw [show 6 - (f + 1) = 5 - f by omega]
      refine (tr_91 (d + 2) w o _ 8 hk).trans ?_
      rw [hn]
      refine (val_call (pc2 := 7) rfl rfl rfl rfl rfl (Nat.le_of_ble_eq_true rfl) (Nat.le_of_ble_eq_true rfl) rfl (ev_133 (d + 7) w (nI N) (okn h3 hN)) rfl).trans ?_
      rw [r_133 hN]
      rfl
    have e7 := tr_91_7 (d + 2) w o (nI (5 - f)) (nI (pkN N (fun p => p))) 8 hk M hS.2.2.1.2.2.2.1 3 hS.2.2.2.2.2.2.1
    rw [hS.2.2.2.2.2.2.2.2.2] at e7
    unfold pCh
    by_cases h40 : 40 ≤ c
    · rw [if_pos h40]
      refine ⟨fun r hr => (by cases hr), fun e he => ?_⟩
      cases he
      rw [if_pos (show (40 : Int32) ≤ nI c from n_le (a := 40) h40 (by omega))] at e7
      obtain ⟨v, e1, e2, e3, e4⟩ := c_ref (d + 7) hS
      refine ⟨nI (pkN N (fun p => p)), v, e0.trans (e7.trans ?_), e2, e3, e4⟩
      refine (val_call (pc2 := 30) rfl rfl rfl rfl (rcvO hk (by decide)) (Nat.le_of_ble_eq_true rfl) (Nat.le_of_ble_eq_true rfl) rfl e1 rfl).trans ?_
      exact tr_91_30 (d + 2) v o _ _
    rw [if_neg h40]
    rw [if_neg (show ¬ (40 : Int32) ≤ nI c from n_nle (a := 40) (by omega) (by omega)), if_pos (show nI (5 - f) < 6 from n_lt (b := 6) (by omega) (by omega)), n_succ] at e7
    have fM : Fr (FCh o M) w (sI w M 2 (nI (c + 1))) := (Fr.refl _ w).sI M 2 _ (inS_iff.mpr ⟨(M, some 2), List.mem_cons_self .., rfl, Or.inr rfl⟩)
    have hMo := hS.2.2.2.2.2.2.2.2.1
    have hS1 : Sc (sI w M 2 (nI (c + 1))) o M T N t k (c + 1) := by
      have ho : ∀ j, gI (sI w M 2 (nI (c + 1))) o j = gI w o j := fun j => gI_ne _ _ _ _ (Ne.symm hMo)
      obtain ⟨k1, k2, k3⟩ := hS.2.2.2.1
      exact hS.stepC fM ⟨by rw [ho 5]; exact k1, (ho 6).trans k2, (ho 7).trans k3⟩ hS.2.2.2.2.1 ((ho 1).trans hS.2.2.2.2.2.1) (gI_same _ _ _ _)
    have e8 := e0.trans e7
    clear e0 e7
    generalize sI w M 2 (nI (c + 1)) = w1 at fM hS1 e8
    have hk1 := hS1.2.2.1.2.1
    have hn1 := hS1.2.2.1.2.2.2.2.2.1
    cases h9 : isWd t k 9 with
    | true =>
      rw [if_pos rfl]
      obtain ⟨v, x1, x2, x3⟩ := c_twYes (d + 2) hS1 (j := 9) (by decide) h9
      have hkv := x3.2.2.1.2.1
      have hnv := x3.2.2.1.2.2.2.2.2.1
      have e9 : val (91, d + 8, 48, [some (.ref o), some (.int (nI (5 - f))), some (.int (nI (pkN N (fun p => p)))), none], [.ref 11, .ref o], w1) = val (91, d + 8, 51, [some (.ref o), some (.int (nI (5 - f))), some (.int (nI (pkN N (fun p => p)))), none], [.int 1], v) := by
        refine (val_call (pc2 := 51) rfl rfl rfl rfl (rcvO hk1 (by decide)) (Nat.le_of_ble_eq_true rfl) (Nat.le_of_ble_eq_true rfl) rfl x1 rfl).trans ?_
        rfl
      have e10 := e8.trans (e9.trans (tr_91_51 (d + 2) v o _ _ _ 8 hkv))
      rw [if_neg (show ¬ (1 : Int32) = 0 by decide)] at e10
      refine ⟨fun r hr => ?_, fun e he => (by cases he)⟩
      cases hr
      rw [hnv] at e10
      refine ⟨v, e10.trans ?_, fM.trans x2.tkf.ch, x3⟩
      refine (val_call (pc2 := 67) rfl rfl rfl rfl rfl (Nat.le_of_ble_eq_true rfl) (Nat.le_of_ble_eq_true rfl) rfl (c144 hN (d + 5) v (a := 0) (b := N) (Nat.le_refl N) (Nat.zero_le N) (IsRow.id N)) rfl).trans ?_
      refine (tr_91_67 (d + 2) v o _ _ _).trans ?_
      rfl
    | false =>
    rw [if_neg (show ¬ false = true by decide)]
    have e8 := e8.trans (show val (91, d + 8, 48, [some (.ref o), some (.int (nI (5 - f))), some (.int (nI (pkN N (fun p => p)))), none], [.ref 11, .ref o], w1) = val (91, d + 8, 51, [some (.ref o), some (.int (nI (5 - f))), some (.int (nI (pkN N (fun p => p)))), none], [.int 0], w1) from by
        refine (val_call (pc2 := 51) rfl rfl rfl rfl (rcvO hk1 (by decide)) (Nat.le_of_ble_eq_true rfl) (Nat.le_of_ble_eq_true rfl) rfl (c_twNo (d + 2) hS1 (j := 9) (by decide) h9) rfl).trans ?_
        rfl)
    have e8 := e8.trans (tr_91_51 (d + 2) w1 o _ _ _ 8 hk1)
    rw [if_pos (show (0 : Int32) = 0 from rfl)] at e8
    cases h10 : isWd t k 10 with
    | true =>
      rw [if_pos rfl]
      obtain ⟨v, x1, x2, x3⟩ := c_twYes (d + 2) hS1 (j := 10) (by decide) h10
      have hkv := x3.2.2.1.2.1
      have hnv := x3.2.2.1.2.2.2.2.2.1
      have e9 : val (91, d + 8, 71, [some (.ref o), some (.int (nI (5 - f))), some (.int (nI (pkN N (fun p => p)))), none], [.ref 12, .ref o], w1) = val (91, d + 8, 74, [some (.ref o), some (.int (nI (5 - f))), some (.int (nI (pkN N (fun p => p)))), none], [.int 1], v) := by
        refine (val_call (pc2 := 74) rfl rfl rfl rfl (rcvO hk1 (by decide)) (Nat.le_of_ble_eq_true rfl) (Nat.le_of_ble_eq_true rfl) rfl x1 rfl).trans ?_
        rfl
      have e10 := e8.trans (e9.trans (tr_91_74 (d + 2) v o _ _ _))
      rw [if_neg (show ¬ (1 : Int32) = 0 by decide)] at e10
      have yz := c_places (d + 4) h3 hN x3.1 x3.2.2.1 x3.2.2.2.1 x3.2.2.2.2.1 x3.2.2.2.2.2.1
      have y : ∀ r, pPl N t T (c + 1) (nxt t T k) = .ok r → ∃ u, val (93, d + 7, 0, [some (.ref o), some (.int (nI (pkN N (fun p => p)))), none, none, none, none], [], v) = some (some (.int (nI (pkN N r.1))), u) ∧ Fr (FTf o) v u ∧ TkC u o t r.2.2 ∧ gI u o 1 = -1 := by
        intro r hr
        unfold pPl at hr
        split at hr
        · rename_i hh
          cases hr
          exact yz.1 hh
        · cases hr
      have z : ∀ e, pPl N t T (c + 1) (nxt t T k) = .error e → ∃ r u, val (93, d + 7, 0, [some (.ref o), some (.int (nI (pkN N (fun p => p)))), none, none, none, none], [], v) = some (some (.int r), u) ∧ Fr (FTf o) v u ∧ gI u o 1 = nI e := by
        intro e he
        unfold pPl at he
        split at he
        · cases he
        · rename_i hh
          cases he
          exact yz.2 hh
      refine ⟨fun r hr => ?_, fun e he => ?_⟩
      · obtain ⟨u, y1, y2, y3, y4⟩ := y r hr
        obtain ⟨g1, g2, g3⟩ := pPl_ok x3.2.2.2.2.1 hr
        refine ⟨u, e10.trans ?_, (fM.trans x2.tkf.ch).trans y2.ch, by rw [g1]; exact x3.stepF y2 y3 g3 y4⟩
        refine (val_call (pc2 := 82) rfl rfl rfl rfl (rcvO hkv (by decide)) (Nat.le_of_ble_eq_true rfl) (Nat.le_of_ble_eq_true rfl) rfl y1 rfl).trans ?_
        exact tr_91_82 (d + 2) u o _ _ _
      · obtain ⟨r', u, z1, z2, z3⟩ := z e he
        refine ⟨r', u, e10.trans ?_, (fM.trans x2.tkf.ch).trans z2.ch, z3, x3.2.2.1.tf z2⟩
        refine (val_call (pc2 := 82) rfl rfl rfl rfl (rcvO hkv (by decide)) (Nat.le_of_ble_eq_true rfl) (Nat.le_of_ble_eq_true rfl) rfl z1 rfl).trans ?_
        exact tr_91_82 (d + 2) u o _ _ _
    | false =>
    rw [if_neg (show ¬ false = true by decide)]
    have e8 := e8.trans (show val (91, d + 8, 71, [some (.ref o), some (.int (nI (5 - f))), some (.int (nI (pkN N (fun p => p)))), none], [.ref 12, .ref o], w1) = val (91, d + 8, 74, [some (.ref o), some (.int (nI (5 - f))), some (.int (nI (pkN N (fun p => p)))), none], [.int 0], w1) from by
        refine (val_call (pc2 := 74) rfl rfl rfl rfl (rcvO hk1 (by decide)) (Nat.le_of_ble_eq_true rfl) (Nat.le_of_ble_eq_true rfl) rfl (c_twNo (d + 2) hS1 (j := 10) (by decide) h10) rfl).trans ?_
        rfl)
    have e8 := e8.trans (tr_91_74 (d + 2) w1 o _ _ _)
    rw [if_pos (show (0 : Int32) = 0 from rfl)] at e8
    cases h11 : isWd t k 11 with
    | true =>
      rw [if_pos rfl]
      obtain ⟨v, x1, x2, x3⟩ := c_twYes (d + 2) hS1 (j := 11) (by decide) h11
      have hkv := x3.2.2.1.2.1
      have hnv := x3.2.2.1.2.2.2.2.2.1
      have e9 : val (91, d + 8, 86, [some (.ref o), some (.int (nI (5 - f))), some (.int (nI (pkN N (fun p => p)))), none], [.ref 13, .ref o], w1) = val (91, d + 8, 89, [some (.ref o), some (.int (nI (5 - f))), some (.int (nI (pkN N (fun p => p)))), none], [.int 1], v) := by
        refine (val_call (pc2 := 89) rfl rfl rfl rfl (rcvO hk1 (by decide)) (Nat.le_of_ble_eq_true rfl) (Nat.le_of_ble_eq_true rfl) rfl x1 rfl).trans ?_
        rfl
      have e10 := e8.trans (e9.trans (tr_91_89 (d + 2) v o _ _ _))
      rw [if_neg (show ¬ (1 : Int32) = 0 by decide)] at e10
      obtain ⟨y, z⟩ := c_jump (d + 2) h3 hN x3.1 x3.2.2.1 x3.2.2.2.1 x3.2.2.2.2.1 x3.2.2.2.2.2.1 (c + 1)
      refine ⟨fun r hr => ?_, fun e he => ?_⟩
      · obtain ⟨u, y1, y2, y3, y4⟩ := y r hr
        obtain ⟨g1, g2, g3⟩ := pTwo_ok x3.2.2.2.2.1 hr
        refine ⟨u, e10.trans ?_, (fM.trans x2.tkf.ch).trans y2.ch, by rw [g1]; exact x3.stepF y2 y3 g3 y4⟩
        refine (val_call (pc2 := 97) rfl rfl rfl rfl (rcvO hkv (by decide)) (Nat.le_of_ble_eq_true rfl) (Nat.le_of_ble_eq_true rfl) rfl y1 rfl).trans ?_
        exact tr_91_97 (d + 2) u o _ _ _
      · obtain ⟨r', u, z1, z2, z3⟩ := z e he
        refine ⟨r', u, e10.trans ?_, (fM.trans x2.tkf.ch).trans z2.ch, z3, x3.2.2.1.tf z2⟩
        refine (val_call (pc2 := 97) rfl rfl rfl rfl (rcvO hkv (by decide)) (Nat.le_of_ble_eq_true rfl) (Nat.le_of_ble_eq_true rfl) rfl z1 rfl).trans ?_
        exact tr_91_97 (d + 2) u o _ _ _
    | false =>
    rw [if_neg (show ¬ false = true by decide)]
    have e8 := e8.trans (show val (91, d + 8, 86, [some (.ref o), some (.int (nI (5 - f))), some (.int (nI (pkN N (fun p => p)))), none], [.ref 13, .ref o], w1) = val (91, d + 8, 89, [some (.ref o), some (.int (nI (5 - f))), some (.int (nI (pkN N (fun p => p)))), none], [.int 0], w1) from by
        refine (val_call (pc2 := 89) rfl rfl rfl rfl (rcvO hk1 (by decide)) (Nat.le_of_ble_eq_true rfl) (Nat.le_of_ble_eq_true rfl) rfl (c_twNo (d + 2) hS1 (j := 11) (by decide) h11) rfl).trans ?_
        rfl)
    have e8 := e8.trans (tr_91_89 (d + 2) w1 o _ _ _)
    rw [if_pos (show (0 : Int32) = 0 from rfl)] at e8
    cases h12 : isWd t k 12 with
    | true =>
      rw [if_pos rfl]
      obtain ⟨v, x1, x2, x3⟩ := c_twYes (d + 2) hS1 (j := 12) (by decide) h12
      have hkv := x3.2.2.1.2.1
      have hnv := x3.2.2.1.2.2.2.2.2.1
      have e9 : val (91, d + 8, 101, [some (.ref o), some (.int (nI (5 - f))), some (.int (nI (pkN N (fun p => p)))), none], [.ref 14, .ref o], w1) = val (91, d + 8, 104, [some (.ref o), some (.int (nI (5 - f))), some (.int (nI (pkN N (fun p => p)))), none], [.int 1], v) := by
        refine (val_call (pc2 := 104) rfl rfl rfl rfl (rcvO hk1 (by decide)) (Nat.le_of_ble_eq_true rfl) (Nat.le_of_ble_eq_true rfl) rfl x1 rfl).trans ?_
        rfl
      have e10 := e8.trans (e9.trans (tr_91_104 (d + 2) v o _ _ _))
      rw [if_neg (show ¬ (1 : Int32) = 0 by decide)] at e10
      obtain ⟨y, z⟩ := c_turn (d + 3) h3 hN x3.1 x3.2.2.1 x3.2.2.2.1 x3.2.2.2.2.1 x3.2.2.2.2.2.1 (c + 1)
      refine ⟨fun r hr => ?_, fun e he => ?_⟩
      · obtain ⟨u, y1, y2, y3, y4⟩ := y r hr
        obtain ⟨g1, g2, g3⟩ := pTwo_ok x3.2.2.2.2.1 hr
        refine ⟨u, e10.trans ?_, (fM.trans x2.tkf.ch).trans y2.ch, by rw [g1]; exact x3.stepF y2 y3 g3 y4⟩
        refine (val_call (pc2 := 112) rfl rfl rfl rfl (rcvO hkv (by decide)) (Nat.le_of_ble_eq_true rfl) (Nat.le_of_ble_eq_true rfl) rfl y1 rfl).trans ?_
        exact tr_91_112 (d + 2) u o _ _ _
      · obtain ⟨r', u, z1, z2, z3⟩ := z e he
        refine ⟨r', u, e10.trans ?_, (fM.trans x2.tkf.ch).trans z2.ch, z3, x3.2.2.1.tf z2⟩
        refine (val_call (pc2 := 112) rfl rfl rfl rfl (rcvO hkv (by decide)) (Nat.le_of_ble_eq_true rfl) (Nat.le_of_ble_eq_true rfl) rfl z1 rfl).trans ?_
        exact tr_91_112 (d + 2) u o _ _ _
    | false =>
    rw [if_neg (show ¬ false = true by decide)]
    have e8 := e8.trans (show val (91, d + 8, 101, [some (.ref o), some (.int (nI (5 - f))), some (.int (nI (pkN N (fun p => p)))), none], [.ref 14, .ref o], w1) = val (91, d + 8, 104, [some (.ref o), some (.int (nI (5 - f))), some (.int (nI (pkN N (fun p => p)))), none], [.int 0], w1) from by
        refine (val_call (pc2 := 104) rfl rfl rfl rfl (rcvO hk1 (by decide)) (Nat.le_of_ble_eq_true rfl) (Nat.le_of_ble_eq_true rfl) rfl (c_twNo (d + 2) hS1 (j := 12) (by decide) h12) rfl).trans ?_
        rfl)
    have e8 := e8.trans (tr_91_104 (d + 2) w1 o _ _ _)
    rw [if_pos (show (0 : Int32) = 0 from rfl)] at e8
    cases h13 : isWd t k 13 with
    | true =>
      rw [if_pos rfl]
      obtain ⟨v, x1, x2, x3⟩ := c_twYes (d + 2) hS1 (j := 13) (by decide) h13
      have hkv := x3.2.2.1.2.1
      have hnv := x3.2.2.1.2.2.2.2.2.1
      have e9 : val (91, d + 8, 116, [some (.ref o), some (.int (nI (5 - f))), some (.int (nI (pkN N (fun p => p)))), none], [.ref 15, .ref o], w1) = val (91, d + 8, 119, [some (.ref o), some (.int (nI (5 - f))), some (.int (nI (pkN N (fun p => p)))), none], [.int 1], v) := by
        refine (val_call (pc2 := 119) rfl rfl rfl rfl (rcvO hk1 (by decide)) (Nat.le_of_ble_eq_true rfl) (Nat.le_of_ble_eq_true rfl) rfl x1 rfl).trans ?_
        rfl
      have e10 := e8.trans (e9.trans (tr_91_119 (d + 2) v o _ _ _))
      rw [if_neg (show ¬ (1 : Int32) = 0 by decide)] at e10
      refine ⟨fun r hr => ?_, fun e he => (by cases he)⟩
      cases hr
      exact ⟨v, e10, fM.trans x2.tkf.ch, x3⟩
    | false =>
    rw [if_neg (show ¬ false = true by decide)]
    have e8 := e8.trans (show val (91, d + 8, 116, [some (.ref o), some (.int (nI (5 - f))), some (.int (nI (pkN N (fun p => p)))), none], [.ref 15, .ref o], w1) = val (91, d + 8, 119, [some (.ref o), some (.int (nI (5 - f))), some (.int (nI (pkN N (fun p => p)))), none], [.int 0], w1) from by
        refine (val_call (pc2 := 119) rfl rfl rfl rfl (rcvO hk1 (by decide)) (Nat.le_of_ble_eq_true rfl) (Nat.le_of_ble_eq_true rfl) rfl (c_twNo (d + 2) hS1 (j := 13) (by decide) h13) rfl).trans ?_
        rfl)
    have e8 := e8.trans (tr_91_119 (d + 2) w1 o _ _ _)
    rw [if_pos (show (0 : Int32) = 0 from rfl)] at e8
    cases h14 : isWd t k 14 with
    | true =>
      rw [if_pos rfl]
      obtain ⟨v, x1, x2, x3⟩ := c_twYes (d + 2) hS1 (j := 14) (by decide) h14
      have hkv := x3.2.2.1.2.1
      have hnv := x3.2.2.1.2.2.2.2.2.1
      have e9 : val (91, d + 8, 127, [some (.ref o), some (.int (nI (5 - f))), some (.int (nI (pkN N (fun p => p)))), none], [.ref 16, .ref o], w1) = val (91, d + 8, 130, [some (.ref o), some (.int (nI (5 - f))), some (.int (nI (pkN N (fun p => p)))), none], [.int 1], v) := by
        refine (val_call (pc2 := 130) rfl rfl rfl rfl (rcvO hk1 (by decide)) (Nat.le_of_ble_eq_true rfl) (Nat.le_of_ble_eq_true rfl) rfl x1 rfl).trans ?_
        rfl
      have e10 := e8.trans (e9.trans (tr_91_130 (d + 2) v o _ _ _))
      rw [if_neg (show ¬ (1 : Int32) = 0 by decide)] at e10
      obtain ⟨y, z⟩ := hP v (c + 1) (nxt t T k) (d + 7) (by omega) x3 (by omega)
      rw [n_succ, show 5 - f + 1 = 6 - f by omega] at e10
      cases hp : pCh N t T f (c + 1) (nxt t T k) with
      | error er =>
        refine ⟨fun r hr => (by cases hr), fun e he => ?_⟩
        cases he
        obtain ⟨r', u, z1, z2, z3, z4⟩ := z er hp
        refine ⟨fn_136 (nI N) r' r', u, e10.trans ?_, (fM.trans x2.tkf.ch).trans z2, z3, z4⟩
        refine (val_call (pc2 := 140) rfl rfl rfl rfl (rcvO hkv (by decide)) (Nat.le_of_ble_eq_true rfl) (Nat.le_of_ble_eq_true rfl) rfl z1 rfl).trans ?_
        refine (tr_91_140 (d + 2) u o _ _ _ 8 z4.2.1).trans ?_
        rw [z4.2.2.2.2.2.1]
        refine (val_call (pc2 := 150) rfl rfl rfl rfl rfl (Nat.le_of_ble_eq_true rfl) (Nat.le_of_ble_eq_true rfl) rfl (ev_136 (d + 6) u (nI N) r' r' (okn h3 hN)) rfl).trans ?_
        exact tr_91_150 (d + 2) u o _ _ _ _
      | ok s =>
        refine ⟨fun r hr => ?_, fun e he => (by cases he)⟩
        cases hr
        obtain ⟨u, y1, y2, y3⟩ := y s hp
        obtain ⟨s1, s2, s3, s4⟩ := pCh_ok f _ _ _ x3.2.2.2.2.1 hp
        refine ⟨u, e10.trans ?_, (fM.trans x2.tkf.ch).trans y2, y3⟩
        refine (val_call (pc2 := 140) rfl rfl rfl rfl (rcvO hkv (by decide)) (Nat.le_of_ble_eq_true rfl) (Nat.le_of_ble_eq_true rfl) rfl y1 rfl).trans ?_
        refine (tr_91_140 (d + 2) u o _ _ _ 8 y3.2.2.1.2.1).trans ?_
        rw [y3.2.2.1.2.2.2.2.2.1]
        refine (val_call (pc2 := 150) rfl rfl rfl rfl rfl (Nat.le_of_ble_eq_true rfl) (Nat.le_of_ble_eq_true rfl) rfl (ev_136 (d + 6) u (nI N) (nI (pkN N s.1)) (nI (pkN N s.1)) (okn h3 hN)) rfl).trans ?_
        rw [r_136 hN s3.1 s3.1]
        exact tr_91_150 (d + 2) u o _ _ _ _
    | false =>
    rw [if_neg (show ¬ false = true by decide)]
    have e8 := e8.trans (show val (91, d + 8, 127, [some (.ref o), some (.int (nI (5 - f))), some (.int (nI (pkN N (fun p => p)))), none], [.ref 16, .ref o], w1) = val (91, d + 8, 130, [some (.ref o), some (.int (nI (5 - f))), some (.int (nI (pkN N (fun p => p)))), none], [.int 0], w1) from by
        refine (val_call (pc2 := 130) rfl rfl rfl rfl (rcvO hk1 (by decide)) (Nat.le_of_ble_eq_true rfl) (Nat.le_of_ble_eq_true rfl) rfl (c_twNo (d + 2) hS1 (j := 14) (by decide) h14) rfl).trans ?_
        rfl)
    have e8 := e8.trans (tr_91_130 (d + 2) w1 o _ _ _)
    rw [if_pos (show (0 : Int32) = 0 from rfl)] at e8
    cases h15 : isWd t k 15 with
    | true =>
      rw [if_pos rfl]
      obtain ⟨v, x1, x2, x3⟩ := c_twYes (d + 2) hS1 (j := 15) (by decide) h15
      have hkv := x3.2.2.1.2.1
      have hnv := x3.2.2.1.2.2.2.2.2.1
      have e9 : val (91, d + 8, 154, [some (.ref o), some (.int (nI (5 - f))), some (.int (nI (pkN N (fun p => p)))), none], [.ref 17, .ref o], w1) = val (91, d + 8, 157, [some (.ref o), some (.int (nI (5 - f))), some (.int (nI (pkN N (fun p => p)))), none], [.int 1], v) := by
        refine (val_call (pc2 := 157) rfl rfl rfl rfl (rcvO hk1 (by decide)) (Nat.le_of_ble_eq_true rfl) (Nat.le_of_ble_eq_true rfl) rfl x1 rfl).trans ?_
        rfl
      have e10 := e8.trans (e9.trans (tr_91_157 (d + 2) v o _ _ _ 8 hkv))
      rw [if_neg (show ¬ (1 : Int32) = 0 by decide)] at e10
      obtain ⟨y, z⟩ := hP v (c + 1) (nxt t T k) (d + 7) (by omega) x3 (by omega)
      rw [n_succ, show 5 - f + 1 = 6 - f by omega, hnv] at e10
      cases hp : pCh N t T f (c + 1) (nxt t T k) with
      | error er =>
        refine ⟨fun r hr => (by cases hr), fun e he => ?_⟩
        cases he
        obtain ⟨r', u, z1, z2, z3, z4⟩ := z er hp
        refine ⟨fn_137 (nI N) r', u, e10.trans ?_, (fM.trans x2.tkf.ch).trans z2, z3, z4⟩
        refine (val_call (pc2 := 171) rfl rfl rfl rfl (rcvO hkv (by decide)) (Nat.le_of_ble_eq_true rfl) (Nat.le_of_ble_eq_true rfl) rfl z1 rfl).trans ?_
        refine (val_call (pc2 := 174) rfl rfl rfl rfl rfl (Nat.le_of_ble_eq_true rfl) (Nat.le_of_ble_eq_true rfl) rfl (ev_137 (d + 6) u (nI N) r' (okn h3 hN)) rfl).trans ?_
        exact tr_91_174 (d + 2) u o _ _ _
      | ok s =>
        refine ⟨fun r hr => ?_, fun e he => (by cases he)⟩
        cases hr
        obtain ⟨u, y1, y2, y3⟩ := y s hp
        obtain ⟨s1, s2, s3, s4⟩ := pCh_ok f _ _ _ x3.2.2.2.2.1 hp
        refine ⟨u, e10.trans ?_, (fM.trans x2.tkf.ch).trans y2, y3⟩
        refine (val_call (pc2 := 171) rfl rfl rfl rfl (rcvO hkv (by decide)) (Nat.le_of_ble_eq_true rfl) (Nat.le_of_ble_eq_true rfl) rfl y1 rfl).trans ?_
        refine (val_call (pc2 := 174) rfl rfl rfl rfl rfl (Nat.le_of_ble_eq_true rfl) (Nat.le_of_ble_eq_true rfl) rfl (ev_137 (d + 6) u (nI N) (nI (pkN N s.1)) (okn h3 hN)) rfl).trans ?_
        rw [r_137 hN s3]
        exact tr_91_174 (d + 2) u o _ _ _
    | false =>
    rw [if_neg (show ¬ false = true by decide)]
    have e8 := e8.trans (show val (91, d + 8, 154, [some (.ref o), some (.int (nI (5 - f))), some (.int (nI (pkN N (fun p => p)))), none], [.ref 17, .ref o], w1) = val (91, d + 8, 157, [some (.ref o), some (.int (nI (5 - f))), some (.int (nI (pkN N (fun p => p)))), none], [.int 0], w1) from by
        refine (val_call (pc2 := 157) rfl rfl rfl rfl (rcvO hk1 (by decide)) (Nat.le_of_ble_eq_true rfl) (Nat.le_of_ble_eq_true rfl) rfl (c_twNo (d + 2) hS1 (j := 15) (by decide) h15) rfl).trans ?_
        rfl)
    have e8 := e8.trans (tr_91_157 (d + 2) w1 o _ _ _ 8 hk1)
    rw [if_pos (show (0 : Int32) = 0 from rfl)] at e8
    cases hs : isSg t k 40 with
    | true =>
      rw [if_pos rfl]
      obtain ⟨v, x1, x2, x3⟩ := c_tsYes (d + 4) hS1 hs
      have hkv := x3.2.2.1.2.1
      have e10 : val (91, d + 8, 0, [some (.ref o), some (.int (nI (6 - (f + 1)))), none, none], [], w) = val (91, d + 8, 186, [some (.ref o), some (.int (nI (5 - f))), some (.int (nI (pkN N (fun p => p)))), none], [.int (nI (5 - f)), .ref o], v) := by
        refine e8.trans ?_
        refine (val_call (pc2 := 181) rfl rfl rfl rfl (rcvO hk1 (by decide)) (Nat.le_of_ble_eq_true rfl) (Nat.le_of_ble_eq_true rfl) rfl x1 rfl).trans ?_
        refine (tr_91_181 (d + 2) v o _ _ _).trans ?_
        rw [if_neg (show ¬ (1 : Int32) = 0 by decide)]
      have e92 : val (92, d + 7, 0, [some (.ref o), some (.int (nI (5 - f))), none, none], [], v) = val (92, d + 7, 4, [some (.ref o), some (.int (nI (5 - f))), none, none], [.int (nI (6 - f)), .ref o], v) := by
        refine (tr_92 (d + 4) v o _).trans ?_
        rw [n_succ, show 5 - f + 1 = 6 - f by omega]
      obtain ⟨y, z⟩ := hP v (c + 1) (nxt t T k) (d + 6) (by omega) x3 (by omega)
      cases hp : pCh N t T f (c + 1) (nxt t T k) with
      | error er =>
        refine ⟨fun r hr => (by cases hr), fun e he => ?_⟩
        cases he
        obtain ⟨r', u, z1, z2, z3, z4⟩ := z er hp
        have hF : (0 : Int32) ≤ gI u o 1 := by
          rw [z3]
          exact n_le (a := 0) (Nat.zero_le er) (by have := pCh_err f _ _ _ x3.2.2.2.2.1 hp; have := hS.2.2.1.2.2.2.2.2.2.1; omega)
        have e93 : val (92, d + 7, 0, [some (.ref o), some (.int (nI (5 - f))), none, none], [], v) = some (some (.int r'), u) := by
          refine e92.trans ?_
          refine (val_call (pc2 := 7) rfl rfl rfl rfl (rcvO hkv (by decide)) (Nat.le_of_ble_eq_true rfl) (Nat.le_of_ble_eq_true rfl) rfl z1 rfl).trans ?_
          refine (tr_92_7 (d + 4) u o _ _).trans ?_
          refine (tr_92_10 (d + 4) u o _ _ _ 8 z4.2.1).trans ?_
          rw [if_neg (show ¬ (40 : Int32) < 1 by decide), if_pos hF, if_pos hF]
          exact tr_92_74 (d + 4) u o _ _ _
        refine ⟨r', u, e10.trans ?_, (fM.trans x2.tkf.ch).trans z2, z3, z4⟩
        refine (val_call (pc2 := 189) rfl rfl rfl rfl (rcvO hkv (by decide)) (Nat.le_of_ble_eq_true rfl) (Nat.le_of_ble_eq_true rfl) rfl e93 rfl).trans ?_
        exact tr_91_189 (d + 2) u o _ _ _
      | ok s =>
        obtain ⟨u, y1, y2, y3⟩ := y s hp
        obtain ⟨s1, s2, s3, s4⟩ := pCh_ok f _ _ _ x3.2.2.2.2.1 hp
        obtain ⟨b1, b2⟩ := c_someL h3 hN (by omega) hP (d + 6) (by omega) 40 u s 1 rfl y3 s2 s3
        have e93 : val (92, d + 7, 0, [some (.ref o), some (.int (nI (5 - f))), none, none], [], v) = val (92, d + 7, 10, [some (.ref o), some (.int (nI (5 - f))), some (.int (nI (pkN N s.1))), some (.int (nI 1))], [], u) := by
          refine e92.trans ?_
          refine (val_call (pc2 := 7) rfl rfl rfl rfl (rcvO hkv (by decide)) (Nat.le_of_ble_eq_true rfl) (Nat.le_of_ble_eq_true rfl) rfl y1 rfl).trans ?_
          exact tr_92_7 (d + 4) u o _ _
        refine ⟨fun r hr => ?_, fun e he => ?_⟩
        · obtain ⟨u2, q1, q2, q3⟩ := b1 r hr
          refine ⟨u2, e10.trans ?_, ((fM.trans x2.tkf.ch).trans y2).trans q2, q3⟩
          refine (val_call (pc2 := 189) rfl rfl rfl rfl (rcvO hkv (by decide)) (Nat.le_of_ble_eq_true rfl) (Nat.le_of_ble_eq_true rfl) rfl (e93.trans q1) rfl).trans ?_
          exact tr_91_189 (d + 2) u2 o _ _ _
        · obtain ⟨r', u2, q1, q2, q3⟩ := b2 e he
          refine ⟨r', u2, e10.trans ?_, ((fM.trans x2.tkf.ch).trans y2).trans q2, q3⟩
          refine (val_call (pc2 := 189) rfl rfl rfl rfl (rcvO hkv (by decide)) (Nat.le_of_ble_eq_true rfl) (Nat.le_of_ble_eq_true rfl) rfl (e93.trans q1) rfl).trans ?_
          exact tr_91_189 (d + 2) u2 o _ _ _
    | false =>
      rw [if_neg (show ¬ false = true by decide)]
      refine ⟨fun r hr => (by cases hr), fun e he => ?_⟩
      cases he
      obtain ⟨v, x1, x2, x3, x4⟩ := c_ref (d + 7) hS1
      refine ⟨nI (pkN N (fun p => p)), v, e8.trans ?_, fM.trans x2, x3, x4⟩
      refine (val_call (pc2 := 181) rfl rfl rfl rfl (rcvO hk1 (by decide)) (Nat.le_of_ble_eq_true rfl) (Nat.le_of_ble_eq_true rfl) rfl (c_tsNo (d + 4) hS1 hs) rfl).trans ?_
      refine (tr_91_181 (d + 2) w1 o _ _ _).trans ?_
      rw [if_pos (show (0 : Int32) = 0 from rfl)]
      refine (val_call (pc2 := 194) rfl rfl rfl rfl (rcvO hk1 (by decide)) (Nat.le_of_ble_eq_true rfl) (Nat.le_of_ble_eq_true rfl) rfl x1 rfl).trans ?_
      exact tr_91_194 (d + 2) v o _ _
end CCH2
