/-! THE WORDS: strings of the class files -/
def TX (w : Wd) : Prop := ∀ k, k < 16 → gR w (2 + k) 0 = some (18 + k) ∧ gI w (2 + k) 1 = 0 ∧ ∀ j, j < (chs k).length → gI w (18 + k) j = (chs k).getD j 0
theorem lo_off {S : List (Nat × Option Nat)} (h : S.all (fun s => Nat.ble 64 s.1) = true) {a k : Nat} (ha : a < 64) : inS S a k = false := by
  cases hs : inS S a k with
  | false => rfl
  | true =>
    unfold inS at hs
    rw [List.any_eq_true] at hs
    obtain ⟨s, hs1, hs2⟩ := hs
    rw [List.all_eq_true] at h
    have h1 := Nat.le_of_ble_eq_true (h s hs1)
    unfold plc at hs2
    rw [Bool.and_eq_true] at hs2
    have h2 := Nat.eq_of_beq_eq_true hs2.1
    omega
theorem TX.fr {S : List (Nat × Option Nat)} {w v : Wd} (h : TX w) (hf : Fr S w v) (hs : S.all (fun s => Nat.ble 64 s.1) = true) : TX v := fun k hk => by
  obtain ⟨h1, h2, h3⟩ := h k hk
  exact ⟨(hf.r _ _ (lo_off hs (by omega))).trans h1, (hf.i _ _ (lo_off hs (by omega))).trans h2, fun j hj => (hf.i _ _ (lo_off hs (by omega))).trans (h3 j hj)⟩
theorem kfx_tx : ∀ k, k < 16 → kfx (2 + k) = (32, 2) ∧ kfx (18 + k) = (33, (chs k).length) := by decide
theorem Fix.tx {w : Wd} (h : Fix w) {k : Nat} (hk : k < 16) : wK w (2 + k) = (32, 2) ∧ wK w (18 + k) = (33, (chs k).length) := by
  obtain ⟨h1, h2⟩ := kfx_tx k hk
  exact ⟨(h.1 _ (by omega) (by omega) (Or.inl (by omega))).trans h1, (h.1 _ (by omega) (by omega) (Or.inl (by omega))).trans h2⟩
theorem chs_ok : ∀ k, k < 16 → (chs k).length < 10 ∧ 1 ≤ (chs k).length ∧ ∀ j, j < (chs k).length → UInt32.toInt32 (Int32.toUInt32 (((chs k).getD j 0) &&& 255) % 65536) = (chs k).getD j 0 ∧ narB 3 ((chs k).getD j 0) = true := by decide +kernel
section TXT
variable {w : Wd} {k : Nat}
theorem s_len (d : Nat) (hW : Fix w) (hT : TX w) (hk : k < 16) : val (263, d + 1, 0, [some (.ref (2 + k))], [], w) = some (some (.int (nI (chs k).length)), w) := by
  obtain ⟨k1, k2⟩ := hW.tx hk
  obtain ⟨t1, t2, -⟩ := hT k hk
  refine (tr_263 d w (2 + k) _ k1 _ t1 _ k2).trans ?_
  refine (val_call (pc2 := 9) rfl rfl rfl rfl (rcvO k1 (by decide)) (Nat.le_of_ble_eq_true rfl) (Nat.le_of_ble_eq_true rfl) rfl (tr_265 d w (2 + k) _ k1 (by rw [t2]; rfl)) rfl).trans ?_
  refine (tr_263_9 d w _ _ _).trans ?_
  rw [t2]
  have : ∀ n, n < 10 → nI n >>> ((0 : Int32) &&& 31) = nI n := by decide
  rw [show Int32.ofNat (chs k).length = nI (chs k).length from rfl, this _ (chs_ok k hk).1]
theorem s_chk (d : Nat) {j n : Nat} (hj : j < n) (hn : n < 2 ^ 31) : val (267, d + 1, 0, [some (.int (nI j)), some (.int (nI n))], [], w) = some (none, w) := by
  have e : val (269, d, 0, [some (.int (nI j)), some (.int (nI n)), some (.ref 40)], [], w) = some (some (.int (nI j)), w) := by
    refine (val_g (c2 := (269, d, 1, [some (.int (nI j)), some (.int (nI n)), some (.ref 40)], [.int (nI j)], w)) rfl).trans ?_
    refine ((val_if_lt rfl).trans (if_neg (n_nlt (b := 0) (Nat.zero_le j) (by omega)))).trans ?_
    refine (val_g (c2 := (269, d, 5, [some (.int (nI j)), some (.int (nI n)), some (.ref 40)], [.int (nI j)], w)) rfl).trans ?_
    refine (val_g (c2 := (269, d, 6, [some (.int (nI j)), some (.int (nI n)), some (.ref 40)], [.int (nI n), .int (nI j)], w)) rfl).trans ?_
    refine ((val_ic_lt rfl).trans (if_pos (n_lt hj hn))).trans ?_
    refine (val_g (c2 := (269, d, 17, [some (.int (nI j)), some (.int (nI n)), some (.ref 40)], [.int (nI j)], w)) rfl).trans ?_
    exact val_r rfl
  refine (tr_267 d w _ _).trans ?_
  refine (val_call (pc2 := 8) rfl rfl rfl rfl rfl (Nat.le_of_ble_eq_true rfl) (Nat.le_of_ble_eq_true rfl) rfl e rfl).trans ?_
  exact tr_267_8 d w _ _ _
theorem s_char (d : Nat) (hW : Fix w) (hT : TX w) (hk : k < 16) {j : Nat} (hj : j < (chs k).length) : val (264, d + 3, 0, [some (.ref (2 + k)), some (.int (nI j))], [], w) = some (some (.int ((chs k).getD j 0)), w) := by
  obtain ⟨k1, k2⟩ := hW.tx hk
  obtain ⟨t1, t2, t3⟩ := hT k hk
  obtain ⟨c1, c2, c3⟩ := chs_ok k hk
  obtain ⟨c4, c5⟩ := c3 j hj
  have eb : (nI j).toNatClampNeg = j := nI_clamp (by omega)
  have e268 : val (268, d + 2, 0, [some (.ref (18 + k)), some (.int (nI j))], [], w) = some (some (.int ((chs k).getD j 0)), w) := by
    refine (tr_268 d w (18 + k) (nI j) _ k2).trans ?_
    refine (val_call (pc2 := 6) rfl rfl rfl rfl rfl (Nat.le_of_ble_eq_true rfl) (Nat.le_of_ble_eq_true rfl) rfl (s_chk d hj (by omega)) rfl).trans ?_
    refine (tr_268_6 d w (18 + k) (nI j) _ k2 (inB_nI hj (by omega)) (by rw [eb, t3 j hj, c4]; exact c5)).trans ?_
    rw [eb, t3 j hj, c4]
  have e266 : val (266, d + 2, 0, [some (.ref (2 + k))], [], w) = some (some (.int 1), w) := by
    refine (tr_266 (d + 2) w (2 + k) _ k1).trans ?_
    rw [t2, if_neg (fun h => h rfl)]
  refine (val_g (c2 := (264, d + 3, 1, [some (.ref (2 + k)), some (.int (nI j))], [.ref (2 + k)], w)) rfl).trans ?_
  refine (val_call (pc2 := 4) rfl rfl rfl rfl (rcvO k1 (by decide)) (Nat.le_of_ble_eq_true rfl) (Nat.le_of_ble_eq_true rfl) rfl e266 rfl).trans ?_
  refine ((val_if_eq rfl).trans (if_neg (by decide))).trans ?_
  refine (val_g (c2 := (264, d + 3, 8, [some (.ref (2 + k)), some (.int (nI j))], [.ref (2 + k)], w)) rfl).trans ?_
  refine (val_gf rfl k1 (fvR t1)).trans ?_
  refine (val_g (c2 := (264, d + 3, 12, [some (.ref (2 + k)), some (.int (nI j))], [.int (nI j), .ref (18 + k)], w)) rfl).trans ?_
  refine (val_call (pc2 := 15) rfl rfl rfl rfl rfl (Nat.le_of_ble_eq_true rfl) (Nat.le_of_ble_eq_true rfl) rfl e268 rfl).trans ?_
  exact val_r (if_pos c5)
end TXT
/-! BYTES: what they are -/
def kBl (c : Int32) : Int32 := if c = 32 then 1 else (if ¬ c = 10 then 0 else 1)
def kLt (c : Int32) : Int32 := if c < 97 then 0 else (if 122 < c then 0 else 1)
def kDg (c : Int32) : Int32 := if c < 48 then 0 else (if 57 < c then 0 else 1)
def kSg (c : Int32) : Int32 := if c = 59 then 1 else (if c = 40 then 1 else (if c = 41 then 1 else (if ¬ c = 44 then 0 else 1)))
/-- the class's kind of a byte -/
theorem kindOf_eq (c : Int32) : fn_76 c = (if kBl c = 0 then (if kLt c = 0 then (if kDg c = 0 then (if kSg c = 0 then 5 else 4) else 3) else 2) else 1) := by
  have e10 : ¬ (1 : Int32) = 0 := by decide
  unfold fn_76 kBl kLt kDg kSg
  by_cases h1 : c = 32
  · rw [if_pos h1, if_pos h1, if_neg e10]
  rw [if_neg h1, if_neg h1]
  by_cases h2 : c = 10
  · rw [if_neg (show ¬ ¬ c = 10 from fun h => h h2), if_neg (show ¬ ¬ c = 10 from fun h => h h2), if_neg e10]
  rw [if_pos h2, if_pos h2, if_pos rfl]
  have hs : (if c = 59 then (4 : Int32) else (if c = 40 then 4 else (if c = 41 then 4 else (if ¬ c = 44 then 5 else 4)))) = (if (if c = 59 then (1 : Int32) else (if c = 40 then 1 else (if c = 41 then 1 else (if ¬ c = 44 then 0 else 1)))) = 0 then 5 else 4) := by
    by_cases g1 : c = 59
    · rw [if_pos g1, if_pos g1, if_neg e10]
    rw [if_neg g1, if_neg g1]
    by_cases g2 : c = 40
    · rw [if_pos g2, if_pos g2, if_neg e10]
    rw [if_neg g2, if_neg g2]
    by_cases g3 : c = 41
    · rw [if_pos g3, if_pos g3, if_neg e10]
    rw [if_neg g3, if_neg g3]
    by_cases g4 : c = 44
    · rw [if_neg (show ¬ ¬ c = 44 from fun h => h g4), if_neg (show ¬ ¬ c = 44 from fun h => h g4), if_neg e10]
    · rw [if_pos g4, if_pos g4, if_pos rfl]
  rw [hs]
  have hd : (if c < 48 then (if (if c = 59 then (1 : Int32) else (if c = 40 then 1 else (if c = 41 then 1 else (if ¬ c = 44 then 0 else 1)))) = 0 then (5 : Int32) else 4) else (if 57 < c then (if (if c = 59 then (1 : Int32) else (if c = 40 then 1 else (if c = 41 then 1 else (if ¬ c = 44 then 0 else 1)))) = 0 then 5 else 4) else 3)) = (if (if c < 48 then (0 : Int32) else (if 57 < c then 0 else 1)) = 0 then (if (if c = 59 then (1 : Int32) else (if c = 40 then 1 else (if c = 41 then 1 else (if ¬ c = 44 then 0 else 1)))) = 0 then 5 else 4) else 3) := by
    by_cases g1 : c < 48
    · rw [if_pos g1, if_pos g1, if_pos rfl]
    rw [if_neg g1, if_neg g1]
    by_cases g2 : 57 < c
    · rw [if_pos g2, if_pos g2, if_pos rfl]
    · rw [if_neg g2, if_neg g2, if_neg e10]
  rw [hd]
  by_cases g1 : c < 97
  · rw [if_pos g1, if_pos g1, if_pos rfl]
  rw [if_neg g1, if_neg g1]
  by_cases g2 : 122 < c
  · rw [if_pos g2, if_pos g2, if_pos rfl]
  · rw [if_neg g2, if_neg g2, if_neg e10]
theorem kLt_bl {c : Int32} (h : ¬ kLt c = 0) : kBl c = 0 := by
  unfold kLt at h
  unfold kBl
  by_cases h1 : c = 32
  · subst h1; exact absurd rfl h
  by_cases h2 : c = 10
  · subst h2; exact absurd rfl h
  rw [if_neg h1, if_pos h2]
theorem kDg_lt {c : Int32} (h : ¬ kDg c = 0) : kBl c = 0 ∧ kLt c = 0 := by
  unfold kDg at h
  have h3 : c < 97 := by
    by_cases g1 : c < 48
    · exact Int32.lt_trans g1 (by decide)
    rw [if_neg g1] at h
    by_cases g2 : 57 < c
    · rw [if_pos g2] at h; exact absurd rfl h
    · exact Int32.lt_of_le_of_lt (Int32.not_lt.mp g2) (by decide)
  refine ⟨?_, by unfold kLt; rw [if_pos h3]⟩
  unfold kBl
  by_cases h1 : c = 32
  · subst h1; exact absurd rfl h
  by_cases h2 : c = 10
  · subst h2; exact absurd rfl h
  rw [if_neg h1, if_pos h2]
theorem k76_1 (c : Int32) : fn_76 c = 1 ↔ ¬ kBl c = 0 := by
  rw [kindOf_eq]
  by_cases h1 : kBl c = 0
  · rw [if_pos h1]
    refine ⟨fun h => ?_, fun h => absurd h1 h⟩
    split at h
    · split at h
      · split at h <;> exact absurd h (by decide)
      · exact absurd h (by decide)
    · exact absurd h (by decide)
  · rw [if_neg h1]
    exact ⟨fun _ => h1, fun _ => rfl⟩
theorem k76_2 (c : Int32) : fn_76 c = 2 ↔ ¬ kLt c = 0 := by
  rw [kindOf_eq]
  constructor
  · intro h hl
    rw [if_pos hl] at h
    split at h
    · split at h
      · split at h <;> exact absurd h (by decide)
      · exact absurd h (by decide)
    · exact absurd h (by decide)
  · intro h
    rw [if_pos (kLt_bl h), if_neg h]
theorem k76_3 (c : Int32) : fn_76 c = 3 ↔ ¬ kDg c = 0 := by
  rw [kindOf_eq]
  constructor
  · intro h hl
    rw [if_pos hl] at h
    split at h
    · split at h
      · split at h <;> exact absurd h (by decide)
      · exact absurd h (by decide)
    · exact absurd h (by decide)
  · intro h
    rw [if_pos (kDg_lt h).1, if_pos (kDg_lt h).2, if_neg h]
theorem k76_0 (c : Int32) : ¬ fn_76 c = 0 := by
  rw [kindOf_eq]
  intro h
  split at h
  · split at h
    · split at h
      · split at h <;> exact absurd h (by decide)
      · exact absurd h (by decide)
    · exact absurd h (by decide)
  · exact absurd h (by decide)
/-! TOKENS: what they are -/
/-- kind, from, to, the number -/
abbrev Tk : Type := Nat × Nat × Nat × Nat
section TOK
variable (t : Nat → Int32) (T : Nat)
def tBl (i : Nat) : Bool := decide (¬ kBl (t i) = 0)
def tLt (i : Nat) : Bool := decide (¬ kLt (t i) = 0)
def tDg (i : Nat) : Bool := decide (¬ kDg (t i) = 0)
/-- the first place from p on, ahead of T, where P does not hold; T -/
def skp (P : Nat → Bool) (p : Nat) : Nat := fst (fun i => !P i) (T - p) p
def dgA (q i : Nat) : Nat := (t (q + i)).toNatClampNeg - 48
def tok (p : Nat) : Tk :=
  if skp T (tBl t) p < T then
    (if tLt t (skp T (tBl t) p) = true then (1, skp T (tBl t) p, skp T (tLt t) (skp T (tBl t) p), 0)
     else if tDg t (skp T (tBl t) p) = true then
       (if skp T (tDg t) (skp T (tBl t) p) - skp T (tBl t) p ≤ 8 then (2, skp T (tBl t) p, skp T (tDg t) (skp T (tBl t) p), dg 10 (dgA t (skp T (tBl t) p)) (skp T (tDg t) (skp T (tBl t) p) - skp T (tBl t) p))
        else (4, skp T (tBl t) p, skp T (tDg t) (skp T (tBl t) p), 0))
     else if kSg (t (skp T (tBl t) p)) = 0 then (4, skp T (tBl t) p, skp T (tBl t) p + 1, 0) else (3, skp T (tBl t) p, skp T (tBl t) p + 1, 0))
  else (0, skp T (tBl t) p, skp T (tBl t) p, 0)
def mWd : Nat → List Int32 → Bool
  | _, [] => true
  | p, c :: l => decide (t p = c) && mWd (p + 1) l
def isWd (k : Tk) (j : Nat) : Bool := decide (k.1 = 1) && (decide (k.2.2.1 - k.2.1 = (chs j).length) && mWd t k.2.1 (chs j))
def isSg (k : Tk) (c : Int32) : Bool := decide (k.1 = 3) && decide (t k.2.1 = c)
def nxt (k : Tk) : Tk := tok t T k.2.2.1
end TOK
theorem skp_ge {T : Nat} {P : Nat → Bool} : ∀ n p, n = T - p → p ≤ skp T P p ∧ (p ≤ T → skp T P p ≤ T)
  | 0, p, h => by unfold skp; rw [← h]; exact ⟨Nat.le_refl p, id⟩
  | n + 1, p, h => by
    have e : skp T P p = if (!P p) = true then p else skp T P (p + 1) := by
      unfold skp
      rw [← h, show T - (p + 1) = n by omega]
      rfl
    rw [e]
    split
    · exact ⟨Nat.le_refl p, id⟩
    · have := skp_ge (T := T) (P := P) n (p + 1) (by omega)
      exact ⟨by omega, fun _ => this.2 (by omega)⟩
theorem skp_step {T : Nat} {P : Nat → Bool} {p : Nat} (hp : p < T) (h : P p = true) : skp T P p = skp T P (p + 1) := by
  unfold skp
  obtain ⟨n, hn⟩ : ∃ n, T - p = n + 1 := ⟨T - p - 1, by omega⟩
  rw [hn, show T - (p + 1) = n by omega]
  show (if (!P p) = true then p else _) = _
  rw [h, if_neg (by decide)]
theorem skp_stop {T : Nat} {P : Nat → Bool} {p : Nat} (h : T ≤ p ∨ P p = false) : skp T P p = p := by
  unfold skp
  cases hn : T - p with
  | zero => rfl
  | succ n =>
    have : P p = false := by
      rcases h with h | h
      · omega
      · exact h
    show (if (!P p) = true then p else _) = p
    rw [this, if_pos (by decide)]
theorem skp_at {T : Nat} {P : Nat → Bool} : ∀ n p, n = T - p → skp T P p < T → P (skp T P p) = false ∧ ∀ i, p ≤ i → i < skp T P p → P i = true
  | 0, p, h, hl => by
    have e : skp T P p = p := by unfold skp; rw [← h]; rfl
    omega
  | n + 1, p, h, hl => by
    by_cases hp : P p = true
    · rw [skp_step (by omega) hp] at hl ⊢
      obtain ⟨h1, h2⟩ := skp_at n (p + 1) (by omega) hl
      refine ⟨h1, fun i hi hi2 => ?_⟩
      by_cases e : i = p
      · rw [e]; exact hp
      · exact h2 i (by omega) hi2
    · have hf : P p = false := by cases h : P p with | false => rfl | true => exact absurd h hp
      rw [skp_stop (Or.inr hf)] at hl ⊢
      exact ⟨hf, fun i hi hi2 => by omega⟩
theorem skp_all {T : Nat} {P : Nat → Bool} : ∀ n p, n = T - p → ∀ i, p ≤ i → i < skp T P p → P i = true
  | 0, p, h, i, h1, h2 => by
    have e : skp T P p = p := by unfold skp; rw [← h]; rfl
    omega
  | n + 1, p, h, i, h1, h2 => by
    by_cases hp : P p = true
    · rw [skp_step (by omega) hp] at h2
      by_cases e : i = p
      · rw [e]; exact hp
      · exact skp_all n (p + 1) (by omega) i (by omega) h2
    · have hf : P p = false := by cases h : P p with | false => rfl | true => exact absurd h hp
      rw [skp_stop (Or.inr hf)] at h2
      omega
/-- a token lies in the text -/
theorem tok_in (t : Nat → Int32) {T p : Nat} (hp : p ≤ T) : (tok t T p).1 ≤ 4 ∧ p ≤ (tok t T p).2.1 ∧ (tok t T p).2.1 ≤ (tok t T p).2.2.1 ∧ (tok t T p).2.2.1 ≤ T ∧ ((tok t T p).1 ≠ 0 → (tok t T p).2.1 < (tok t T p).2.2.1) ∧ ((tok t T p).1 = 2 → (tok t T p).2.2.1 - (tok t T p).2.1 ≤ 8 ∧ (tok t T p).2.2.2 = dg 10 (dgA t (tok t T p).2.1) ((tok t T p).2.2.1 - (tok t T p).2.1) ∧ ∀ i, (tok t T p).2.1 ≤ i → i < (tok t T p).2.2.1 → tDg t i = true) ∧ ((tok t T p).1 = 0 → (tok t T p).2.1 = T) := by
  obtain ⟨h1, h2⟩ := skp_ge (T := T) (P := tBl t) _ p rfl
  have h2 := h2 hp
  unfold tok
  generalize skp T (tBl t) p = q at h1 h2
  split
  · rename_i hq
    split
    · rename_i hl
      obtain ⟨g1, g2⟩ := skp_ge (T := T) (P := tLt t) _ q rfl
      have g3 := skp_ge (T := T) (P := tLt t) _ (q + 1) rfl
      rw [← skp_step hq hl] at g3
      dsimp only
      exact ⟨by decide, h1, g1, g2 h2, fun _ => by omega, fun h => absurd h (by decide), fun h => absurd h (by decide)⟩
    · split
      · rename_i hd
        obtain ⟨g1, g2⟩ := skp_ge (T := T) (P := tDg t) _ q rfl
        have g3 := skp_ge (T := T) (P := tDg t) _ (q + 1) rfl
        rw [← skp_step hq hd] at g3
        split
        · rename_i h8
          dsimp only
          exact ⟨by decide, h1, g1, g2 h2, fun _ => by omega, fun _ => ⟨h8, rfl, fun i i1 i2 => skp_all _ q rfl i i1 i2⟩, fun h => absurd h (by decide)⟩
        · dsimp only
          exact ⟨by decide, h1, g1, g2 h2, fun _ => by omega, fun h => absurd h (by decide), fun h => absurd h (by decide)⟩
      · split
        · dsimp only
          exact ⟨by decide, h1, Nat.le_succ q, hq, fun _ => Nat.lt_succ_self q, fun h => absurd h (by decide), fun h => absurd h (by decide)⟩
        · dsimp only
          exact ⟨by decide, h1, Nat.le_succ q, hq, fun _ => Nat.lt_succ_self q, fun h => absurd h (by decide), fun h => absurd h (by decide)⟩
  · dsimp only
    exact ⟨by decide, h1, Nat.le_refl q, h2, fun h => absurd rfl h, fun h => absurd h (by decide), fun _ => by omega⟩
