/-! THE RUN: a row against the earlier ones -/
/-- the latest of 1..k -/
def lts (P : Nat → Bool) : Nat → Nat
  | 0 => 0
  | k + 1 => if P (k + 1) = true then k + 1 else lts P k
/-- how many of 1..k -/
def oc (P : Nat → Bool) : Nat → Nat
  | 0 => 0
  | k + 1 => oc P k + (P (k + 1)).toNat
theorem lts_le (P : Nat → Bool) : ∀ k, lts P k ≤ k
  | 0 => Nat.le_refl 0
  | k + 1 => by
    unfold lts
    split
    · exact Nat.le_refl _
    · have := lts_le P k; omega
theorem lts_congr {P Q : Nat → Bool} : ∀ k, (∀ j, 1 ≤ j → j ≤ k → P j = Q j) → lts P k = lts Q k
  | 0, _ => rfl
  | k + 1, h => by
    unfold lts
    rw [h (k + 1) (by omega) (Nat.le_refl _), lts_congr k (fun j h1 h2 => h j h1 (by omega))]
theorem oc_congr {P Q : Nat → Bool} : ∀ k, (∀ j, 1 ≤ j → j ≤ k → P j = Q j) → oc P k = oc Q k
  | 0, _ => rfl
  | k + 1, h => by
    unfold oc
    rw [h (k + 1) (by omega) (Nat.le_refl _), oc_congr k (fun j h1 h2 => h j h1 (by omega))]
theorem lts_pos {P : Nat → Bool} : ∀ k, 0 < lts P k → P (lts P k) = true
  | 0, h => by exact absurd h (Nat.lt_irrefl 0)
  | k + 1, h => by
    by_cases c : P (k + 1) = true
    · have e : lts P (k + 1) = k + 1 := if_pos c
      rw [e]; exact c
    · have e : lts P (k + 1) = lts P k := if_neg c
      rw [e] at h ⊢
      exact lts_pos k h
theorem lts_sub {P Q : Nat → Bool} (h : ∀ j, P j = true → Q j = true) : ∀ k, lts P k = lts P (lts Q k)
  | 0 => rfl
  | k + 1 => by
    by_cases c : Q (k + 1) = true
    · have e : lts Q (k + 1) = k + 1 := if_pos c
      rw [e]
    · have e : lts Q (k + 1) = lts Q k := if_neg c
      have e2 : lts P (k + 1) = lts P k := if_neg (fun hh => c (h _ hh))
      rw [e, e2]
      exact lts_sub h k
theorem lts_hit {P : Nat → Bool} {j : Nat} (h0 : 0 < j) (h : P j = true) : lts P j = j := by
  obtain ⟨i, rfl⟩ : ∃ i, j = i + 1 := ⟨j - 1, by omega⟩
  exact if_pos h
theorem lts_miss {P : Nat → Bool} {j : Nat} (h : P j = false) : lts P j = lts P (j - 1) := by
  cases j with
  | zero => rfl
  | succ i => exact if_neg (by rw [h]; decide)
theorem oc_le (P : Nat → Bool) : ∀ k, oc P k ≤ k
  | 0 => Nat.le_refl 0
  | k + 1 => by
    unfold oc
    have := oc_le P k
    have := tn_le (P (k + 1))
    omega
theorem oc_lts0 {P : Nat → Bool} : ∀ k, lts P k = 0 → oc P k = 0
  | 0, _ => rfl
  | k + 1, h => by
    by_cases c : P (k + 1) = true
    · have e : lts P (k + 1) = k + 1 := if_pos c
      omega
    · have e : lts P (k + 1) = lts P k := if_neg c
      have c2 : P (k + 1) = false := by simpa using c
      show oc P k + (P (k + 1)).toNat = 0
      rw [oc_lts0 k (e ▸ h), c2]; rfl
theorem oc_lts {P : Nat → Bool} : ∀ k, 0 < lts P k → oc P k = oc P (lts P k - 1) + 1
  | 0, h => absurd h (Nat.lt_irrefl 0)
  | k + 1, h => by
    by_cases c : P (k + 1) = true
    · have e : lts P (k + 1) = k + 1 := if_pos c
      rw [e]
      show oc P k + (P (k + 1)).toNat = _
      rw [c]; rfl
    · have e : lts P (k + 1) = lts P k := if_neg c
      have c2 : P (k + 1) = false := by simpa using c
      rw [e]
      show oc P k + (P (k + 1)).toNat = _
      rw [c2]
      exact oc_lts k (e ▸ h)
abbrev hq (x : Int32) : Int32 := ushI (x * (-1640531535)) 22
theorem hq_ex (x : Int32) : ∃ n, n < 1024 ∧ hq x = nI n := by
  obtain ⟨a, ha, e⟩ := i32_ex (x * (-1640531535))
  refine ⟨a >>> 22, ?_, ?_⟩
  · rw [Nat.shiftRight_eq_div_pow]
    exact Nat.div_lt_of_lt_mul (by omega)
  · show ushI (x * (-1640531535)) 22 = _
    rw [e]
    exact n_ush ha (k := 22) (by decide)
section RUNS
variable (N : Nat) (F : Nat → Nat → Nat)
/-- the bucket of row j -/
def hs (j : Nat) : Nat := (hq (nI (pkN N (F j)))).toNatClampNeg
def hP (h j : Nat) : Bool := decide (hs N F j = h)
/-- row j is row k -/
def sP (k j : Nat) : Bool := decide (pkN N (F j) = pkN N (F k))
/-- how many different -/
def df : Nat → Nat
  | 0 => 0
  | k + 1 => df k + (if oc (sP N F (k + 1)) k = 0 then 1 else 0)
/-- the first row that had come t times -/
def fa (t : Nat) : Nat → Int32
  | 0 => -9
  | k + 1 => if fa t k = -9 ∧ oc (sP N F (k + 1)) k = t then nI (k + 1) else fa t k
/-- the first rounds -/
def fi : Nat → Int32
  | 0 => -9
  | k + 1 => if fi k = -9 ∧ isId N (F (k + 1)) = true then nI (k + 1) else fi k
/-- the class's records of rows 1..S, but for the counts -/
def RCa (w : Wd) (S : Nat) : Prop := (∀ h, h < 1024 → gI w 74 h = nI (lts (hP N F h) S)) ∧ ∀ j, 1 ≤ j → j ≤ S → gI w 75 j = nI (lts (hP N F (hs N F j)) (j - 1)) ∧ gI w 71 j = nI (lts (sP N F j) (j - 1)) ∧ gI w 72 j = nI (oc (sP N F j) (j - 1))
def RC (w : Wd) (S : Nat) : Prop := RCa N F w S ∧ gI w 67 12 = nI (df N F S) ∧ ∀ t, 1 ≤ t → t ≤ 9 → gI w 73 t = fa N F t S
end RUNS
section RUNC
variable {N : Nat} {F G : Nat → Nat → Nat}
theorem hs_lt (j : Nat) : hs N F j < 1024 ∧ hq (nI (pkN N (F j))) = nI (hs N F j) := by
  obtain ⟨n, hn, e⟩ := hq_ex (nI (pkN N (F j)))
  have : hs N F j = n := by
    show (hq (nI (pkN N (F j)))).toNatClampNeg = n
    rw [e, nI_clamp (by omega)]
  rw [this]
  exact ⟨hn, e⟩
theorem sP_hP {k j : Nat} (h : sP N F k j = true) : hP N F (hs N F k) j = true := by
  have e := of_decide_eq_true h
  refine decide_eq_true ?_
  show (hq (nI (pkN N (F j)))).toNatClampNeg = (hq (nI (pkN N (F k)))).toNatClampNeg
  rw [e]
theorem sP_eq {k j : Nat} (h : sP N F k j = true) : sP N F j = sP N F k := by
  funext i
  show decide _ = decide _
  rw [of_decide_eq_true h]
theorem sP_congr {S : Nat} (h : ∀ j, j ≤ S → F j = G j) {k j : Nat} (hk : k ≤ S) (hj : j ≤ S) : sP N F k j = sP N G k j := by
  show decide _ = decide _
  rw [h k hk, h j hj]
theorem hs_congr {S : Nat} (h : ∀ j, j ≤ S → F j = G j) {j : Nat} (hj : j ≤ S) : hs N F j = hs N G j := by
  unfold hs
  rw [h j hj]
theorem hP_congr {S : Nat} (h : ∀ j, j ≤ S → F j = G j) {x j : Nat} (hj : j ≤ S) : hP N F x j = hP N G x j := by
  unfold hP
  rw [hs_congr h hj]
theorem df_congr {S : Nat} (h : ∀ j, j ≤ S → F j = G j) : ∀ k, k ≤ S → df N F k = df N G k
  | 0, _ => rfl
  | k + 1, hk => by
    unfold df
    rw [df_congr h k (by omega), oc_congr k (fun j _ hj => sP_congr (G := G) (N := N) h hk (show j ≤ S by omega))]
theorem fa_congr {S t : Nat} (h : ∀ j, j ≤ S → F j = G j) : ∀ k, k ≤ S → fa N F t k = fa N G t k
  | 0, _ => rfl
  | k + 1, hk => by
    unfold fa
    rw [fa_congr h k (by omega), oc_congr k (fun j _ hj => sP_congr (G := G) (N := N) h hk (show j ≤ S by omega))]
theorem fi_congr {S : Nat} (h : ∀ j, j ≤ S → F j = G j) : ∀ k, k ≤ S → fi N F k = fi N G k
  | 0, _ => rfl
  | k + 1, hk => by
    unfold fi
    rw [fi_congr h k (by omega), h (k + 1) hk]
theorem RC.congr {w : Wd} {S : Nat} (h : RC N F w S) (e : ∀ j, j ≤ S → F j = G j) : RC N G w S := by
  obtain ⟨⟨h1, h2⟩, h3, h4⟩ := h
  refine ⟨⟨fun x hx => ?_, fun j j1 j2 => ?_⟩, ?_, fun t t1 t2 => ?_⟩
  · rw [h1 x hx, lts_congr S (fun j _ hj => hP_congr e hj)]
  · obtain ⟨a, b, c⟩ := h2 j j1 j2
    have e1 : ∀ i, 1 ≤ i → i ≤ j - 1 → sP N F j i = sP N G j i := fun i _ hi => sP_congr e j2 (by omega)
    refine ⟨?_, ?_, ?_⟩
    · rw [a, hs_congr e j2, lts_congr (j - 1) (fun i _ hi => hP_congr e (show i ≤ S by omega))]
    · rw [b, lts_congr _ e1]
    · rw [c, oc_congr _ e1]
  · rw [h3, df_congr e S (Nat.le_refl S)]
  · rw [h4 t t1 t2, fa_congr e S (Nat.le_refl S)]
variable {w : Wd}
/-- along the chain of a bucket -/
theorem c_chain (d : Nat) (hW : Fix w) (hN : N ≤ 8) {S k : Nat} (hk : k ≤ 2000) (hS : S < k) (hF : ∀ j, j ≤ k → IsRow N (F j) ∧ gI w 68 j = nI (pkN N (F j))) (hC : RCa N F w S) : ∀ n j i, j ≤ n → j ≤ S → i + j ≤ 2000 → ∃ l4 : Int32, val (158, d, 23, [some (.ref 67), some (.int (nI k)), some (.int (nI (hs N F k))), some (.int (nI (lts (hP N F (hs N F k)) j))), some (.int (nI i))], [], w) = val (158, d, 63, [some (.ref 67), some (.int (nI k)), some (.int (nI (hs N F k))), some (.int (nI (lts (sP N F k) j))), some (.int l4)], [], w) := by
  intro n
  induction n with
  | zero =>
    intro j i h0 hjS hij
    have hj0 : j = 0 := by omega
    subst hj0
    refine ⟨nI i, (tr_158_23 d w hW _ _ _ _ (fun _ h => absurd (Int32.le_refl _) h) (fun _ h => absurd (Int32.le_refl _) h) (fun _ h => absurd (Int32.le_refl _) h)).trans ?_⟩
    by_cases c : (2000 : Int32) ≤ nI i
    · rw [if_pos c]; rfl
    · rw [if_neg c]
      exact if_pos (Int32.le_refl _)
  | succ n ih =>
    intro j i hjn hjS hij
    obtain ⟨q, hq⟩ : ∃ q, q = lts (hP N F (hs N F k)) j := ⟨_, rfl⟩
    have hqj : q ≤ j := by rw [hq]; exact lts_le _ _
    have hsub := lts_sub (P := sP N F k) (Q := hP N F (hs N F k)) (fun i hi => sP_hP hi) j
    rw [← hq] at hsub ⊢
    rw [hsub]
    have iq : (nI q).toNatClampNeg = q := nI_clamp (by omega)
    have ik : (nI k).toNatClampNeg = k := nI_clamp (by omega)
    have e := tr_158_23 d w hW (nI k) (nI (hs N F k)) (nI q) (nI i) (fun _ _ => inB_nI (by omega) (by omega)) (fun _ _ => inB_nI (by omega) (by omega)) (fun _ _ _ => inB_nI (by omega) (by omega))
    by_cases q0 : q = 0
    · rw [q0] at e ⊢
      refine ⟨nI i, e.trans ?_⟩
      by_cases c : (2000 : Int32) ≤ nI i
      · rw [if_pos c]; rfl
      · rw [if_neg c]
        exact if_pos (Int32.le_refl _)
    · rw [if_neg (show ¬ (2000 : Int32) ≤ nI i from n_nle (a := 2000) (show i < 2000 by omega) (by omega)), if_neg (n_nle0 (by omega) (by omega)), iq, ik, (hF q (by omega)).2, (hF k (Nat.le_refl k)).2] at e
      by_cases c : pkN N (F q) = pkN N (F k)
      · rw [if_pos (by rw [c])] at e
        refine ⟨nI i, e.trans ?_⟩
        rw [lts_hit (by omega) (decide_eq_true c)]
      · rw [if_neg (n_ne c (pkN_lt hN (hF q (by omega)).1.1) (pkN_lt hN (hF k (Nat.le_refl k)).1.1)), (hC.2 q (by omega) (by omega)).1, n_succ] at e
        have hh : hs N F q = hs N F k := by
          have := lts_pos (P := hP N F (hs N F k)) j (by rw [← hq]; omega)
          rw [← hq] at this
          exact of_decide_eq_true this
        rw [hh] at e
        obtain ⟨l4, e2⟩ := ih (q - 1) (i + 1) (by omega) (by omega) (by omega)
        refine ⟨l4, e.trans (e2.trans ?_)⟩
        rw [lts_miss (P := sP N F k) (j := q) (decide_eq_false c)]
abbrev FCo : List (Nat × Option Nat) := [(67, some 12), (71, none), (72, none), (73, none), (74, none), (75, none)]
theorem c_compare (d : Nat) (hW : Fix w) (hN : N ≤ 8) {S : Nat} (hk : S + 1 ≤ 2000) (hF : ∀ j, j ≤ S + 1 → IsRow N (F j) ∧ gI w 68 j = nI (pkN N (F j))) (hC : RC N F w S) : ∃ w', val (158, d, 0, [some (.ref 67), some (.int (nI (S + 1))), none, none, none], [], w) = some (none, w') ∧ Fr FCo w w' ∧ RC N F w' (S + 1) := by
  obtain ⟨k, rfl⟩ : ∃ k, k = S + 1 := ⟨_, rfl⟩
  obtain ⟨hCa, hC1, hC2⟩ := id hC
  have ik : (nI (S + 1)).toNatClampNeg = S + 1 := nI_clamp (by omega)
  obtain ⟨h, hh⟩ : ∃ h, h = hs N F (S + 1) := ⟨_, rfl⟩
  obtain ⟨hh1, hh2⟩ := hs_lt (N := N) (F := F) (S + 1)
  rw [← hh] at hh1 hh2
  have ih : (nI h).toNatClampNeg = h := nI_clamp (by omega)
  have e0 := tr_158 d w hW (nI (S + 1)) (inB_nI (by omega) (by omega)) (by rw [ik, (hF _ (Nat.le_refl _)).2]; show inB (hq _) 1024 = true; rw [hh2]; exact inB_nI hh1 (by omega))
  rw [ik, (hF _ (Nat.le_refl _)).2, show ushI (nI (pkN N (F (S + 1))) * (-1640531535)) 22 = nI h from hh2, ih, hCa.1 h hh1] at e0
  obtain ⟨l4, e1⟩ := c_chain d hW hN hk (Nat.lt_succ_self S) hF hCa S S 0 (Nat.le_refl S) (Nat.le_refl S) (by omega)
  rw [← hh] at e1
  obtain ⟨q, hq⟩ : ∃ q, q = lts (sP N F (S + 1)) S := ⟨_, rfl⟩
  have hqS : q ≤ S := by rw [hq]; exact lts_le _ _
  have iq : (nI q).toNatClampNeg = q := nI_clamp (by omega)
  rw [← hq] at e1
  have e2 := tr_158_63 d w hW (nI (S + 1)) (nI h) (nI q) l4 (inB_nI hh1 (by omega)) (inB_nI (by omega) (by omega)) (fun _ => inB_nI (by omega) (by omega))
  rw [ik, ih, iq, hCa.1 h hh1] at e2
  obtain ⟨w3, hw3⟩ : ∃ w3, w3 = sI (sI (sI w 75 (S + 1) (nI (lts (hP N F h) S))) 74 h (nI (S + 1))) 71 (S + 1) (nI q) := ⟨_, rfl⟩
  rw [← hw3] at e2
  have f3 : Fr FCo w w3 := by
    rw [hw3]
    exact (((Fr.refl _ w).sI 75 _ _ rfl).sI 74 _ _ rfl).sI 71 _ _ rfl
  have g72 : ∀ j, gI w3 72 j = gI w 72 j := fun j => by
    rw [hw3, gI_ne _ _ _ _ (by decide), gI_ne _ _ _ _ (by decide), gI_ne _ _ _ _ (by decide)]
  -- how often it came before
  have e3 : val (158, d, 63, [some (.ref 67), some (.int (nI (S + 1))), some (.int (nI h)), some (.int (nI q)), some (.int l4)], [], w) = val (158, d, 110, [some (.ref 67), some (.int (nI (S + 1))), some (.int (nI h)), some (.int (nI q)), some (.int l4)], [.int (nI (oc (sP N F (S + 1)) S)), .int (nI (S + 1)), .ref 72], w3) := by
    refine e2.trans ?_
    by_cases q0 : q = 0
    · rw [oc_lts0 (P := sP N F (S + 1)) S (by rw [← hq]; exact q0), if_pos (by rw [q0]; exact Int32.le_refl _)]
      rfl
    · have hp : 0 < lts (sP N F (S + 1)) S := by rw [← hq]; omega
      have hsq := lts_pos _ hp
      rw [← hq] at hsq
      rw [if_neg (n_nle0 (by omega) (by omega)), g72, (hCa.2 q (by omega) hqS).2.2, n_succ, oc_lts S hp, ← hq, sP_eq hsq]
  obtain ⟨c, hc⟩ : ∃ c, c = oc (sP N F (S + 1)) S := ⟨_, rfl⟩
  have hcS : c ≤ S := by rw [hc]; exact oc_le _ _
  rw [← hc] at e3
  obtain ⟨w4, hw4⟩ : ∃ w4, w4 = sI w3 72 (S + 1) (nI c) := ⟨_, rfl⟩
  have ic : (nI c).toNatClampNeg = c := nI_clamp (by omega)
  have f4 : Fr FCo w w4 := by rw [hw4]; exact f3.sI 72 _ _ rfl
  have g4 : gI w4 72 (S + 1) = nI c := by rw [hw4, gI_same]
  have hW3 := f3.fix rfl hW
  have c10 : ¬ nI c = 0 → ¬ (9 : Int32) < nI c → 1 ≤ c ∧ c ≤ 9 := fun a b => by
    refine ⟨?_, ?_⟩
    · by_cases hc0 : c = 0
      · rw [hc0] at a; exact absurd rfl a
      · omega
    · by_cases hc9 : 9 < c
      · exact absurd (n_lt (a := 9) hc9 (by omega)) b
      · omega
  have e4 := tr_158_110 d w3 hW3 (nI (S + 1)) (nI h) (nI q) l4 (nI c) (nI (S + 1)) (inB_nI (by omega) (by omega)) (inB_nI (by omega) (by omega)) (fun a b => by
    rw [ik, gI_same] at a b ⊢
    have := c10 a b
    exact inB_nI (by omega) (by omega)) (fun a b _ => by
    rw [ik, gI_same] at a b ⊢
    have := c10 a b
    exact inB_nI (by omega) (by omega))
  rw [ik, ← hw4, g4, ic] at e4
  have a67 : gI w4 67 12 = nI (df N F S) := by
    rw [hw4, gI_ne _ _ _ _ (by decide), hw3, gI_ne _ _ _ _ (by decide), gI_ne _ _ _ _ (by decide), gI_ne _ _ _ _ (by decide)]
    exact hC1
  have a73 : ∀ t, 1 ≤ t → t ≤ 9 → gI w4 73 t = fa N F t S := fun t t1 t2 => by
    rw [hw4, gI_ne _ _ _ _ (by decide), hw3, gI_ne _ _ _ _ (by decide), gI_ne _ _ _ _ (by decide), gI_ne _ _ _ _ (by decide)]
    exact hC2 t t1 t2
  have ra : RCa N F w4 (S + 1) := by
    refine ⟨fun x hx => ?_, fun j j1 j2 => ?_⟩
    · rw [hw4, gI_ne _ _ _ _ (by decide), hw3, gI_ne _ _ _ _ (by decide)]
      by_cases hxh : x = h
      · rw [hxh, gI_same]
        have : hP N F h (S + 1) = true := decide_eq_true hh.symm
        rw [show lts (hP N F h) (S + 1) = S + 1 from if_pos this]
      · have : ¬ hP N F x (S + 1) = true := fun hp => hxh (by rw [hh]; exact (of_decide_eq_true hp).symm)
        rw [gI_nk _ _ _ hxh, gI_ne _ _ _ _ (by decide), hCa.1 x hx, show lts (hP N F x) (S + 1) = lts (hP N F x) S from if_neg this]
    · by_cases hj : j = S + 1
      · subst hj
        rw [Nat.add_sub_cancel, g4, ← hq, ← hc, ← hh]
        refine ⟨?_, ?_, rfl⟩
        · rw [hw4, gI_ne _ _ _ _ (by decide), hw3, gI_ne _ _ _ _ (by decide), gI_ne _ _ _ _ (by decide), gI_same]
        · rw [hw4, gI_ne _ _ _ _ (by decide), hw3, gI_same]
      · obtain ⟨b1, b2, b3⟩ := hCa.2 j j1 (by omega)
        refine ⟨?_, ?_, ?_⟩
        · rw [hw4, gI_ne _ _ _ _ (by decide), hw3, gI_ne _ _ _ _ (by decide), gI_ne _ _ _ _ (by decide), gI_nk _ _ _ hj]; exact b1
        · rw [hw4, gI_ne _ _ _ _ (by decide), hw3, gI_nk _ _ _ hj, gI_ne _ _ _ _ (by decide), gI_ne _ _ _ _ (by decide)]; exact b2
        · rw [hw4, gI_nk _ _ _ hj, g72]; exact b3
  have hdf : df N F (S + 1) = df N F S + (if c = 0 then 1 else 0) := by rw [hc]; rfl
  have hfa : ∀ t, fa N F t (S + 1) = if fa N F t S = -9 ∧ c = t then nI (S + 1) else fa N F t S := fun t => by rw [hc]; rfl
  have raF : ∀ {z : Wd}, Fr [(67, some 12), (73, none)] w4 z → RCa N F z (S + 1) := fun {z} hf => ⟨fun x hx => (hf.i 74 x rfl).trans (ra.1 x hx), fun j j1 j2 => by
    obtain ⟨b1, b2, b3⟩ := ra.2 j j1 j2
    exact ⟨(hf.i 75 j rfl).trans b1, (hf.i 71 j rfl).trans b2, (hf.i 72 j rfl).trans b3⟩⟩
  by_cases c0 : c = 0
  · rw [c0, if_neg (show ¬ ¬ nI 0 = 0 from fun h => h rfl), a67, n_succ] at e4
    rw [c0] at e3
    refine ⟨_, e0.trans (e1.trans (e3.trans (e4.trans (tr_158_164 d _ _ _ _ _)))), f4.sI 67 12 _ rfl, raF ((Fr.refl _ w4).sI 67 12 _ rfl), ?_, fun t t1 t2 => ?_⟩
    · rw [gI_same, hdf, if_pos c0]
    · rw [gI_ne _ _ _ _ (by decide), a73 t t1 t2, hfa t, if_neg (by omega)]
  · rw [if_pos (n_ne0 c0 (by omega))] at e4
    by_cases c9 : 9 < c
    · rw [if_pos (show (9 : Int32) < nI c from n_lt (a := 9) c9 (by omega))] at e4
      refine ⟨w4, e0.trans (e1.trans (e3.trans (e4.trans (tr_158_164 d _ _ _ _ _)))), f4, ra, ?_, fun t t1 t2 => ?_⟩
      · rw [a67, hdf, if_neg c0, Nat.add_zero]
      · rw [a73 t t1 t2, hfa t, if_neg (by omega)]
    · rw [if_neg (show ¬ (9 : Int32) < nI c from n_nlt (a := 9) (show c ≤ 9 by omega) (by decide)), a73 c (by omega) (by omega)] at e4
      by_cases cf : fa N F c S = -9
      · rw [if_neg (fun hn => hn cf)] at e4
        refine ⟨_, e0.trans (e1.trans (e3.trans (e4.trans (tr_158_164 d _ _ _ _ _)))), f4.sI 73 c _ rfl, raF ((Fr.refl _ w4).sI 73 c _ rfl), ?_, fun t t1 t2 => ?_⟩
        · rw [gI_ne _ _ _ _ (by decide), a67, hdf, if_neg c0, Nat.add_zero]
        · by_cases ht : t = c
          · rw [ht, gI_same, hfa c, if_pos ⟨cf, rfl⟩]
          · rw [gI_nk _ _ _ ht, a73 t t1 t2, hfa t, if_neg (by omega)]
      · rw [if_pos cf] at e4
        refine ⟨w4, e0.trans (e1.trans (e3.trans (e4.trans (tr_158_164 d _ _ _ _ _)))), f4, ra, ?_, fun t t1 t2 => ?_⟩
        · rw [a67, hdf, if_neg c0, Nat.add_zero]
        · rw [a73 t t1 t2, hfa t]
          by_cases ht : t = c
          · rw [ht, if_neg (fun hh => cf hh.1)]
          · rw [if_neg (by omega)]
end RUNC
