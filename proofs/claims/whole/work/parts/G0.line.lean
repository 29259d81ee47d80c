/-! THE LINE: what is to be laid, and the class lays it -/
abbrev fA (a b : Nat) : Nat := Jvm.FP.Core.add Jvm.FP.Core.b64 a b
abbrev fS (a b : Nat) : Nat := Jvm.FP.Core.sub Jvm.FP.Core.b64 a b
abbrev fM (a b : Nat) : Nat := Jvm.FP.Core.mul Jvm.FP.Core.b64 a b
abbrev fD (a b : Nat) : Nat := Jvm.FP.Core.div Jvm.FP.Core.b64 a b
abbrev fI (n : Nat) : Nat := Jvm.FP.Core.fromInt Jvm.FP.Core.b64 (n : Int)
/-- a double's bits, one NaN alone -/
def Rl (x : Nat) : Prop := x < 2 ^ 64 ∧ (szB x ≤ INF ∨ x = NANB)
theorem Rl.of_num {x : Nat} (h : Num x) : Rl x := ⟨h.1, Or.inl h.2⟩
theorem rl_nan : Rl NANB := ⟨by decide, Or.inr rfl⟩
theorem rl_add {a b : Nat} (ha : a < 2 ^ 64) (hb : b < 2 ^ 64) : Rl (fA a b) := by
  by_cases h : AddBad a b
  · rw [show fA a b = NANB from add_bad ha hb h]; exact rl_nan
  · exact .of_num (add_num ha hb h)
theorem rl_sub {a b : Nat} (ha : a < 2 ^ 64) (hb : b < 2 ^ 64) : Rl (fS a b) := by
  by_cases h : SubBad a b
  · rw [show fS a b = NANB from sub_bad ha hb h]; exact rl_nan
  · exact .of_num (sub_num ha hb h)
theorem rl_mul {a b : Nat} (ha : a < 2 ^ 64) (hb : b < 2 ^ 64) : Rl (fM a b) := by
  by_cases h : MulBad a b
  · rw [show fM a b = NANB from mul_bad ha hb h]; exact rl_nan
  · exact .of_num (mul_num ha hb h)
theorem rl_div {a b : Nat} (ha : a < 2 ^ 64) (hb : b < 2 ^ 64) : Rl (fD a b) := by
  by_cases h : DivBad a b
  · rw [show fD a b = NANB from div_bad ha hb h]; exact rl_nan
  · exact .of_num (div_num ha hb h)
theorem fi_rl {z : Int} : Rl (Jvm.FP.Core.fromInt Jvm.FP.Core.b64 z) := .of_num (num_rr (decide (z < 0)) z.natAbs (by decide) 0)
theorem rl_0 : Rl 0 := .of_num ⟨by decide, by decide⟩
def sSm (t : Nat → Nat) : Nat → Nat
  | 0 => 0
  | k + 1 => fA (sSm t k) (t k)
def sPr (t : Nat → Nat) : Nat → Nat
  | 0 => 0
  | k + 1 => fA (sPr t k) (fM (fI k) (t k))
def sQr : Nat → Nat
  | 0 => 0
  | k + 1 => sQr k + k * k
def triK (K : Nat) : Nat := K * (K - 1) / 2
def gapV (K : Nat) (t : Nat → Nat) : Nat := fD (fS (fM (fI K) (sPr t K)) (fM (fI (triK K)) (sSm t K))) (fS (fM (fI K) (fI (sQr K))) (fM (fI (triK K)) (fI (triK K))))
def leadV (K : Nat) (t : Nat → Nat) : Nat := fD (fS (sSm t K) (fM (gapV K t) (fI (triK K)))) (fI K)
def errV (K : Nat) (t : Nat → Nat) (i : Nat) : Nat := fS (t i) (fA (leadV K t) (fM (gapV K t) (fI i)))
def grt (a b : Nat) : Nat := if INF < szB a ∨ INF < szB b then NANB else max a b
def greV (K : Nat) (t : Nat → Nat) : Nat → Nat
  | 0 => 0
  | k + 1 => grt (greV K t k) (szB (errV K t k))
def sqV (K : Nat) (t : Nat → Nat) : Nat → Nat
  | 0 => 0
  | k + 1 => fA (sqV K t k) (fM (errV K t k) (errV K t k))
/-- v is the root of a, for both programs -/
def ROOT (a v : Nat) : Prop := Rl v ∧ (∀ d w, val (117, d + 2, 0, [some (.long (lI a)), none, none, none, none, none], [], w) = some (some (.long (lI v)), w)) ∧ ∀ d w, val (246, d + 2, 0, [some (.double (UInt64.ofNat a)), none, none, none, none, none, none, none, none, none, none, none, none, none, none], [], w) = some (some (.double (UInt64.ofNat v)), w)
theorem root_ex {a : Nat} (h : Rl a) : ∃ v, ROOT a v := by
  obtain ⟨v, v1, v2, v3, v4⟩ := a_root h.1 h.2
  exact ⟨v, ⟨v1, v2⟩, v3, v4⟩
section RL
variable {K : Nat} {t u : Nat → Nat}
theorem rl_sSm (ht : ∀ j, t j < 2 ^ 64) : ∀ k, Rl (sSm t k)
  | 0 => rl_0
  | k + 1 => rl_add (rl_sSm ht k).1 (ht k)
theorem rl_sPr (ht : ∀ j, t j < 2 ^ 64) : ∀ k, Rl (sPr t k)
  | 0 => rl_0
  | k + 1 => rl_add (rl_sPr ht k).1 (rl_mul fi_rl.1 (ht k)).1
theorem rl_num (ht : ∀ j, t j < 2 ^ 64) : Rl (fS (fM (fI K) (sPr t K)) (fM (fI (triK K)) (sSm t K))) := rl_sub (rl_mul fi_rl.1 (rl_sPr ht K).1).1 (rl_mul fi_rl.1 (rl_sSm ht K).1).1
theorem rl_den : Rl (fS (fM (fI K) (fI (sQr K))) (fM (fI (triK K)) (fI (triK K)))) := rl_sub (rl_mul fi_rl.1 fi_rl.1).1 (rl_mul fi_rl.1 fi_rl.1).1
theorem rl_gap (ht : ∀ j, t j < 2 ^ 64) : Rl (gapV K t) := rl_div (rl_num ht).1 rl_den.1
theorem rl_lead (ht : ∀ j, t j < 2 ^ 64) : Rl (leadV K t) := rl_div (rl_sub (rl_sSm ht K).1 (rl_mul (rl_gap ht).1 fi_rl.1).1).1 fi_rl.1
theorem rl_on (ht : ∀ j, t j < 2 ^ 64) (i : Nat) : Rl (fA (leadV K t) (fM (gapV K t) (fI i))) := rl_add (rl_lead ht).1 (rl_mul (rl_gap ht).1 fi_rl.1).1
theorem rl_err (ht : ∀ j, t j < 2 ^ 64) (i : Nat) : Rl (errV K t i) := rl_sub (ht i) (rl_on ht i).1
theorem rl_sq (ht : ∀ j, t j < 2 ^ 64) : ∀ k, Rl (sqV K t k)
  | 0 => rl_0
  | k + 1 => rl_add (rl_sq ht k).1 (rl_mul (rl_err ht k).1 (rl_err ht k).1).1
theorem gre_ok : ∀ k, greV K t k < 2 ^ 63 ∧ (greV K t k ≤ INF ∨ greV K t k = NANB)
  | 0 => ⟨by show 0 < 2 ^ 63; decide, Or.inl (Nat.zero_le _)⟩
  | k + 1 => by
    obtain ⟨h1, h2⟩ := @gre_ok k
    have hs := sz_lt (errV K t k)
    show grt _ _ < 2 ^ 63 ∧ (grt _ _ ≤ INF ∨ grt _ _ = NANB)
    unfold grt
    have e1 : szB (greV K t k) = greV K t k := Nat.mod_eq_of_lt h1
    have e2 : szB (szB (errV K t k)) = szB (errV K t k) := Nat.mod_eq_of_lt hs
    rw [e1, e2]
    split
    · exact ⟨by decide, Or.inr rfl⟩
    · refine ⟨by omega, Or.inl (by omega)⟩
theorem sSm_congr : ∀ k, (∀ j, j < k → t j = u j) → sSm t k = sSm u k
  | 0, _ => rfl
  | k + 1, h => by
    show fA _ _ = fA _ _
    rw [sSm_congr k (fun j hj => h j (by omega)), h k (by omega)]
theorem sPr_congr : ∀ k, (∀ j, j < k → t j = u j) → sPr t k = sPr u k
  | 0, _ => rfl
  | k + 1, h => by
    show fA _ _ = fA _ _
    rw [sPr_congr k (fun j hj => h j (by omega)), h k (by omega)]
theorem gap_congr (h : ∀ j, j < K → t j = u j) : gapV K t = gapV K u := by
  unfold gapV
  rw [sSm_congr K h, sPr_congr K h]
theorem lead_congr (h : ∀ j, j < K → t j = u j) : leadV K t = leadV K u := by
  unfold leadV
  rw [sSm_congr K h, gap_congr h]
theorem err_congr (h : ∀ j, j < K → t j = u j) {i : Nat} (hi : i < K) : errV K t i = errV K u i := by
  unfold errV
  rw [gap_congr h, lead_congr h, h i hi]
theorem gre_congr (h : ∀ j, j < K → t j = u j) : ∀ k, k ≤ K → greV K t k = greV K u k
  | 0, _ => rfl
  | k + 1, hk => by
    show grt _ _ = grt _ _
    rw [gre_congr h k (by omega), err_congr h (by omega)]
theorem sq_congr (h : ∀ j, j < K → t j = u j) : ∀ k, k ≤ K → sqV K t k = sqV K u k
  | 0, _ => rfl
  | k + 1, hk => by
    show fA _ _ = fA _ _
    rw [sq_congr h k (by omega), err_congr h (by omega)]
end RL
/-- the line is laid in the class -/
def LD (w : Wd) (K : Nat) (t : Nat → Nat) : Prop := gL w 91 7 = lI (gapV K t) ∧ gL w 91 8 = lI (leadV K t) ∧ gL w 91 9 = lI (greV K t K) ∧ (∀ i, i < K → gL w 95 i = lI (errV K t i)) ∧ ∃ v, gL w 91 10 = lI v ∧ ROOT (fD (sqV K t K) (fI K)) v
theorem LD.congr {w : Wd} {K : Nat} {t u : Nat → Nat} (h : LD w K t) (e : ∀ j, j < K → t j = u j) : LD w K u := by
  obtain ⟨h1, h2, h3, h4, v, h5, h6⟩ := h
  refine ⟨by rw [← gap_congr e]; exact h1, by rw [← lead_congr e]; exact h2, by rw [← gre_congr e K (Nat.le_refl _)]; exact h3, fun i hi => by rw [← err_congr e hi]; exact h4 i hi, v, h5, ?_⟩
  rw [← sq_congr e K (Nat.le_refl _)]
  exact h6
theorem r_greater {a b : Nat} (ha : a < 2 ^ 63) (hb : b < 2 ^ 63) : fn_102 (lI a) (lI b) = lI (grt a b) := by
  have e1 : szB a = a := Nat.mod_eq_of_lt ha
  have e2 : szB b = b := Nat.mod_eq_of_lt hb
  unfold fn_102 grt
  rw [r_isNaN (by omega), r_isNaN (by omega), e1, e2]
  by_cases c1 : INF < a
  · rw [if_pos c1, if_pos (by decide), if_pos (Or.inl c1)]
    rfl
  · rw [if_neg c1, if_neg (fun h => h rfl)]
    by_cases c2 : INF < b
    · rw [if_pos c2, if_neg (by decide), if_pos (Or.inr c2)]
      rfl
    · have c3 : ¬ (INF < a ∨ INF < b) := fun h => h.elim c1 c2
      rw [if_neg c2, if_pos rfl, if_neg c3]
      by_cases c3 : b < a
      · rw [if_pos ((l_lt_iff hb ha).mpr c3), Nat.max_eq_left (by omega)]
      · rw [if_neg (fun h => c3 ((l_lt_iff hb ha).mp h)), Nat.max_eq_right (by omega)]
abbrev FLn : List (Nat × Option Nat) := [(91, some 6), (91, some 7), (91, some 8), (91, some 9), (91, some 10), (95, none)]
theorem LD.fa {S : List (Nat × Option Nat)} {w v : Wd} {K : Nat} {t : Nat → Nat} (h : LD w K t) (hf : FrA S w v) (ht : dj S [(91, some 7), (91, some 8), (91, some 9), (91, some 10), (95, none)] = true) : LD v K t := by
  obtain ⟨h1, h2, h3, h4, x, h5, h6⟩ := h
  exact ⟨(hf.l ht 91 7 (by decide) rfl).trans h1, (hf.l ht 91 8 (by decide) rfl).trans h2, (hf.l ht 91 9 (by decide) rfl).trans h3, fun i hi => (hf.l ht 95 i (by decide) rfl).trans (h4 i hi), x, (hf.l ht 91 10 (by decide) rfl).trans h5, h6⟩
/-- the times in order -/
def tm (T : Nat → Nat) (C : Nat) (j : Nat) : Nat := T ((nrd T C).2 j)
/-- laid, or not laid -/
def LDs (w : Wd) (C : Nat) (T : Nat → Nat) : Prop := gI w 91 6 = 0 ∨ LD w (nrd T C).1 (tm T C)
theorem LDs.keep {w v : Wd} {C C' : Nat} {T T' : Nat → Nat} {S : List (Nat × Option Nat)} (h : LDs w C T) (hk : KP w v T C T' C') (hf : FrA S w v) (ht : dj S [(91, some 7), (91, some 8), (91, some 9), (91, some 10), (95, none)] = true) : LDs v C' T' := by
  rcases hk with hk | ⟨k1, k2, k3⟩
  · exact Or.inl hk
  · rcases h with h | h
    · exact Or.inl (k1.trans h)
    · refine Or.inr ?_
      rw [k2]
      exact (h.fa hf ht).congr (fun j hj => (k3 j hj).symm)
section CLAY
variable {w : Wd} {N C : Nat} {T bl : Nat → Nat}
theorem c_time (d : Nat) (hW : Fix w) (hN : NOK N C T bl) (hc : NC w C T bl) {i : Nat} (hi : i < (nrd T C).1) : val (124, d, 0, [some (.ref 91), some (.int (nI i))], [], w) = some (some (.long (lI (tm T C i))), w) := by
  obtain ⟨h1, h2⟩ := nrd_ok T C
  have hC := hN.1
  obtain ⟨o1, o2⟩ := h2 i hi
  have ic : (nI i).toNatClampNeg = i := nI_clamp (by omega)
  have e : gI w 94 i = nI ((nrd T C).2 i) := hc.2.2.2.2 i hi
  have oc : (nI ((nrd T C).2 i)).toNatClampNeg = (nrd T C).2 i := nI_clamp (by omega)
  refine (tr_124 d w hW _ (inB_nI (by omega) (by omega)) (by rw [ic, e]; exact inB_nI (by omega) (by omega))).trans ?_
  rw [ic, e, oc, hc.2.2.1 _ o1]
  rfl
theorem tm_lt (hN : NOK N C T bl) (j : Nat) : tm T C j < 2 ^ 64 := hN.2.1 _
end CLAY
