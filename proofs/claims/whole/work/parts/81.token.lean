/-! THE READER: its tokens -/
def Rd (w : Wd) (o M T N : Nat) (t : Nat → Int32) : Prop := 151 ≤ o ∧ wK w o = (4, 8) ∧ gR w o 2 = some 65 ∧ gR w o 0 = some M ∧ gI w o 3 = nI T ∧ gI w o 4 = nI N ∧ T ≤ 600 ∧ ∀ i, i < T → gI w 65 i = t i
/-- how the class writes the kind of a token -/
def kdI (k : Tk) : Int32 := if k.1 = 0 then 0 else nI (k.1 + 1)
/-- a number too long -/
abbrev TkL (t : Nat → Int32) (k : Tk) : Prop := k.1 = 4 ∧ 8 < k.2.2.1 - k.2.1 ∧ ∀ i, k.2.1 ≤ i → i < k.2.2.1 → tDg t i = true
def TkC (w : Wd) (o : Nat) (t : Nat → Int32) (k : Tk) : Prop := (gI w o 5 = kdI k ∨ (gI w o 5 = 3 ∧ TkL t k)) ∧ gI w o 6 = nI k.2.1 ∧ gI w o 7 = nI k.2.2.1
theorem kdI_iff {k : Tk} (h : k.1 ≤ 4) {m : Nat} (hm : m ≤ 4) : kdI k = (if m = 0 then 0 else nI (m + 1)) ↔ k.1 = m := by
  have e : ∀ a, a ≤ 4 → ∀ b, b ≤ 4 → ((if a = 0 then (0 : Int32) else nI (a + 1)) = (if b = 0 then 0 else nI (b + 1)) ↔ a = b) := by decide
  exact e k.1 h m hm
theorem TkC.k0 {w : Wd} {o : Nat} {t : Nat → Int32} {k : Tk} (hk : TkC w o t k) (h : k.1 ≤ 4) : gI w o 5 = 0 ↔ k.1 = 0 := by
  rcases hk.1 with e | ⟨e, e2, -⟩
  · rw [e]; exact kdI_iff h (m := 0) (by decide)
  · rw [e, e2]; exact ⟨fun hh => absurd hh (by decide), fun hh => absurd hh (by decide)⟩
theorem TkC.k1 {w : Wd} {o : Nat} {t : Nat → Int32} {k : Tk} (hk : TkC w o t k) (h : k.1 ≤ 4) : gI w o 5 = 2 ↔ k.1 = 1 := by
  rcases hk.1 with e | ⟨e, e2, -⟩
  · rw [e]; exact kdI_iff h (m := 1) (by decide)
  · rw [e, e2]; exact ⟨fun hh => absurd hh (by decide), fun hh => absurd hh (by decide)⟩
theorem TkC.k3 {w : Wd} {o : Nat} {t : Nat → Int32} {k : Tk} (hk : TkC w o t k) (h : k.1 ≤ 4) : gI w o 5 = 4 ↔ k.1 = 3 := by
  rcases hk.1 with e | ⟨e, e2, -⟩
  · rw [e]; exact kdI_iff h (m := 3) (by decide)
  · rw [e, e2]; exact ⟨fun hh => absurd hh (by decide), fun hh => absurd hh (by decide)⟩
theorem TkC.k2 {w : Wd} {o : Nat} {t : Nat → Int32} {k : Tk} (hk : TkC w o t k) (h : k.1 ≤ 4) : gI w o 5 = 3 ↔ k.1 = 2 ∨ (gI w o 5 = 3 ∧ TkL t k) := by
  rcases hk.1 with e | ⟨e, e2⟩
  · rw [e]
    refine ⟨fun hh => Or.inl ((kdI_iff h (m := 2) (by decide)).mp hh), fun hh => ?_⟩
    rcases hh with hh | hh
    · exact (kdI_iff h (m := 2) (by decide)).mpr hh
    · exact hh.1
  · rw [e]
    exact ⟨fun _ => Or.inr ⟨rfl, e2⟩, fun _ => rfl⟩
def TkIn (t : Nat → Int32) (T : Nat) (k : Tk) : Prop := k.1 ≤ 4 ∧ k.2.1 ≤ k.2.2.1 ∧ k.2.2.1 ≤ T ∧ (k.1 ≠ 0 → k.2.1 < k.2.2.1) ∧ (k.1 = 2 → k.2.2.1 - k.2.1 ≤ 8 ∧ k.2.2.2 = dg 10 (dgA t k.2.1) (k.2.2.1 - k.2.1) ∧ ∀ i, k.2.1 ≤ i → i < k.2.2.1 → tDg t i = true) ∧ (k.1 = 0 → k.2.1 = T)
theorem tok_TkIn (t : Nat → Int32) {T p : Nat} (hp : p ≤ T) : TkIn t T (tok t T p) := by
  obtain ⟨h1, h2, h3, h4, h5, h6, h7⟩ := tok_in t hp
  exact ⟨h1, h3, h4, h5, h6, h7⟩
theorem TkIn.nxt {t : Nat → Int32} {T : Nat} {k : Tk} (h : TkIn t T k) : TkIn t T (nxt t T k) := tok_TkIn t h.2.2.1
abbrev FTk (o : Nat) : List (Nat × Option Nat) := [(o, some 5), (o, some 6), (o, some 7), (o, some 8)]
theorem ftk_off {o a j : Nat} (h : a ≠ o ∨ j < 5) : inS (FTk o) a j = false := by
  have e : ∀ x : Nat, x ∈ [5, 6, 7, 8] → plc (o, some x) a j = false := by
    intro x hx
    unfold plc
    cases hb : Nat.beq o a with
    | false => rfl
    | true =>
      have := Nat.eq_of_beq_eq_true hb
      cases hc : Nat.beq x j with
      | false => show (true && Nat.beq x j) = false; rw [hc]; rfl
      | true =>
        have := Nat.eq_of_beq_eq_true hc
        simp only [List.mem_cons, List.mem_nil_iff, or_false] at hx
        omega
  show (plc (o, some 5) a j || (plc (o, some 6) a j || (plc (o, some 7) a j || (plc (o, some 8) a j || false)))) = false
  rw [e 5 (by decide), e 6 (by decide), e 7 (by decide), e 8 (by decide)]
  rfl
theorem ftk_in (o : Nat) : inS (FTk o) o 5 = true ∧ inS (FTk o) o 6 = true ∧ inS (FTk o) o 7 = true ∧ inS (FTk o) o 8 = true := by
  have e : ∀ x, plc (o, some x) o x = true := fun x => by
    show (Nat.beq o o && Nat.beq x x) = true
    rw [Nat.beq_refl, Nat.beq_refl]; rfl
  unfold inS
  simp only [List.any_cons, e, Bool.true_or, Bool.or_true, and_self]
theorem Fr.fixO {S : List (Nat × Option Nat)} {w v : Wd} (h : Fr S w v) (hS : ∀ a k, a < 151 → inS S a k = false) (hW : Fix w) : Fix v := by
  refine ⟨fun a h1 h2 h3 => ?_, fun a k b hr => ?_, fun j => ?_⟩
  · rw [h.k]; exact hW.1 a h1 h2 h3
  · have ha : a < 151 := by
      have := rfx_in hr
      unfold fxA at this
      rw [List.any_eq_true] at this
      obtain ⟨x, hx, hb⟩ := this
      have e := Nat.eq_of_beq_eq_true hb
      simp only [List.mem_cons, List.mem_nil_iff, or_false] at hx
      omega
    rw [h.r a k (hS a k ha)]; exact hW.2.1 a k b hr
  · rw [h.i 1 j (hS 1 j (by omega))]; exact hW.2.2 j
theorem Fr.txO {S : List (Nat × Option Nat)} {w v : Wd} (h : Fr S w v) (hS : ∀ a k, a < 151 → inS S a k = false) (hT : TX w) : TX v := fun k hk => by
  obtain ⟨h1, h2, h3⟩ := hT k hk
  exact ⟨(h.r _ _ (hS _ _ (by omega))).trans h1, (h.i _ _ (hS _ _ (by omega))).trans h2, fun j hj => (h.i _ _ (hS _ _ (by omega))).trans (h3 j hj)⟩
theorem Rd.fr {S : List (Nat × Option Nat)} {w v : Wd} {o M T N : Nat} {t : Nat → Int32} (h : Rd w o M T N t) (hf : Fr S w v) (h1 : ∀ j, j < 5 → j ≠ 1 → inS S o j = false) (h2 : ∀ i, inS S 65 i = false) : Rd v o M T N t := by
  obtain ⟨r1, r2, r3, r4, r5, r6, r7, r8⟩ := h
  exact ⟨r1, by rw [hf.k]; exact r2, (hf.r o 2 (h1 2 (by omega) (by omega))).trans r3, (hf.r o 0 (h1 0 (by omega) (by omega))).trans r4, (hf.i o 3 (h1 3 (by omega) (by omega))).trans r5, (hf.i o 4 (h1 4 (by omega) (by omega))).trans r6, r7, fun i hi => (hf.i 65 i (h2 i)).trans (r8 i hi)⟩
theorem Rd.tk {w v : Wd} {o M T N : Nat} {t : Nat → Int32} (h : Rd w o M T N t) (hf : Fr (FTk o) w v) : Rd v o M T N t :=
  h.fr hf (fun j hj _ => ftk_off (Or.inr hj)) (fun i => ftk_off (Or.inl (by have := h.1; omega)))
theorem ftk_lo {o : Nat} (h : 151 ≤ o) : ∀ a k, a < 151 → inS (FTk o) a k = false := fun a k ha => ftk_off (Or.inl (by omega))
section CTOK
variable {w : Wd} {o M T N : Nat} {t : Nat → Int32}
theorem c_nx0 (d : Nat) (hW : Fix w) (hR : Rd w o M T N t) {p : Nat} (h7 : gI w o 7 = nI p) (hp : p < T) (hb : tBl t p = true) : val (80, d + 2, 0, [some (.ref o), none], [], w) = val (80, d + 2, 0, [some (.ref o), none], [], sI w o 7 (nI (p + 1))) := by
  obtain ⟨r1, r2, r3, r4, r5, r6, r7, r8⟩ := hR
  have e65 := hW.k 65 (by omega) (by omega)
  have ip : inB (nI p) 600 = true := inB_nI (by omega) (by omega)
  have i6 : inB (gI (sI w o 6 (gI w o 7)) o 6) 600 = true := by rw [gI_same, h7]; exact ip
  refine (tr_80 (d + 1) w o 8 r2 65 r3 600 e65 (by intros; exact i6) (by intros; rw [h7]; exact ip) (by intros; exact i6)).trans ?_
  rw [h7, r5, if_neg (n_nle hp (by omega)), nI_clamp (show p < 2 ^ 31 by omega), r8 p hp, if_neg (fun h => h ((k76_1 _).mpr (of_decide_eq_true hb))), n_succ]
/-- whether more bytes belong to it -/
def lgI (x : Int32) : Int32 := if x = 2 then 1 else if ¬ x = 3 then 0 else 1
theorem c_nx1 (d : Nat) (hW : Fix w) (hR : Rd w o M T N t) {p : Nat} (h7 : gI w o 7 = nI p) (hp : p ≤ T) (hb : T ≤ p ∨ tBl t p = false) : val (80, d + 2, 0, [some (.ref o), none], [], w) = (if p < T then val (80, d + 2, 119, [some (.ref o), some (.int (lgI (fn_76 (t p))))], [], sI (sI (sI w o 6 (nI p)) o 5 (fn_76 (t p))) o 7 (nI (p + 1))) else some (none, sI (sI w o 6 (nI p)) o 5 0)) := by
  obtain ⟨r1, r2, r3, r4, r5, r6, r7, r8⟩ := hR
  have e65 := hW.k 65 (by omega) (by omega)
  have a6 : gI (sI w o 6 (nI p)) o 6 = nI p := gI_same _ _ _ _
  have a3 : gI (sI w o 6 (nI p)) o 3 = nI T := (gI_nk _ _ _ (by decide)).trans r5
  by_cases hpT : p < T
  · have ip : inB (nI p) 600 = true := inB_nI (by omega) (by omega)
    have i6 : inB (gI (sI w o 6 (gI w o 7)) o 6) 600 = true := by rw [gI_same, h7]; exact ip
    have hb' : tBl t p = false := hb.elim (fun h => by omega) id
    have hbl : ¬ fn_76 (t p) = 1 := fun h => of_decide_eq_false hb' ((k76_1 _).mp h)
    have at1 : gI (sI w o 6 (nI p)) 65 p = t p := (gI_ne _ _ _ _ (by omega)).trans (r8 p hpT)
    have a5 : ∀ x : Int32, gI (sI (sI w o 6 (nI p)) o 5 x) o 5 = x := fun x => gI_same _ _ _ _
    have a7 : ∀ x : Int32, gI (sI (sI w o 6 (nI p)) o 5 x) o 7 = nI p := fun x => (gI_nk _ _ _ (by decide)).trans ((gI_nk _ _ _ (by decide)).trans h7)
    have a57 : ∀ x y : Int32, gI (sI (sI (sI w o 6 (nI p)) o 5 x) o 7 y) o 5 = x := fun x y => (gI_nk _ _ _ (by decide)).trans (gI_same _ _ _ _)
    refine (tr_80 (d + 1) w o 8 r2 65 r3 600 e65 (by intros; exact i6) (by intros; rw [h7]; exact ip) (by intros; exact i6)).trans ?_
    rw [h7, r5, if_neg (n_nle hpT (by omega)), nI_clamp (show p < 2 ^ 31 by omega), r8 p hpT, if_pos hbl, a6, a3, if_neg (n_nle hpT (by omega)), if_pos hpT, nI_clamp (show p < 2 ^ 31 by omega), at1, a5, a7, a57, n_succ, if_pos (k76_0 _)]
    unfold lgI
    by_cases g1 : fn_76 (t p) = 2
    · rw [if_pos g1, if_pos g1]
    rw [if_neg g1, if_neg g1]
    by_cases g2 : fn_76 (t p) = 3
    · rw [if_neg (fun h => h g2), if_neg (fun h => h g2)]
    · rw [if_pos g2, if_pos g2]
  · have hle : gI w o 3 ≤ gI w o 7 := by rw [r5, h7]; exact n_le (by omega) (by omega)
    have hno : gI (sI w o 6 (gI w o 7)) o 3 ≤ gI (sI w o 6 (gI w o 7)) o 6 := by rw [h7, a6, a3]; exact n_le (by omega) (by omega)
    refine (tr_80 (d + 1) w o 8 r2 65 r3 600 e65 (fun _ h => absurd hno h) (fun h => absurd hle h) (fun h _ _ => absurd hle h)).trans ?_
    rw [if_pos hle, if_pos hno, if_neg hpT, h7, if_neg (fun h => h (gI_same _ _ _ _))]
theorem c_blanks (d : Nat) {w0 : Wd} : ∀ n p (w : Wd), Fix w → Rd w o M T N t → Fr (FTk o) w0 w → gI w o 7 = nI p → p ≤ T → n = skp T (tBl t) p - p → ∃ v, val (80, d + 2, 0, [some (.ref o), none], [], w) = val (80, d + 2, 0, [some (.ref o), none], [], v) ∧ Fix v ∧ Rd v o M T N t ∧ Fr (FTk o) w0 v ∧ gI v o 7 = nI (skp T (tBl t) p) ∧ (T ≤ skp T (tBl t) p ∨ tBl t (skp T (tBl t) p) = false)
  | 0, p, w, hW, hR, hF, h7, hp, hn => by
    obtain ⟨g1, g2⟩ := skp_ge (T := T) (P := tBl t) _ p rfl
    have e : skp T (tBl t) p = p := by omega
    refine ⟨w, rfl, hW, hR, hF, by rw [e]; exact h7, ?_⟩
    by_cases hT : T ≤ p
    · exact Or.inl (by omega)
    · right
      cases hb : tBl t p with
      | false => rw [e]; exact hb
      | true =>
        rw [skp_step (by omega) hb] at e
        have := (skp_ge (T := T) (P := tBl t) _ (p + 1) rfl).1
        omega
  | n + 1, p, w, hW, hR, hF, h7, hp, hn => by
    obtain ⟨g1, g2⟩ := skp_ge (T := T) (P := tBl t) _ p rfl
    have g2 := g2 hp
    have hpT : p < T := by omega
    cases hb : tBl t p with
    | false => rw [skp_stop (Or.inr hb)] at hn; omega
    | true =>
      have f1 : Fr (FTk o) w (sI w o 7 (nI (p + 1))) := (Fr.refl _ w).sI o 7 _ (ftk_in o).2.2.1
      have hR1 := hR.tk f1
      have hW1 := f1.fixO (ftk_lo hR.1) hW
      rw [skp_step hpT hb] at hn ⊢
      obtain ⟨v, e1, e2⟩ := c_blanks d n (p + 1) _ hW1 hR1 (hF.trans f1) (gI_same _ _ _ _) hpT (by omega)
      exact ⟨v, (c_nx0 d hW hR h7 hpT hb).trans e1, e2⟩
theorem c_long (d : Nat) {w0 : Wd} {x : Int32} {P : Nat → Bool} (hP : ∀ i, fn_76 (t i) = x ↔ P i = true) : ∀ n p (w : Wd), Fix w → Rd w o M T N t → Fr [(o, some 7)] w0 w → gI w o 5 = x → gI w o 7 = nI p → p ≤ T → n = T - p → ∃ v, val (80, d + 2, 119, [some (.ref o), some (.int 1)], [], w) = some (none, v) ∧ Fr [(o, some 7)] w0 v ∧ gI v o 7 = nI (skp T P p) := by
  intro n
  induction n with
  | zero =>
    intro p w hW hR hF h5 h7 hp hn
    obtain ⟨r1, r2, r3, r4, r5, r6, r7, r8⟩ := hR
    have hle : gI w o 3 ≤ gI w o 7 := by rw [r5, h7]; exact n_le (by omega) (by omega)
    refine ⟨w, (tr_80_119 (d + 1) w o 1 8 r2 65 r3 600 (hW.k 65 (by omega) (by omega)) (fun _ h => absurd hle h)).trans ((if_neg (by decide)).trans (if_pos hle)), hF, ?_⟩
    rw [skp_stop (Or.inl (by omega))]
    exact h7
  | succ n ih =>
    intro p w hW hR hF h5 h7 hp hn
    have hR0 := hR
    obtain ⟨r1, r2, r3, r4, r5, r6, r7, r8⟩ := hR
    have e0 := tr_80_119 (d + 1) w o 1 8 r2 65 r3 600 (hW.k 65 (by omega) (by omega)) (fun _ _ => by rw [h7]; exact inB_nI (by omega) (by omega))
    rw [if_neg (show ¬ (1 : Int32) = 0 by decide), r5, h7, if_neg (n_nle (show p < T by omega) (by omega)), nI_clamp (show p < 2 ^ 31 by omega), r8 p (by omega), h5, n_succ] at e0
    cases hl : P p with
    | false =>
      refine ⟨w, e0.trans (if_pos (fun h => by rw [(hP p).mp h] at hl; cases hl)), hF, ?_⟩
      rw [skp_stop (Or.inr hl)]
      exact h7
    | true =>
      rw [if_neg (fun h => h ((hP p).mpr hl))] at e0
      have f1 : Fr (FTk o) w (sI w o 7 (nI (p + 1))) := (Fr.refl _ w).sI o 7 _ (ftk_in o).2.2.1
      have i7 : inS [(o, some 7)] o 7 = true := by show (Nat.beq o o && Nat.beq 7 7 || false) = true; rw [Nat.beq_refl]; rfl
      obtain ⟨v, e1, e2, e3⟩ := ih (p + 1) (sI w o 7 (nI (p + 1))) (f1.fixO (ftk_lo r1) hW) (hR0.tk f1) (hF.sI o 7 _ i7) ((gI_nk _ _ _ (by decide)).trans h5) (gI_same _ _ _ _) (by omega) (by omega)
      rw [skp_step (by omega) hl]
      exact ⟨v, e0.trans e1, e2, e3⟩
theorem dig_of {c : Int32} (h : ¬ kDg c = 0) : ∃ C, C < 10 ∧ c = nI (C + 48) := by
  unfold kDg at h
  by_cases h1 : c < 48
  · rw [if_pos h1] at h; exact absurd rfl h
  · rw [if_neg h1] at h
    by_cases h2 : 57 < c
    · rw [if_pos h2] at h; exact absurd rfl h
    · obtain ⟨V, hV, rfl⟩ := i_nat (v := c) (fun hh => h1 (Int32.lt_trans hh (by decide)))
      have h3 : ¬ V < 48 := fun hh => h1 (n_lt (b := 48) hh (by omega))
      have h4 : ¬ 57 < V := fun hh => h2 (n_lt (a := 57) hh hV)
      exact ⟨V - 48, by omega, by rw [show V - 48 + 48 = V by omega]⟩
theorem dgA_of {t : Nat → Int32} {q i : Nat} (h : tDg t (q + i) = true) : t (q + i) = nI (dgA t q i + 48) ∧ dgA t q i < 10 := by
  obtain ⟨C, hC, e⟩ := dig_of (of_decide_eq_true h)
  have e2 : dgA t q i = C := by
    unfold dgA
    rw [e, nI_clamp (by omega)]
    omega
  rw [e2]
  exact ⟨e, hC⟩
theorem dg10_lt {g : Nat → Nat} {m : Nat} (h : ∀ i, i < m → g i < 10) (hm : m ≤ 8) : dg 10 g m < 10 ^ 8 := Nat.lt_of_lt_of_le (dg_lt h) (Nat.pow_le_pow_right (by omega) hm)
theorem c_numberL (d : Nat) (hW : Fix w) (hR : Rd w o M T N t) {q e : Nat} (he : e ≤ T) (h7 : gI w o 7 = nI e) (h8 : e - q ≤ 8) (hd : ∀ i, q ≤ i → i < e → tDg t i = true) : ∀ n i, i + n = e - q → q ≤ e → val (81, d, 31, [some (.ref o), some (.int (nI (dg 10 (dgA t q) i))), some (.int (nI (q + i)))], [], w) = some (some (.int (nI (dg 10 (dgA t q) (e - q)))), w)
  | 0, i, hi, hqe => by
    obtain ⟨r1, r2, r3, r4, r5, r6, r7, r8⟩ := hR
    have hle : gI w o 7 ≤ nI (q + i) := by rw [h7]; exact n_le (by omega) (by omega)
    refine (tr_81_31 d w o _ _ 8 r2 65 r3 600 (hW.k 65 (by omega) (by omega)) (fun h => absurd hle h)).trans ((if_pos hle).trans ?_)
    rw [show i = e - q by omega]
  | n + 1, i, hi, hqe => by
    have hR0 := hR
    obtain ⟨r1, r2, r3, r4, r5, r6, r7, r8⟩ := hR
    have e0 := tr_81_31 d w o (nI (dg 10 (dgA t q) i)) (nI (q + i)) 8 r2 65 r3 600 (hW.k 65 (by omega) (by omega)) (fun _ => inB_nI (by omega) (by omega))
    obtain ⟨d1, d2⟩ := dgA_of (t := t) (q := q) (i := i) (hd _ (by omega) (by omega))
    have hlt := dg10_lt (g := dgA t q) (m := i) (fun j hj => (dgA_of (t := t) (q := q) (i := j) (hd _ (by omega) (by omega))).2) (by omega)
    have ev : nI (dg 10 (dgA t q) i) * 10 + t (q + i) - 48 = nI (dg 10 (dgA t q) (i + 1)) := by
      rw [d1, show (10 : Int32) = nI 10 from rfl, show (48 : Int32) = nI 48 from rfl, n_mul, n_add, n_sub (by omega)]
      congr 1
      show _ = 10 * dg 10 (dgA t q) i + dgA t q i
      omega
    rw [h7, if_neg (n_nle (show q + i < e by omega) (by omega)), nI_clamp (show q + i < 2 ^ 31 by omega), r8 _ (by omega), ev, n_succ] at e0
    exact e0.trans (c_numberL d hW hR0 he h7 h8 hd n (i + 1) (by omega) hqe)
/-- number() -/
theorem c_number (d : Nat) (hW : Fix w) (hR : Rd w o M T N t) {k : Tk} (hk : TkC w o t k) (hin : TkIn t T k) : val (81, d, 0, [some (.ref o), none, none], [], w) = some (some (.int (if k.1 = 2 then nI k.2.2.2 else -1)), w) := by
  obtain ⟨n1, n2, n3, n4, n5, n6⟩ := hin
  have hT := hR.2.2.2.2.2.2.1
  have e0 := tr_81 d w o 8 hR.2.1
  rw [hk.2.1, hk.2.2, n_sub n2] at e0
  by_cases h2 : k.1 = 2
  · obtain ⟨g1, g2, g3⟩ := n5 h2
    rw [if_neg (fun h => h ((hk.k2 n1).mpr (Or.inl h2))), if_pos (show nI (k.2.2.1 - k.2.1) ≤ 8 from n_le (b := 8) g1 (by omega))] at e0
    rw [if_pos h2, g2]
    exact e0.trans (c_numberL d hW hR n3 hk.2.2 g1 g3 _ 0 (Nat.zero_add _) n2)
  · rw [if_neg h2]
    by_cases h3 : gI w o 5 = 3
    · rcases (hk.k2 n1).mp h3 with h | ⟨-, h⟩
      · exact absurd h h2
      · rw [if_neg (fun hh => hh h3), if_neg (show ¬ nI (k.2.2.1 - k.2.1) ≤ 8 from n_nle (b := 8) h.2.1 (by omega))] at e0
        exact e0
    · rw [if_pos h3] at e0
      exact e0
/-- the next token -/
theorem c_next (d : Nat) (hW : Fix w) (hR : Rd w o M T N t) {p : Nat} (h7 : gI w o 7 = nI p) (hp : p ≤ T) : ∃ v, val (80, d + 2, 0, [some (.ref o), none], [], w) = some (none, v) ∧ Fr (FTk o) w v ∧ TkC v o t (tok t T p) := by
  obtain ⟨v, e1, hWv, hRv, hFv, h7v, hbv⟩ := c_blanks d (w0 := w) (skp T (tBl t) p - p) p w hW hR (Fr.refl _ w) h7 hp rfl
  obtain ⟨g1, g2⟩ := skp_ge (T := T) (P := tBl t) _ p rfl
  have g2 := g2 hp
  have e2 := e1.trans (c_nx1 d hWv hRv h7v g2 hbv)
  obtain ⟨i5, i6, i7, i8⟩ := ftk_in o
  unfold tok
  generalize skp T (tBl t) p = q at h7v hbv g1 g2 e2
  have hR0 := hRv
  obtain ⟨r1, r2, r3, r4, r5, r6, r7, r8⟩ := hRv
  by_cases hq : q < T
  · rw [if_pos hq] at e2 ⊢
    have hbq : kBl (t q) = 0 := hbv.elim (fun h => by omega) (fun h => Decidable.not_not.mp (of_decide_eq_false h))
    have f1 : Fr (FTk o) v (sI (sI (sI v o 6 (nI q)) o 5 (fn_76 (t q))) o 7 (nI (q + 1))) := (((Fr.refl _ v).sI o 6 _ i6).sI o 5 _ i5).sI o 7 _ i7
    have b5 : gI (sI (sI (sI v o 6 (nI q)) o 5 (fn_76 (t q))) o 7 (nI (q + 1))) o 5 = fn_76 (t q) := (gI_nk _ _ _ (by decide)).trans (gI_same _ _ _ _)
    have b6 : gI (sI (sI (sI v o 6 (nI q)) o 5 (fn_76 (t q))) o 7 (nI (q + 1))) o 6 = nI q := (gI_nk _ _ _ (by decide)).trans ((gI_nk _ _ _ (by decide)).trans (gI_same _ _ _ _))
    have b7 : gI (sI (sI (sI v o 6 (nI q)) o 5 (fn_76 (t q))) o 7 (nI (q + 1))) o 7 = nI (q + 1) := gI_same _ _ _ _
    have long : ∀ (x : Int32) (P : Nat → Bool), (∀ i, fn_76 (t i) = x ↔ P i = true) → lgI x = 1 → P q = true → ∃ y, val (80, d + 2, 0, [some (.ref o), none], [], w) = some (none, y) ∧ Fr (FTk o) w y ∧ gI y o 5 = x ∧ gI y o 6 = nI q ∧ gI y o 7 = nI (skp T P q) := by
      intro x P hP hx hPq
      have ex := (hP q).mpr hPq
      rw [ex, hx] at e2
      rw [ex] at f1 b5 b6 b7
      obtain ⟨y, c1, c2, c3⟩ := c_long d hP (T - (q + 1)) (q + 1) _ (f1.fixO (ftk_lo r1) hWv) (hR0.tk f1) (Fr.refl _ _) b5 b7 hq rfl
      refine ⟨y, e2.trans c1, hFv.trans (f1.trans (c2.mono (by show sbS _ _ = true; unfold sbS psb; simp [Nat.beq_refl]))), ?_, ?_, ?_⟩
      · exact (c2.i o 5 (by unfold inS plc; simp [Nat.beq])).trans b5
      · exact (c2.i o 6 (by unfold inS plc; simp [Nat.beq])).trans b6
      · rw [skp_step hq hPq]; exact c3
    have short : ∀ (x : Int32), fn_76 (t q) = x → lgI x = 0 → val (80, d + 2, 0, [some (.ref o), none], [], w) = some (none, sI (sI (sI v o 6 (nI q)) o 5 (fn_76 (t q))) o 7 (nI (q + 1))) := by
      intro x ex hx
      rw [ex, hx] at e2
      rw [ex]
      refine e2.trans ((tr_80_119 (d + 1) (sI (sI (sI v o 6 (nI q)) o 5 x) o 7 (nI (q + 1))) o 0 8 r2 65 r3 600 (hWv.k 65 (by omega) (by omega)) (fun h => absurd rfl h)).trans (if_pos rfl))
    by_cases hl : kLt (t q) = 0
    · rw [if_neg (show ¬ tLt t q = true from fun h => of_decide_eq_true h hl)]
      by_cases hd : kDg (t q) = 0
      · rw [if_neg (show ¬ tDg t q = true from fun h => of_decide_eq_true h hd)]
        by_cases hs : kSg (t q) = 0
        · have ex : fn_76 (t q) = 5 := by rw [kindOf_eq, if_pos hbq, if_pos hl, if_pos hd, if_pos hs]
          rw [if_pos hs]
          exact ⟨_, short 5 ex rfl, hFv.trans f1, Or.inl (b5.trans ex), b6, b7⟩
        · have ex : fn_76 (t q) = 4 := by rw [kindOf_eq, if_pos hbq, if_pos hl, if_pos hd, if_neg hs]
          rw [if_neg hs]
          exact ⟨_, short 4 ex rfl, hFv.trans f1, Or.inl (b5.trans ex), b6, b7⟩
      · have hd' : tDg t q = true := decide_eq_true hd
        rw [if_pos hd']
        obtain ⟨y, c1, c2, c3, c4, c5⟩ := long 3 (tDg t) (fun i => (k76_3 _).trans ⟨fun h => decide_eq_true h, fun h => of_decide_eq_true h⟩) rfl hd'
        by_cases h8 : skp T (tDg t) q - q ≤ 8
        · rw [if_pos h8]
          exact ⟨y, c1, c2, Or.inl c3, c4, c5⟩
        · rw [if_neg h8]
          exact ⟨y, c1, c2, Or.inr ⟨c3, rfl, Nat.lt_of_not_le h8, fun i i1 i2 => skp_all _ q rfl i i1 i2⟩, c4, c5⟩
    · have hl' : tLt t q = true := decide_eq_true hl
      rw [if_pos hl']
      obtain ⟨y, c1, c2, c3, c4, c5⟩ := long 2 (tLt t) (fun i => (k76_2 _).trans ⟨fun h => decide_eq_true h, fun h => of_decide_eq_true h⟩) rfl hl'
      exact ⟨y, c1, c2, Or.inl c3, c4, c5⟩
  · rw [if_neg hq] at e2 ⊢
    refine ⟨_, e2, (hFv.sI o 6 _ i6).sI o 5 _ i5, Or.inl (gI_same _ _ _ _), ?_, ?_⟩
    · exact (gI_nk _ _ _ (by decide)).trans (gI_same _ _ _ _)
    · exact (gI_nk _ _ _ (by decide)).trans ((gI_nk _ _ _ (by decide)).trans h7v)
end CTOK
