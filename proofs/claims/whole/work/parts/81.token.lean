/-! THE READER: its tokens -/
def Rd (w : Wd) (o M T N : Nat) (t : Nat → Int32) : Prop := 151 ≤ o ∧ wK w o = (4, 9) ∧ gR w o 2 = some 65 ∧ gR w o 0 = some M ∧ gI w o 3 = nI T ∧ gI w o 4 = nI N ∧ T ≤ 600 ∧ ∀ i, i < T → gI w 65 i = t i
def TkC (w : Wd) (o : Nat) (t : Nat → Int32) (k : Tk) : Prop := gI w o 5 = nI k.1 ∧ gI w o 6 = nI k.2.1 ∧ gI w o 7 = nI k.2.2.1 ∧ (k.1 = 2 → gI w o 8 = nI k.2.2.2) ∧ (k.1 = 3 → gI w o 8 = t k.2.1)
def TkIn (t : Nat → Int32) (T : Nat) (k : Tk) : Prop := k.1 ≤ 4 ∧ k.2.1 ≤ k.2.2.1 ∧ k.2.2.1 ≤ T ∧ (k.1 ≠ 0 → k.2.1 < k.2.2.1) ∧ (k.1 = 2 → k.2.2.1 - k.2.1 ≤ 8 ∧ k.2.2.2 = dg 10 (dgA t k.2.1) (k.2.2.1 - k.2.1) ∧ ∀ i, k.2.1 ≤ i → i < k.2.2.1 → tDg t i = true) ∧ (k.1 = 0 → k.2.1 = T)
theorem tok_TkIn (t : Nat → Int32) {T p : Nat} (hp : p ≤ T) : TkIn t T (tok t T p) := by
  obtain ⟨h1, h2, h3, h4, h5, h6, h7⟩ := tok_in t hp
  exact ⟨h1, h3, h4, h5, h6, h7⟩
theorem TkIn.nxt {t : Nat → Int32} {T : Nat} {k : Tk} (h : TkIn t T k) : TkIn t T (nxt t T k) := tok_TkIn t h.2.2.1
abbrev FTk (o : Nat) : List (Nat × Option Nat) := [(o, some 5), (o, some 6), (o, some 7), (o, some 8)]
theorem ftk_off {o a j : Nat} (h : a ≠ o ∨ j < 5) : inS (FTk o) a j = false := by
  have e : ∀ x : Nat, x ∈ [5, 6, 7, 8] → plc (o, some x) a j = false := by
    intro x hx
    unfold plc
    cases hb : Nat.beq o a with
    | false => rfl
    | true =>
      have := Nat.eq_of_beq_eq_true hb
      cases hc : Nat.beq x j with
      | false => show (true && Nat.beq x j) = false; rw [hc]; rfl
      | true =>
        have := Nat.eq_of_beq_eq_true hc
        simp only [List.mem_cons, List.mem_nil_iff, or_false] at hx
        omega
  show (plc (o, some 5) a j || (plc (o, some 6) a j || (plc (o, some 7) a j || (plc (o, some 8) a j || false)))) = false
  rw [e 5 (by decide), e 6 (by decide), e 7 (by decide), e 8 (by decide)]
  rfl
theorem ftk_in (o : Nat) : inS (FTk o) o 5 = true ∧ inS (FTk o) o 6 = true ∧ inS (FTk o) o 7 = true ∧ inS (FTk o) o 8 = true := by
  have e : ∀ x, plc (o, some x) o x = true := fun x => by
    show (Nat.beq o o && Nat.beq x x) = true
    rw [Nat.beq_refl, Nat.beq_refl]; rfl
  unfold inS
  simp only [List.any_cons, e, Bool.true_or, Bool.or_true, and_self]
theorem Fr.fixO {S : List (Nat × Option Nat)} {w v : Wd} (h : Fr S w v) (hS : ∀ a k, a < 151 → inS S a k = false) (hW : Fix w) : Fix v := by
  refine ⟨fun a h1 h2 h3 => ?_, fun a k b hr => ?_, fun j => ?_⟩
  · rw [h.k]; exact hW.1 a h1 h2 h3
  · have ha : a < 151 := by
      have := rfx_in hr
      unfold fxA at this
      rw [List.any_eq_true] at this
      obtain ⟨x, hx, hb⟩ := this
      have e := Nat.eq_of_beq_eq_true hb
      simp only [List.mem_cons, List.mem_nil_iff, or_false] at hx
      omega
    rw [h.r a k (hS a k ha)]; exact hW.2.1 a k b hr
  · rw [h.i 1 j (hS 1 j (by omega))]; exact hW.2.2 j
theorem Fr.txO {S : List (Nat × Option Nat)} {w v : Wd} (h : Fr S w v) (hS : ∀ a k, a < 151 → inS S a k = false) (hT : TX w) : TX v := fun k hk => by
  obtain ⟨h1, h2, h3⟩ := hT k hk
  exact ⟨(h.r _ _ (hS _ _ (by omega))).trans h1, (h.i _ _ (hS _ _ (by omega))).trans h2, fun j hj => (h.i _ _ (hS _ _ (by omega))).trans (h3 j hj)⟩
theorem Rd.fr {S : List (Nat × Option Nat)} {w v : Wd} {o M T N : Nat} {t : Nat → Int32} (h : Rd w o M T N t) (hf : Fr S w v) (h1 : ∀ j, j < 5 → j ≠ 1 → inS S o j = false) (h2 : ∀ i, inS S 65 i = false) : Rd v o M T N t := by
  obtain ⟨r1, r2, r3, r4, r5, r6, r7, r8⟩ := h
  exact ⟨r1, by rw [hf.k]; exact r2, (hf.r o 2 (h1 2 (by omega) (by omega))).trans r3, (hf.r o 0 (h1 0 (by omega) (by omega))).trans r4, (hf.i o 3 (h1 3 (by omega) (by omega))).trans r5, (hf.i o 4 (h1 4 (by omega) (by omega))).trans r6, r7, fun i hi => (hf.i 65 i (h2 i)).trans (r8 i hi)⟩
theorem Rd.tk {w v : Wd} {o M T N : Nat} {t : Nat → Int32} (h : Rd w o M T N t) (hf : Fr (FTk o) w v) : Rd v o M T N t :=
  h.fr hf (fun j hj _ => ftk_off (Or.inr hj)) (fun i => ftk_off (Or.inl (by have := h.1; omega)))
theorem ftk_lo {o : Nat} (h : 151 ≤ o) : ∀ a k, a < 151 → inS (FTk o) a k = false := fun a k ha => ftk_off (Or.inl (by omega))
section CTOK
variable {w : Wd} {o M T N : Nat} {t : Nat → Int32}
theorem c_nx0 (d : Nat) (hW : Fix w) (hR : Rd w o M T N t) {p : Nat} (h7 : gI w o 7 = nI p) (hp : p < T) (hb : tBl t p = true) : val (80, d + 2, 0, [some (.ref o)], [], w) = val (80, d + 2, 0, [some (.ref o)], [], sI w o 7 (nI (p + 1))) := by
  obtain ⟨r1, r2, r3, r4, r5, r6, r7, r8⟩ := hR
  have e65 := hW.k 65 (by omega) (by omega)
  have ip : inB (nI p) 600 = true := inB_nI (by omega) (by omega)
  have i6 : inB (gI (sI w o 6 (gI w o 7)) o 6) 600 = true := by rw [gI_same, h7]; exact ip
  refine (tr_80 d w o 9 r2 65 r3 600 e65 (by intros; exact i6) (by intros; exact i6) (by intros; exact i6) (by intros; rw [h7]; exact ip) (by intros; exact i6) (by intros; exact i6) (by intros; exact i6)).trans ?_
  rw [h7, r5, if_neg (n_nle hp (by omega)), nI_clamp (show p < 2 ^ 31 by omega), r8 p hp, if_neg (of_decide_eq_true hb), n_succ]
theorem c_nx1 (d : Nat) (hW : Fix w) (hR : Rd w o M T N t) {p : Nat} (h7 : gI w o 7 = nI p) (hp : p ≤ T) (hb : T ≤ p ∨ tBl t p = false) : val (80, d + 2, 0, [some (.ref o)], [], w) = (if p < T then (if fn_77 (t p) = 0 then (if fn_78 (t p) = 0 then (if fn_79 (t p) = 0 then some (none, sI (sI (sI (sI w o 6 (nI p)) o 8 (t p)) o 5 4) o 7 (nI (p + 1))) else some (none, sI (sI (sI (sI w o 6 (nI p)) o 8 (t p)) o 5 3) o 7 (nI (p + 1)))) else val (80, d + 2, 141, [some (.ref o)], [.ref o], sI w o 6 (nI p))) else val (80, d + 2, 86, [some (.ref o)], [], sI (sI w o 6 (nI p)) o 5 1)) else some (none, sI (sI w o 6 (nI p)) o 5 0)) := by
  obtain ⟨r1, r2, r3, r4, r5, r6, r7, r8⟩ := hR
  have e65 := hW.k 65 (by omega) (by omega)
  have a6 : gI (sI w o 6 (nI p)) o 6 = nI p := gI_same _ _ _ _
  have a3 : gI (sI w o 6 (nI p)) o 3 = nI T := (gI_nk _ _ _ (by decide)).trans r5
  by_cases hpT : p < T
  · have ip : inB (nI p) 600 = true := inB_nI (by omega) (by omega)
    have i6 : inB (gI (sI w o 6 (gI w o 7)) o 6) 600 = true := by rw [gI_same, h7]; exact ip
    have hb' : tBl t p = false := hb.elim (fun h => by omega) id
    have hbl : fn_76 (t p) = 0 := Decidable.not_not.mp (of_decide_eq_false hb')
    have at1 : gI (sI w o 6 (nI p)) 65 p = t p := (gI_ne _ _ _ _ (by omega)).trans (r8 p hpT)
    have a8 : gI (sI (sI w o 6 (nI p)) o 8 (t p)) o 8 = t p := gI_same _ _ _ _
    have a7 : ∀ x : Int32, gI (sI (sI (sI w o 6 (nI p)) o 8 (t p)) o 5 x) o 7 = nI p := fun x => (gI_nk _ _ _ (by decide)).trans ((gI_nk _ _ _ (by decide)).trans ((gI_nk _ _ _ (by decide)).trans h7))
    refine (tr_80 d w o 9 r2 65 r3 600 e65 (by intros; exact i6) (by intros; exact i6) (by intros; exact i6) (by intros; rw [h7]; exact ip) (by intros; exact i6) (by intros; exact i6) (by intros; exact i6)).trans ?_
    rw [h7, r5, if_neg (n_nle hpT (by omega)), nI_clamp (show p < 2 ^ 31 by omega), r8 p hpT, if_pos hbl, a6, a3, if_pos (n_lt hpT (by omega)), if_pos hpT, nI_clamp (show p < 2 ^ 31 by omega), at1, a8, a7, a7, n_succ]
  · have hle : gI w o 3 ≤ gI w o 7 := by rw [r5, h7]; exact n_le (by omega) (by omega)
    have hno : ¬ gI (sI w o 6 (gI w o 7)) o 6 < gI (sI w o 6 (gI w o 7)) o 3 := by rw [h7, a6, a3]; exact n_nlt (by omega) (by omega)
    refine (tr_80 d w o 9 r2 65 r3 600 e65 (fun _ h => absurd h hno) (fun _ h _ => absurd h hno) (fun _ h _ _ => absurd h hno) (fun h => absurd hle h) (fun h _ _ => absurd hle h) (fun h _ _ _ => absurd hle h) (fun h _ _ _ _ => absurd hle h)).trans ?_
    rw [if_pos hle, if_neg hno, if_neg hpT, h7]
theorem c_blanks (d : Nat) {w0 : Wd} : ∀ n p (w : Wd), Fix w → Rd w o M T N t → Fr (FTk o) w0 w → gI w o 7 = nI p → p ≤ T → n = skp T (tBl t) p - p → ∃ v, val (80, d + 2, 0, [some (.ref o)], [], w) = val (80, d + 2, 0, [some (.ref o)], [], v) ∧ Fix v ∧ Rd v o M T N t ∧ Fr (FTk o) w0 v ∧ gI v o 7 = nI (skp T (tBl t) p) ∧ (T ≤ skp T (tBl t) p ∨ tBl t (skp T (tBl t) p) = false)
  | 0, p, w, hW, hR, hF, h7, hp, hn => by
    obtain ⟨g1, g2⟩ := skp_ge (T := T) (P := tBl t) _ p rfl
    have e : skp T (tBl t) p = p := by omega
    refine ⟨w, rfl, hW, hR, hF, by rw [e]; exact h7, ?_⟩
    by_cases hT : T ≤ p
    · exact Or.inl (by omega)
    · right
      cases hb : tBl t p with
      | false => rw [e]; exact hb
      | true =>
        rw [skp_step (by omega) hb] at e
        have := (skp_ge (T := T) (P := tBl t) _ (p + 1) rfl).1
        omega
  | n + 1, p, w, hW, hR, hF, h7, hp, hn => by
    obtain ⟨g1, g2⟩ := skp_ge (T := T) (P := tBl t) _ p rfl
    have g2 := g2 hp
    have hpT : p < T := by omega
    cases hb : tBl t p with
    | false => rw [skp_stop (Or.inr hb)] at hn; omega
    | true =>
      have f1 : Fr (FTk o) w (sI w o 7 (nI (p + 1))) := (Fr.refl _ w).sI o 7 _ (ftk_in o).2.2.1
      have hR1 := hR.tk f1
      have hW1 := f1.fixO (ftk_lo hR.1) hW
      rw [skp_step hpT hb] at hn ⊢
      obtain ⟨v, e1, e2⟩ := c_blanks d n (p + 1) _ hW1 hR1 (hF.trans f1) (gI_same _ _ _ _) hpT (by omega)
      exact ⟨v, (c_nx0 d hW hR h7 hpT hb).trans e1, e2⟩
theorem c_letters (d : Nat) {w0 : Wd} : ∀ n p (w : Wd), Fix w → Rd w o M T N t → Fr [(o, some 7)] w0 w → gI w o 7 = nI p → p ≤ T → n = T - p → ∃ v, val (80, d + 2, 86, [some (.ref o)], [], w) = some (none, v) ∧ Fr [(o, some 7)] w0 v ∧ gI v o 7 = nI (skp T (tLt t) p) := by
  intro n
  induction n with
  | zero =>
    intro p w hW hR hF h7 hp hn
    obtain ⟨r1, r2, r3, r4, r5, r6, r7, r8⟩ := hR
    have hle : gI w o 3 ≤ gI w o 7 := by rw [r5, h7]; exact n_le (by omega) (by omega)
    refine ⟨w, (tr_80_86 d w o 9 r2 65 r3 600 (hW.k 65 (by omega) (by omega)) (fun h => absurd hle h)).trans (if_pos hle), hF, ?_⟩
    rw [skp_stop (Or.inl (by omega))]
    exact h7
  | succ n ih =>
    intro p w hW hR hF h7 hp hn
    have hR0 := hR
    obtain ⟨r1, r2, r3, r4, r5, r6, r7, r8⟩ := hR
    have e0 := tr_80_86 d w o 9 r2 65 r3 600 (hW.k 65 (by omega) (by omega)) (fun _ => by rw [h7]; exact inB_nI (by omega) (by omega))
    rw [r5, h7, if_neg (n_nle (show p < T by omega) (by omega)), nI_clamp (show p < 2 ^ 31 by omega), r8 p (by omega), n_succ] at e0
    cases hl : tLt t p with
    | false =>
      refine ⟨w, e0.trans (if_pos (Decidable.not_not.mp (of_decide_eq_false hl))), hF, ?_⟩
      rw [skp_stop (Or.inr hl)]
      exact h7
    | true =>
      rw [if_neg (of_decide_eq_true hl)] at e0
      have f1 : Fr (FTk o) w (sI w o 7 (nI (p + 1))) := (Fr.refl _ w).sI o 7 _ (ftk_in o).2.2.1
      have i7 : inS [(o, some 7)] o 7 = true := by show (Nat.beq o o && Nat.beq 7 7 || false) = true; rw [Nat.beq_refl]; rfl
      obtain ⟨v, e1, e2, e3⟩ := ih (p + 1) (sI w o 7 (nI (p + 1))) (f1.fixO (ftk_lo r1) hW) (hR0.tk f1) (hF.sI o 7 _ i7) (gI_same _ _ _ _) (by omega) (by omega)
      rw [skp_step (by omega) hl]
      exact ⟨v, e0.trans e1, e2, e3⟩
theorem dig_of {c : Int32} (h : ¬ fn_78 c = 0) : ∃ C, C < 10 ∧ c = nI (C + 48) := by
  unfold fn_78 at h
  by_cases h1 : c < 48
  · rw [if_pos h1] at h; exact absurd rfl h
  · rw [if_neg h1] at h
    by_cases h2 : 57 < c
    · rw [if_pos h2] at h; exact absurd rfl h
    · obtain ⟨V, hV, rfl⟩ := i_nat (v := c) (fun hh => h1 (Int32.lt_trans hh (by decide)))
      have h3 : ¬ V < 48 := fun hh => h1 (n_lt (b := 48) hh (by omega))
      have h4 : ¬ 57 < V := fun hh => h2 (n_lt (a := 57) hh hV)
      exact ⟨V - 48, by omega, by rw [show V - 48 + 48 = V by omega]⟩
theorem dgA_of {t : Nat → Int32} {q i : Nat} (h : tDg t (q + i) = true) : t (q + i) = nI (dgA t q i + 48) ∧ dgA t q i < 10 := by
  obtain ⟨C, hC, e⟩ := dig_of (of_decide_eq_true h)
  have e2 : dgA t q i = C := by
    unfold dgA
    rw [e, nI_clamp (by omega)]
    omega
  rw [e2]
  exact ⟨e, hC⟩
theorem dg10_lt {g : Nat → Nat} {m : Nat} (h : ∀ i, i < m → g i < 10) (hm : m ≤ 8) : dg 10 g m < 10 ^ 8 := Nat.lt_of_lt_of_le (dg_lt h) (Nat.pow_le_pow_right (by omega) hm)
theorem c_number (d : Nat) {w0 : Wd} {q : Nat} : ∀ n p (w : Wd), Fix w → Rd w o M T N t → Fr [(o, some 5), (o, some 7), (o, some 8)] w0 w → gI w o 6 = nI q → gI w o 7 = nI p → q ≤ p → p ≤ T → n = T - p → (∀ i, q ≤ i → i < p → tDg t i = true) → gI w o 8 = nI (dg 10 (dgA t q) (min (p - q) 8)) → ∃ v, val (81, d + 1, 5, [some (.ref o)], [], w) = some (none, v) ∧ Fr [(o, some 5), (o, some 7), (o, some 8)] w0 v ∧ gI v o 7 = nI (skp T (tDg t) p) ∧ gI v o 8 = nI (dg 10 (dgA t q) (min (skp T (tDg t) p - q) 8)) ∧ gI v o 5 = (if skp T (tDg t) p - q ≤ 8 then 2 else 4) := by
  have i5 : inS [(o, some 5), (o, some 7), (o, some 8)] o 5 = true := by unfold inS plc; simp [Nat.beq_refl]
  have i7 : inS [(o, some 5), (o, some 7), (o, some 8)] o 7 = true := by unfold inS plc; simp [Nat.beq_refl]
  have i8 : inS [(o, some 5), (o, some 7), (o, some 8)] o 8 = true := by unfold inS plc; simp [Nat.beq_refl]
  intro n
  induction n with
  | zero =>
    intro p w hW hR hF h6 h7 hqp hp hn hd h8
    obtain ⟨r1, r2, r3, r4, r5, r6, r7, r8⟩ := hR
    have hle : gI w o 3 ≤ gI w o 7 := by rw [r5, h7]; exact n_le (by omega) (by omega)
    have e0 := tr_81_5 d w o 9 r2 65 r3 600 (hW.k 65 (by omega) (by omega)) (fun h => absurd hle h) (fun h => absurd hle h)
    rw [if_pos hle, h6, h7, n_sub hqp] at e0
    rw [skp_stop (Or.inl (show T ≤ p by omega))]
    by_cases h8' : p - q ≤ 8
    · rw [if_pos (show nI (p - q) ≤ 8 from n_le (b := 8) h8' (by omega))] at e0
      exact ⟨_, e0, hF.sI o 5 _ i5, (gI_nk _ _ _ (by decide)).trans h7, (gI_nk _ _ _ (by decide)).trans h8, by rw [gI_same, if_pos h8']⟩
    · rw [if_neg (show ¬ nI (p - q) ≤ 8 from n_nle (b := 8) (by omega) (by omega))] at e0
      exact ⟨_, e0, hF.sI o 5 _ i5, (gI_nk _ _ _ (by decide)).trans h7, (gI_nk _ _ _ (by decide)).trans h8, by rw [gI_same, if_neg h8']⟩
  | succ n ih =>
    intro p w hW hR hF h6 h7 hqp hp hn hd h8
    have hR0 := hR
    obtain ⟨r1, r2, r3, r4, r5, r6, r7, r8⟩ := hR
    have ip : inB (gI w o 7) 600 = true := by rw [h7]; exact inB_nI (by omega) (by omega)
    have e0 := tr_81_5 d w o 9 r2 65 r3 600 (hW.k 65 (by omega) (by omega)) (fun _ => ip) (by intros; exact ip)
    rw [r5, h6, h7, if_neg (n_nle (show p < T by omega) (by omega)), nI_clamp (show p < 2 ^ 31 by omega), r8 p (by omega), n_sub hqp, n_succ] at e0
    cases hl : tDg t p with
    | false =>
      rw [skp_stop (Or.inr hl)]
      rw [if_pos (Decidable.not_not.mp (of_decide_eq_false hl))] at e0
      by_cases h8' : p - q ≤ 8
      · rw [if_pos (show nI (p - q) ≤ 8 from n_le (b := 8) h8' (by omega))] at e0
        exact ⟨_, e0, hF.sI o 5 _ i5, (gI_nk _ _ _ (by decide)).trans h7, (gI_nk _ _ _ (by decide)).trans h8, by rw [gI_same, if_pos h8']⟩
      · rw [if_neg (show ¬ nI (p - q) ≤ 8 from n_nle (b := 8) (by omega) (by omega))] at e0
        exact ⟨_, e0, hF.sI o 5 _ i5, (gI_nk _ _ _ (by decide)).trans h7, (gI_nk _ _ _ (by decide)).trans h8, by rw [gI_same, if_neg h8']⟩
    | true =>
      have hdp : ∀ i, q ≤ i → i < p + 1 → tDg t i = true := fun i h1 h2 => by
        by_cases e : i = p
        · rw [e]; exact hl
        · exact hd i h1 (by omega)
      rw [if_neg (of_decide_eq_true hl)] at e0
      rw [skp_step (by omega) hl]
      have f1 : Fr (FTk o) w (sI w o 7 (nI (p + 1))) := (Fr.refl _ w).sI o 7 _ (ftk_in o).2.2.1
      by_cases h8' : 8 ≤ p - q
      · rw [if_pos (show 8 ≤ nI (p - q) from n_le (a := 8) h8' (by omega))] at e0
        obtain ⟨v, e1, e2⟩ := ih (p + 1) (sI w o 7 (nI (p + 1))) (f1.fixO (ftk_lo r1) hW) (hR0.tk f1) (hF.sI o 7 _ i7) ((gI_nk _ _ _ (by decide)).trans h6) (gI_same _ _ _ _) (by omega) (by omega) (by omega) hdp (by
          rw [gI_nk _ _ _ (by decide), h8, show min (p - q) 8 = 8 by omega, show min (p + 1 - q) 8 = 8 by omega])
        exact ⟨v, e0.trans e1, e2⟩
      · obtain ⟨d1, d2⟩ := dgA_of (t := t) (q := q) (i := p - q) (by rw [show q + (p - q) = p by omega]; exact hl)
        rw [show q + (p - q) = p by omega] at d1
        have hlt := dg10_lt (g := dgA t q) (m := p - q) (fun i hi => (dgA_of (t := t) (q := q) (i := i) (hd _ (by omega) (by omega))).2) (by omega)
        have ev : nI (dg 10 (dgA t q) (p - q)) * 10 + t p - 48 = nI (dg 10 (dgA t q) (p - q + 1)) := by
          rw [d1, show (10 : Int32) = nI 10 from rfl, show (48 : Int32) = nI 48 from rfl, n_mul, n_add, n_sub (by omega)]
          congr 1
          show _ = 10 * dg 10 (dgA t q) (p - q) + dgA t q (p - q)
          omega
        rw [if_neg (show ¬ 8 ≤ nI (p - q) from n_nle (a := 8) (by omega) (by omega)), h8, show min (p - q) 8 = p - q by omega, ev, gI_nk _ _ _ (by decide), h7, n_succ] at e0
        have f2 : Fr (FTk o) w (sI (sI w o 8 (nI (dg 10 (dgA t q) (p - q + 1)))) o 7 (nI (p + 1))) := ((Fr.refl _ w).sI o 8 _ (ftk_in o).2.2.2).sI o 7 _ (ftk_in o).2.2.1
        obtain ⟨v, e1, e2⟩ := ih (p + 1) _ (f2.fixO (ftk_lo r1) hW) (hR0.tk f2) ((hF.sI o 8 _ i8).sI o 7 _ i7) ((gI_nk _ _ _ (by decide)).trans ((gI_nk _ _ _ (by decide)).trans h6)) (gI_same _ _ _ _) (by omega) (by omega) (by omega) hdp (by
          rw [gI_nk _ _ _ (by decide), gI_same, show min (p + 1 - q) 8 = p - q + 1 by omega])
        exact ⟨v, e0.trans e1, e2⟩
/-- the next token -/
theorem c_next (d : Nat) (hW : Fix w) (hR : Rd w o M T N t) {p : Nat} (h7 : gI w o 7 = nI p) (hp : p ≤ T) : ∃ v, val (80, d + 2, 0, [some (.ref o)], [], w) = some (none, v) ∧ Fr (FTk o) w v ∧ TkC v o t (tok t T p) := by
  obtain ⟨v, e1, hWv, hRv, hFv, h7v, hbv⟩ := c_blanks d (w0 := w) (skp T (tBl t) p - p) p w hW hR (Fr.refl _ w) h7 hp rfl
  obtain ⟨g1, g2⟩ := skp_ge (T := T) (P := tBl t) _ p rfl
  have g2 := g2 hp
  have e2 := e1.trans (c_nx1 d hWv hRv h7v g2 hbv)
  obtain ⟨i5, i6, i7, i8⟩ := ftk_in o
  unfold tok
  generalize skp T (tBl t) p = q at h7v hbv g1 g2 e2
  have hR0 := hRv
  obtain ⟨r1, r2, r3, r4, r5, r6, r7, r8⟩ := hRv
  by_cases hq : q < T
  · rw [if_pos hq] at e2 ⊢
    by_cases hl : fn_77 (t q) = 0
    · rw [if_pos hl] at e2
      rw [if_neg (show ¬ tLt t q = true from fun h => of_decide_eq_true h hl)]
      by_cases hd : fn_78 (t q) = 0
      · rw [if_pos hd] at e2
        rw [if_neg (show ¬ tDg t q = true from fun h => of_decide_eq_true h hd)]
        by_cases hs : fn_79 (t q) = 0
        · rw [if_pos hs] at e2 ⊢
          refine ⟨_, e2, (((hFv.sI o 6 _ i6).sI o 8 _ i8).sI o 5 _ i5).sI o 7 _ i7, ?_, ?_, gI_same _ _ _ _, fun h => absurd h (Nat.ne_of_beq_eq_false rfl), fun h => absurd h (Nat.ne_of_beq_eq_false rfl)⟩
          · rw [gI_nk _ _ _ (by decide), gI_same]; rfl
          · rw [gI_nk _ _ _ (by decide), gI_nk _ _ _ (by decide), gI_nk _ _ _ (by decide), gI_same]
        · rw [if_neg hs] at e2 ⊢
          refine ⟨_, e2, (((hFv.sI o 6 _ i6).sI o 8 _ i8).sI o 5 _ i5).sI o 7 _ i7, ?_, ?_, gI_same _ _ _ _, fun h => absurd h (Nat.ne_of_beq_eq_false rfl), fun _ => ?_⟩
          · rw [gI_nk _ _ _ (by decide), gI_same]; rfl
          · rw [gI_nk _ _ _ (by decide), gI_nk _ _ _ (by decide), gI_nk _ _ _ (by decide), gI_same]
          · rw [gI_nk _ _ _ (by decide), gI_nk _ _ _ (by decide), gI_same]
      · rw [if_neg hd] at e2
        have hd' : tDg t q = true := decide_eq_true hd
        rw [if_pos hd']
        have f1 : Fr (FTk o) v (sI (sI v o 6 (nI q)) o 8 0) := ((Fr.refl _ v).sI o 6 _ i6).sI o 8 _ i8
        have hW1 := f1.fixO (ftk_lo r1) hWv
        obtain ⟨x, c1, c2, c3, c4, c5⟩ := c_number d (q := q) (T - q) q (sI (sI v o 6 (nI q)) o 8 0) hW1 (hR0.tk f1) (Fr.refl _ _) ((gI_nk _ _ _ (by decide)).trans (gI_same _ _ _ _)) ((gI_nk _ _ _ (by decide)).trans ((gI_nk _ _ _ (by decide)).trans h7v)) (Nat.le_refl q) (by omega) rfl (fun i h1 h2 => by omega) (by rw [gI_same, Nat.sub_self]; rfl)
        have e81 : val (81, d + 1, 0, [some (.ref o)], [], sI v o 6 (nI q)) = some (none, x) := (tr_81 d (sI v o 6 (nI q)) o 9 r2).trans c1
        have fx : Fr (FTk o) w x := hFv.trans (f1.trans (c2.mono (by show sbS _ _ = true; unfold sbS psb; simp [Nat.beq_refl])))
        have x6 : gI x o 6 = nI q := (c2.i o 6 (by unfold inS plc; simp [Nat.beq])).trans ((gI_nk _ _ _ (by decide)).trans (gI_same _ _ _ _))
        have e3 : val (80, d + 2, 0, [some (.ref o)], [], w) = some (none, x) := by
          refine e2.trans ?_
          refine (val_call (pc2 := 144) rfl rfl rfl rfl (rcvO (w := sI v o 6 (nI q)) r2 (by decide)) (Nat.le_of_ble_eq_true rfl) (Nat.le_of_ble_eq_true rfl) rfl e81 rfl).trans ?_
          exact tr_80_144 d x o
        by_cases h8 : skp T (tDg t) q - q ≤ 8
        · rw [if_pos h8] at c5 ⊢
          exact ⟨x, e3, fx, c5, x6, c3, fun _ => by rw [c4, show min (skp T (tDg t) q - q) 8 = skp T (tDg t) q - q by omega], fun h => absurd h (Nat.ne_of_beq_eq_false rfl)⟩
        · rw [if_neg h8] at c5 ⊢
          exact ⟨x, e3, fx, c5, x6, c3, fun h => absurd h (Nat.ne_of_beq_eq_false rfl), fun h => absurd h (Nat.ne_of_beq_eq_false rfl)⟩
    · rw [if_neg hl] at e2
      have hl' : tLt t q = true := decide_eq_true hl
      rw [if_pos hl']
      have f1 : Fr (FTk o) v (sI (sI v o 6 (nI q)) o 5 1) := ((Fr.refl _ v).sI o 6 _ i6).sI o 5 _ i5
      have hW1 := f1.fixO (ftk_lo r1) hWv
      obtain ⟨x, c1, c2, c3⟩ := c_letters d (T - q) q _ hW1 (hR0.tk f1) (Fr.refl _ _) ((gI_nk _ _ _ (by decide)).trans ((gI_nk _ _ _ (by decide)).trans h7v)) (by omega) rfl
      refine ⟨x, e2.trans c1, hFv.trans (f1.trans (c2.mono (by show sbS _ _ = true; unfold sbS psb; simp [Nat.beq_refl]))), ?_, ?_, c3, fun h => absurd h (Nat.ne_of_beq_eq_false rfl), fun h => absurd h (Nat.ne_of_beq_eq_false rfl)⟩
      · exact (c2.i o 5 (by unfold inS plc; simp [Nat.beq])).trans (gI_same _ _ _ _)
      · exact (c2.i o 6 (by unfold inS plc; simp [Nat.beq])).trans ((gI_nk _ _ _ (by decide)).trans (gI_same _ _ _ _))
  · rw [if_neg hq] at e2 ⊢
    refine ⟨_, e2, (hFv.sI o 6 _ i6).sI o 5 _ i5, ?_, ?_, ?_, fun h => absurd h (Nat.ne_of_beq_eq_false rfl), fun h => absurd h (Nat.ne_of_beq_eq_false rfl)⟩
    · exact gI_same _ _ _ _
    · exact (gI_nk _ _ _ (by decide)).trans (gI_same _ _ _ _)
    · exact (gI_nk _ _ _ (by decide)).trans ((gI_nk _ _ _ (by decide)).trans h7v)
end CTOK
