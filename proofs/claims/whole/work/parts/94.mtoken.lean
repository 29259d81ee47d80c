/-! THE REFERENCE'S tokens -/
def Md (w : Wd) (T N : Nat) (t : Nat → Int32) : Prop := gI w 108 5 = nI T ∧ gI w 108 0 = nI N ∧ T ≤ 600 ∧ ∀ i, i < T → gI w 112 i = t i
def TkM (w : Wd) (k : Tk) : Prop := gI w 108 6 = nI k.1 ∧ gI w 108 7 = nI k.2.1 ∧ gI w 108 8 = nI k.2.2.1 ∧ (k.1 = 2 → gI w 108 9 = nI k.2.2.2)
abbrev FMk : List (Nat × Option Nat) := [(108, some 6), (108, some 7), (108, some 8), (108, some 9)]
theorem Md.fr {S : List (Nat × Option Nat)} {w v : Wd} {T N : Nat} {t : Nat → Int32} (h : Md w T N t) (hf : Fr S w v) (hs : dj S [(108, some 5), (108, some 0), (112, none)] = true) : Md v T N t :=
  ⟨(hf.i 108 5 (dj_off hs rfl)).trans h.1, (hf.i 108 0 (dj_off hs rfl)).trans h.2.1, h.2.2.1, fun i hi => (hf.i 112 i (dj_off hs rfl)).trans (h.2.2.2 i hi)⟩
section MTOK
variable {T N : Nat} {t : Nat → Int32}
theorem m_blanks (d : Nat) {w : Wd} (hW : Fix w) (hM : Md w T N t) : ∀ n p, p ≤ T → n = T - p → val (186, d, 5, [some (.ref 108), some (.int (nI p)), none, none], [], w) = val (186, d, 41, [some (.ref 108), some (.int (nI (skp T (tBl t) p))), none, none], [], w)
  | 0, p, hp, hn => by
    have e : p = T := by omega
    rw [skp_stop (Or.inl (by omega))]
    have hle : gI w 108 5 ≤ nI p := by rw [hM.1]; exact n_le (by omega) (by have := hM.2.2.1; omega)
    refine (tr_186_5 d w hW _ (fun h => absurd hle h) (fun h _ => absurd hle h)).trans (if_pos hle)
  | n + 1, p, hp, hn => by
    have hT := hM.2.2.1
    have ip : inB (nI p) 600 = true := inB_nI (by omega) (by omega)
    have e0 := tr_186_5 d w hW (nI p) (by intros; exact ip) (by intros; exact ip)
    rw [hM.1, if_neg (n_nle (show p < T by omega) (by omega)), nI_clamp (show p < 2 ^ 31 by omega), hM.2.2.2 p (by omega)] at e0
    have fwd : tBl t p = true → val (186, d, 35, [some (.ref 108), some (.int (nI p)), none, none], [], w) = val (186, d, 41, [some (.ref 108), some (.int (nI (skp T (tBl t) p))), none, none], [], w) := fun hb => by
      rw [skp_step (by omega) hb]
      refine (tr_186_35 d w _).trans ?_
      rw [n_succ]
      exact m_blanks d hW hM n (p + 1) (by omega) (by omega)
    by_cases h1 : t p = 32
    · rw [if_pos h1] at e0
      exact e0.trans (fwd (decide_eq_true (by unfold kBl; rw [if_pos h1]; decide)))
    · rw [if_neg h1] at e0
      by_cases h2 : t p = 10
      · rw [if_neg (fun h => h h2)] at e0
        exact e0.trans (fwd (decide_eq_true (by unfold kBl; rw [if_neg h1, if_neg (fun h => h h2)]; decide)))
      · rw [if_pos h2] at e0
        rw [skp_stop (Or.inr (decide_eq_false (by unfold kBl; rw [if_neg h1, if_pos h2]; exact fun h => h rfl)))]
        exact e0
theorem m_letters (d : Nat) (l1 l2 : Int32) {w0 : Wd} : ∀ n p (w : Wd), Fix w → Md w T N t → Fr [(108, some 8)] w0 w → gI w 108 8 = nI p → p ≤ T → n = T - p → ∃ v, val (186, d, 94, [some (.ref 108), some (.int l1), some (.int l2), none], [], w) = val (186, d, 146, [some (.ref 108), some (.int l1), some (.int l2), none], [], v) ∧ Fix v ∧ Fr [(108, some 8)] w0 v ∧ gI v 108 8 = nI (skp T (tLt t) p)
  | 0, p, w, hW, hM, hF, h8, hp, hn => by
    have hle : gI w 108 5 ≤ gI w 108 8 := by rw [hM.1, h8]; exact n_le (by omega) (by have := hM.2.2.1; omega)
    refine ⟨w, (tr_186_94 d w hW _ _ (fun h => absurd hle h) (fun h _ => absurd hle h)).trans (if_pos hle), hW, hF, ?_⟩
    rw [skp_stop (Or.inl (by omega))]
    exact h8
  | n + 1, p, w, hW, hM, hF, h8, hp, hn => by
    have hT := hM.2.2.1
    have ip : inB (gI w 108 8) 600 = true := by rw [h8]; exact inB_nI (by omega) (by omega)
    have e0 := tr_186_94 d w hW l1 l2 (by intros; exact ip) (by intros; exact ip)
    rw [hM.1, h8, if_neg (n_nle (show p < T by omega) (by omega)), nI_clamp (show p < 2 ^ 31 by omega), hM.2.2.2 p (by omega), n_succ] at e0
    have stop : tLt t p = false → ∃ v, val (186, d, 146, [some (.ref 108), some (.int l1), some (.int l2), none], [], w) = val (186, d, 146, [some (.ref 108), some (.int l1), some (.int l2), none], [], v) ∧ Fix v ∧ Fr [(108, some 8)] w0 v ∧ gI v 108 8 = nI (skp T (tLt t) p) := fun hl => ⟨w, rfl, hW, hF, by rw [skp_stop (Or.inr hl)]; exact h8⟩
    by_cases h1 : t p < 97
    · rw [if_pos h1] at e0
      rw [e0]
      exact stop (decide_eq_false (by unfold kLt; rw [if_pos h1]; exact fun h => h rfl))
    · rw [if_neg h1] at e0
      by_cases h2 : 122 < t p
      · rw [if_pos h2] at e0
        rw [e0]
        exact stop (decide_eq_false (by unfold kLt; rw [if_neg h1, if_pos h2]; exact fun h => h rfl))
      · rw [if_neg h2] at e0
        have hl : tLt t p = true := decide_eq_true (by unfold kLt; rw [if_neg h1, if_neg h2]; decide)
        have f1 : Fr [(108, some 8)] w (sI w 108 8 (nI (p + 1))) := (Fr.refl _ w).sI 108 8 _ rfl
        obtain ⟨v, e1, e2⟩ := m_letters d l1 l2 n (p + 1) (sI w 108 8 (nI (p + 1))) (f1.fix rfl hW) (hM.fr f1 rfl) (hF.trans f1) (gI_same _ _ _ _) (by omega) (by omega)
        rw [skp_step (by omega) hl]
        exact ⟨v, e0.trans e1, e2⟩
theorem m_digits (d : Nat) (l1 l2 : Int32) {w0 : Wd} : ∀ n p (w : Wd), Fix w → Md w T N t → Fr [(108, some 8)] w0 w → gI w 108 8 = nI p → p ≤ T → n = T - p → ∃ v, val (186, d, 166, [some (.ref 108), some (.int l1), some (.int l2), none], [], w) = val (186, d, 218, [some (.ref 108), some (.int l1), some (.int l2), none], [], v) ∧ Fix v ∧ Fr [(108, some 8)] w0 v ∧ gI v 108 8 = nI (skp T (tDg t) p)
  | 0, p, w, hW, hM, hF, h8, hp, hn => by
    have hle : gI w 108 5 ≤ gI w 108 8 := by rw [hM.1, h8]; exact n_le (by omega) (by have := hM.2.2.1; omega)
    refine ⟨w, (tr_186_166 d w hW _ _ (fun h => absurd hle h) (fun h _ => absurd hle h)).trans (if_pos hle), hW, hF, ?_⟩
    rw [skp_stop (Or.inl (by omega))]
    exact h8
  | n + 1, p, w, hW, hM, hF, h8, hp, hn => by
    have hT := hM.2.2.1
    have ip : inB (gI w 108 8) 600 = true := by rw [h8]; exact inB_nI (by omega) (by omega)
    have e0 := tr_186_166 d w hW l1 l2 (by intros; exact ip) (by intros; exact ip)
    rw [hM.1, h8, if_neg (n_nle (show p < T by omega) (by omega)), nI_clamp (show p < 2 ^ 31 by omega), hM.2.2.2 p (by omega), n_succ] at e0
    have stop : tDg t p = false → ∃ v, val (186, d, 218, [some (.ref 108), some (.int l1), some (.int l2), none], [], w) = val (186, d, 218, [some (.ref 108), some (.int l1), some (.int l2), none], [], v) ∧ Fix v ∧ Fr [(108, some 8)] w0 v ∧ gI v 108 8 = nI (skp T (tDg t) p) := fun hl => ⟨w, rfl, hW, hF, by rw [skp_stop (Or.inr hl)]; exact h8⟩
    by_cases h1 : t p < 48
    · rw [if_pos h1] at e0
      rw [e0]
      exact stop (decide_eq_false (by unfold kDg; rw [if_pos h1]; exact fun h => h rfl))
    · rw [if_neg h1] at e0
      by_cases h2 : 57 < t p
      · rw [if_pos h2] at e0
        rw [e0]
        exact stop (decide_eq_false (by unfold kDg; rw [if_neg h1, if_pos h2]; exact fun h => h rfl))
      · rw [if_neg h2] at e0
        have hl : tDg t p = true := decide_eq_true (by unfold kDg; rw [if_neg h1, if_neg h2]; decide)
        have f1 : Fr [(108, some 8)] w (sI w 108 8 (nI (p + 1))) := (Fr.refl _ w).sI 108 8 _ rfl
        obtain ⟨v, e1, e2⟩ := m_digits d l1 l2 n (p + 1) (sI w 108 8 (nI (p + 1))) (f1.fix rfl hW) (hM.fr f1 rfl) (hF.trans f1) (gI_same _ _ _ _) (by omega) (by omega)
        rw [skp_step (by omega) hl]
        exact ⟨v, e0.trans e1, e2⟩
/-- the number of its digits -/
theorem m_value (d : Nat) (l1 l2 : Int32) {w0 : Wd} {q e : Nat} (he : e ≤ T) (hqe : q ≤ e) (h8 : e - q ≤ 8) (hd : ∀ i, q ≤ i → i < e → tDg t i = true) : ∀ n j (w : Wd), Fix w → Md w T N t → Fr [(108, some 9)] w0 w → gI w 108 8 = nI e → gI w 108 6 = 2 → q + j + n = e → gI w 108 9 = nI (dg 10 (dgA t q) j) → ∃ v, val (186, d, 251, [some (.ref 108), some (.int l1), some (.int l2), some (.int (nI (q + j)))], [], w) = some (none, v) ∧ Fr [(108, some 9)] w0 v ∧ gI v 108 9 = nI (dg 10 (dgA t q) (e - q))
  | 0, j, w, hW, hM, hF, h8', h6, hj, h9 => by
    have hT := hM.2.2.1
    have hle : gI w 108 8 ≤ nI (q + j) := by rw [h8']; exact n_le (by omega) (by omega)
    refine ⟨w, (tr_186_251 d w hW _ _ _ (fun h => absurd hle h)).trans ((if_pos hle).trans ((tr_186_294 d w _ _ _).trans (tr_186_330 d w _ _ _))), hF, ?_⟩
    rw [show e - q = j by omega]
    exact h9
  | n + 1, j, w, hW, hM, hF, h8', h6, hj, h9 => by
    have hT := hM.2.2.1
    have e0 := tr_186_251 d w hW l1 l2 (nI (q + j)) (by intros; exact inB_nI (by omega) (by omega))
    obtain ⟨d1, d2⟩ := dgA_of (t := t) (q := q) (i := j) (hd _ (by omega) (by omega))
    have hlt := dg10_lt (g := dgA t q) (m := j) (fun i hi => (dgA_of (t := t) (q := q) (i := i) (hd _ (by omega) (by omega))).2) (by omega)
    have ev : 10 * nI (dg 10 (dgA t q) j) + nI (dgA t q j + 48) - 48 = nI (dg 10 (dgA t q) (j + 1)) := by
      rw [show (10 : Int32) = nI 10 from rfl, show (48 : Int32) = nI 48 from rfl, n_mul, n_add, n_sub (by omega)]
      congr 1
    rw [h8', if_neg (n_nle (show q + j < e by omega) (by omega)), h6, if_neg (show ¬ ¬ (2 : Int32) = 2 from fun h => h rfl), nI_clamp (show q + j < 2 ^ 31 by omega), hM.2.2.2 _ (by omega), h9, d1, ev, n_succ] at e0
    have f1 : Fr [(108, some 9)] w (sI w 108 9 (nI (dg 10 (dgA t q) (j + 1)))) := (Fr.refl _ w).sI 108 9 _ rfl
    obtain ⟨v, e1, e2⟩ := m_value d l1 l2 he hqe h8 hd n (j + 1) _ (f1.fix rfl hW) (hM.fr f1 rfl) (hF.trans f1) ((f1.i 108 8 rfl).trans h8') ((f1.i 108 6 rfl).trans h6) (by omega) (gI_same _ _ _ _)
    exact ⟨v, e0.trans e1, e2⟩
theorem m_next (d : Nat) {w : Wd} (hW : Fix w) (hM : Md w T N t) {p : Nat} (h8 : gI w 108 8 = nI p) (hp : p ≤ T) : ∃ v, val (186, d, 0, [some (.ref 108), none, none, none], [], w) = some (none, v) ∧ Fr FMk w v ∧ TkM v (tok t T p) := by
  have hT := hM.2.2.1
  obtain ⟨g1, g2⟩ := skp_ge (T := T) (P := tBl t) _ p rfl
  have g2 := g2 hp
  have e0 : val (186, d, 0, [some (.ref 108), none, none, none], [], w) = val (186, d, 41, [some (.ref 108), some (.int (nI (skp T (tBl t) p))), none, none], [], w) := by
    refine (tr_186 d w hW).trans ?_
    rw [h8]
    exact m_blanks d hW hM _ p hp rfl
  unfold tok
  generalize skp T (tBl t) p = q at g1 g2 e0
  have f3 : Fr FMk w (sI (sI (sI w 108 7 (nI q)) 108 8 (nI q)) 108 6 0) := (((Fr.refl _ w).sI 108 7 _ rfl).sI 108 8 _ rfl).sI 108 6 _ rfl
  have a5 : gI (sI (sI (sI w 108 7 (nI q)) 108 8 (nI q)) 108 6 0) 108 5 = nI T := (f3.i 108 5 rfl).trans hM.1
  have a8 : gI (sI (sI (sI w 108 7 (nI q)) 108 8 (nI q)) 108 6 0) 108 8 = nI q := by rw [gI_nk _ _ _ (by decide), gI_same]
  have a7 : gI (sI (sI (sI w 108 7 (nI q)) 108 8 (nI q)) 108 6 0) 108 7 = nI q := by rw [gI_nk _ _ _ (by decide), gI_nk _ _ _ (by decide), gI_same]
  have a6 : gI (sI (sI (sI w 108 7 (nI q)) 108 8 (nI q)) 108 6 0) 108 6 = 0 := gI_same _ _ _ _
  by_cases hq : q < T
  · have at1 : gI (sI (sI (sI w 108 7 (nI q)) 108 8 (nI q)) 108 6 0) 112 q = t q := (f3.i 112 q rfl).trans (hM.2.2.2 q hq)
    rw [if_pos hq]
    have e1 := tr_186_41 d w hW (nI q) (by intros; exact inB_nI (by omega) (by omega))
    rw [a5, if_pos (n_ne (show q ≠ T by omega) (by omega) (by omega)), nI_clamp (show q < 2 ^ 31 by omega), at1, a8, n_succ] at e1
    have f4 : Fr FMk w (sI (sI (sI (sI w 108 7 (nI q)) 108 8 (nI q)) 108 6 0) 108 8 (nI (q + 1))) := f3.sI 108 8 _ rfl
    have b8 : gI (sI (sI (sI (sI w 108 7 (nI q)) 108 8 (nI q)) 108 6 0) 108 8 (nI (q + 1))) 108 8 = nI (q + 1) := gI_same _ _ _ _
    have b7 : gI (sI (sI (sI (sI w 108 7 (nI q)) 108 8 (nI q)) 108 6 0) 108 8 (nI (q + 1))) 108 7 = nI q := (gI_nk _ _ _ (by decide)).trans a7
    generalize sI (sI (sI (sI w 108 7 (nI q)) 108 8 (nI q)) 108 6 0) 108 8 (nI (q + 1)) = x at e1 f4 b8 b7
    have hWx := f4.fix rfl hW
    have hMx := hM.fr f4 rfl
    have notl : (t q < 97 ∨ 122 < t q) → (tLt t q = false ∧ val (186, d, 41, [some (.ref 108), some (.int (nI q)), none, none], [], w) = val (186, d, 154, [some (.ref 108), some (.int (nI q)), some (.int (t q)), none], [], x)) := by
      intro h
      by_cases h1 : t q < 97
      · rw [if_pos h1] at e1
        exact ⟨decide_eq_false (by unfold kLt; rw [if_pos h1]; exact fun h => h rfl), e1⟩
      · have h2 : 122 < t q := h.elim (fun g => absurd g h1) id
        rw [if_neg h1, if_pos h2] at e1
        exact ⟨decide_eq_false (by unfold kLt; rw [if_neg h1, if_pos h2]; exact fun h => h rfl), e1⟩
    by_cases hl : t q < 97 ∨ 122 < t q
    · obtain ⟨l0, e2⟩ := notl hl
      have e3 := e0.trans (e2.trans (tr_186_154 d x _ _))
      rw [if_neg (by rw [l0]; decide)]
      by_cases hd : t q < 48 ∨ 57 < t q
      · -- a sign, or nothing
        have hd0 : tDg t q = false := by
          refine decide_eq_false ?_
          unfold kDg
          by_cases h1 : t q < 48
          · rw [if_pos h1]; exact fun h => h rfl
          · rw [if_neg h1, if_pos (hd.elim (fun g => absurd g h1) id)]; exact fun h => h rfl
        rw [if_neg (by rw [hd0]; decide)]
        have e4 : val (186, d, 0, [some (.ref 108), none, none, none], [], w) = val (186, d, 297, [some (.ref 108), some (.int (nI q)), some (.int (t q)), none], [], x) := by
          refine e3.trans ?_
          by_cases h1 : t q < 48
          · rw [if_pos h1]
          · rw [if_neg h1, if_pos (hd.elim (fun g => absurd g h1) id)]
        have e5 := e4.trans (tr_186_297 d x _ _)
        have yes : val (186, d, 322, [some (.ref 108), some (.int (nI q)), some (.int (t q)), none], [.ref 108], x) = some (none, sI x 108 6 3) := (tr_186_322 d x _ _).trans ((tr_186_327 d x hWx _ _ _).trans (tr_186_330 d _ _ _ _))
        have no : val (186, d, 327, [some (.ref 108), some (.int (nI q)), some (.int (t q)), none], [.int 4, .ref 108], x) = some (none, sI x 108 6 4) := (tr_186_327 d x hWx _ _ _).trans (tr_186_330 d _ _ _ _)
        by_cases hs : kSg (t q) = 0
        · rw [if_pos hs]
          have e6 : val (186, d, 0, [some (.ref 108), none, none, none], [], w) = some (none, sI x 108 6 4) := by
            refine e5.trans ?_
            unfold kSg at hs
            by_cases c1 : t q = 59
            · rw [if_pos c1] at hs; exact absurd hs (by decide)
            rw [if_neg c1] at hs ⊢
            by_cases c2 : t q = 40
            · rw [if_pos c2] at hs; exact absurd hs (by decide)
            rw [if_neg c2] at hs ⊢
            by_cases c3 : t q = 41
            · rw [if_pos c3] at hs; exact absurd hs (by decide)
            rw [if_neg c3] at hs ⊢
            by_cases c4 : t q = 44
            · rw [if_neg (fun h => h c4)] at hs; exact absurd hs (by decide)
            rw [if_pos c4]
            exact no
          exact ⟨_, e6, f4.sI 108 6 _ rfl, gI_same _ _ _ _, (gI_nk _ _ _ (by decide)).trans b7, (gI_nk _ _ _ (by decide)).trans b8, fun h => absurd h (Nat.ne_of_beq_eq_false rfl)⟩
        · rw [if_neg hs]
          have e6 : val (186, d, 0, [some (.ref 108), none, none, none], [], w) = some (none, sI x 108 6 3) := by
            refine e5.trans ?_
            unfold kSg at hs
            by_cases c1 : t q = 59
            · rw [if_pos c1]; exact yes
            rw [if_neg c1] at hs ⊢
            by_cases c2 : t q = 40
            · rw [if_pos c2]; exact yes
            rw [if_neg c2] at hs ⊢
            by_cases c3 : t q = 41
            · rw [if_pos c3]; exact yes
            rw [if_neg c3] at hs ⊢
            by_cases c4 : t q = 44
            · rw [if_neg (fun h => h c4)]; exact yes
            rw [if_pos c4] at hs
            exact absurd rfl hs
          exact ⟨_, e6, f4.sI 108 6 _ rfl, gI_same _ _ _ _, (gI_nk _ _ _ (by decide)).trans b7, (gI_nk _ _ _ (by decide)).trans b8, fun h => absurd h (Nat.ne_of_beq_eq_false rfl)⟩
      · -- a number
        have h1 : ¬ t q < 48 := fun h => hd (Or.inl h)
        have h2 : ¬ 57 < t q := fun h => hd (Or.inr h)
        have hd1 : tDg t q = true := decide_eq_true (by unfold kDg; rw [if_neg h1, if_neg h2]; decide)
        rw [if_pos hd1]
        rw [if_neg h1, if_neg h2] at e3
        obtain ⟨y, y1, y2, y3, y4⟩ := m_digits d (nI q) (t q) _ (q + 1) x hWx hMx (Fr.refl _ x) b8 (by omega) rfl
        rw [← skp_step hq hd1] at y4
        obtain ⟨s1, s2⟩ := skp_ge (T := T) (P := tDg t) _ q rfl
        have s2 := s2 (by omega)
        have sall := skp_all (T := T) (P := tDg t) _ q rfl
        have s3 := (skp_ge (T := T) (P := tDg t) _ (q + 1) rfl).1
        rw [← skp_step hq hd1] at s3
        generalize skp T (tDg t) q = e at y4 s1 s2 sall s3
        have e4 := e3.trans (y1.trans (tr_186_218 d y y2 _ _))
        have c7 : gI y 108 7 = nI q := (y3.i 108 7 rfl).trans b7
        rw [y4, c7, n_sub s1] at e4
        have hMy := hMx.fr y3 rfl
        have fy : Fr FMk w y := f4.trans (y3.mono rfl)
        by_cases h8 : e - q ≤ 8
        · rw [if_pos (show nI (e - q) ≤ 8 from n_le (b := 8) h8 (by omega))] at e4
          have f5 : Fr FMk y (sI (sI y 108 6 2) 108 9 0) := ((Fr.refl _ y).sI 108 6 _ rfl).sI 108 9 _ rfl
          have e5 := e4.trans (tr_186_238 d y y2 _ _ _)
          rw [show gI (sI (sI y 108 6 2) 108 9 0) 108 7 = nI q from (f5.i 108 0 rfl |> fun _ => (gI_nk _ _ _ (by decide)).trans ((gI_nk _ _ _ (by decide)).trans c7))] at e5
          obtain ⟨z, z1, z2, z3⟩ := m_value d (nI q) (t q) s2 s1 h8 sall (e - q) 0 _ (f5.fix rfl y2) (hMy.fr f5 rfl) (Fr.refl _ _) ((gI_nk _ _ _ (by decide)).trans ((gI_nk _ _ _ (by decide)).trans y4)) ((gI_nk _ _ _ (by decide)).trans (gI_same _ _ _ _)) (by omega) (gI_same _ _ _ _)
          rw [if_pos h8]
          refine ⟨z, e5.trans z1, (fy.trans f5).trans (z2.mono rfl), ?_, ?_, ?_, fun _ => z3⟩
          · exact (z2.i 108 6 rfl).trans ((gI_nk _ _ _ (by decide)).trans (gI_same _ _ _ _))
          · exact (z2.i 108 7 rfl).trans ((gI_nk _ _ _ (by decide)).trans ((gI_nk _ _ _ (by decide)).trans c7))
          · exact (z2.i 108 8 rfl).trans ((gI_nk _ _ _ (by decide)).trans ((gI_nk _ _ _ (by decide)).trans y4))
        · rw [if_neg (show ¬ nI (e - q) ≤ 8 from n_nle (b := 8) (by omega) (by omega))] at e4
          have f5 : Fr FMk y (sI (sI y 108 6 4) 108 9 0) := ((Fr.refl _ y).sI 108 6 _ rfl).sI 108 9 _ rfl
          have e5 := e4.trans (tr_186_238 d y y2 _ _ _)
          have d6 : gI (sI (sI y 108 6 4) 108 9 0) 108 6 = 4 := (gI_nk _ _ _ (by decide)).trans (gI_same _ _ _ _)
          have d7 : gI (sI (sI y 108 6 4) 108 9 0) 108 7 = nI q := (gI_nk _ _ _ (by decide)).trans ((gI_nk _ _ _ (by decide)).trans c7)
          have d8 : gI (sI (sI y 108 6 4) 108 9 0) 108 8 = nI e := (gI_nk _ _ _ (by decide)).trans ((gI_nk _ _ _ (by decide)).trans y4)
          rw [d7] at e5
          have e6 := e5.trans (tr_186_251 d _ (f5.fix rfl y2) (nI q) (t q) (nI q) (fun h h' => absurd (by rw [d6]; decide) h'))
          rw [if_neg h8]
          refine ⟨_, e6.trans ?_, fy.trans f5, d6, d7, d8, fun h => absurd h (Nat.ne_of_beq_eq_false rfl)⟩
          rw [d8, if_neg (n_nle (show q < e by omega) (by omega)), d6, if_pos (by decide)]
          exact (tr_186_294 d _ _ _ _).trans (tr_186_330 d _ _ _ _)
    · -- a word
      have h1 : ¬ t q < 97 := fun h => hl (Or.inl h)
      have h2 : ¬ 122 < t q := fun h => hl (Or.inr h)
      rw [if_neg h1, if_neg h2] at e1
      have l1 : tLt t q = true := decide_eq_true (by unfold kLt; rw [if_neg h1, if_neg h2]; decide)
      rw [if_pos l1]
      obtain ⟨y, y1, y2, y3, y4⟩ := m_letters d (nI q) (t q) _ (q + 1) x hWx hMx (Fr.refl _ x) b8 (by omega) rfl
      rw [← skp_step hq l1] at y4
      refine ⟨_, e0.trans (e1.trans (y1.trans ((tr_186_146 d y y2 _ _).trans (tr_186_330 d _ _ _ _)))), (f4.trans (y3.mono rfl)).sI 108 6 _ rfl, gI_same _ _ _ _, ?_, ?_, fun h => absurd h (Nat.ne_of_beq_eq_false rfl)⟩
      · exact (gI_nk _ _ _ (by decide)).trans ((y3.i 108 7 rfl).trans b7)
      · exact (gI_nk _ _ _ (by decide)).trans y4
  · have e : q = T := by omega
    rw [if_neg hq]
    have e1 := tr_186_41 d w hW (nI q) (fun h => absurd (by rw [a5, e]) h)
    rw [a5, if_neg (show ¬ ¬ nI q = nI T from fun h => h (by rw [e]))] at e1
    exact ⟨_, e0.trans e1, f3, a6, a7, a8, fun h => absurd h (Nat.ne_of_beq_eq_false rfl)⟩
end MTOK
