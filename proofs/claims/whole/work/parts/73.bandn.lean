/-! THE BAND: the reference's rows -/
def MB (w : Wd) (N : Nat) (kd sk : Nat → Nat) (seed : Int32) (fr : Nat) (F : Nat → Nat → Nat) (sl0 : Nat → Nat) (k : Nat) : Prop :=
  RgM w kd sk (bst N kd sk seed fr F sl0 k).1 ∧ gI w 108 49 = nI k ∧ gI w 108 50 = nI (bst N kd sk seed fr F sl0 k).2.1 ∧ gI w 108 51 = nI (bst N kd sk seed fr F sl0 k).2.2.1 ∧ gI w 108 52 = (bst N kd sk seed fr F sl0 k).2.2.2.1 ∧
  ∀ i, i < k → gI w 144 i = nI (dcN N (F (fr + i))) ∧ ∀ p, p < N → gI w 140 (9 * i + (F (fr + i) p + 1)) = if p < (brw N kd sk seed fr F sl0 i).2.2.2.2.1 then (brw N kd sk seed fr F sl0 i).2.2.2.2.2 p else -1000000
abbrev FBm : List (Nat × Option Nat) := [(108, some 49), (108, some 50), (108, some 51), (108, some 52), (126, none), (139, none), (140, none), (144, none)]
/-- a row: either the band goes on, or it fired out -/
theorem m_row {N : Nat} (h3 : 3 ≤ N) (hN : N ≤ 8) {kd sk : Nat → Nat} (hK : KS kd sk) {seed : Int32} {fr : Nat} {F : Nat → Nat → Nat} {sl0 : Nat → Nat} {M : Nat} (hM : ∀ b, sl0 b ≤ M) (hM2 : M ≤ 2 ^ 21) {k : Nat} (hk : k < 400) (hr : fr + k ≤ 2000) (hfa : ∀ i, i ≤ k → IsRow N (F (fr + i))) {w : Wd} (hW : Fix w) (hn : gI w 108 0 = nI N) (hrow : gI w 127 (fr + k) = nI (dcN N (F (fr + k))))
    (hC : MB w N kd sk seed fr F sl0 k) (hl : (bst N kd sk seed fr F sl0 k).2.2.2.2 = false) (d : Nat) {rows : Nat} (hrows : k < rows) (hrows2 : rows ≤ 400) (t7 t8 t9 t10 t11 t12 : Option Value) :
    ∃ w', MB w' N kd sk seed fr F sl0 (k + 1) ∧ Fr FBm w w' ∧ (((bst N kd sk seed fr F sl0 (k + 1)).2.2.2.2 = true ∧ val (227, d + 1, 115, [some (.ref 108), some (.int seed), some (.int (nI fr)), some (.int (nI rows)), some (.int (if cdr kd N = true then 1 else 0)), some (.int (nI k)), some (.int (nI k)), t7, t8, t9, t10, t11, t12], [], w) = some (some (.int (-10 - nI k)), w')) ∨
      ((bst N kd sk seed fr F sl0 (k + 1)).2.2.2.2 = false ∧ ∃ s7 s8 s9 s10 s11 s12, val (227, d + 1, 115, [some (.ref 108), some (.int seed), some (.int (nI fr)), some (.int (nI rows)), some (.int (if cdr kd N = true then 1 else 0)), some (.int (nI k)), some (.int (nI k)), t7, t8, t9, t10, t11, t12], [], w) = val (227, d + 1, 115, [some (.ref 108), some (.int seed), some (.int (nI fr)), some (.int (nI rows)), some (.int (if cdr kd N = true then 1 else 0)), some (.int (nI (k + 1))), some (.int (nI (k + 1))), s7, s8, s9, s10, s11, s12], [], w'))) := by
  have hf := hfa k (Nat.le_refl k)
  generalize hld : (if cdr kd N = true then (1 : Int32) else 0) = ld
  obtain ⟨b1, b2, b3⟩ := bst_bd (N := N) (kd := kd) (sk := sk) (seed := seed) (fr := fr) (F := F) hM k
  have hNk : N * k ≤ 8 * 400 := Nat.mul_le_mul hN (by omega)
  obtain ⟨c1, c2, c3, c4, c5, c6⟩ := hC
  have e0 := tr_227_115 d w seed (nI fr) (nI rows) ld (nI k) (nI k) t7 t8 t9 t10 t11 t12
  rw [if_neg (n_nle hrows (by omega)), n_add] at e0
  have h9 : ∀ q, q < 9 → inB (9 * nI k + nI q) 3600 = true := fun q hq => by
    rw [show (9 : Int32) = nI 9 from rfl, n_mul, n_add]; exact inB_nI (by omega) (by omega)
  have ir : inB (nI (fr + k)) 2001 = true := inB_nI (by omega) (by omega)
  have ik : inB (nI k) 400 = true := inB_nI hk (by omega)
  -- the places are cleared
  have hlp := loopUp (c := fun q v => (227, d + 1, 130, [some (.ref 108), some (.int seed), some (.int (nI fr)), some (.int (nI rows)), some (.int ld), some (.int (nI k)), some (.int (nI k)), some (.int (nI (fr + k))), some (.int (nI q)), t9, t10, t11, t12], [], v))
    (P := fun q v => Fr [(140, none)] w v ∧ (∀ i, i < q → gI v 140 (9 * k + i) = -1000000) ∧ ∀ i, (i < 9 * k ∨ 9 * k + 9 ≤ i) → gI v 140 i = gI w 140 i)
    (R := fun r => ∃ v, r = val (227, d + 1, 130, [some (.ref 108), some (.int seed), some (.int (nI fr)), some (.int (nI rows)), some (.int ld), some (.int (nI k)), some (.int (nI k)), some (.int (nI (fr + k))), some (.int (nI 9)), t9, t10, t11, t12], [], v) ∧ Fr [(140, none)] w v ∧ (∀ i, i < 9 → gI v 140 (9 * k + i) = -1000000) ∧ ∀ i, (i < 9 * k ∨ 9 * k + 9 ≤ i) → gI v 140 i = gI w 140 i) (N := 9)
    (fun v h => ⟨v, rfl, h⟩) (fun q v hq ⟨p1, p2, p3⟩ => by
      have hWv := p1.fix rfl hW
      refine Or.inr ⟨sI v 140 (9 * k + q) (-1000000), ?_, p1.sI 140 _ _ rfl, fun i hi => ?_, fun i hi => ?_⟩
      · refine (tr_227_130 d v hWv _ _ _ _ _ _ _ _ _ _ _ _ (by intros; exact ir) (by intros; exact ik) (fun _ => h9 q hq)).trans ?_
        rw [if_neg (show ¬ 9 ≤ nI q from n_nle (a := 9) hq (by omega)), show (9 : Int32) * nI k + nI q = nI (9 * k + q) by rw [show (9 : Int32) = nI 9 from rfl, n_mul, n_add], nI_clamp (by omega), n_succ]
      · by_cases e : i = q
        · rw [e, gI_same]
        · rw [gI_nk _ _ _ (by omega)]; exact p2 i (by omega)
      · rw [gI_nk _ _ _ (by omega)]; exact p3 i hi) w ⟨Fr.refl _ _, fun i hi => absurd hi (Nat.not_lt_zero i), fun _ _ => rfl⟩
  obtain ⟨v, e1, f1, g1, g2⟩ := hlp
  have hWv := f1.fix rfl hW
  have u1 : gI (sI v 108 49 (nI (k + 1))) 127 (fr + k) = nI (dcN N (F (fr + k))) := by rw [gI_ne _ _ _ _ (by decide), f1.i 127 _ rfl, hrow]
  have u2 : gI (sI (sI v 108 49 (nI (k + 1))) 144 k (nI (dcN N (F (fr + k))))) 127 (fr + k) = nI (dcN N (F (fr + k))) := (gI_ne _ _ _ _ (by decide)).trans u1
  have e2 := tr_227_130 d v hWv seed (nI fr) (nI rows) ld (nI k) (nI k) (nI (fr + k)) (nI 9) t9 t10 t11 t12 (by intros; exact ir) (by intros; exact ik) (fun h => absurd (by decide) h)
  rw [if_pos (by decide), f1.i 108 49 rfl, c2, n_succ, nI_clamp (n := fr + k) (by omega), nI_clamp (n := k) (by omega), u1] at e2
  rw [u2] at e2
  have f2 : Fr FBm w (sI (sI v 108 49 (nI (k + 1))) 144 k (nI (dcN N (F (fr + k))))) := ((f1.mono rfl).sI 108 49 _ rfl).sI 144 _ _ rfl
  have hW2 := f2.fix rfl hW
  have hn2 := (f2.i 108 0 rfl).trans hn
  obtain ⟨w1, e3, f3, g3⟩ := m_into h3 hN (⟨hf, rfl⟩ : IsNum N (nI (dcN N (F (fr + k)))) (F (fr + k))) d 126 (by decide) (by decide) hW2 (hW2.k 126 (by decide) (by decide)) hn2
  have f4 : Fr FBm w w1 := f2.trans (f3.mono rfl)
  have hW1 := f4.fix rfl hW
  have hn1 := (f4.i 108 0 rfl).trans hn
  have x50 : gI w1 108 50 = nI (bst N kd sk seed fr F sl0 k).2.1 := by
    rw [f3.i 108 50 rfl, gI_ne _ _ _ _ (by decide), gI_nk _ _ _ (by decide), f1.i 108 50 rfl, c3]
  have x51 : gI w1 108 51 = nI (bst N kd sk seed fr F sl0 k).2.2.1 := by
    rw [f3.i 108 51 rfl, gI_ne _ _ _ _ (by decide), gI_nk _ _ _ (by decide), f1.i 108 51 rfl, c4]
  have x52 : gI w1 108 52 = (bst N kd sk seed fr F sl0 k).2.2.2.1 := by
    rw [f3.i 108 52 rfl, gI_ne _ _ _ _ (by decide), gI_nk _ _ _ (by decide), f1.i 108 52 rfl, c5]
  have x49 : gI w1 108 49 = nI (k + 1) := by
    rw [f3.i 108 49 rfl, gI_ne _ _ _ _ (by decide), gI_same]
  have x144 : ∀ i, gI w1 144 i = if i = k then nI (dcN N (F (fr + k))) else gI w 144 i := fun i => by
    rw [f3.i 144 i rfl]
    by_cases e : i = k
    · rw [e, gI_same, if_pos rfl]
    · rw [gI_nk _ _ _ e, gI_ne _ _ _ _ (by decide), f1.i 144 i rfl, if_neg e]
  have x140 : ∀ i, gI w1 140 i = gI v 140 i := fun i => by
    rw [f3.i 140 i rfl, gI_ne _ _ _ _ (by decide), gI_ne _ _ _ _ (by decide)]
  have e4 : val (227, d + 1, 115, [some (.ref 108), some (.int seed), some (.int (nI fr)), some (.int (nI rows)), some (.int ld), some (.int (nI k)), some (.int (nI k)), t7, t8, t9, t10, t11, t12], [], w) = val (227, d + 1, 210, [some (.ref 108), some (.int seed), some (.int (nI fr)), some (.int (nI rows)), some (.int ld), some (.int (nI k)), some (.int (nI k)), some (.int (nI (fr + k))), some (.int (-1000000000)), some (.int 0), some (.int (nI 1)), t11, t12], [], w1) := by
    refine e0.trans (e1.trans (e2.trans ?_))
    refine (val_call (pc2 := 198) rfl rfl rfl rfl (hW2.rc _) (Nat.le_of_ble_eq_true rfl) (Nat.le_of_ble_eq_true rfl) rfl e3 rfl).trans ?_
    exact tr_227_198 d w1 _ _ _ _ _ _ _ _ _ _ _ _ _
  have i0 : MR w1 w1 kd sk N (F (fr + k)) k (bst N kd sk seed fr F sl0 k).2.2.2.1 (rst N kd sk seed (fr + k) (F (fr + k)) (bst N kd sk seed fr F sl0 k).1 (bst N kd sk seed fr F sl0 k).2.1 0) := by
    refine ⟨Fr.refl _ _, c1.eq (fun c => ?_) (fun c => ?_) (fun c => ?_), x50, ?_, fun i hi => ?_, fun _ _ => rfl⟩
    · exact f4.i 137 c rfl
    · exact f4.i 138 c rfl
    · rw [f3.i 139 c rfl, gI_ne _ _ _ _ (by decide), gI_ne _ _ _ _ (by decide), f1.i 139 c rfl]
    · rw [x52]; rfl
    · rw [x140]
      have := hf.1 i hi
      exact (g1 (F (fr + k) i + 1) (by omega)).trans (if_neg (Nat.not_lt_zero i)).symm
  have hstep : ∀ p, p < N → (∀ b, (rst N kd sk seed (fr + k) (F (fr + k)) (bst N kd sk seed fr F sl0 k).1 (bst N kd sk seed fr F sl0 k).2.1 p).1 b + 1 ≤ 2 ^ 22) ∧ (rst N kd sk seed (fr + k) (F (fr + k)) (bst N kd sk seed fr F sl0 k).1 (bst N kd sk seed fr F sl0 k).2.1 p).2.1 + 1 < 2 ^ 31 := by
    intro p hp
    have h4 := rst_sl (N := N) (kd := kd) (sk := sk) (seed := seed) (r := fr + k) (f := F (fr + k)) (cl0 := (bst N kd sk seed fr F sl0 k).2.1) b1 p
    have h5 := rst_cl (N := N) (kd := kd) (sk := sk) (seed := seed) (r := fr + k) (f := F (fr + k)) (sl0 := (bst N kd sk seed fr F sl0 k).1) (cl0 := (bst N kd sk seed fr F sl0 k).2.1) p
    exact ⟨fun b => by have := h4 b; omega, by omega⟩
  -- all blows, up to the end of the row
  have hall := loopUp (α := Wd × Option Value × Option Value) (c := fun p q => (227, d + 1, 210, [some (.ref 108), some (.int seed), some (.int (nI fr)), some (.int (nI rows)), some (.int ld), some (.int (nI k)), some (.int (nI k)), some (.int (nI (fr + k))), some (.int (if p = 0 then -1000000000 else (rst N kd sk seed (fr + k) (F (fr + k)) (bst N kd sk seed fr F sl0 k).1 (bst N kd sk seed fr F sl0 k).2.1 p).2.2.1)), some (.int 0), some (.int (nI (p + 1))), q.2.1, q.2.2], [], q.1))
    (P := fun p q => (rst N kd sk seed (fr + k) (F (fr + k)) (bst N kd sk seed fr F sl0 k).1 (bst N kd sk seed fr F sl0 k).2.1 p).2.2.2.1 = false ∧ MR w1 q.1 kd sk N (F (fr + k)) k (bst N kd sk seed fr F sl0 k).2.2.2.1 (rst N kd sk seed (fr + k) (F (fr + k)) (bst N kd sk seed fr F sl0 k).1 (bst N kd sk seed fr F sl0 k).2.1 p))
    (R := fun r => ∃ (x : Wd) (j8 j10 : Int32) (j11 j12 : Option Value), MR w1 x kd sk N (F (fr + k)) k (bst N kd sk seed fr F sl0 k).2.2.2.1 (brw N kd sk seed fr F sl0 k) ∧ r = val (227, d + 1, 210, [some (.ref 108), some (.int seed), some (.int (nI fr)), some (.int (nI rows)), some (.int ld), some (.int (nI k)), some (.int (nI k)), some (.int (nI (fr + k))), some (.int j8), some (.int (if (brw N kd sk seed fr F sl0 k).2.2.2.1 = true then 1 else 0)), some (.int j10), j11, j12], [], x) ∧ ((brw N kd sk seed fr F sl0 k).2.2.2.1 = false → nI N < j10)) (N := N) ?_ ?_ (w1, t11, t12) ⟨rfl, i0⟩
  · obtain ⟨x, j8, j10, j11, j12, m1, m2, m3⟩ := hall
    have e5 := e4.trans m2
    have fx : Fr FBm w x := f4.trans (m1.1.mono rfl)
    have hWx := fx.fix rfl hW
    have hnx := (fx.i 108 0 rfl).trans hn
    obtain ⟨n1, n2, n3, n4, n5, n6⟩ := m1
    have b4 := bst.eq_2 N kd sk seed fr F sl0 k
    rw [if_neg (by rw [hl]; decide)] at b4
    have y51 : gI x 108 51 = nI (bst N kd sk seed fr F sl0 k).2.2.1 := (n1.i 108 51 rfl).trans x51
    have hpl : ∀ j, (brw N kd sk seed fr F sl0 j).2.2.2.2.1 ≤ N := fun j => rst_pl N |>.1
    have rows_ok : ∀ z, Fr [(108, some 51), (139, none)] x z → ∀ i, i < k + 1 → gI z 144 i = nI (dcN N (F (fr + i))) ∧ ∀ p, p < N → gI z 140 (9 * i + (F (fr + i) p + 1)) = if p < (brw N kd sk seed fr F sl0 i).2.2.2.2.1 then (brw N kd sk seed fr F sl0 i).2.2.2.2.2 p else -1000000 := by
      intro z hz i hi
      rw [hz.i 144 i rfl, n1.i 144 i rfl, x144 i]
      by_cases e : i = k
      · subst e
        rw [if_pos rfl]
        refine ⟨rfl, fun p hp => ?_⟩
        rw [hz.i 140 _ rfl]
        exact n5 p hp
      · rw [if_neg e]
        obtain ⟨o1, o2⟩ := c6 i (by omega)
        refine ⟨o1, fun p hp => ?_⟩
        have := (hfa i (by omega)).1 p hp
        rw [hz.i 140 _ rfl, n6 _ (by omega), x140, g2 _ (by omega)]
        exact o2 p hp
    have es : (brw N kd sk seed fr F sl0 k) = rst N kd sk seed (fr + k) (F (fr + k)) (bst N kd sk seed fr F sl0 k).1 (bst N kd sk seed fr F sl0 k).2.1 N := rfl
    cases hend : (brw N kd sk seed fr F sl0 k).2.2.2.1 with
    | false =>
      rw [es] at hend
      rw [if_neg (by rw [hend]; decide)] at b4
      rw [es, if_neg (by rw [hend]; decide)] at e5
      have hj := m3 hend
      refine ⟨x, ⟨by rw [b4]; exact n2, ?_, by rw [b4]; exact n3, by rw [b4]; exact y51, ?_, rows_ok x (Fr.refl _ _)⟩, fx, Or.inr ⟨by rw [b4], some (.int (nI (fr + k))), some (.int j8), some (.int 0), some (.int j10), j11, j12, e5.trans ((tr_227_210 d x hWx _ _ _ _ _ _ _ _ _ _ _ _ (fun _ _ h => absurd rfl h) (fun _ h => absurd rfl h) (fun _ h => absurd rfl h) (fun _ h => absurd rfl h) (fun h => absurd (by rw [hnx]; exact hj) h)).trans ?_)⟩⟩
      · rw [n1.i 108 49 rfl, x49]
      · rw [n4, es, hend, b4]; rfl
      · rw [hnx, if_pos hj, if_pos rfl, if_pos rfl, n_succ]
    | true =>
      rw [es] at hend
      rw [if_pos hend] at b4
      rw [es, if_pos hend] at e5
      rw [es, if_pos hend] at n4
      have hpl1 := (rst_pl (N := N) (kd := kd) (sk := sk) (seed := seed) (r := fr + k) (f := F (fr + k)) (sl0 := (bst N kd sk seed fr F sl0 k).1) (cl0 := (bst N kd sk seed fr F sl0 k).2.1) N)
      have hb1 := hpl1.2.2 hend
      have hfp := hf.1 ((rst N kd sk seed (fr + k) (F (fr + k)) (bst N kd sk seed fr F sl0 k).1 (bst N kd sk seed fr F sl0 k).2.1 N).2.2.2.2.1 - 1) (by have := hpl1.1; omega)
      generalize hbb : F (fr + k) ((rst N kd sk seed (fr + k) (F (fr + k)) (bst N kd sk seed fr F sl0 k).1 (bst N kd sk seed fr F sl0 k).2.1 N).2.2.2.2.1 - 1) = bb at b4 n4 hfp
      have ilost : inB (gI (sI x 108 51 (gI x 108 51 + 1)) 108 52) 9 = true := by
        rw [gI_nk _ _ _ (by decide), n4]
        exact inB_nI (by omega) (by omega)
      have e6 := tr_227_210 d x hWx seed (nI fr) (nI rows) ld (nI k) (nI k) (nI (fr + k)) j8 1 j10 j11 j12 (by intros; exact ilost) (by intros; exact ilost) (by intros; exact ilost) (by intros; exact ilost) (fun _ h => absurd (by decide) h)
      have q5 : (nI (bst N kd sk seed fr F sl0 k).2.2.1 = 5) ↔ (bst N kd sk seed fr F sl0 k).2.2.1 = 5 := n_inj (b := 5) (by omega) (by omega)
      rw [y51] at e6
      by_cases hw : 5 ≤ (bst N kd sk seed fr F sl0 k).2.2.1 ∨ cdr kd N = false
      · rw [if_pos hw] at b4
        refine ⟨x, ⟨by rw [b4]; exact n2, ?_, by rw [b4]; exact n3, by rw [b4]; exact y51, by rw [b4]; exact n4, rows_ok x (Fr.refl _ _)⟩, fx, Or.inl ⟨by rw [b4], e5.trans (e6.trans ?_)⟩⟩
        · rw [n1.i 108 49 rfl, x49]
        · have inner : ∀ X : Rs, (if ld = 0 then some (some (.int (-10 - nI k)), x) else (if ¬ nI (bst N kd sk seed fr F sl0 k).2.2.1 = 5 then X else some (some (.int (-10 - nI k)), x))) = some (some (.int (-10 - nI k)), x) := by
            intro X
            by_cases hc : cdr kd N = true
            · have h5 : (bst N kd sk seed fr F sl0 k).2.2.1 = 5 := by
                rcases hw with h | h
                · omega
                · rw [hc] at h; cases h
              have hld1 : ld = 1 := by rw [← hld, if_pos hc]
              rw [hld1, if_neg (show ¬ (1 : Int32) = 0 by decide), if_neg (fun h => h (q5.mpr h5))]
            · have hld0 : ld = 0 := by rw [← hld, if_neg hc]
              rw [hld0, if_pos (show (0 : Int32) = 0 from rfl)]
          by_cases hj : gI x 108 0 < j10
          · rw [if_pos hj, if_neg (show ¬ (1 : Int32) = 0 by decide)]
            exact inner _
          · rw [if_neg hj, if_pos (show ¬ (1 : Int32) = 0 by decide), if_neg (show ¬ (1 : Int32) = 0 by decide)]
            exact inner _
      · rw [if_neg hw] at b4
        have hc : cdr kd N = true := by cases h : cdr kd N with | true => rfl | false => exact absurd (Or.inr h) hw
        have h5 : ¬ nI (bst N kd sk seed fr F sl0 k).2.2.1 = 5 := fun h => hw (Or.inl (by have := q5.mp h; omega))
        have fz : Fr [(108, some 51), (139, none)] x (sI (sI x 108 51 (nI ((bst N kd sk seed fr F sl0 k).2.2.1 + 1))) 139 (bb + 1) 0) := ((Fr.refl _ x).sI 108 51 _ rfl).sI 139 _ _ rfl
        refine ⟨_, ⟨?_, ?_, ?_, ?_, ?_, rows_ok _ fz⟩, fx.trans (fz.mono rfl), Or.inr ⟨by rw [b4], some (.int (nI (fr + k))), some (.int j8), some (.int 1), some (.int j10), j11, j12, e5.trans (e6.trans ?_)⟩⟩
        · rw [b4]
          refine n2.sl (fun c => ?_) (fun c => ?_) (fun c => ?_)
          · rw [gI_ne _ _ _ _ (by decide), gI_ne _ _ _ _ (by decide)]
          · rw [gI_ne _ _ _ _ (by decide), gI_ne _ _ _ _ (by decide)]
          · by_cases e : c = bb + 1
            · rw [e, gI_same, if_pos rfl]; rfl
            · rw [gI_nk _ _ _ e, gI_ne _ _ _ _ (by decide), if_neg e]
        · rw [gI_ne _ _ _ _ (by decide), gI_nk _ _ _ (by decide), n1.i 108 49 rfl, x49]
        · rw [b4, gI_ne _ _ _ _ (by decide), gI_nk _ _ _ (by decide), n3]; rfl
        · rw [b4, gI_ne _ _ _ _ (by decide), gI_same]
        · rw [b4, gI_ne _ _ _ _ (by decide), gI_nk _ _ _ (by decide), n4]
        · have hld1 : ¬ ld = 0 := by rw [← hld, if_pos hc]; decide
          have e7 : (gI (sI x 108 51 (nI (bst N kd sk seed fr F sl0 k).2.2.1 + 1)) 108 52).toNatClampNeg = bb + 1 := by
            rw [gI_nk _ _ _ (by decide), n4, nI_clamp (by omega)]
          rw [e7, n_succ, if_neg (show ¬ (1 : Int32) = 0 by decide), if_pos (show ¬ (1 : Int32) = 0 by decide), if_neg hld1, if_pos h5, n_succ]
          split <;> rfl
  · rintro ⟨x, l11, l12⟩ ⟨q1, q2⟩
    dsimp only at q1 q2 ⊢
    refine ⟨x, (if N = 0 then -1000000000 else (rst N kd sk seed (fr + k) (F (fr + k)) (bst N kd sk seed fr F sl0 k).1 (bst N kd sk seed fr F sl0 k).2.1 N).2.2.1), nI (N + 1), l11, l12, q2, ?_, fun _ => n_lt (Nat.lt_succ_self N) (by omega)⟩
    rw [show (brw N kd sk seed fr F sl0 k).2.2.2.1 = false from q1]
    rfl
  · rintro p ⟨x, l11, l12⟩ hp ⟨q1, q2⟩
    dsimp only at q1 q2 ⊢
    obtain ⟨s1, s2⟩ := hstep p hp
    obtain ⟨x', l11', l12', u1, u2⟩ := m_blow h3 hN hK hr hf (lo := (bst N kd sk seed fr F sl0 k).2.2.2.1) hk hW1 hn1 g3 hp s1 s2 q1 q2 d (nI fr) (nI rows) ld (nI k) l11 l12
    cases he : (rst N kd sk seed (fr + k) (F (fr + k)) (bst N kd sk seed fr F sl0 k).1 (bst N kd sk seed fr F sl0 k).2.1 (p + 1)).2.2.2.1 with
    | false =>
      rw [he] at u2
      exact Or.inr ⟨(x', l11', l12'), u2, rfl, u1⟩
    | true =>
      have hst : brw N kd sk seed fr F sl0 k = rst N kd sk seed (fr + k) (F (fr + k)) (bst N kd sk seed fr F sl0 k).1 (bst N kd sk seed fr F sl0 k).2.1 (p + 1) := by
        have := rst_end he (N - (p + 1))
        rw [show p + 1 + (N - (p + 1)) = N by omega] at this
        exact this
      refine Or.inl ⟨x', (if p + 1 = 0 then -1000000000 else (rst N kd sk seed (fr + k) (F (fr + k)) (bst N kd sk seed fr F sl0 k).1 (bst N kd sk seed fr F sl0 k).2.1 (p + 1)).2.2.1), nI (p + 2), l11', l12', by rw [hst]; exact u1, by rw [hst]; exact u2, fun h => by rw [hst, he] at h; cases h⟩
