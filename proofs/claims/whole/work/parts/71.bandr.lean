/-! THE BAND: a row and a ringing, the class -/
theorem CB_next {N : Nat} (hN : N ≤ 8) {kd sk : Nat → Nat} {seed : Int32} {fr : Nat} {F : Nat → Nat → Nat} {sl0 : Nat → Nat} {k : Nat} {w v v2 : Wd}
    (hC : CB w N kd sk seed fr F sl0 k) (hR : CR (sI (sI (sI w 84 7 (nI (k + 1))) 88 k (nI (pkN N (F (fr + k))))) 89 k 0) v kd sk k (sm (fun i => (brw N kd sk seed fr F sl0 i).2.2.2.2.1) k) (brw N kd sk seed fr F sl0 k))
    (f2 : Fr [(84, some 9), (84, some 10), (87, none)] v v2) (g1 : RgC v2 kd sk (bst N kd sk seed fr F sl0 (k + 1)).1) (g2 : (bst N kd sk seed fr F sl0 (k + 1)).2.1 = (brw N kd sk seed fr F sl0 k).2.1) (g3 : gI v2 84 9 = nI (bst N kd sk seed fr F sl0 (k + 1)).2.2.1) (g4 : gI v2 84 10 = (bst N kd sk seed fr F sl0 (k + 1)).2.2.2.1) : CB v2 N kd sk seed fr F sl0 (k + 1) := by
  obtain ⟨-, -, -, -, -, -, c7⟩ := hC
  obtain ⟨r1, r2, r3, r4, r5, r6, r7, r8⟩ := hR
  refine ⟨g1, ?_, ?_, g3, g4, ?_, fun i hi => ?_⟩
  · rw [f2.i 84 7 rfl, r1.i 84 7 rfl, gI_ne _ _ _ _ (by decide), gI_ne _ _ _ _ (by decide), gI_same]
  · rw [f2.i 84 8 rfl, r3, g2]
  · rw [f2.i 84 6 rfl, r4]; rfl
  · have hpl : ∀ j, (brw N kd sk seed fr F sl0 j).2.2.2.2.1 ≤ N := fun j => rst_pl N |>.1
    by_cases e : i = k
    · subst e
      refine ⟨?_, ?_, fun p hp => ?_⟩
      · rw [f2.i 88 i rfl, r1.i 88 i rfl, gI_ne _ _ _ _ (by decide), gI_same]
      · rw [f2.i 89 i rfl, r5]
      · rw [f2.i 90 _ rfl, r7 p hp]
    · obtain ⟨h1, h2, h3⟩ := c7 i (by omega)
      refine ⟨?_, ?_, fun p hp => ?_⟩
      · rw [f2.i 88 i rfl, r1.i 88 i rfl, gI_ne _ _ _ _ (by decide), gI_nk _ _ _ e, gI_ne _ _ _ _ (by decide), h1]
      · rw [f2.i 89 i rfl, r6 i e, gI_nk _ _ _ e, gI_ne _ _ _ _ (by decide), gI_ne _ _ _ _ (by decide), h2]
      · have := hpl i
        rw [f2.i 90 _ rfl, r8 _ (by omega), gI_ne _ _ _ _ (by decide), gI_ne _ _ _ _ (by decide), gI_ne _ _ _ _ (by decide), h3 p hp]
theorem sm_bd {g : Nat → Nat} {m : Nat} (h : ∀ i, g i ≤ m) : ∀ n, sm g n ≤ m * n
  | 0 => Nat.zero_le _
  | n + 1 => by
    have := sm_bd h n
    have := h n
    show sm g n + g n ≤ m * (n + 1)
    rw [Nat.mul_succ]
    omega
theorem c_row {N : Nat} (h3 : 3 ≤ N) (hN : N ≤ 8) {kd sk : Nat → Nat} (hK : KS kd sk) {seed : Int32} {fr : Nat} {F : Nat → Nat → Nat} {sl0 : Nat → Nat} {M : Nat} (hM : ∀ b, sl0 b ≤ M) (hM2 : M ≤ 2 ^ 21) {k : Nat} (hk : k < 400) (hr : fr + k ≤ 2000) (hf : IsRow N (F (fr + k))) {w : Wd} (hW : Fix w)
    (hC : CB w N kd sk seed fr F sl0 k) (hl : (bst N kd sk seed fr F sl0 k).2.2.2.2 = false) (d : Nat) :
    ∃ w', val (54, d + 2, 0, [some (.ref 84), some (.int (nI N)), some (.int (nI (pkN N (F (fr + k))))), some (.int (nI (fr + k))), some (.int seed), none, none, none, none, none], [], w) = some (some (.int (if (bst N kd sk seed fr F sl0 (k + 1)).2.2.2.2 = true then 0 else 1)), w') ∧ CB w' N kd sk seed fr F sl0 (k + 1) ∧ Fr FBc w w' := by
  obtain ⟨b1, b2, b3⟩ := bst_bd (N := N) (kd := kd) (sk := sk) (seed := seed) (fr := fr) (F := F) hM k
  have hNk : N * k ≤ 8 * 400 := Nat.mul_le_mul hN (by omega)
  have hC0 := hC
  obtain ⟨c1, c2, c3, c4, c5, c6, c7⟩ := hC
  have hpl : ∀ j, (brw N kd sk seed fr F sl0 j).2.2.2.2.1 ≤ N := fun j => rst_pl N |>.1
  have hsm := sm_bd hpl k
  have e0 := tr_54 d w hW (nI N) (nI (pkN N (F (fr + k)))) (nI (fr + k)) seed (fun _ => by rw [c2]; exact inB_nI hk (by omega))
  rw [c2, if_pos (show nI k < 400 from n_lt (b := 400) hk (by omega)), nI_clamp (n := k) (by omega), n_succ] at e0
  have f1 : Fr FBc w (sI (sI (sI w 84 7 (nI (k + 1))) 88 k (nI (pkN N (F (fr + k))))) 89 k 0) := (((Fr.refl _ w).sI 84 7 _ rfl).sI 88 _ _ rfl).sI 89 _ _ rfl
  have hW1 := f1.fix rfl hW
  have i0 : CR (sI (sI (sI w 84 7 (nI (k + 1))) 88 k (nI (pkN N (F (fr + k))))) 89 k 0) (sI (sI (sI w 84 7 (nI (k + 1))) 88 k (nI (pkN N (F (fr + k))))) 89 k 0) kd sk k (sm (fun i => (brw N kd sk seed fr F sl0 i).2.2.2.2.1) k) (rst N kd sk seed (fr + k) (F (fr + k)) (bst N kd sk seed fr F sl0 k).1 (bst N kd sk seed fr F sl0 k).2.1 0) := by
    refine ⟨Fr.refl _ _, c1.eq (fun c => ?_) (fun c => ?_) (fun c => ?_), ?_, ?_, ?_, fun _ _ => rfl, fun i hi => absurd hi (Nat.not_lt_zero i), fun _ _ => rfl⟩
    · rw [gI_ne _ _ _ _ (by decide), gI_ne _ _ _ _ (by decide), gI_ne _ _ _ _ (by decide)]
    · rw [gI_ne _ _ _ _ (by decide), gI_ne _ _ _ _ (by decide), gI_ne _ _ _ _ (by decide)]
    · rw [gI_ne _ _ _ _ (by decide), gI_ne _ _ _ _ (by decide), gI_ne _ _ _ _ (by decide)]
    · rw [gI_ne _ _ _ _ (by decide), gI_ne _ _ _ _ (by decide), gI_nk _ _ _ (by decide), c3]; rfl
    · rw [gI_ne _ _ _ _ (by decide), gI_ne _ _ _ _ (by decide), gI_nk _ _ _ (by decide), c6]; rfl
    · rw [gI_same]; rfl
  have hstep : ∀ p, p < N → (∀ b, (rst N kd sk seed (fr + k) (F (fr + k)) (bst N kd sk seed fr F sl0 k).1 (bst N kd sk seed fr F sl0 k).2.1 p).1 b + 1 < 2 ^ 31) ∧ (rst N kd sk seed (fr + k) (F (fr + k)) (bst N kd sk seed fr F sl0 k).1 (bst N kd sk seed fr F sl0 k).2.1 p).2.1 + 1 < 2 ^ 31 := by
    intro p hp
    have h4 := rst_sl (N := N) (kd := kd) (sk := sk) (seed := seed) (r := fr + k) (f := F (fr + k)) (cl0 := (bst N kd sk seed fr F sl0 k).2.1) b1 p
    have h5 := rst_cl (N := N) (kd := kd) (sk := sk) (seed := seed) (r := fr + k) (f := F (fr + k)) (sl0 := (bst N kd sk seed fr F sl0 k).1) (cl0 := (bst N kd sk seed fr F sl0 k).2.1) p
    exact ⟨fun b => by have := h4 b; omega, by omega⟩
  have b4 := bst.eq_2 N kd sk seed fr F sl0 k
  rw [if_neg (by rw [hl]; decide)] at b4
  have hlp := loopUp (α := Wd × Option Value × Option Value) (c := fun p q => (54, d + 2, 47, [some (.ref 84), some (.int (nI N)), some (.int (nI (pkN N (F (fr + k))))), some (.int (nI (fr + k))), some (.int seed), some (.int (nI k)), some (.int (rst N kd sk seed (fr + k) (F (fr + k)) (bst N kd sk seed fr F sl0 k).1 (bst N kd sk seed fr F sl0 k).2.1 p).2.2.1), some (.int (nI p)), q.2.1, q.2.2], [], q.1))
    (P := fun p q => (rst N kd sk seed (fr + k) (F (fr + k)) (bst N kd sk seed fr F sl0 k).1 (bst N kd sk seed fr F sl0 k).2.1 p).2.2.2.1 = false ∧ CR (sI (sI (sI w 84 7 (nI (k + 1))) 88 k (nI (pkN N (F (fr + k))))) 89 k 0) q.1 kd sk k (sm (fun i => (brw N kd sk seed fr F sl0 i).2.2.2.2.1) k) (rst N kd sk seed (fr + k) (F (fr + k)) (bst N kd sk seed fr F sl0 k).1 (bst N kd sk seed fr F sl0 k).2.1 p))
    (R := fun r => ∃ w', r = some (some (.int (if (bst N kd sk seed fr F sl0 (k + 1)).2.2.2.2 = true then 0 else 1)), w') ∧ CB w' N kd sk seed fr F sl0 (k + 1) ∧ Fr FBc w w') (N := N) ?_ ?_ (sI (sI (sI w 84 7 (nI (k + 1))) 88 k (nI (pkN N (F (fr + k))))) 89 k 0, none, none) ⟨rfl, i0⟩
  · obtain ⟨w', e1, e2, e3⟩ := hlp
    exact ⟨w', e0.trans e1, e2, e3⟩
  · rintro ⟨v, l8, l9⟩ ⟨q1, q2⟩
    dsimp only at q1 q2
    have q3 := q2
    rw [if_neg (by rw [q1]; decide)] at b4
    refine ⟨v, ?_, CB_next hN hC0 q3 (Fr.refl _ v) (by rw [b4]; exact q2.2.1) (by rw [b4]; rfl) ?_ ?_, f1.trans (q2.1.mono rfl)⟩
    · refine (tr_54_47 d v _ _ _ _ _ _ _ _ _).trans ?_
      rw [if_pos (n_le (Nat.le_refl N) (by omega)), b4]
      rfl
    · rw [b4, q2.1.i 84 9 rfl, gI_ne _ _ _ _ (by decide), gI_ne _ _ _ _ (by decide), gI_nk _ _ _ (by decide), c4]
    · rw [b4, q2.1.i 84 10 rfl, gI_ne _ _ _ _ (by decide), gI_ne _ _ _ _ (by decide), gI_nk _ _ _ (by decide), c5]
  · rintro p ⟨v, l8, l9⟩ hp ⟨q1, q2⟩
    dsimp only at q1 q2 ⊢
    obtain ⟨s1, s2⟩ := hstep p hp
    obtain ⟨v', l8', l9', g1, g2⟩ := c_blow h3 hN hK hr hf (k := k) (B0 := sm (fun i => (brw N kd sk seed fr F sl0 i).2.2.2.2.1) k) hk hW1 hp (by omega) s1 s2 q1 q2 d l8 l9
    by_cases he : (rst N kd sk seed (fr + k) (F (fr + k)) (bst N kd sk seed fr F sl0 k).1 (bst N kd sk seed fr F sl0 k).2.1 (p + 1)).2.2.2.1 = true
    · rw [if_pos he] at g2
      have hst : brw N kd sk seed fr F sl0 k = rst N kd sk seed (fr + k) (F (fr + k)) (bst N kd sk seed fr F sl0 k).1 (bst N kd sk seed fr F sl0 k).2.1 (p + 1) := by
        have := rst_end he (N - (p + 1))
        rw [show p + 1 + (N - (p + 1)) = N by omega] at this
        exact this
      have hst' : rst N kd sk seed (fr + k) (F (fr + k)) (bst N kd sk seed fr F sl0 k).1 (bst N kd sk seed fr F sl0 k).2.1 N = rst N kd sk seed (fr + k) (F (fr + k)) (bst N kd sk seed fr F sl0 k).1 (bst N kd sk seed fr F sl0 k).2.1 (p + 1) := hst
      rw [if_pos (by rw [hst']; exact he)] at b4
      have hpl1 : (rst N kd sk seed (fr + k) (F (fr + k)) (bst N kd sk seed fr F sl0 k).1 (bst N kd sk seed fr F sl0 k).2.1 (p + 1)).2.2.2.2.1 = p + 1 := by
        have r1 := rst.eq_2 N kd sk seed (fr + k) (F (fr + k)) (bst N kd sk seed fr F sl0 k).1 (bst N kd sk seed fr F sl0 k).2.1 p
        rw [if_neg (by rw [q1]; decide)] at r1
        rw [r1]
        split <;> rfl
      rw [hst', hpl1, Nat.add_sub_cancel] at b4
      have hfp := hf.1 p hp
      have hWv' := g1.1.fix rfl hW1
      have x9 : gI v' 84 9 = nI (bst N kd sk seed fr F sl0 k).2.2.1 := by
        rw [g1.1.i 84 9 rfl, gI_ne _ _ _ _ (by decide), gI_ne _ _ _ _ (by decide), gI_nk _ _ _ (by decide), c4]
      have hb9 : inB (nI (F (fr + k) p + 1)) 9 = true := inB_nI (by omega) (by omega)
      have hbc : (nI (F (fr + k) p + 1)).toNatClampNeg = F (fr + k) p + 1 := nI_clamp (by omega)
      have e5 := tr_56 d v' hWv' (nI N) (nI (F (fr + k) p + 1))
      rw [gI_nk _ _ _ (by decide), x9] at e5
      have fv1 : Fr [(84, some 9), (84, some 10), (87, none)] v' (sI v' 84 10 (nI (F (fr + k) p + 1))) := (Fr.refl _ _).sI 84 10 _ rfl
      have hWx := fv1.fix rfl hWv'
      have rx : RgC (sI v' 84 10 (nI (F (fr + k) p + 1))) kd sk (rst N kd sk seed (fr + k) (F (fr + k)) (bst N kd sk seed fr F sl0 k).1 (bst N kd sk seed fr F sl0 k).2.1 (p + 1)).1 := g1.2.1.eq (fun c => gI_ne _ _ _ _ (by decide)) (fun c => gI_ne _ _ _ _ (by decide)) (fun c => gI_ne _ _ _ _ (by decide))
      have q5 : (5 ≤ nI (bst N kd sk seed fr F sl0 k).2.2.1) ↔ 5 ≤ (bst N kd sk seed fr F sl0 k).2.2.1 := n_le_iff (a := 5) (by omega) (by omega)
      have g1' := g1
      rw [← hst] at g1'
      -- the band fires out, or there are words
      by_cases hw : 5 ≤ (bst N kd sk seed fr F sl0 k).2.2.1 ∨ cdr kd N = false
      · rw [if_pos hw] at b4
        have e6 : val (56, d + 1, 0, [some (.ref 84), some (.int (nI N)), some (.int (nI (F (fr + k) p + 1)))], [], v') = some (some (.int 0), sI v' 84 10 (nI (F (fr + k) p + 1))) := by
          refine e5.trans ?_
          by_cases h5 : 5 ≤ (bst N kd sk seed fr F sl0 k).2.2.1
          · rw [if_pos (q5.mpr h5)]
          · have hc : cdr kd N = false := by
              rcases hw with h | h
              · exact absurd h h5
              · exact h
            rw [if_neg (fun hh => h5 (q5.mp hh))]
            refine (val_call (pc2 := 18) rfl rfl rfl rfl (rcvO hWx.k84 (by decide)) (Nat.le_of_ble_eq_true rfl) (Nat.le_of_ble_eq_true rfl) rfl (c_cond d hWx hK rx hN) rfl).trans ?_
            refine (tr_56_18 d _ hWx _ _ _ (fun _ => hb9)).trans ?_
            rw [hc, if_neg (fun hh => hh rfl)]
        refine Or.inl ⟨sI v' 84 10 (nI (F (fr + k) p + 1)), ?_, CB_next hN hC0 g1' fv1 ?_ ?_ ?_ ?_, (f1.trans (g1.1.mono rfl)).trans (fv1.mono rfl)⟩
        · rw [g2]
          refine (val_call (pc2 := 168) rfl rfl rfl rfl (rcvO hWv'.k84 (by decide)) (Nat.le_of_ble_eq_true rfl) (Nat.le_of_ble_eq_true rfl) rfl e6 rfl).trans ?_
          refine (tr_54_168 d _ _ _ _ _ _ _ _ _ _ (s0 := 0) (hy1 := rfl)).trans ?_
          rw [b4]
          rfl
        · rw [b4]; exact rx
        · rw [b4, hst]
        · rw [b4, gI_nk _ _ _ (by decide), x9]
        · rw [b4, gI_same]
      · rw [if_neg hw] at b4
        have h5 : ¬ 5 ≤ (bst N kd sk seed fr F sl0 k).2.2.1 := fun h => hw (Or.inl h)
        have hc : cdr kd N = true := by cases h : cdr kd N with | true => rfl | false => exact absurd (Or.inr h) hw
        have fv2 : Fr [(84, some 9), (84, some 10), (87, none)] v' (sI (sI (sI v' 84 10 (nI (F (fr + k) p + 1))) 84 9 (nI ((bst N kd sk seed fr F sl0 k).2.2.1 + 1))) 87 (F (fr + k) p + 1) 0) := (fv1.sI 84 9 _ rfl).sI 87 _ _ rfl
        have e6 : val (56, d + 1, 0, [some (.ref 84), some (.int (nI N)), some (.int (nI (F (fr + k) p + 1)))], [], v') = some (some (.int 1), sI (sI (sI v' 84 10 (nI (F (fr + k) p + 1))) 84 9 (nI ((bst N kd sk seed fr F sl0 k).2.2.1 + 1))) 87 (F (fr + k) p + 1) 0) := by
          refine e5.trans ?_
          rw [if_neg (fun hh => h5 (q5.mp hh))]
          refine (val_call (pc2 := 18) rfl rfl rfl rfl (rcvO hWx.k84 (by decide)) (Nat.le_of_ble_eq_true rfl) (Nat.le_of_ble_eq_true rfl) rfl (c_cond d hWx hK rx hN) rfl).trans ?_
          refine (tr_56_18 d _ hWx _ _ _ (fun _ => hb9)).trans ?_
          rw [hc, if_pos (by decide), hbc, gI_nk _ _ _ (by decide), x9, n_succ]
        refine Or.inl ⟨_, ?_, CB_next hN hC0 g1' fv2 ?_ ?_ ?_ ?_, (f1.trans (g1.1.mono rfl)).trans (fv2.mono rfl)⟩
        · rw [g2]
          refine (val_call (pc2 := 168) rfl rfl rfl rfl (rcvO hWv'.k84 (by decide)) (Nat.le_of_ble_eq_true rfl) (Nat.le_of_ble_eq_true rfl) rfl e6 rfl).trans ?_
          refine (tr_54_168 d _ _ _ _ _ _ _ _ _ _ (s0 := 1) (hy1 := rfl)).trans ?_
          rw [b4]
          rfl
        · rw [b4]
          refine rx.sl (fun c => ?_) (fun c => ?_) (fun c => ?_)
          · rw [gI_ne _ _ _ _ (by decide), gI_ne _ _ _ _ (by decide)]
          · rw [gI_ne _ _ _ _ (by decide), gI_ne _ _ _ _ (by decide)]
          · by_cases e : c = F (fr + k) p + 1
            · rw [e, gI_same, if_pos rfl]; rfl
            · rw [gI_nk _ _ _ e, gI_ne _ _ _ _ (by decide), if_neg e]
        · rw [b4, hst]
        · rw [b4, gI_ne _ _ _ _ (by decide), gI_same]
        · rw [b4, gI_ne _ _ _ _ (by decide), gI_nk _ _ _ (by decide), gI_same]
    · rw [if_neg he] at g2
      have he' : (rst N kd sk seed (fr + k) (F (fr + k)) (bst N kd sk seed fr F sl0 k).1 (bst N kd sk seed fr F sl0 k).2.1 (p + 1)).2.2.2.1 = false := by
        cases h : (rst N kd sk seed (fr + k) (F (fr + k)) (bst N kd sk seed fr F sl0 k).1 (bst N kd sk seed fr F sl0 k).2.1 (p + 1)).2.2.2.1 with
        | false => rfl
        | true => exact absurd h he
      exact Or.inr ⟨(v', l8', some (.int l9')), g2, he', g1⟩
