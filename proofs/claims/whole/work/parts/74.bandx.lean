/-! THE BAND: a ringing, both -/
theorem first_bst {N : Nat} {kd sk : Nat → Nat} {seed : Int32} {fr : Nat} {F : Nat → Nat → Nat} {sl0 : Nat → Nat} {K : Nat} (h : ∀ k, k < K → (bst N kd sk seed fr F sl0 (k + 1)).2.2.2.2 = false) : ∀ k, k ≤ K → (bst N kd sk seed fr F sl0 k).2.2.2.2 = false
  | 0, _ => rfl
  | k + 1, hk => h k (by omega)
section BANDX
variable {N : Nat} {kd sk : Nat → Nat} {seed : Int32} {fr : Nat} {F : Nat → Nat → Nat} {sl0 : Nat → Nat} {M K rows : Nat}
theorem c_bandL (h3 : 3 ≤ N) (hN : N ≤ 8) (hK : KS kd sk) (hM : ∀ b, sl0 b ≤ M) (hM2 : M ≤ 2 ^ 21) (hr : rows ≤ 400) (hfr : fr + rows ≤ 2001) (hKr : K ≤ rows) (h1 : ∀ k, k < K → (bst N kd sk seed fr F sl0 (k + 1)).2.2.2.2 = false) (h2 : K < rows → (bst N kd sk seed fr F sl0 (K + 1)).2.2.2.2 = true)
    {w : Wd} (hW : Fix w) (hn : gI w 64 0 = nI N) (hrow : ∀ k, k < rows → IsRow N (F (fr + k)) ∧ gI w 68 (fr + k) = nI (pkN N (F (fr + k)))) (hC : CB w N kd sk seed fr F sl0 0) (d : Nat) :
    ∃ w', val (28, d + 3, 39, [some (.ref 64), some (.int seed), some (.int (nI fr)), some (.int (nI rows)), some (.int 0), some (.int (nI fr))], [], w) = some (some (.int (if K = rows then nI rows else -10 - nI K)), w') ∧ CB w' N kd sk seed fr F sl0 (if K = rows then K else K + 1) ∧ Fr FBc w w' := by
  have step : ∀ k v, k < rows → CB v N kd sk seed fr F sl0 k → Fr FBc w v → (bst N kd sk seed fr F sl0 k).2.2.2.2 = false → ∃ v', CB v' N kd sk seed fr F sl0 (k + 1) ∧ Fr FBc w v' ∧ val (28, d + 3, 39, [some (.ref 64), some (.int seed), some (.int (nI fr)), some (.int (nI rows)), some (.int (nI k)), some (.int (nI (fr + k)))], [], v) = (if (bst N kd sk seed fr F sl0 (k + 1)).2.2.2.2 = true then some (some (.int (-10 - nI k)), v') else val (28, d + 3, 39, [some (.ref 64), some (.int seed), some (.int (nI fr)), some (.int (nI rows)), some (.int (nI (k + 1))), some (.int (nI (fr + (k + 1))))], [], v')) := by
    intro k v hk c1 c2 c3
    have hWv := c2.fix rfl hW
    obtain ⟨r1, r2⟩ := hrow k hk
    obtain ⟨v', e1, e2, e3⟩ := c_row h3 hN hK hM hM2 (k := k) (by omega) (by omega) r1 hWv c1 c3 d
    refine ⟨v', e2, c2.trans e3, ?_⟩
    refine (tr_28_39 (d) v hWv _ _ _ _ _ (fun _ => inB_nI (by omega) (by omega))).trans ?_
    rw [n_add, if_neg (n_nle (show fr + k < fr + rows by omega) (by omega)), nI_clamp (show fr + k < 2 ^ 31 by omega), c2.i 68 _ rfl, c2.i 64 0 rfl, r2, hn]
    refine (val_call (pc2 := 71) rfl rfl rfl rfl (rcvO hWv.k84 (by decide)) (Nat.le_of_ble_eq_true rfl) (Nat.le_of_ble_eq_true rfl) rfl e1 rfl).trans ?_
    refine (tr_28_71 d v' _ _ _ _ _ _).trans ?_
    by_cases hb : (bst N kd sk seed fr F sl0 (k + 1)).2.2.2.2 = true
    · rw [if_pos hb, if_pos hb, if_neg (by decide)]
    · rw [if_neg hb, if_neg hb, if_pos (by decide), n_succ, n_succ, Nat.add_assoc]
  refine loopUp (c := fun k v => (28, d + 3, 39, [some (.ref 64), some (.int seed), some (.int (nI fr)), some (.int (nI rows)), some (.int (nI k)), some (.int (nI (fr + k)))], [], v)) (P := fun k v => CB v N kd sk seed fr F sl0 k ∧ Fr FBc w v) (R := fun r => ∃ w', r = some (some (.int (if K = rows then nI rows else -10 - nI K)), w') ∧ CB w' N kd sk seed fr F sl0 (if K = rows then K else K + 1) ∧ Fr FBc w w') (N := K) ?_ ?_ w ⟨hC, Fr.refl _ _⟩
  · rintro v ⟨c1, c2⟩
    by_cases hk : K = rows
    · refine ⟨v, ?_, by rw [if_pos hk]; exact c1, c2⟩
      refine (tr_28_39 (d) v (c2.fix rfl hW) _ _ _ _ _ (fun hh => absurd (by rw [hk, n_add]; exact n_le (Nat.le_refl _) (by omega)) hh)).trans ?_
      rw [n_add, hk, if_pos (n_le (Nat.le_refl _) (by omega)), if_pos rfl]
    · obtain ⟨v', e1, e2, e3⟩ := step K v (by omega) c1 c2 (first_bst h1 K (Nat.le_refl _))
      rw [if_pos (h2 (by omega))] at e3
      refine ⟨v', ?_, by rw [if_neg hk]; exact e1, e2⟩
      rw [if_neg hk]
      exact e3
  · rintro k v hk ⟨c1, c2⟩
    obtain ⟨v', e1, e2, e3⟩ := step k v (by omega) c1 c2 (first_bst h1 k (by omega))
    rw [if_neg (by rw [h1 k hk]; decide)] at e3
    exact Or.inr ⟨v', e3, e1, e2⟩
theorem m_bandL (h3 : 3 ≤ N) (hN : N ≤ 8) (hK : KS kd sk) (hM : ∀ b, sl0 b ≤ M) (hM2 : M ≤ 2 ^ 21) (hr : rows ≤ 400) (hfr : fr + rows ≤ 2001) (hKr : K ≤ rows) (h1 : ∀ k, k < K → (bst N kd sk seed fr F sl0 (k + 1)).2.2.2.2 = false) (h2 : K < rows → (bst N kd sk seed fr F sl0 (K + 1)).2.2.2.2 = true)
    {w : Wd} (hW : Fix w) (hn : gI w 108 0 = nI N) (hrow : ∀ k, k < rows → IsRow N (F (fr + k)) ∧ gI w 127 (fr + k) = nI (dcN N (F (fr + k)))) (hC : MB w N kd sk seed fr F sl0 0) (d : Nat) :
    ∃ w', val (227, d + 1, 115, [some (.ref 108), some (.int seed), some (.int (nI fr)), some (.int (nI rows)), some (.int (if cdr kd N = true then 1 else 0)), some (.int 0), some (.int 0), none, none, none, none, none, none], [], w) = some (some (.int (if K = rows then nI rows else -10 - nI K)), w') ∧ MB w' N kd sk seed fr F sl0 (if K = rows then K else K + 1) ∧ Fr FBm w w' := by
  have step : ∀ k v t7 t8 t9 t10 t11 t12, k < rows → MB v N kd sk seed fr F sl0 k → Fr FBm w v → (bst N kd sk seed fr F sl0 k).2.2.2.2 = false → ∃ v', MB v' N kd sk seed fr F sl0 (k + 1) ∧ Fr FBm w v' ∧ (((bst N kd sk seed fr F sl0 (k + 1)).2.2.2.2 = true ∧ val (227, d + 1, 115, [some (.ref 108), some (.int seed), some (.int (nI fr)), some (.int (nI rows)), some (.int (if cdr kd N = true then 1 else 0)), some (.int (nI k)), some (.int (nI k)), t7, t8, t9, t10, t11, t12], [], v) = some (some (.int (-10 - nI k)), v')) ∨
      ((bst N kd sk seed fr F sl0 (k + 1)).2.2.2.2 = false ∧ ∃ s7 s8 s9 s10 s11 s12, val (227, d + 1, 115, [some (.ref 108), some (.int seed), some (.int (nI fr)), some (.int (nI rows)), some (.int (if cdr kd N = true then 1 else 0)), some (.int (nI k)), some (.int (nI k)), t7, t8, t9, t10, t11, t12], [], v) = val (227, d + 1, 115, [some (.ref 108), some (.int seed), some (.int (nI fr)), some (.int (nI rows)), some (.int (if cdr kd N = true then 1 else 0)), some (.int (nI (k + 1))), some (.int (nI (k + 1))), s7, s8, s9, s10, s11, s12], [], v'))) := by
    intro k v t7 t8 t9 t10 t11 t12 hk c1 c2 c3
    have hWv := c2.fix rfl hW
    obtain ⟨r1, r2⟩ := hrow k hk
    obtain ⟨v', e2, e3, e1⟩ := m_row h3 hN hK hM hM2 (k := k) (by omega) (by omega) (fun i hi => (hrow i (by omega)).1) hWv ((c2.i 108 0 rfl).trans hn) ((c2.i 127 _ rfl).trans r2) c1 c3 d (rows := rows) hk hr t7 t8 t9 t10 t11 t12
    exact ⟨v', e2, c2.trans e3, e1⟩
  refine loopUp (α := Wd × Option Value × Option Value × Option Value × Option Value × Option Value × Option Value) (c := fun k v => (227, d + 1, 115, [some (.ref 108), some (.int seed), some (.int (nI fr)), some (.int (nI rows)), some (.int (if cdr kd N = true then 1 else 0)), some (.int (nI k)), some (.int (nI k)), v.2.1, v.2.2.1, v.2.2.2.1, v.2.2.2.2.1, v.2.2.2.2.2.1, v.2.2.2.2.2.2], [], v.1)) (P := fun k v => MB v.1 N kd sk seed fr F sl0 k ∧ Fr FBm w v.1) (R := fun r => ∃ w', r = some (some (.int (if K = rows then nI rows else -10 - nI K)), w') ∧ MB w' N kd sk seed fr F sl0 (if K = rows then K else K + 1) ∧ Fr FBm w w') (N := K) ?_ ?_ (w, none, none, none, none, none, none) ⟨hC, Fr.refl _ _⟩
  · rintro ⟨v, t7, t8, t9, t10, t11, t12⟩ ⟨c1, c2⟩
    dsimp only at c1 c2 ⊢
    by_cases hk : K = rows
    · refine ⟨v, ?_, by rw [if_pos hk]; exact c1, c2⟩
      refine (tr_227_115 d v _ _ _ _ _ _ _ _ _ _ _ _).trans ?_
      rw [hk, if_pos (n_le (Nat.le_refl _) (by omega)), if_pos rfl]
    · obtain ⟨v', e1, e2, e3⟩ := step K v t7 t8 t9 t10 t11 t12 (by omega) c1 c2 (first_bst h1 K (Nat.le_refl _))
      rcases e3 with ⟨-, e3⟩ | ⟨e3, -⟩
      · refine ⟨v', ?_, by rw [if_neg hk]; exact e1, e2⟩
        rw [if_neg hk]
        exact e3
      · rw [h2 (by omega)] at e3; cases e3
  · rintro k ⟨v, t7, t8, t9, t10, t11, t12⟩ hk ⟨c1, c2⟩
    dsimp only at c1 c2 ⊢
    obtain ⟨v', e1, e2, e3⟩ := step k v t7 t8 t9 t10 t11 t12 (by omega) c1 c2 (first_bst h1 k (by omega))
    rcases e3 with ⟨e3, -⟩ | ⟨-, s7, s8, s9, s10, s11, s12, e3⟩
    · rw [h1 k hk] at e3; cases e3
    · exact Or.inr ⟨(v', s7, s8, s9, s10, s11, s12), e3, e1, e2⟩
end BANDX
