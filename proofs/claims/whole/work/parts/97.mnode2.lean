/-! THE REFERENCE'S nodes: what they come to -/
abbrev FNd : List (Nat × Option Nat) := [(108, some 6), (108, some 7), (108, some 8), (108, some 9), (108, some 10), (108, some 20), (121, none), (122, none), (123, none), (124, none), (125, none)]
def LoN (w v : Wd) (b : Nat) : Prop := ∀ i, i < b → gI v 121 i = gI w 121 i ∧ gI v 122 i = gI w 122 i ∧ gI v 123 i = gI w 123 i ∧ gI v 124 i = gI w 124 i ∧ gI v 125 i = gI w 125 i
theorem LoN.refl (w : Wd) (b : Nat) : LoN w w b := fun _ _ => ⟨rfl, rfl, rfl, rfl, rfl⟩
theorem LoN.trans {u v w : Wd} {b c : Nat} (h : LoN u v b) (g : LoN v w c) (hbc : b ≤ c) : LoN u w b := fun i hi => by
  obtain ⟨a1, a2, a3, a4, a5⟩ := h i hi
  obtain ⟨b1, b2, b3, b4, b5⟩ := g i (by omega)
  exact ⟨b1.trans a1, b2.trans a2, b3.trans a3, b4.trans a4, b5.trans a5⟩
theorem LoN.mono {w v : Wd} {b c : Nat} (h : LoN w v b) (hc : c ≤ b) : LoN w v c := fun i hi => h i (by omega)
theorem LoN.of {S : List (Nat × Option Nat)} {w v : Wd} (h : Fr S w v) (hs : dj S FN = true) (b : Nat) : LoN w v b := fun i _ => ⟨h.i 121 i (dj_off hs rfl), h.i 122 i (dj_off hs rfl), h.i 123 i (dj_off hs rfl), h.i 124 i (dj_off hs rfl), h.i 125 i (dj_off hs rfl)⟩
theorem LoN.agr {w v : Wd} {b k e : Nat} (h : LoN w v b) (he : e ≤ b) : Agr w v k e := ⟨fun i _ hi => by
  obtain ⟨a1, a2, a3, a4, -⟩ := h i (by omega)
  exact ⟨a1, a2, a3, a4⟩, fun i _ hi => (h i (by omega)).2.2.2.2⟩
theorem LoN.set {w v : Wd} {b a i : Nat} (h : LoN w v b) (x : Int32) (hi : b ≤ i) : LoN w (sI v a i x) b := fun j hj => by
  obtain ⟨a1, a2, a3, a4, a5⟩ := h j hj
  have e : ∀ c, gI (sI v a i x) c j = gI v c j := fun c => by
    rw [gI_sI]
    split
    · rw [if_neg (by omega)]
    · rfl
  exact ⟨(e _).trans a1, (e _).trans a2, (e _).trans a3, (e _).trans a4, (e _).trans a5⟩
def Sn (w : Wd) (T N : Nat) (t : Nat → Int32) (k : Tk) (c m : Nat) : Prop := Sm w T N t k ∧ gI w 108 20 = nI c ∧ gI w 108 11 = nI m ∧ m < 8
section MN2
variable {T N : Nat} {t : Nat → Int32} {k : Tk} {w : Wd} {c m : Nat}
theorem Sn.fr {S : List (Nat × Option Nat)} {v : Wd} (h : Sn w T N t k c m) (hf : Fr S w v) (hs : dj S [(108, some 0), (108, some 5), (108, some 6), (108, some 7), (108, some 8), (108, some 9), (108, some 10), (112, none)] = true) (hs2 : dj S [(108, some 20), (108, some 11)] = true) (ho : okS S = true) (hl : S.all (fun s => Nat.ble 64 s.1) = true) : Sn v T N t k c m :=
  ⟨h.1.fr hf hs ho hl, (hf.i 108 20 (dj_off hs2 rfl)).trans h.2.1, (hf.i 108 11 (dj_off hs2 rfl)).trans h.2.2.1, h.2.2.2⟩
theorem Sn.nx {k' : Tk} {v : Wd} (h : Sn w T N t k c m) (hf : Fr FMk w v) (hs : Sm v T N t k') : Sn v T N t k' c m :=
  ⟨hs, (hf.i 108 20 rfl).trans h.2.1, (hf.i 108 11 rfl).trans h.2.2.1, h.2.2.2⟩
theorem kNd_le (t : Nat → Int32) (k : Tk) : kNd t k ≤ 7 := by
  unfold kNd
  repeat (first | split | decide)
theorem m_make (d : Nat) (h : Sn w T N t k c m) (hc : c < 40) (hn : isNd t k = true) {x : Int32} (hx : ¬ x = 6) : ∃ y, val (195, d + 5, 0, [some (.ref 108), some (.int x), none, none, none, none], [], w) = val (195, d + 5, 255, [some (.ref 108), some (.int x), some (.int 1), some (.int (nI (41 * m + c))), none, none], [], y) ∧ Fr FNd w y ∧ Sn y T N t (nxt t T k) (c + 1) m ∧ LoN w y (41 * m + c) ∧ gI y 121 (41 * m + c) = nI (kNd t k) ∧ gI y 124 (41 * m + c) = -9 ∧ gI y 125 (41 * m + c) = -9 := by
  obtain ⟨h0, h20, h11, hm8⟩ := id h
  have hK : 41 * m + c < 369 := by omega
  have eK : 41 * nI m + nI c = nI (41 * m + c) := by rw [show (41 : Int32) = nI 41 from rfl, n_mul, n_add]
  have e0 := m_isNode d h0 x
  rw [if_pos hn, if_neg hx, h20, if_pos (show ¬ nI c = 40 from n_ne (b := 40) (by omega) (by omega) (by omega))] at e0
  have e1 : val (195, d + 5, 102, [some (.ref 108), some (.int x), some (.int 1), none, none, none], [], w) = val (195, d + 5, 106, [some (.ref 108), some (.int x), some (.int 1), none, none, none], [.int 1], w) := by
    refine (tr_195_102 d w _ _).trans ?_
    refine (val_call (pc2 := 106) rfl rfl rfl rfl (h0.1.rc _) (Nat.le_of_ble_eq_true rfl) (Nat.le_of_ble_eq_true rfl) rfl (m_good (d + 4) h0) rfl).trans ?_
    rfl
  have e2 := tr_195_106 d w h0.1 x 1 1 (fun _ => by rw [h11, h20, eK]; exact ik hK)
  rw [if_pos (show ¬ (1 : Int32) = 0 by decide), h11, h20, eK, nI_clamp (show 41 * m + c < 2 ^ 31 by omega), n_succ] at e2
  have f1 : Fr [(108, some 20), (124, none), (125, none)] w (sI (sI (sI w 108 20 (nI (c + 1))) 124 (41 * m + c) (-9)) 125 (41 * m + c) (-9)) := (((Fr.refl _ w).sI 108 20 _ rfl).sI 124 _ _ rfl).sI 125 _ _ rfl
  have hS1 : Sm (sI (sI (sI w 108 20 (nI (c + 1))) 124 (41 * m + c) (-9)) 125 (41 * m + c) (-9)) T N t k := h0.fr f1 rfl rfl rfl
  have e3 := m_kind d hS1 x 1 (i := 41 * m + c) hK
  have f2 : Fr FNd w (sI (sI (sI (sI w 108 20 (nI (c + 1))) 124 (41 * m + c) (-9)) 125 (41 * m + c) (-9)) 121 (41 * m + c) (nI (kNd t k))) := (f1.mono rfl).sI 121 _ _ rfl
  have l2 : LoN w (sI (sI (sI (sI w 108 20 (nI (c + 1))) 124 (41 * m + c) (-9)) 125 (41 * m + c) (-9)) 121 (41 * m + c) (nI (kNd t k))) (41 * m + c) := ((((LoN.of (S := [(108, some 20)]) ((Fr.refl _ w).sI 108 20 (nI (c + 1)) rfl) rfl _).set _ (Nat.le_refl _)).set _ (Nat.le_refl _)).set _ (Nat.le_refl _))
  have hS2 : Sm (sI (sI (sI (sI w 108 20 (nI (c + 1))) 124 (41 * m + c) (-9)) 125 (41 * m + c) (-9)) 121 (41 * m + c) (nI (kNd t k))) T N t k := hS1.fr (S := [(121, none)]) ((Fr.refl _ _).sI 121 _ _ rfl) rfl rfl rfl
  have g20 : gI (sI (sI (sI (sI w 108 20 (nI (c + 1))) 124 (41 * m + c) (-9)) 125 (41 * m + c) (-9)) 121 (41 * m + c) (nI (kNd t k))) 108 20 = nI (c + 1) := by
    rw [gI_ne _ _ _ _ (by decide), gI_ne _ _ _ _ (by decide), gI_ne _ _ _ _ (by decide), gI_same]
  have g121 : gI (sI (sI (sI (sI w 108 20 (nI (c + 1))) 124 (41 * m + c) (-9)) 125 (41 * m + c) (-9)) 121 (41 * m + c) (nI (kNd t k))) 121 (41 * m + c) = nI (kNd t k) := gI_same _ _ _ _
  have g124 : gI (sI (sI (sI (sI w 108 20 (nI (c + 1))) 124 (41 * m + c) (-9)) 125 (41 * m + c) (-9)) 121 (41 * m + c) (nI (kNd t k))) 124 (41 * m + c) = -9 := by
    rw [gI_ne _ _ _ _ (by decide), gI_ne _ _ _ _ (by decide), gI_same]
  have g125 : gI (sI (sI (sI (sI w 108 20 (nI (c + 1))) 124 (41 * m + c) (-9)) 125 (41 * m + c) (-9)) 121 (41 * m + c) (nI (kNd t k))) 125 (41 * m + c) = -9 := by
    rw [gI_ne _ _ _ _ (by decide), gI_same]
  have e4 := e0.trans (e1.trans (e2.trans e3))
  clear e0 e1 e2 e3 f1 hS1
  generalize sI (sI (sI (sI w 108 20 (nI (c + 1))) 124 (41 * m + c) (-9)) 125 (41 * m + c) (-9)) 121 (41 * m + c) (nI (kNd t k)) = z at e4 f2 l2 hS2 g20 g121 g124 g125
  obtain ⟨y, y1, y2, y3⟩ := m_nextS (d + 4) hS2
  refine ⟨y, e4.trans ?_, f2.trans (y2.mono rfl), ⟨y3, (y2.i 108 20 rfl).trans g20, (y2.i 108 11 rfl).trans ((f2.i 108 11 rfl).trans h11), hm8⟩, l2.trans (LoN.of y2 rfl _) (Nat.le_refl _), (y2.i 121 _ rfl).trans g121, (y2.i 124 _ rfl).trans g124, (y2.i 125 _ rfl).trans g125⟩
  refine (val_call (pc2 := 255) rfl rfl rfl rfl (hS2.1.rc _) (Nat.le_of_ble_eq_true rfl) (Nat.le_of_ble_eq_true rfl) rfl y1 rfl).trans ?_
  rfl
/-- refused before anything is made -/
theorem m_noNode (d : Nat) (h : Sn w T N t k c m) (x : Int32) (hbad : isNd t k = false ∨ x = 6 ∨ c = 40) : ∃ v, val (195, d + 5, 0, [some (.ref 108), some (.int x), none, none, none, none], [], w) = some (some (.int 0), v) ∧ Fr [(108, some 10)] w v ∧ gI v 108 10 = nI k.2.1 := by
  obtain ⟨h0, h20, h11, hm8⟩ := id h
  have e0 := m_isNode d h0 x
  rw [h20] at e0
  obtain ⟨v, x1, x2, x3⟩ := m_wrong (d + 4) h0
  have hWv := x2.fix rfl h0.1
  have e99 : ∀ l2 : Int32, val (195, d + 5, 99, [some (.ref 108), some (.int x), some (.int l2), none, none, none], [.ref 108], w) = some (some (.int 0), v) := by
    intro l2
    refine (val_call (pc2 := 102) rfl rfl rfl rfl (h0.1.rc _) (Nat.le_of_ble_eq_true rfl) (Nat.le_of_ble_eq_true rfl) rfl x1 rfl).trans ?_
    refine (tr_195_102 d v _ _).trans ?_
    refine (val_call (pc2 := 106) rfl rfl rfl rfl (hWv.rc _) (Nat.le_of_ble_eq_true rfl) (Nat.le_of_ble_eq_true rfl) rfl (m_bad (d + 4) hWv x3 (by have := h0.2.2.2.2.1.fr; have := h0.2.2.1.2.2.1; omega)) rfl).trans ?_
    refine (tr_195_106 d v hWv _ _ _ (fun h => absurd rfl h)).trans ?_
    rw [if_neg (fun h => h rfl)]
  refine ⟨v, e0.trans ?_, x2, x3⟩
  cases hn : isNd t k with
  | false => rw [if_neg (by decide)]; exact e99 0
  | true =>
    rw [if_pos rfl]
    by_cases hx : x = 6
    · rw [if_pos hx]; exact e99 1
    · have hc : c = 40 := by
        rcases hbad with h | h | h
        · rw [hn] at h; cases h
        · exact absurd h hx
        · exact h
      rw [if_neg hx, hc, if_neg (show ¬ ¬ nI 40 = 40 from fun h => h rfl)]
      exact e99 1
end MN2
