/-! CALLS: method, about, change -/
/-- below 151 nothing has changed but at places of S -/
def FrA (S : List (Nat × Option Nat)) (w v : Wd) : Prop := ∀ a k, a < 151 → inS S a k = false → Same w v a k
theorem Fr.a {S : List (Nat × Option Nat)} {w v : Wd} (h : Fr S w v) : FrA S w v := fun a k _ hs => h.2 a k hs
theorem Gw.a {S : List (Nat × Option Nat)} {n s : Nat} {w v : Wd} (h : Gw S n s w v) (hb : 151 ≤ wN w) : FrA S w v := fun a k ha hs => h.2.2 a k (by omega) hs
theorem FrA.i {S F : List (Nat × Option Nat)} {w v : Wd} (h : FrA S w v) (hs : dj S F = true) (a k : Nat) (ha : a < 151) (hf : inS F a k = true) : gI v a k = gI w a k := (h a k ha (dj_off hs hf)).1
theorem FrA.l {S F : List (Nat × Option Nat)} {w v : Wd} (h : FrA S w v) (hs : dj S F = true) (a k : Nat) (ha : a < 151) (hf : inS F a k = true) : gL v a k = gL w a k := (h a k ha (dj_off hs hf)).2.1
theorem FrA.d {S F : List (Nat × Option Nat)} {w v : Wd} (h : FrA S w v) (hs : dj S F = true) (a k : Nat) (ha : a < 151) (hf : inS F a k = true) : gD v a k = gD w a k := (h a k ha (dj_off hs hf)).2.2.1
theorem FrA.r {S F : List (Nat × Option Nat)} {w v : Wd} (h : FrA S w v) (hs : dj S F = true) (a k : Nat) (ha : a < 151) (hf : inS F a k = true) : gR v a k = gR w a k := (h a k ha (dj_off hs hf)).2.2.2
theorem Bl.fa {S : List (Nat × Option Nat)} {w v : Wd} {N : Nat} (h : Bl w N) (hf : FrA S w v) (hs : dj S [(64, some 0), (108, some 0)] = true) : Bl v N :=
  ⟨h.1, h.2.1, (hf.i hs 64 0 (by decide) rfl).trans h.2.2.1, (hf.i hs 108 0 (by decide) rfl).trans h.2.2.2⟩
theorem secT.fa {S : List (Nat × Option Nat)} {w v : Wd} (h : secT w) (hf : FrA S w v) (hs : dj S FT = true) : secT v := by
  obtain ⟨T, h1, h2, h3, h4⟩ := h
  exact ⟨T, h1, (hf.i hs 64 2 (by decide) rfl).trans h2, (hf.i hs 108 5 (by decide) rfl).trans h3, fun k hk => (hf.i hs 65 k (by decide) rfl).trans ((h4 k hk).trans (hf.i hs 112 k (by decide) rfl).symm)⟩
theorem secS.fa {S : List (Nat × Option Nat)} {w v : Wd} {N : Nat} (h : secS w N) (hf : FrA S w v) (hs : dj S FS = true) : secS v N := fun B hB =>
  (h B hB).keep (hf.i hs 97 B (by decide) rfl) (hf.i hs 98 B (by decide) rfl) (hf.i hs 145 B (by decide) rfl) (hf.i hs 146 B (by decide) rfl) (fun k _ => ⟨hf.l hs (100 + B) k (by omega) (FS_in hB), hf.l hs 147 _ (by decide) rfl, hf.i hs 148 _ (by decide) rfl⟩)
theorem secB.fa {S : List (Nat × Option Nat)} {w v : Wd} {c : Nat} (h : secB w c) (hf : FrA S w v) (hs : dj S FKd = true) : secB v c := by
  obtain ⟨kd, sk, sl, h1, h2, h3, h4⟩ := h
  exact ⟨kd, sk, sl, h1, h2.eq (fun c => hf.i hs 85 c (by decide) rfl) (fun c => hf.i hs 86 c (by decide) rfl) (fun c => hf.i hs 87 c (by decide) rfl), h3.eq (fun c => hf.i hs 137 c (by decide) rfl) (fun c => hf.i hs 138 c (by decide) rfl) (fun c => hf.i hs 139 c (by decide) rfl), h4⟩
theorem secRg.fa {S : List (Nat × Option Nat)} {w v : Wd} {N : Nat} (h : secRg w N) (hf : FrA S w v) (hs : dj S FRg = true) : secRg v N := by
  obtain ⟨bg, h1, h2, h3, h4, h5, h6, h7, m, G, h8, h9, h10⟩ := h
  refine ⟨bg, h1, (hf.i hs 84 7 (by decide) rfl).trans h2, (hf.i hs 108 49 (by decide) rfl).trans h3, (hf.i hs 84 8 (by decide) rfl).trans (h4.trans (hf.i hs 108 50 (by decide) rfl).symm), (hf.i hs 84 9 (by decide) rfl).trans (h5.trans (hf.i hs 108 51 (by decide) rfl).symm), (hf.i hs 84 10 (by decide) rfl).trans (h6.trans (hf.i hs 108 52 (by decide) rfl).symm), fun hh => h7 ((hf.i hs 108 47 (by decide) rfl).symm.trans hh), m, G, (hf.i hs 84 6 (by decide) rfl).trans h8, h9, fun i hi => ?_⟩
  obtain ⟨g1, g2, g3, g4, g5, g6, g7⟩ := h10 i hi
  refine ⟨g1, g2, (hf.i hs 88 i (by decide) rfl).trans g3, (hf.i hs 144 i (by decide) rfl).trans g4, (hf.i hs 89 i (by decide) rfl).trans g5, fun p hp => ?_, fun p hp => ?_⟩
  · rw [hf.i hs 140 _ (by decide) rfl, hf.i hs 90 _ (by decide) rfl]; exact g6 p hp
  · rw [hf.i hs 90 _ (by decide) rfl]; exact g7 p hp
/-- the methods are alike -/
def secM (w : Wd) (N : Nat) : Prop := ∃ mc, mc ≤ 8 ∧ gI w 64 4 = nI mc ∧ gI w 108 11 = nI mc ∧ ∀ m, m < mc → ∃ M rs c, gR w 66 m = some M ∧ MeV w N M rs c ∧ MeM w N m rs c ∧ gI w 114 m = nI c ∧ c ≤ 40 ∧ ∀ j, j < rs.length → RuOK N (rs.getD j ru0)
abbrev FMs : List (Nat × Option Nat) := [(64, some 4), (108, some 11), (66, none), (113, none), (114, none), (115, none), (116, none), (117, none), (118, none), (119, none), (120, none), (121, none), (122, none), (123, none), (124, none), (125, none)]
theorem hi_off {S : List (Nat × Option Nat)} (h : S.all (fun s => Nat.ble s.1 150) = true) {a k : Nat} (ha : 151 ≤ a) : inS S a k = false := inS_no (fun s hs e => by
  rw [List.all_eq_true] at h
  have := Nat.le_of_ble_eq_true (h s hs)
  omega)
theorem RuB.fa {S : List (Nat × Option Nat)} {w v : Wd} {N m q b : Nat} {u : Ru} (h : RuB w N m q u b) (hf : FrA S w v) (hs : dj S FMs = true) : RuB v N m q u b := by
  obtain ⟨h1, kn, e, h2, h3, h4, h5⟩ := h
  refine ⟨⟨(hf.i hs 115 q (by decide) rfl).trans h1.1, fun j hj => ?_⟩, kn, e, (hf.i hs 120 q (by decide) rfl).trans h2, h3.agr ⟨fun i _ _ => ⟨hf.i hs 121 i (by decide) rfl, hf.i hs 122 i (by decide) rfl, hf.i hs 123 i (by decide) rfl, hf.i hs 124 i (by decide) rfl⟩, fun i _ _ => hf.i hs 125 i (by decide) rfl⟩, h4, h5⟩
  obtain ⟨a1, a2, a3⟩ := h1.2 j hj
  exact ⟨(hf.i hs 116 _ (by decide) rfl).trans a1, (hf.i hs 117 _ (by decide) rfl).trans a2, fun hh => ⟨(hf.i hs 118 _ (by decide) rfl).trans (a3 hh).1, (hf.i hs 119 _ (by decide) rfl).trans (a3 hh).2⟩⟩
theorem MeM.fa {S : List (Nat × Option Nat)} {w v : Wd} {N m c : Nat} {rs : List Ru} (h : MeM w N m rs c) (hf : FrA S w v) (hs : dj S FMs = true) : MeM v N m rs c := ⟨(hf.i hs 113 m (by decide) rfl).trans h.1, fun j hj => (h.2 j hj).fa hf hs⟩
theorem secM.gw {S : List (Nat × Option Nat)} {n s : Nat} {w v : Wd} {N : Nat} (h : secM w N) (hg : Gw S n s w v) (hb : 151 ≤ wN w) (hs : dj S FMs = true) (hh : S.all (fun s => Nat.ble s.1 150) = true) : secM v N := by
  obtain ⟨mc, h1, h2, h3, h4⟩ := h
  have hf := hg.a hb
  refine ⟨mc, h1, (hf.i hs 64 4 (by decide) rfl).trans h2, (hf.i hs 108 11 (by decide) rfl).trans h3, fun m hm => ?_⟩
  obtain ⟨M, rs, c, g1, g2, g3, g4, g5, g6⟩ := h4 m hm
  exact ⟨M, rs, c, (hf.r hs 66 m (by decide) rfl).trans g1, g2.gw hg (fun a j ha => hi_off hh (by have := g2.1; omega)), g3.fa hf hs, (hf.i hs 114 m (by decide) rfl).trans g4, g5, g6⟩
theorem secM.fr {S : List (Nat × Option Nat)} {w v : Wd} {N : Nat} (h : secM w N) (hf : Fr S w v) (hb : 151 ≤ wN w) (hs : dj S FMs = true) (hh : S.all (fun s => Nat.ble s.1 150) = true) : secM v N := h.gw (Gw.of hf) hb hs hh
abbrev FMc : List (Nat × Option Nat) := [(64, some 2), (64, some 4), (66, none)]
theorem pRs_ok {N : Nat} {t : Nat → Int32} {T : Nat} : ∀ n rs c k q, TkIn t T k → c ≤ 40 → (∀ j, j < rs.length → RuOK N (rs.getD j ru0)) → n + rs.length = 20 → pRs N t T n rs c k = .ok q → (∀ j, j < q.1.length → RuOK N (q.1.getD j ru0)) ∧ q.2 ≤ 40 ∧ q.1.length ≤ 20
  | 0, rs, c, k, q, _, _, _, _, h => by cases h
  | n + 1, rs, c, k, q, hk, hc, hr, hn, h => by
    unfold pRs at h
    cases hp : pRu N t T c k with
    | error e => rw [hp] at h; cases h
    | ok p =>
      rw [hp] at h
      obtain ⟨p1, p2, p3, p4⟩ := pRu_ok hk hp
      have hl : (rs ++ [p.1]).length = rs.length + 1 := List.length_append
      have hr2 : ∀ j, j < (rs ++ [p.1]).length → RuOK N ((rs ++ [p.1]).getD j ru0) := fun j hj => by
        rw [hl] at hj
        rw [getD_snocR]
        by_cases e : j < rs.length
        · rw [if_pos e]; exact hr j e
        · rw [if_neg e, if_pos (by omega)]; exact p1
      dsimp only at h
      split at h
      · cases h
        exact ⟨hr2, p3, by rw [hl]; omega⟩
      · exact pRs_ok n _ _ _ q p4 p3 hr2 (by omega) h
/-- the m-th method is the object M -/
def LK (w : Wd) (m M : Nat) : Prop := ∃ mc, mc ≤ 8 ∧ gI w 108 11 = nI mc ∧ m < mc ∧ gR w 66 m = some M
theorem LK.fa {w v : Wd} {m M : Nat} {T : List (Nat × Option Nat)} (h : LK w m M) (hf : FrA T w v) (ht : dj T [(108, some 11), (66, none)] = true) : LK v m M := by
  obtain ⟨mc, h1, h2, h3, h4⟩ := h
  exact ⟨mc, h1, (hf.i ht 108 11 (by decide) rfl).trans h2, h3, (hf.r ht 66 m (by decide) rfl).trans h4⟩
theorem a_method {N : Nat} {w : Wd} (hW : Fix w) (hX : TX w) (hb : 151 ≤ wN w) (hB : Bl w N) (hT : secT w) (hM : secM w N) (d : Nat) : ∃ r w1 w2, val (11, d + 21, 0, [some (.ref 64), none, none], [], w) = some (some (.int r), w1) ∧ val (197, d + 21, 0, [some (.ref 108)], [], w1) = some (some (.int r), w2) ∧ Gw FMc 103 792 w w1 ∧ Fr FMm w1 w2 ∧ secT w2 ∧ secM w2 N ∧ ∀ m M, LK w m M → LK w2 m M := by
  obtain ⟨h3, hN, hn, hm⟩ := id hB
  obtain ⟨T, t1, t2, t3, t4⟩ := id hT
  obtain ⟨mc, m1, m2, m3, m4⟩ := id hM
  by_cases h8 : mc = 8
  · rw [h8] at m2 m3
    have f1 : Fr FMc w (sI w 64 2 0) := (Fr.refl _ w).sI 64 2 _ rfl
    have f1' : Fr [(64, some 2)] w (sI w 64 2 0) := (Fr.refl _ w).sI 64 2 _ rfl
    have hW1 := f1.fix rfl hW
    have f2 : Fr [(108, some 5)] (sI w 64 2 0) (sI (sI w 64 2 0) 108 5 0) := (Fr.refl _ _).sI 108 5 _ rfl
    refine ⟨-3, _, _, c_methodFull d hW m2, m_methodFull (d + 8) hW1 ((f1'.i 108 11 rfl).trans m3), (Gw.of f1).up (by omega) (by omega), f2.mono rfl, ⟨0, by omega, ?_, gI_same _ _ _ _, fun k hk => absurd hk (Nat.not_lt_zero k)⟩, (hM.fr f1' hb rfl rfl).fr f2 hb rfl rfl, fun m M h => (h.fa f1'.a rfl).fa f2.a rfl⟩
    rw [gI_ne _ _ _ _ (by decide), gI_same]; rfl
  · have hmc : mc < 8 := by omega
    obtain ⟨cy, cz⟩ := c_method (t := fun i => gI w 65 i) d h3 hN hW hX hb hn t2 t1 (fun _ _ => rfl) m2 hmc
    have md : ∀ {n s : Nat} {S : List (Nat × Option Nat)} {w1 : Wd}, Gw S n s w w1 → dj S [(108, some 5), (108, some 0), (112, none), (108, some 11)] = true → Md w1 T N (fun i => gI w 65 i) ∧ gI w1 108 11 = nI mc := fun hg hs => ⟨⟨((hg.a hb).i hs 108 5 (by decide) rfl).trans t3, ((hg.a hb).i hs 108 0 (by decide) rfl).trans hm, t1, fun i hi => ((hg.a hb).i hs 112 i (by decide) rfl).trans (t4 i hi).symm⟩, ((hg.a hb).i hs 108 11 (by decide) rfl).trans m3⟩
    have oldM : ∀ {w1 w2 : Wd}, Gw FMc 103 792 w w1 → (∀ m, m < mc → gR w1 66 m = gR w 66 m) → Fr FMm w1 w2 → Lo w1 w2 mc (20 * mc) (41 * mc) → (∀ j, j ≠ mc → gI w2 114 j = gI w1 114 j) → ∀ m, m < mc → ∃ M rs c, gR w2 66 m = some M ∧ MeV w2 N M rs c ∧ MeM w2 N m rs c ∧ gI w2 114 m = nI c ∧ c ≤ 40 ∧ ∀ j, j < rs.length → RuOK N (rs.getD j ru0) := by
      intro w1 w2 hg h66 hf hl h114 m hmm
      obtain ⟨M, rs, c, g1, g2, g3, g4, g5, g6⟩ := m4 m hmm
      have hb1 : 151 ≤ wN w1 := Nat.le_trans hb hg.1.1
      have e2 : MeV w2 N M rs c := (g2.gw hg (fun a j ha => hi_off rfl (by have := g2.1; omega))).gw (Gw.of hf) (fun a j ha => hi_off rfl (by have := g2.1; omega))
      refine ⟨M, rs, c, (hf.r 66 m rfl).trans ((h66 m hmm).trans g1), e2, ?_, (h114 m (by omega)).trans (((hg.a hb).i (F := [(114, none)]) rfl 114 m (by decide) rfl).trans g4), g5, g6⟩
      have g3' : MeM w1 N m rs c := ⟨((hg.a hb).i (F := [(113, none)]) rfl 113 m (by decide) rfl).trans g3.1, fun j hj => by
        obtain ⟨b1, kn, e, b2, b3, b4, b5⟩ := g3.2 j hj
        have hi : ∀ a k, inS [(115, none), (116, none), (117, none), (118, none), (119, none), (120, none), (121, none), (122, none), (123, none), (124, none), (125, none)] a k = true → a < 151 → gI w1 a k = gI w a k := fun a k h ha => (hg.a hb).i (F := [(115, none), (116, none), (117, none), (118, none), (119, none), (120, none), (121, none), (122, none), (123, none), (124, none), (125, none)]) rfl a k ha h
        refine ⟨⟨(hi 115 _ rfl (by decide)).trans b1.1, fun i hi2 => ?_⟩, kn, e, (hi 120 _ rfl (by decide)).trans b2, b3.agr ⟨fun i _ _ => ⟨hi 121 i rfl (by decide), hi 122 i rfl (by decide), hi 123 i rfl (by decide), hi 124 i rfl (by decide)⟩, fun i _ _ => hi 125 i rfl (by decide)⟩, b4, b5⟩
        obtain ⟨a1, a2, a3⟩ := b1.2 i hi2
        exact ⟨(hi 116 _ rfl (by decide)).trans a1, (hi 117 _ rfl (by decide)).trans a2, fun hh => ⟨(hi 118 _ rfl (by decide)).trans (a3 hh).1, (hi 119 _ rfl (by decide)).trans (a3 hh).2⟩⟩⟩
      have hlen := g2.2.2.2.2.2.2.2.1
      exact ⟨(hl.2.2.2 m (by omega)).trans g3'.1, fun j hj => (g3'.2 j hj).lo hl (by omega) (g6 j hj).2.1 (by omega)⟩
    cases hp : pMe N (fun i => gI w 65 i) T with
    | ok p =>
      obtain ⟨w1, x1, x2, x3, x4, x5, x6⟩ := cy p hp
      have hg : Gw FMc 103 792 w w1 := by
        refine ⟨x2.1, x2.2.1, fun a k ha hs => x2.2.2 a k ha ?_⟩
        cases e : inS (FMt mc) a k with
        | false => rfl
        | true =>
          obtain ⟨y, y1, y2, y3⟩ := inS_iff.mp e
          have : inS FMc a k = true := by
            simp only [List.mem_cons, List.mem_nil_iff, or_false] at y1
            rcases y1 with rfl | rfl | rfl
            · exact inS_iff.mpr ⟨(66, none), by simp, y2, Or.inl rfl⟩
            · exact inS_iff.mpr ⟨(64, some 2), by simp, y2, y3⟩
            · exact inS_iff.mpr ⟨(64, some 4), by simp, y2, y3⟩
          rw [this] at hs
          cases hs
      obtain ⟨d1, d2⟩ := md hg rfl
      have hW1 := hg.fix hb rfl hW
      have hX1 : TX w1 := fun k hk => by
        obtain ⟨h1, h2, h3⟩ := hX k hk
        exact ⟨(hg.r (by omega) (lo_off rfl (by omega))).trans h1, (hg.i (by omega) (lo_off rfl (by omega))).trans h2, fun j hj => (hg.i (by omega) (lo_off rfl (by omega))).trans (h3 j hj)⟩
      obtain ⟨my, mz⟩ := m_method (m := mc) (d + 8) h3 hN hW1 hX1 d1 d2 hmc
      obtain ⟨w2, y1, y2, y3, y4, y5, y6, y7, y8⟩ := my p hp
      obtain ⟨k1, k2, k3⟩ := pRs_ok 20 [] 0 _ p (tok_TkIn (fun i => gI w 65 i) (Nat.zero_le T)) (by omega) (fun j hj => absurd hj (Nat.not_lt_zero j)) rfl hp
      have h66 : ∀ m, m ≠ mc → gR w1 66 m = gR w 66 m := fun m hmm => x2.r (by omega) (inS_no (fun s hs e => by
        simp only [List.mem_cons, List.mem_nil_iff, or_false] at hs
        rcases hs with rfl | rfl | rfl
        · exact ⟨fun h => (by cases h), fun h => (by cases h; exact hmm rfl)⟩
        · exact absurd (show 64 = 66 from e) (by decide)
        · exact absurd (show 64 = 66 from e) (by decide)))
      refine ⟨nI mc, w1, w2, x1, y1, hg, y2, ⟨0, by omega, (y2.i 64 2 rfl).trans x3, y3, fun k hk => absurd hk (Nat.not_lt_zero k)⟩, ⟨mc + 1, by omega, (y2.i 64 4 rfl).trans x4, y4, fun m hmm => ?_⟩, fun m M hl => ?_⟩
      rotate_left
      · obtain ⟨mc', l1, l2, l3, l4⟩ := hl
        have e : mc = mc' := (n_inj (by omega) (by omega)).mp (m3.symm.trans l2)
        exact ⟨mc + 1, by omega, y4, by omega, (y2.r 66 m rfl).trans ((h66 m (by omega)).trans l4)⟩
      by_cases e : m < mc
      · exact oldM hg (fun m hm => h66 m (by omega)) y2 y5 y6 m e
      · have em : m = mc := by omega
        subst em
        exact ⟨wN w + 1, p.1, p.2, (y2.r 66 m rfl).trans x5, x6.gw (Gw.of y2) (fun a j ha => hi_off rfl (by omega)), y8, y7, k2, k1⟩
    | error e =>
      obtain ⟨w1, x1, x2, x3⟩ := cz e hp
      have hg : Gw FMc 103 792 w w1 := x2.sub (fun s hs _ => by rw [List.mem_singleton.mp hs]; simp)
      obtain ⟨d1, d2⟩ := md hg rfl
      have hW1 := hg.fix hb rfl hW
      have hX1 : TX w1 := fun k hk => by
        obtain ⟨h1, h2, h3⟩ := hX k hk
        exact ⟨(hg.r (by omega) (lo_off rfl (by omega))).trans h1, (hg.i (by omega) (lo_off rfl (by omega))).trans h2, fun j hj => (hg.i (by omega) (lo_off rfl (by omega))).trans (h3 j hj)⟩
      obtain ⟨my, mz⟩ := m_method (m := mc) (d + 8) h3 hN hW1 hX1 d1 d2 hmc
      obtain ⟨w2, y1, y2, y3, y4, y5, y6⟩ := mz e hp
      refine ⟨_, w1, w2, x1, y1, hg, y2, ⟨0, by omega, (y2.i 64 2 rfl).trans x3, y3, fun k hk => absurd hk (Nat.not_lt_zero k)⟩, ⟨mc, m1, (y2.i 64 4 rfl).trans ((x2.i (by omega) rfl).trans m2), y4, oldM hg (fun m hm => x2.r (by omega) rfl) y2 y5 y6⟩, fun m M hl => ?_⟩
      obtain ⟨mc', l1, l2, l3, l4⟩ := hl
      have e : mc = mc' := (n_inj (by omega) (by omega)).mp (m3.symm.trans l2)
      exact ⟨mc, m1, y4, by omega, (y2.r 66 m rfl).trans ((x2.r (by omega) rfl).trans l4)⟩
