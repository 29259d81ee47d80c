/-! METHOD, the class's side: the reader made, the call -/
def nr5 (w : Wd) : Wd := sI (sI (sR (nw (nw (nw w 4 8) 3 3) 26 20) (wN w + 1) 0 (some (wN w + 2))) (wN w + 1) 1 0) (wN w + 1) 2 0
def nr7 (w : Wd) : Wd := sI (sI (sI (sI (sR (nr5 w) (wN w) 0 (some (wN w + 1))) (wN w) 1 (-1)) (wN w) 5 0) (wN w) 6 0) (wN w) 7 0
def nre (w : Wd) (T N : Int32) : Wd := sI (sI (sR (nr7 w) (wN w) 2 (some 65)) (wN w) 3 T) (wN w) 4 N
theorem gI_sR' (w : Wd) (a k b j : Nat) (x : Option Nat) : gI (sR w a k x) b j = gI w b j := rfl
theorem nre_g (w : Wd) (T N : Int32) : Gw [] 3 31 w (nre w T N) := by
  have a5 : Gw [] 3 31 w (nr5 w) := (((((((Gw.refl [] w).nw 4 8).nw 3 3).nw 26 20).sRn _ _ (Nat.le_succ _)).sIn _ _ (Nat.le_succ _)).sIn _ _ (Nat.le_succ _))
  have a7 : Gw [] 3 31 w (nr7 w) := ((((a5.sRn _ _ (Nat.le_refl _)).sIn _ _ (Nat.le_refl _)).sIn _ _ (Nat.le_refl _)).sIn _ _ (Nat.le_refl _)).sIn _ _ (Nat.le_refl _)
  exact ((a7.sRn _ _ (Nat.le_refl _)).sIn _ _ (Nat.le_refl _)).sIn _ _ (Nat.le_refl _)
theorem wK_sI (w : Wd) (a k : Nat) (x : Int32) : wK (sI w a k x) = wK w := rfl
theorem wK_sR (w : Wd) (a k : Nat) (x : Option Nat) : wK (sR w a k x) = wK w := rfl
theorem gR_sI (w : Wd) (a k : Nat) (x : Int32) : gR (sI w a k x) = gR w := rfl
theorem wN_nw (w : Wd) (t n : Nat) : wN (nw w t n) = wN w + 1 := rfl
theorem nr5_K (w : Wd) (a : Nat) : wK (nr5 w) a = if a = wN w + 1 + 1 then (26, 20) else if a = wN w + 1 then (3, 3) else if a = wN w then (4, 8) else wK w a := by
  unfold nr5
  rw [wK_sI, wK_sI, wK_sR, nw_K, nw_K, nw_K, wN_nw, wN_nw]
theorem nre_K (w : Wd) (T N : Int32) : wK (nre w T N) = wK (nr5 w) := by
  unfold nre nr7
  rw [wK_sI, wK_sI, wK_sR, wK_sI, wK_sI, wK_sI, wK_sI, wK_sR]
theorem nre_R (w : Wd) (T N : Int32) (b k : Nat) : gR (nre w T N) b k = gR (sR (sR (nr5 w) (wN w) 0 (some (wN w + 1))) (wN w) 2 (some 65)) b k := by
  unfold nre nr7
  rw [gR_sI, gR_sI, gR_sR, gR_sI, gR_sI, gR_sI, gR_sI, gR_sR, gR_sR, gR_sR]
theorem nre_I (w : Wd) (T N : Int32) (j : Nat) : gI (nre w T N) (wN w) j = if j = 4 then N else if j = 3 then T else if j = 7 then 0 else if j = 6 then 0 else if j = 5 then 0 else if j = 1 then -1 else gI (nr5 w) (wN w) j := by
  unfold nre nr7
  rw [gI_sI, if_pos rfl, gI_sI, if_pos rfl, gI_sR', gI_sI, if_pos rfl, gI_sI, if_pos rfl, gI_sI, if_pos rfl, gI_sI, if_pos rfl, gI_sR']
theorem nre_M (w : Wd) (T N : Int32) (j : Nat) : gI (nre w T N) (wN w + 1) j = gI (nr5 w) (wN w + 1) j := by
  have w1 : wN w + 1 ≠ wN w := by omega
  unfold nre nr7
  rw [gI_ne _ _ _ _ w1, gI_ne _ _ _ _ w1, gI_sR', gI_ne _ _ _ _ w1, gI_ne _ _ _ _ w1, gI_ne _ _ _ _ w1, gI_ne _ _ _ _ w1, gI_sR']
theorem nr5_M (w : Wd) : gI (nr5 w) (wN w + 1) 1 = 0 ∧ gI (nr5 w) (wN w + 1) 2 = 0 ∧ gR (nr5 w) (wN w + 1) 0 = some (wN w + 2) := by
  unfold nr5
  refine ⟨?_, ?_, ?_⟩
  · rw [gI_nk _ _ _ (by decide), gI_same]
  · rw [gI_same]
  · rw [gR_sI, gR_sI, gR_same]
theorem nre_f (w : Wd) (T N : Int32) : wK (nre w T N) (wN w) = (4, 8) ∧ wK (nre w T N) (wN w + 1) = (3, 3) ∧ wK (nre w T N) (wN w + 2) = (26, 20) ∧ gR (nre w T N) (wN w) 0 = some (wN w + 1) ∧ gR (nre w T N) (wN w) 2 = some 65 ∧ gR (nre w T N) (wN w + 1) 0 = some (wN w + 2) ∧ gI (nre w T N) (wN w + 1) 1 = 0 ∧ gI (nre w T N) (wN w + 1) 2 = 0 ∧ gI (nre w T N) (wN w) 1 = -1 ∧ gI (nre w T N) (wN w) 3 = T ∧ gI (nre w T N) (wN w) 4 = N ∧ gI (nre w T N) (wN w) 7 = 0 := by
  have w1 : wN w + 1 ≠ wN w := by omega
  obtain ⟨m1, m2, m3⟩ := nr5_M w
  refine ⟨?_, ?_, ?_, ?_, ?_, ?_, ?_, ?_, ?_, ?_, ?_, ?_⟩
  · rw [nre_K, nr5_K, if_neg (by omega), if_neg (by omega), if_pos rfl]
  · rw [nre_K, nr5_K, if_neg (by omega), if_pos rfl]
  · rw [nre_K, nr5_K, if_pos rfl]
  · rw [nre_R, gR_nk _ _ _ (by decide), gR_same]
  · rw [nre_R, gR_same]
  · rw [nre_R, gR_ne _ _ _ _ w1, gR_ne _ _ _ _ w1, m3]
  · rw [nre_M, m1]
  · rw [nre_M, m2]
  · rw [nre_I, if_neg (by decide), if_neg (by decide), if_neg (by decide), if_neg (by decide), if_neg (by decide), if_pos rfl]
  · rw [nre_I, if_neg (by decide), if_pos rfl]
  · rw [nre_I, if_pos rfl]
  · rw [nre_I, if_neg (by decide), if_neg (by decide), if_pos rfl]
theorem Gw.then {S S' : List (Nat × Option Nat)} {n s m q : Nat} {u v w : Wd} (h : Gw S n s u v) (g : Gw S' m q v w) (hs : ∀ a k, a < wN u → inS S a k = false → inS S' a k = false) : Gw S (n + m) (s + q) u w := by
  obtain ⟨⟨a1, a2, a3⟩, a4, a5⟩ := h
  obtain ⟨⟨b1, b2, b3⟩, b4, b5⟩ := g
  exact ⟨⟨by omega, by omega, by omega⟩, fun a ha => (b4 a (by omega)).trans (a4 a ha), fun a k ha h => (a5 a k ha h).trans (b5 a k (by omega) (hs a k ha h))⟩
theorem Gw.fix {S : List (Nat × Option Nat)} {n s : Nat} {w v : Wd} (h : Gw S n s w v) (hb : 151 ≤ wN w) (hS : okS S = true) (hW : Fix w) : Fix v := by
  obtain ⟨o1, o2⟩ := okS_off hS
  refine ⟨fun a h1 h2 h3 => ?_, fun a k b hr => ?_, fun j => ?_⟩
  · rw [h.2.1 a (by omega)]; exact hW.1 a h1 h2 h3
  · have ha : a < 151 := by
      have := rfx_in hr
      unfold fxA at this
      rw [List.any_eq_true] at this
      obtain ⟨x, hx, hb⟩ := this
      have e := Nat.eq_of_beq_eq_true hb
      simp only [List.mem_cons, List.mem_nil_iff, or_false] at hx
      omega
    rw [h.r (by omega) (o2 a k b hr)]; exact hW.2.1 a k b hr
  · rw [h.i (by omega) (o1 j)]; exact hW.2.2 j
theorem c_newReader (d : Nat) {w : Wd} (hb : 151 ≤ wN w) (T N : Int32) : val (74, d + 2, 0, [some (.ref (wN w)), some (.ref 65), some (.int T), some (.int N)], [], nw w 4 8) = some (none, nre w T N) := by
  have kM : wK (nw (nw w 4 8) 3 3) (wN w + 1) = (3, 3) := if_pos rfl
  have kM2 : wK (nw (nw (nw w 4 8) 3 3) 26 20) (wN w + 1) = (3, 3) := (nwK_ne (by show wN w + 1 ≠ wN w + 2; omega)).trans kM
  have ko : wK (nr5 w) (wN w) = (4, 8) := by
    rw [nr5_K, if_neg (by omega), if_neg (by omega), if_pos rfl]
  have e71 : val (71, d + 1, 0, [some (.ref (wN w + 1))], [], nw (nw w 4 8) 3 3) = some (none, nr5 w) := by
    refine (tr_71 d _ (wN w + 1) (by omega)).trans ?_
    refine (val_g (c2 := (71, d + 1, 10, [some (.ref (wN w + 1))], [.ref (wN w + 2), .ref (wN w + 1)], nw (nw (nw w 4 8) 3 3) 26 20)) rfl).trans ?_
    refine (val_pf (w := nw (nw (nw w 4 8) 3 3) 26 20) (w2 := sR (nw (nw (nw w 4 8) 3 3) 26 20) (wN w + 1) 0 (some (wN w + 2))) (n := 3) rfl kM2 (svR (b := wN w + 2) (by omega))).trans ?_
    exact tr_71_13 d _ (wN w + 1) 3 kM2
  refine (tr_74 d _ (wN w) 65 T N (by omega)).trans ?_
  refine (val_g (c2 := (74, d + 2, 8, [some (.ref (wN w)), some (.ref 65), some (.int T), some (.int N)], [.ref (wN w + 1), .ref (wN w)], nw (nw w 4 8) 3 3)) rfl).trans ?_
  refine (tr_74_8 d _ (wN w) 65 T N (wN w + 1) (wN w)).trans ?_
  refine (val_call (pc2 := 12) rfl rfl rfl rfl (rcvO (w := nw (nw w 4 8) 3 3) kM (by decide)) (Nat.le_of_ble_eq_true rfl) (Nat.le_of_ble_eq_true rfl) rfl e71 rfl).trans ?_
  refine (val_pf (w := nr5 w) (w2 := sR (nr5 w) (wN w) 0 (some (wN w + 1))) (n := 8) rfl ko (svR (b := wN w + 1) (by omega))).trans ?_
  refine (tr_74_15 d (sR (nr5 w) (wN w) 0 (some (wN w + 1))) (wN w) 65 T N 8 ko).trans ?_
  refine (val_pf (w := nr7 w) (w2 := sR (nr7 w) (wN w) 2 (some 65)) (n := 8) rfl ko (svR (b := 65) (by omega))).trans ?_
  exact tr_74_40 d (sR (nr7 w) (wN w) 2 (some 65)) (wN w) 65 T N 8 ko
abbrev FMt (m : Nat) : List (Nat × Option Nat) := [(66, some m), (64, some 2), (64, some 4)]
theorem c_method (d : Nat) {N T m : Nat} (h3 : 3 ≤ N) (hN : N ≤ 8) {t : Nat → Int32} {w : Wd} (hW : Fix w) (hX : TX w) (hb : 151 ≤ wN w) (hn : gI w 64 0 = nI N) (hT : gI w 64 2 = nI T) (hT6 : T ≤ 600) (ht : ∀ i, i < T → gI w 65 i = t i) (hm : gI w 64 4 = nI m) (hm8 : m < 8) :
    (∀ q, pMe N t T = .ok q → ∃ v, val (11, d + 21, 0, [some (.ref 64), none, none], [], w) = some (some (.int (nI m)), v) ∧ Gw (FMt m) 103 792 w v ∧ gI v 64 2 = 0 ∧ gI v 64 4 = nI (m + 1) ∧ gR v 66 m = some (wN w + 1) ∧ MeV v N (wN w + 1) q.1 q.2) ∧
    (∀ e, pMe N t T = .error e → ∃ v, val (11, d + 21, 0, [some (.ref 64), none, none], [], w) = some (some (.int (-10 - nI e)), v) ∧ Gw [(64, some 2)] 103 792 w v ∧ gI v 64 2 = 0) := by
  have f0 : Fr [(64, some 2)] w (sI w 64 2 0) := (Fr.refl _ w).sI 64 2 _ rfl
  have hW0 := f0.fix rfl hW
  have hX0 := hX.fr f0 rfl
  have e0 := tr_11 (d + 11) w hW
  rw [gI_nk _ _ _ (by decide), hm, if_pos (show nI m < 8 from n_lt (b := 8) hm8 (by omega)), hT] at e0
  have n0 : gI (sI w 64 2 0) 64 0 = nI N := (gI_nk _ _ _ (by decide)).trans hn
  have m0 : gI (sI w 64 2 0) 64 4 = nI m := (gI_nk _ _ _ (by decide)).trans hm
  have t0 : ∀ i, i < T → gI (sI w 64 2 0) 65 i = t i := fun i hi => (gI_ne _ _ _ _ (by decide)).trans (ht i hi)
  have z0 : gI (sI w 64 2 0) 64 2 = 0 := gI_same _ _ _ _
  have b0 : wN (sI w 64 2 0) = wN w := rfl
  generalize sI w 64 2 0 = w0 at f0 hW0 hX0 e0 n0 m0 t0 z0 b0
  have hg := nre_g w0 (nI T) (nI N)
  obtain ⟨r1, r2, r3, r4, r5, r6, r7, r8, r9, r10, r11, r12⟩ := nre_f w0 (nI T) (nI N)
  have hnN : wN (nre w0 (nI T) (nI N)) = wN w + 3 := by show wN w0 + 3 = _; rw [b0]
  have e1 : val (11, d + 21, 0, [some (.ref 64), none, none], [], w) = val (11, d + 21, 40, [some (.ref 64), some (.int (nI T)), some (.ref (wN w0))], [.ref (wN w0)], nre w0 (nI T) (nI N)) := by
    refine e0.trans ?_
    refine (val_g (c2 := (11, d + 21, 25, [some (.ref 64), some (.int (nI T)), none], [.ref (wN w0)], nw w0 4 8)) rfl).trans ?_
    have hWn : Fix (nw w0 4 8) := ((Gw.refl [] w0).nw 4 8).fixO (by omega) (fun _ _ _ => rfl) hW0
    refine (tr_11_25 (d + 11) _ hWn _ (wN w0)).trans ?_
    rw [show gI (nw w0 4 8) 64 0 = nI N from (nwI_ne (by omega)).trans n0]
    refine (val_call (pc2 := 38) rfl rfl rfl rfl (rcvO (w := nw w0 4 8) (show wK (nw w0 4 8) (wN w0) = (4, 8) from if_pos rfl) (by decide)) (Nat.le_of_ble_eq_true rfl) (Nat.le_of_ble_eq_true rfl) rfl (c_newReader (d + 18) (by omega) (nI T) (nI N)) rfl).trans ?_
    exact tr_11_38 (d + 11) _ _ (wN w0)
  have hWr := hg.fixO (by omega) (fun _ _ _ => rfl) hW0
  have hXr := hg.txO (by omega) (fun _ _ _ => rfl) hX0
  have hz : ∀ {k}, gI (nre w0 (nI T) (nI N)) 64 k = gI w0 64 k := fun {k} => hg.i (by omega) rfl
  have tr : ∀ i, i < T → gI (nre w0 (nI T) (nI N)) 65 i = t i := fun i hi => (hg.i (by omega) rfl).trans (t0 i hi)
  have n1 := (hz (k := 0)).trans n0
  have m1 := (hz (k := 4)).trans m0
  have z1 := (hz (k := 2)).trans z0
  have fg : Gw [(64, some 2)] 3 32 w (nre w0 (nI T) (nI N)) := (Gw.of f0).trans (hg.sub (fun x hx => by cases hx)) |>.up (by omega) (by omega)
  clear e0 hz hg
  generalize nre w0 (nI T) (nI N) = x at r1 r2 r3 r4 r5 r6 r7 r8 r9 r10 r11 r12 hnN e1 hWr hXr tr n1 m1 z1 fg
  rw [b0] at r1 r2 r3 r4 r5 r6 r7 r8 r9 r10 r11 r12 e1
  have hR : Rd x (wN w) (wN w + 1) T N t := ⟨hb, r1, r5, r4, r10, r11, hT6, tr⟩
  obtain ⟨y, q1, q2, q3⟩ := c_next (d + 17) hWr hR (p := 0) r12 (Nat.zero_le T)
  have fo : ∀ a j, a ≠ wN w → inS (FTk (wN w)) a j = false := fun a j h => ftk_off (Or.inl h)
  have hin0 := tok_TkIn t (Nat.zero_le T)
  have hS : Sc y (wN w) (wN w + 1) T N t (tok t T 0) 0 := ⟨q2.fixO (fun a j h => fo a j (by omega)) hWr, q2.txO (fun a j h => fo a j (by omega)) hXr, hR.tk q2, q3, hin0, (q2.i _ 1 (ftk_off (Or.inr (by decide)))).trans r9, by rw [q2.k]; exact r2, by omega, by omega, (q2.i _ 2 (fo _ _ (by omega))).trans r8⟩
  have hV : MeV y N (wN w + 1) [] 0 := ⟨by omega, by rw [q2.1.2.1, hnN]; exact Nat.le_refl _, by rw [q2.k]; exact r2, by rw [q2.k]; exact r3, (q2.r _ 0 (fo _ _ (by omega))).trans r6, (q2.i _ 1 (fo _ _ (by omega))).trans r7, (q2.i _ 2 (fo _ _ (by omega))).trans r8, Nat.zero_le _, fun j hj => absurd hj (Nat.not_lt_zero j)⟩
  obtain ⟨yy, zz⟩ := c_rules (o := wN w) (M := wN w + 1) d h3 hN (Nat.lt_succ_self _) 20 [] y (tok t T 0) 0 rfl hS (by omega) (by rw [q2.1.2.1, hnN]; rfl) hV (Or.inl rfl)
  have e87 : ∀ u, val (87, d + 20, 6, [some (.ref (wN w)), some (.int (nI ([] : List Ru).length))], [], y) = some (none, u) → val (11, d + 21, 0, [some (.ref 64), none, none], [], w) = val (11, d + 21, 43, [some (.ref 64), some (.int (nI T)), some (.ref (wN w))], [], u) := by
    intro u hu
    have e9 : val (87, d + 20, 0, [some (.ref (wN w)), none], [], x) = some (none, u) := by
      refine (tr_87 (d + 11) x (wN w)).trans ?_
      refine (val_call (pc2 := 4) rfl rfl rfl rfl (rcvO r1 (by decide)) (Nat.le_of_ble_eq_true rfl) (Nat.le_of_ble_eq_true rfl) rfl q1 rfl).trans ?_
      exact (tr_87_4 (d + 11) y (wN w)).trans hu
    refine e1.trans ?_
    refine (val_call (pc2 := 43) rfl rfl rfl rfl (rcvO r1 (by decide)) (Nat.le_of_ble_eq_true rfl) (Nat.le_of_ble_eq_true rfl) rfl e9 rfl).trans ?_
    rfl
  have gxy : Gw [(64, some 2)] 3 32 w y := (fg.then (Gw.of q2) (fun a k ha _ => fo a k (by omega))).up (by omega) (by omega)
  have fme : ∀ a k, a < wN w → inS (FMe (wN w) (wN w + 1)) a k = false := fun a k ha => inS_no (fun s hs e => by
    simp only [List.mem_cons, List.mem_nil_iff, or_false] at hs
    rcases hs with rfl | rfl | rfl | rfl | rfl | rfl | rfl | rfl
    · exact absurd (show wN w + 1 + 1 = a from e) (by omega)
    · exact absurd (show wN w + 1 = a from e) (by omega)
    · exact absurd (show wN w + 1 = a from e) (by omega)
    all_goals exact absurd (show wN w = a from e) (by omega))
  have old : ∀ u, Gw [(64, some 2)] 103 792 w u → gI u 64 2 = gI y 64 2 → gI u 64 2 = 0 := fun u _ h => h.trans ((q2.i 64 2 (fo 64 2 (by omega))).trans z1)
  unfold pMe
  refine ⟨fun q hq => ?_, fun e he => ?_⟩
  · obtain ⟨u, u1, u2, u3, u4, u5⟩ := yy q hq
    have gu : Gw [(64, some 2)] 103 792 w u := (gxy.then u2 (fun a k ha _ => fme a k ha)).up (by omega) (by omega)
    have hWu := gu.fix hb rfl hW
    have x64 : ∀ {k}, gI u 64 k = gI y 64 k := fun {k} => u2.i (by rw [q2.1.2.1]; omega) (fme 64 k (by omega))
    have y64 : ∀ {k}, gI y 64 k = gI x 64 k := fun {k} => q2.i 64 k (fo 64 k (by omega))
    have m64 : gI u 64 4 = nI m := x64.trans (y64.trans m1)
    refine ⟨sI (sR u 66 m (some (wN w + 1))) 64 4 (nI (m + 1)), ?_, ?_, ?_, gI_same _ _ _ _, ?_, ?_⟩
    · refine (e87 u u1).trans ((tr_11_43 (d + 11) u hWu _ (wN w) 8 u4.2.1 (wN w + 1) u4.2.2.2.1).trans ?_)
      rw [u3, if_pos (by decide), m64]
      refine (val_aasM (w := u) rfl (hWu.k 66 (by decide) (by decide)) u5.2.2.1 (inB_nI hm8 (by omega))).trans ?_
      have f66 : Fr [(66, some m)] u (sR u 66 m (some (wN w + 1))) := (Fr.refl _ u).sR 66 m _ (inS_iff.mpr ⟨(66, some m), by simp, rfl, Or.inr rfl⟩)
      have o66 : ∀ a j, a ≠ 66 → inS [(66, some m)] a j = false := fun a j h => inS_no (fun s hs e => by rw [List.mem_singleton.mp hs] at e; exact absurd e.symm h)
      have hWz : Fix (sR u 66 m (some (wN w + 1))) := by
        refine ⟨fun a h1 h2 h3 => ?_, fun a k b hr => ?_, fun j => ?_⟩
        · exact hWu.1 a h1 h2 h3
        · refine (gR_ne _ _ _ _ ?_).trans (hWu.2.1 a k b hr)
          intro e
          subst e
          have := rfx_in hr
          revert this
          decide
        · exact hWu.2.2 j
      rw [nI_clamp (n := m) (by omega)]
      refine (tr_11_71 (d + 11) _ hWz _ (wN w)).trans ?_
      rw [show gI (sR u 66 m (some (wN w + 1))) 64 4 = nI m from m64, n_succ]
    · have g0 : Gw (FMt m) 103 792 w u := gu.sub (fun s hs _ => by rw [List.mem_singleton.mp hs]; simp)
      have f9 : Fr (FMt m) u (sI (sR u 66 m (some (wN w + 1))) 64 4 (nI (m + 1))) := ((Fr.refl _ u).sR 66 m _ (inS_iff.mpr ⟨(66, some m), by simp, rfl, Or.inr rfl⟩)).sI 64 4 _ (inS_iff.mpr ⟨(64, some 4), by simp, rfl, Or.inr rfl⟩)
      exact (g0.trans (Gw.of f9)).up (by omega) (by omega)
    · exact (gI_nk _ _ _ (by decide)).trans (old u gu x64)
    · exact gR_same _ _ _ _
    · exact u5.gw (S := FMt m) (Gw.of (((Fr.refl _ u).sR 66 m _ (inS_iff.mpr ⟨(66, some m), by simp, rfl, Or.inr rfl⟩)).sI 64 4 _ (inS_iff.mpr ⟨(64, some 4), by simp, rfl, Or.inr rfl⟩))) (fun a j ha => inS_no (fun s hs e => by
        simp only [List.mem_cons, List.mem_nil_iff, or_false] at hs
        rcases hs with rfl | rfl | rfl
        · exact absurd (show 66 = a from e) (by omega)
        · exact absurd (show 64 = a from e) (by omega)
        · exact absurd (show 64 = a from e) (by omega)))
  · obtain ⟨u, u1, u2, u3, u4, u5⟩ := zz e he
    have gu : Gw [(64, some 2)] 103 792 w u := (gxy.then u2 (fun a k ha _ => fme a k ha)).up (by omega) (by omega)
    have hWu := gu.fix hb rfl hW
    have x64 : ∀ {k}, gI u 64 k = gI y 64 k := fun {k} => u2.i (by rw [q2.1.2.1]; omega) (fme 64 k (by omega))
    refine ⟨u, ?_, gu, old u gu x64⟩
    refine (e87 u u1).trans ((tr_11_43 (d + 11) u hWu _ (wN w) 8 u5.2.1 (wN w + 1) u5.2.2.2.1).trans ?_)
    rw [u3, if_neg (show ¬ nI e < 0 from n_nlt (b := 0) (Nat.zero_le e) (by omega))]
theorem c_methodFull (d : Nat) {w : Wd} (hW : Fix w) (hm : gI w 64 4 = nI 8) : val (11, d + 21, 0, [some (.ref 64), none, none], [], w) = some (some (.int (-3)), sI w 64 2 0) := by
  refine (tr_11 (d + 11) w hW).trans ?_
  rw [gI_nk _ _ _ (by decide), hm, if_neg (show ¬ nI 8 < 8 by decide)]
