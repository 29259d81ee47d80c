/-! CALLS: product, inverse, told, ranked -/
theorem Fix.rb {w : Wd} (h : Fix w) (as : List Value) : rcv w 9 (.ref 64 :: as) = true := rcvO (n := 11) (h.k 64 (by omega) (by omega)) (by decide)
theorem okn {N : Nat} (h3 : 3 ≤ N) (hN : N ≤ 8) : OKn (nI N) := by
  have : N = 3 ∨ N = 4 ∨ N = 5 ∨ N = 6 ∨ N = 7 ∨ N = 8 := by omega
  rcases this with rfl | rfl | rfl | rfl | rfl | rfl
  · exact Or.inl rfl
  · exact Or.inr (Or.inl rfl)
  · exact Or.inr (Or.inr (Or.inl rfl))
  · exact Or.inr (Or.inr (Or.inr (Or.inl rfl)))
  · exact Or.inr (Or.inr (Or.inr (Or.inr (Or.inl rfl))))
  · exact Or.inr (Or.inr (Or.inr (Or.inr (Or.inr rfl))))
/-- both have n bells -/
def Bl (w : Wd) (N : Nat) : Prop := 3 ≤ N ∧ N ≤ 8 ∧ gI w 64 0 = nI N ∧ gI w 108 0 = nI N
theorem Bl.fr {S : List (Nat × Option Nat)} {w v : Wd} {N : Nat} (h : Bl w N) (hf : Fr S w v) (hs : dj S [(64, some 0), (108, some 0)] = true) : Bl v N :=
  ⟨h.1, h.2.1, (hf.i 64 0 (dj_off hs rfl)).trans h.2.2.1, (hf.i 108 0 (dj_off hs rfl)).trans h.2.2.2⟩
theorem neg_nn {V : Nat} (hV : V < 2 ^ 31) : ¬ nI V = -1 := by
  intro h
  have h1 := congrArg Int32.toInt h
  rw [nI_toInt hV] at h1
  have h2 : (-1 : Int32).toInt = -1 := by decide
  omega
theorem c_numberOf {N : Nat} {w : Wd} (hW : Fix w) (hB : Bl w N) {f : Nat → Nat} (hf : ∀ p, p < N → f p < N) (d : Nat) : val (5, d + 2, 0, [some (.ref 64), some (.int (nI (pkN N f)))], [], w) = some (some (.int (nI (dcN N f))), w) := by
  obtain ⟨h3, hN, hn, hm⟩ := hB
  refine (tr_5 d w hW _).trans ?_
  rw [hn]
  refine (val_call (pc2 := 8) rfl rfl rfl rfl rfl (Nat.le_of_ble_eq_true rfl) (Nat.le_of_ble_eq_true rfl) rfl (ev_135 d w (nI N) (nI (pkN N f)) (okn h3 hN)) rfl).trans ?_
  refine (tr_5_8 d w _ _).trans ?_
  rw [r_135 hN hf]
theorem a_product {N : Nat} {w : Wd} (hW : Fix w) (hB : Bl w N) (d : Nat) (a b : Int32) : ∃ r w2, val (6, d + 3, 0, [some (.ref 64), some (.int a), some (.int b), none, none], [], w) = some (some (.int r), w) ∧ val (177, d + 3, 0, [some (.ref 108), some (.int a), some (.int b)], [], w) = some (some (.int r), w2) ∧ Fr SC w w2 := by
  obtain ⟨h3, hN, hn, hm⟩ := id hB
  have hO := okn h3 hN
  have cl : val (6, d + 3, 0, [some (.ref 64), some (.int a), some (.int b), none, none], [], w) = val (6, d + 3, 17, [some (.ref 64), some (.int a), some (.int b), some (.int (fn_134 (nI N) a)), none], [.int (fn_134 (nI N) b)], w) := by
    refine (tr_6 d w hW a b).trans ?_
    rw [hn]
    refine (val_call (pc2 := 8) rfl rfl rfl rfl rfl (Nat.le_of_ble_eq_true rfl) (Nat.le_of_ble_eq_true rfl) rfl (ev_134 (d + 1) w (nI N) a hO) rfl).trans ?_
    refine (tr_6_8 d w hW a b _).trans ?_
    rw [hn]
    refine (val_call (pc2 := 17) rfl rfl rfl rfl rfl (Nat.le_of_ble_eq_true rfl) (Nat.le_of_ble_eq_true rfl) rfl (ev_134 (d + 1) w (nI N) b hO) rfl).trans ?_
    rfl
  by_cases ha : ∃ f, IsNum N a f
  · obtain ⟨f, hf⟩ := ha
    obtain ⟨w1, e1, f1⟩ := m_isRow h3 hN hf (d + 1) hW hm
    have hW1 := f1.fix rfl hW
    have hm1 := (f1.i 108 0 rfl).trans hm
    by_cases hb : ∃ g, IsNum N b g
    · obtain ⟨g, hg⟩ := hb
      obtain ⟨w2, e2, f2⟩ := m_isRow h3 hN hg (d + 1) hW1 hm1
      have hW2 := f2.fix rfl hW1
      have hm2 := (f2.i 108 0 rfl).trans hm1
      obtain ⟨w3, e3, f3⟩ := m_times h3 hN hf hg (d + 1) hW2 hm2
      refine ⟨nI (dcN N (fun p => f (g p))), w3, ?_, ?_, (f1.trans f2).trans f3⟩
      · refine cl.trans ((tr_6_17 d w hW a b _ _).trans ?_)
        rw [from_yes hN hf, from_yes hN hg, if_neg (neg_nn (pkN_lt hN hf.1.1)), if_pos (neg_nn (pkN_lt hN hg.1.1)), hn]
        refine (val_call (pc2 := 43) rfl rfl rfl rfl rfl (Nat.le_of_ble_eq_true rfl) (Nat.le_of_ble_eq_true rfl) rfl (ev_136 (d + 1) w (nI N) (nI (pkN N f)) (nI (pkN N g)) hO) rfl).trans ?_
        rw [r_136 hN hf.1.1 hg.1.1]
        refine (val_call (pc2 := 46) rfl rfl rfl rfl (hW.rb _) (Nat.le_of_ble_eq_true rfl) (Nat.le_of_ble_eq_true rfl) rfl (c_numberOf hW hB (hf.1.comp hg.1).1 d) rfl).trans ?_
        exact tr_6_46 d w _ _ _ _ _
      · refine (tr_177 (d + 1) w a b).trans ?_
        refine (val_call (pc2 := 5) rfl rfl rfl rfl (hW.rc _) (Nat.le_of_ble_eq_true rfl) (Nat.le_of_ble_eq_true rfl) rfl e1 rfl).trans ?_
        refine (tr_177_5 (d + 1) w1 a b _).trans ?_
        rw [if_neg (by decide)]
        refine (val_call (pc2 := 13) rfl rfl rfl rfl (hW1.rc _) (Nat.le_of_ble_eq_true rfl) (Nat.le_of_ble_eq_true rfl) rfl e2 rfl).trans ?_
        refine (tr_177_13 (d + 1) w2 a b _).trans ?_
        rw [if_neg (by decide)]
        refine (val_call (pc2 := 22) rfl rfl rfl rfl (hW2.rc _) (Nat.le_of_ble_eq_true rfl) (Nat.le_of_ble_eq_true rfl) rfl e3 rfl).trans ?_
        exact tr_177_22 (d + 1) w3 a b _
    · have hb' : ∀ g, ¬ IsNum N b g := fun g hg => hb ⟨g, hg⟩
      obtain ⟨w2, e2, f2⟩ := m_isRowX h3 hN hb' (d + 1) hW1 hm1
      refine ⟨-1, w2, ?_, ?_, f1.trans f2⟩
      · refine cl.trans ((tr_6_17 d w hW a b _ _).trans ?_)
        rw [from_yes hN hf, from_no hN (by omega) hb', if_neg (neg_nn (pkN_lt hN hf.1.1)), if_neg (fun h => h rfl)]
      · refine (tr_177 (d + 1) w a b).trans ?_
        refine (val_call (pc2 := 5) rfl rfl rfl rfl (hW.rc _) (Nat.le_of_ble_eq_true rfl) (Nat.le_of_ble_eq_true rfl) rfl e1 rfl).trans ?_
        refine (tr_177_5 (d + 1) w1 a b _).trans ?_
        rw [if_neg (by decide)]
        refine (val_call (pc2 := 13) rfl rfl rfl rfl (hW1.rc _) (Nat.le_of_ble_eq_true rfl) (Nat.le_of_ble_eq_true rfl) rfl e2 rfl).trans ?_
        refine (tr_177_13 (d + 1) w2 a b _).trans ?_
        rw [if_pos rfl]
  · have ha' : ∀ f, ¬ IsNum N a f := fun f hf => ha ⟨f, hf⟩
    obtain ⟨w1, e1, f1⟩ := m_isRowX h3 hN ha' (d + 1) hW hm
    refine ⟨-1, w1, ?_, ?_, f1⟩
    · refine cl.trans ((tr_6_17 d w hW a b _ _).trans ?_)
      rw [from_no hN (by omega) ha', if_pos rfl]
    · refine (tr_177 (d + 1) w a b).trans ?_
      refine (val_call (pc2 := 5) rfl rfl rfl rfl (hW.rc _) (Nat.le_of_ble_eq_true rfl) (Nat.le_of_ble_eq_true rfl) rfl e1 rfl).trans ?_
      refine (tr_177_5 (d + 1) w1 a b _).trans ?_
      rw [if_pos rfl]
theorem a_inverse {N : Nat} {w : Wd} (hW : Fix w) (hB : Bl w N) (d : Nat) (a : Int32) : ∃ r w2, val (7, d + 3, 0, [some (.ref 64), some (.int a), none], [], w) = some (some (.int r), w) ∧ val (178, d + 3, 0, [some (.ref 108), some (.int a)], [], w) = some (some (.int r), w2) ∧ Fr SC w w2 := by
  obtain ⟨h3, hN, hn, hm⟩ := id hB
  have hO := okn h3 hN
  have cl : val (7, d + 3, 0, [some (.ref 64), some (.int a), none], [], w) = val (7, d + 3, 8, [some (.ref 64), some (.int a), none], [.int (fn_134 (nI N) a)], w) := by
    refine (tr_7 d w hW a).trans ?_
    rw [hn]
    refine (val_call (pc2 := 8) rfl rfl rfl rfl rfl (Nat.le_of_ble_eq_true rfl) (Nat.le_of_ble_eq_true rfl) rfl (ev_134 (d + 1) w (nI N) a hO) rfl).trans ?_
    rfl
  by_cases ha : ∃ f, IsNum N a f
  · obtain ⟨f, hf⟩ := ha
    obtain ⟨w1, e1, f1⟩ := m_isRow h3 hN hf (d + 1) hW hm
    have hW1 := f1.fix rfl hW
    have hm1 := (f1.i 108 0 rfl).trans hm
    obtain ⟨w3, e3, f3⟩ := m_back h3 hN hf (d + 1) hW1 hm1
    refine ⟨nI (dcN N (iv f N)), w3, ?_, ?_, f1.trans f3⟩
    · refine cl.trans ((tr_7_8 d w hW a _).trans ?_)
      rw [from_yes hN hf, if_pos (neg_nn (pkN_lt hN hf.1.1)), hn]
      refine (val_call (pc2 := 27) rfl rfl rfl rfl rfl (Nat.le_of_ble_eq_true rfl) (Nat.le_of_ble_eq_true rfl) rfl (ev_137 (d + 1) w (nI N) (nI (pkN N f)) hO) rfl).trans ?_
      rw [r_137 hN hf.1]
      refine (val_call (pc2 := 30) rfl rfl rfl rfl (hW.rb _) (Nat.le_of_ble_eq_true rfl) (Nat.le_of_ble_eq_true rfl) rfl (c_numberOf hW hB hf.1.iv.1 d) rfl).trans ?_
      exact tr_7_30 d w _ _ _
    · refine (tr_178 (d + 1) w a).trans ?_
      refine (val_call (pc2 := 5) rfl rfl rfl rfl (hW.rc _) (Nat.le_of_ble_eq_true rfl) (Nat.le_of_ble_eq_true rfl) rfl e1 rfl).trans ?_
      refine (tr_178_5 (d + 1) w1 a _).trans ?_
      rw [if_neg (by decide)]
      refine (val_call (pc2 := 13) rfl rfl rfl rfl (hW1.rc _) (Nat.le_of_ble_eq_true rfl) (Nat.le_of_ble_eq_true rfl) rfl e3 rfl).trans ?_
      exact tr_178_13 (d + 1) w3 a _
  · have ha' : ∀ f, ¬ IsNum N a f := fun f hf => ha ⟨f, hf⟩
    obtain ⟨w1, e1, f1⟩ := m_isRowX h3 hN ha' (d + 1) hW hm
    refine ⟨-1, w1, ?_, ?_, f1⟩
    · refine cl.trans ((tr_7_8 d w hW a _).trans ?_)
      rw [from_no hN (by omega) ha', if_neg (fun h => h rfl)]
      exact tr_7_30 d w _ _ _
    · refine (tr_178 (d + 1) w a).trans ?_
      refine (val_call (pc2 := 5) rfl rfl rfl rfl (hW.rc _) (Nat.le_of_ble_eq_true rfl) (Nat.le_of_ble_eq_true rfl) rfl e1 rfl).trans ?_
      refine (tr_178_5 (d + 1) w1 a _).trans ?_
      rw [if_pos rfl]
/-- the reference's loop for ORDER -/
theorem m_told0 {N : Nat} (h3 : 3 ≤ N) (hN : N ≤ 8) {v : Int32} {f : Nat → Nat} (hf : IsNum N v f) (d : Nat) {w : Wd} (hW : Fix w) (hm : gI w 108 0 = nI N) (l2 : Int32) :
    ∃ w', val (181, d + 2, 54, [some (.ref 108), some (.int v), some (.int l2), some (.int 1), some (.int v)], [], w) = some (some (.int (nI (ordN N f))), w') ∧ Fr SC w w' := by
  obtain ⟨o1, o2, o3, o4⟩ := ord_ok hN hf.1
  have h := loopUp (c := fun k x => (181, d + 2, 54, [some (.ref 108), some (.int v), some (.int l2), some (.int (nI (k + 1))), some (.int (nI (dcN N (it f (k + 1)))))], [], x)) (P := fun _ x => Fr SC w x) (R := fun r => ∃ w', r = some (some (.int (nI (ordN N f))), w') ∧ Fr SC w w') (N := ordN N f - 1) ?_ ?_ w (Fr.refl _ _)
  · have e : val (181, d + 2, 54, [some (.ref 108), some (.int v), some (.int l2), some (.int 1), some (.int v)], [], w) = val (181, d + 2, 54, [some (.ref 108), some (.int v), some (.int l2), some (.int (nI (0 + 1))), some (.int (nI (dcN N (it f (0 + 1)))))], [], w) := by
      rw [hf.2]; rfl
    rw [e]
    exact h
  · intro x hx
    have hWx := hx.fix rfl hW
    have hmx := (hx.i 108 0 rfl).trans hm
    refine ⟨x, ?_, hx⟩
    simp only [show ordN N f - 1 + 1 = ordN N f by omega]
    refine (tr_181_54 d x v l2 _ _).trans ?_
    refine (val_call (pc2 := 60) rfl rfl rfl rfl (hWx.rc _) (Nat.le_of_ble_eq_true rfl) (Nat.le_of_ble_eq_true rfl) rfl (m_rounds hN (d + 1) hWx hmx) rfl).trans ?_
    refine (tr_181_60 d x v l2 _ _ _ _).trans ?_
    rw [if_pos ((dc_id hN (it_row hf.1 _)).mpr o3)]
  · intro k x hk hx
    have hWx := hx.fix rfl hW
    have hmx := (hx.i 108 0 rfl).trans hm
    obtain ⟨y, e1, f1⟩ := m_times (N := N) h3 hN (⟨it_row hf.1 (k + 1), rfl⟩ : IsNum N (nI (dcN N (it f (k + 1)))) (it f (k + 1))) hf d hWx hmx
    refine Or.inr ⟨y, ?_, hx.trans f1⟩
    refine (tr_181_54 d x v l2 _ _).trans ?_
    refine (val_call (pc2 := 60) rfl rfl rfl rfl (hWx.rc _) (Nat.le_of_ble_eq_true rfl) (Nat.le_of_ble_eq_true rfl) rfl (m_rounds hN (d + 1) hWx hmx) rfl).trans ?_
    refine (tr_181_60 d x v l2 _ _ _ _).trans ?_
    rw [if_neg (fun hh => by have := (dc_id hN (it_row hf.1 _)).mp hh; rw [o4 (k + 1) (by omega) (by omega)] at this; cases this)]
    refine (val_call (pc2 := 70) rfl rfl rfl rfl (hWx.rc _) (Nat.le_of_ble_eq_true rfl) (Nat.le_of_ble_eq_true rfl) rfl e1 rfl).trans ?_
    refine (tr_181_70 d y v l2 _ _ _).trans ?_
    rw [n_succ]
    rfl
theorem a_told {N : Nat} {w : Wd} (hW : Fix w) (hB : Bl w N) (d : Nat) (a b : Int32) : ∃ r w2, val (8, d + 3, 0, [some (.ref 64), some (.int a), some (.int b), none], [], w) = some (some (.int r), w) ∧ val (181, d + 3, 0, [some (.ref 108), some (.int a), some (.int b), none, none], [], w) = some (some (.int r), w2) ∧ Fr SC w w2 := by
  obtain ⟨h3, hN, hn, hm⟩ := id hB
  have hO := okn h3 hN
  have cl : val (8, d + 3, 0, [some (.ref 64), some (.int a), some (.int b), none], [], w) = val (8, d + 3, 8, [some (.ref 64), some (.int a), some (.int b), none], [.int (fn_134 (nI N) a)], w) := by
    refine (tr_8 d w hW a b).trans ?_
    rw [hn]
    refine (val_call (pc2 := 8) rfl rfl rfl rfl rfl (Nat.le_of_ble_eq_true rfl) (Nat.le_of_ble_eq_true rfl) rfl (ev_134 (d + 1) w (nI N) a hO) rfl).trans ?_
    rfl
  by_cases ha : ∃ f, IsNum N a f
  · obtain ⟨f, hf⟩ := ha
    have hp := neg_nn (pkN_lt hN hf.1.1)
    obtain ⟨w1, e1, f1⟩ := m_isRow h3 hN hf (d + 1) hW hm
    have hW1 := f1.fix rfl hW
    have hm1 := (f1.i 108 0 rfl).trans hm
    have ml : val (181, d + 3, 0, [some (.ref 108), some (.int a), some (.int b), none, none], [], w) = val (181, d + 3, 5, [some (.ref 108), some (.int a), some (.int b), none, none], [.int 1], w1) := by
      refine (tr_181 (d + 1) w a b).trans ?_
      refine (val_call (pc2 := 5) rfl rfl rfl rfl (hW.rc _) (Nat.le_of_ble_eq_true rfl) (Nat.le_of_ble_eq_true rfl) rfl e1 rfl).trans ?_
      rfl
    by_cases b0 : b = 0
    · subst b0
      obtain ⟨w2, e2, f2⟩ := m_told0 h3 hN hf (d + 1) hW1 hm1 0
      refine ⟨nI (ordN N f), w2, ?_, ?_, f1.trans f2⟩
      · refine cl.trans ((tr_8_8 d w hW _ _ _).trans ?_)
        rw [from_yes hN hf, if_pos hp, if_pos rfl, hn]
        refine (val_call (pc2 := 52) rfl rfl rfl rfl rfl (Nat.le_of_ble_eq_true rfl) (Nat.le_of_ble_eq_true rfl) rfl (r_138 hN hO hf.1 d w) rfl).trans ?_
        exact tr_8_52 d w _ _ _ _
      · refine ml.trans ((tr_181_5 (d + 1) w1 _ _ _).trans ?_)
        rw [if_neg (by decide), if_neg (by decide), if_pos (by decide), if_pos (by decide), if_pos (by decide)]
        exact e2
    by_cases b1 : b = 1
    · subst b1
      obtain ⟨w2, e2, f2⟩ := m_rank h3 hN hf (d + 1) hW1 hm1
      refine ⟨nI (rkN N f), w2, ?_, ?_, f1.trans f2⟩
      · refine cl.trans ((tr_8_8 d w hW _ _ _).trans ?_)
        rw [from_yes hN hf, if_pos hp, if_neg (by decide), if_pos rfl, hn]
        refine (val_call (pc2 := 61) rfl rfl rfl rfl rfl (Nat.le_of_ble_eq_true rfl) (Nat.le_of_ble_eq_true rfl) rfl (ev_139 (d + 1) w (nI N) (nI (pkN N f)) hO) rfl).trans ?_
        rw [r_139 hN hf.1]
        exact tr_8_61 d w _ _ _ _
      · refine ml.trans ((tr_181_5 (d + 1) w1 _ _ _).trans ?_)
        rw [if_neg (by decide), if_neg (by decide), if_pos (by decide), if_neg (by decide)]
        refine (val_call (pc2 := 29) rfl rfl rfl rfl (hW1.rc _) (Nat.le_of_ble_eq_true rfl) (Nat.le_of_ble_eq_true rfl) rfl e2 rfl).trans ?_
        exact tr_181_29 (d + 1) w2 _ _ _
    by_cases b2 : b = 2
    · subst b2
      obtain ⟨w2, e2, f2⟩ := m_isEven h3 hN hf (d + 1) hW1 hm1
      refine ⟨nI (if pr f N % 2 = 0 then 1 else 0), w2, ?_, ?_, f1.trans f2⟩
      · refine cl.trans ((tr_8_8 d w hW _ _ _).trans ?_)
        rw [from_yes hN hf, if_pos hp, if_neg (by decide), if_neg (by decide), if_pos rfl, hn]
        refine (val_call (pc2 := 70) rfl rfl rfl rfl rfl (Nat.le_of_ble_eq_true rfl) (Nat.le_of_ble_eq_true rfl) rfl (ev_142 (d + 1) w (nI N) (nI (pkN N f)) hO) rfl).trans ?_
        rw [r_142 hN hf.1]
        refine (tr_8_70 d w _ _ _ _).trans ?_
        rcases Nat.mod_two_eq_zero_or_one (pr f N) with h | h
        · rw [h]; rfl
        · rw [h]; rfl
      · refine ml.trans ((tr_181_5 (d + 1) w1 _ _ _).trans ?_)
        rw [if_neg (by decide), if_neg (by decide), if_pos (by decide), if_pos (by decide), if_neg (by decide)]
        refine (val_call (pc2 := 40) rfl rfl rfl rfl (hW1.rc _) (Nat.le_of_ble_eq_true rfl) (Nat.le_of_ble_eq_true rfl) rfl e2 rfl).trans ?_
        refine (tr_181_40 (d + 1) w2 _ _ _).trans ?_
        rcases Nat.mod_two_eq_zero_or_one (pr f N) with h | h
        · rw [h]; rfl
        · rw [h]; rfl
    · refine ⟨-1, w1, ?_, ?_, f1⟩
      · refine cl.trans ((tr_8_8 d w hW _ _ _).trans ?_)
        rw [from_yes hN hf, if_pos hp, if_neg b0, if_neg b1, if_neg b2]
      · refine ml.trans ((tr_181_5 (d + 1) w1 _ _ _).trans ?_)
        rw [if_neg (by decide)]
        by_cases hlt : b < 0
        · rw [if_pos hlt]
        · rw [if_neg hlt]
          by_cases hle : b ≤ 2
          · rw [if_pos hle, if_pos b1, if_pos b2]
            exfalso
            obtain ⟨V, hV, rfl⟩ := i_nat hlt
            have := (n_le_iff (a := V) (b := 2) hV (by omega)).mp hle
            have : V = 0 ∨ V = 1 ∨ V = 2 := by omega
            rcases this with rfl | rfl | rfl
            · exact b0 rfl
            · exact b1 rfl
            · exact b2 rfl
          · rw [if_neg hle]
  · have ha' : ∀ f, ¬ IsNum N a f := fun f hf => ha ⟨f, hf⟩
    obtain ⟨w1, e1, f1⟩ := m_isRowX h3 hN ha' (d + 1) hW hm
    refine ⟨-1, w1, ?_, ?_, f1⟩
    · refine cl.trans ((tr_8_8 d w hW _ _ _).trans ?_)
      rw [from_no hN (by omega) ha', if_neg (fun h => h rfl)]
    · refine (tr_181 (d + 1) w a b).trans ?_
      refine (val_call (pc2 := 5) rfl rfl rfl rfl (hW.rc _) (Nat.le_of_ble_eq_true rfl) (Nat.le_of_ble_eq_true rfl) rfl e1 rfl).trans ?_
      refine (tr_181_5 (d + 1) w1 a b _).trans ?_
      rw [if_pos rfl]
theorem a_ranked {N : Nat} {w : Wd} (hW : Fix w) (hB : Bl w N) (d : Nat) (a : Int32) : ∃ r, val (9, d + 3, 0, [some (.ref 64), some (.int a)], [], w) = some (some (.int r), w) ∧ val (184, d + 3, 0, [some (.ref 108), some (.int a)], [], w) = some (some (.int r), w) := by
  obtain ⟨h3, hN, hn, hm⟩ := id hB
  by_cases ha : a < 0
  · refine ⟨-1, ?_, ?_⟩
    · refine (tr_9 d w hW a).trans ?_
      rw [if_pos ha]
    · refine (tr_184 (d + 1) w a).trans ?_
      rw [if_pos ha]
      exact tr_184_21 (d + 1) w _ _
  · obtain ⟨V, hV, rfl⟩ := i_nat ha
    have cl : val (9, d + 3, 0, [some (.ref 64), some (.int (nI V))], [], w) = val (9, d + 3, 12, [some (.ref 64), some (.int (nI V))], [.int (nI (fc N)), .int (nI V)], w) := by
      refine (tr_9 d w hW _).trans ?_
      rw [if_neg ha, hn]
      refine (val_call (pc2 := 12) rfl rfl rfl rfl rfl (Nat.le_of_ble_eq_true rfl) (Nat.le_of_ble_eq_true rfl) rfl (r_129 hN (d + 2) hW) rfl).trans ?_
      rfl
    have ml : val (184, d + 3, 0, [some (.ref 108), some (.int (nI V))], [], w) = val (184, d + 3, 9, [some (.ref 108), some (.int (nI V))], [.int (nI (fc N)), .int (nI V)], w) := by
      refine (tr_184 (d + 1) w _).trans ?_
      rw [if_neg ha]
      refine (val_call (pc2 := 9) rfl rfl rfl rfl (hW.rc _) (Nat.le_of_ble_eq_true rfl) (Nat.le_of_ble_eq_true rfl) rfl (m_all h3 hN (d + 2) hW hm) rfl).trans ?_
      rfl
    by_cases hr : V < fc N
    · refine ⟨nI (dcN N (urN N V)), ?_, ?_⟩
      · refine cl.trans ((tr_9_12 d w hW _ _ _).trans ?_)
        rw [if_pos (n_lt hr (fc_sm hN)), hn]
        refine (val_call (pc2 := 26) rfl rfl rfl rfl rfl (Nat.le_of_ble_eq_true rfl) (Nat.le_of_ble_eq_true rfl) rfl (r_140 hN hr (d + 1) hW) rfl).trans ?_
        refine (val_call (pc2 := 29) rfl rfl rfl rfl (hW.rb _) (Nat.le_of_ble_eq_true rfl) (Nat.le_of_ble_eq_true rfl) rfl (c_numberOf hW hB (urN_row hr).1 d) rfl).trans ?_
        exact tr_9_29 d w _ _
      · refine ml.trans ((tr_184_9 (d + 1) w _ _ _).trans ?_)
        rw [if_pos (n_lt hr (fc_sm hN))]
        refine (val_call (pc2 := 21) rfl rfl rfl rfl (hW.rc _) (Nat.le_of_ble_eq_true rfl) (Nat.le_of_ble_eq_true rfl) rfl (m_ofRank h3 hN hr (d + 1) hW hm) rfl).trans ?_
        exact tr_184_21 (d + 1) w _ _
    · refine ⟨-1, ?_, ?_⟩
      · refine cl.trans ((tr_9_12 d w hW _ _ _).trans ?_)
        rw [if_neg (n_nlt (by omega) hV)]
      · refine ml.trans ((tr_184_9 (d + 1) w _ _ _).trans ?_)
        rw [if_neg (n_nlt (by omega) hV)]
        exact tr_184_21 (d + 1) w _ _
