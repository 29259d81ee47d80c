/-! DOUBLES: both programs' root; doubleToLongBits -/
theorem m_bits (d : Nat) (w : Wd) {a : Nat} (ha : a < 2 ^ 64) : val (262, d + 1, 0, [some (.double (UInt64.ofNat a)), none], [], w) = some (some (.long (lI (cnB a))), w) := by
  refine (tr_262 d w _).trans ?_
  have h261 : val (261, d, 0, [some (.double (UInt64.ofNat a)), none], [], w) = some (some (.int (if szB a ≤ INF then 0 else 1)), w) := by
    refine (tr_261 d w _).trans ?_
    by_cases c : szB a ≤ INF
    · rw [if_pos ((m_same ha).mpr c), if_pos c]
    · rw [if_neg (fun h => c ((m_same ha).mp h)), if_neg c]
  refine (val_call (pc2 := 4) rfl rfl rfl rfl rfl (Nat.le_of_ble_eq_true rfl) (Nat.le_of_ble_eq_true rfl) rfl h261 rfl).trans ?_
  refine (tr_262_4 d w _ _).trans ?_
  unfold cnB
  by_cases c : szB a ≤ INF
  · rw [if_pos c, if_neg (fun h => h rfl), if_neg (show ¬ INF < szB a by omega)]
    rfl
  · rw [if_neg c, if_pos (by decide), if_pos (show INF < szB a by omega)]
    rfl
theorem cn_num {a : Nat} (h : szB a ≤ INF) : cnB a = a := by
  unfold cnB
  rw [if_neg (by omega)]
theorem cn_nan : cnB NANB = NANB := by decide
theorem bit_52 {y : Nat} (hy : y < 2 ^ 53) : cmpL (lI y &&& 4503599627370496) 0 = 0 ↔ y < 2 ^ 52 := by
  have hb : y &&& 2 ^ 52 < 2 ^ 64 := Nat.lt_of_le_of_lt Nat.and_le_right (by decide)
  rw [show (4503599627370496 : Int64) = lI (2 ^ 52) from rfl, l_and, cmpL_0]
  have g : lI (y &&& 2 ^ 52) = 0 ↔ y &&& 2 ^ 52 = 0 := l_inj (b := 0) hb (by decide)
  rw [g]
  constructor
  · intro h
    have h1 : (y &&& 2 ^ 52).testBit 52 = (0 : Nat).testBit 52 := by rw [h]
    rw [Nat.testBit_and, Nat.testBit_two_pow, Nat.zero_testBit, decide_eq_true rfl, Bool.and_true, Nat.testBit_eq_decide_div_mod_eq] at h1
    have h2 := of_decide_eq_false h1
    omega
  · intro h
    refine Nat.eq_of_testBit_eq (fun i => ?_)
    rw [Nat.testBit_and, Nat.testBit_two_pow, Nat.zero_testBit]
    by_cases c : 52 = i
    · rw [← c, Nat.testBit_lt_two_pow h]
      rfl
    · rw [decide_eq_false c, Bool.and_false]
theorem i_m1023 (a : Int) : iI a + (-1023) = iI (a - 1023) := by
  rw [show (-1023 : Int32) = iI (-1023) by decide, i_add]
  congr 1
theorem i_m1 (a : Int) : iI a + (-1) = iI (a - 1) := by
  rw [show (-1 : Int32) = iI (-1) by decide, i_add]
  congr 1
/-- the reference finds the leading digit -/
theorem lp_246a (d : Nat) (w : Wd) (l0 : UInt64) (l2 : Int64) {c J : Nat} (h1 : 2 ^ 52 ≤ c * 2 ^ J) (h2 : c * 2 ^ J < 2 ^ 53) (hJ : J ≤ 52) (n : Nat) : ∀ j, J = j + n → val (246, d + 2, 59, [some (.double l0), none, some (.long l2), none, some (.int (iI (1 - j))), some (.long (lI (c * 2 ^ j))), none, none, none, none, none, none, none, none, none], [], w) = if (iI (1 - J - 1023) &&& 1) = 0 then val (246, d + 2, 132, [some (.double l0), none, some (.long l2), none, some (.int (iI ((1 - J - 1023) / 2))), some (.long (lI (2 * (c * 2 ^ J)))), none, some (.long 0), none, some (.long 0), none, some (.long 9007199254740992), none, none, none], [], w) else val (246, d + 2, 132, [some (.double l0), none, some (.long l2), none, some (.int (iI ((1 - J - 1023) / 2))), some (.long (lI (2 * (2 * (c * 2 ^ J))))), none, some (.long 0), none, some (.long 0), none, some (.long 9007199254740992), none, none, none], [], w) := by
  have eE : iI (1 - J) + (-1023) = iI (1 - J - 1023) := i_m1023 _
  have eS : ∀ y, shlL (lI y) 1 = lI (2 * y) := fun y => (l_shld (k := 1) (by decide)).trans (by rw [Nat.pow_one, Nat.mul_comm])
  induction n with
  | zero =>
    intro j hj
    have e : J = j := hj
    subst e
    refine (tr_246_59 d w _ _ _ _).trans ?_
    rw [if_pos (fun h => by have := (bit_52 h2).mp h; omega), eE, eS, eS, i_sar (by omega) (by omega)]
  | succ n ih =>
    intro j hj
    have hs := @pow_step c j J (by omega)
    refine (tr_246_59 d w _ _ _ _).trans ?_
    have e2 : iI (1 - j) + (-1) = iI (1 - ((j + 1 : Nat) : Int)) := by
      rw [show (-1 : Int32) = iI (-1) from rfl, i_add]
      congr 1
      omega
    have e3 : 2 * (c * 2 ^ j) = c * 2 ^ (j + 1) := by rw [Nat.pow_succ, Nat.mul_left_comm, Nat.mul_comm 2 (2 ^ j)]
    rw [if_neg (fun h => h ((bit_52 (by omega)).mpr (by omega))), eS, e2, e3]
    exact ih (j + 1) (by omega)
/-- the class's root from the significand -/
theorem c_rootMain (d : Nat) (w : Wd) {x Q : Nat} {e : Int} (hx1 : 2 ^ 52 ≤ x) (hx2 : x < 2 ^ 54) (he : e % 2 = 0) (he1 : -1200 ≤ e) (he2 : e ≤ 1000) (hQ1 : Q * Q ≤ x * 2 ^ 54) (hQ2 : x * 2 ^ 54 < (Q + 1) * (Q + 1)) : ∃ R, val (118, d + 1, 0, [some (.long (lI x)), none, none, none, none, none, none, none, none, none, none], [], w) = some (some (.long (lI R)), w) ∧ val (108, d + 1, 0, [some (.long 0), none, some (.int (iI ((e - 58) / 2 - 1))), some (.long (lI R)), none, none, none, none, none, none, none, none], [], w) = some (some (.long (lI (rtV x (e / 2 + 26) Q))), w) := by
  have hi : INF = 2047 * 2 ^ 52 := rfl
  obtain ⟨R, T, r1, r2, r3⟩ := c_longRoot (d + 1) w hx2
  have e1 : (2 ^ 55 * 2 ^ 55 : Nat) = 2 ^ 110 := rfl
  have e2 : (2 ^ 56 * 2 ^ 56 : Nat) = 2 ^ 112 := rfl
  have g1 : 2 ^ 110 ≤ x * 2 ^ 58 := by
    clear r1 r2 hQ1 hQ2 e1 e2
    omega
  have g2 : x * 2 ^ 58 < 2 ^ 112 := by
    clear r1 r2 hQ1 hQ2 e1 e2
    omega
  have b1 : 2 ^ 55 < R + 1 := sq_lt (by
    have h := sq_exp R 1
    rw [h, e1, Nat.mul_one]
    exact Nat.lt_of_le_of_lt g1 (by
      rw [← r1]
      clear r1 hQ1 hQ2 g1 g2 e1 e2
      omega))
  have b2 : R < 2 ^ 56 := sq_lt (by
    rw [e2]
    exact Nat.lt_of_le_of_lt (Nat.le_add_right _ T) (by rw [r1]; exact g2))
  obtain ⟨X, hX⟩ : ∃ X, X = 2 * R + if T = 0 then 0 else 1 := ⟨_, rfl⟩
  have hX1 : 2 ^ 56 ≤ X := by rw [hX]; omega
  have hX2 : X < 2 ^ 57 := by
    rw [hX]
    split <;> omega
  have hnear := root_near r1 r2 hQ1 hQ2
  rw [← hX] at hnear r3
  refine ⟨X, r3, ?_⟩
  have hr := c_rounded d w (s := false) (E := (e - 58) / 2 - 1) (X := X) (by omega) (by omega) (by omega) (by omega)
  rw [show false.toNat * 2 ^ 63 = 0 by decide] at hr
  refine hr.trans ?_
  have hL : Jvm.FP.Core.leading X 1 = (56 : Nat) := lead_uniq (by omega) (by decide) (by omega) (by omega)
  have hq : qnt X 1 ((e - 58) / 2 - 1) = (e - 58) / 2 + 3 := by
    unfold qnt
    rw [hL, Int.max_eq_right (by omega)]
    omega
  rw [enc_ratio (by omega) (by decide), hq, show ((e - 58) / 2 - 1 - ((e - 58) / 2 + 3)).toNat = 0 by omega, show ((e - 58) / 2 + 3 - ((e - 58) / 2 - 1)).toNat = 4 by omega, Nat.pow_zero, Nat.mul_one, Nat.one_mul, show 2 ^ 4 = 16 from rfl, hnear]
  have hh : (Q + if Q * Q = x * 2 ^ 54 then 0 else Q % 2) / 2 ≤ 2 ^ 54 := by
    rw [← hnear]
    exact near_le (by decide) (by omega)
  unfold rtV
  rw [Nat.min_eq_right (by omega), show false.toNat * 2 ^ 63 = 0 by decide, Nat.zero_add, show ((e - 58) / 2 + 3 + 1074).toNat = (e / 2 + 26 + 1022).toNat by omega]
/-- the root: both programs -/
theorem a_root {a : Nat} (ha : a < 2 ^ 64) (hcn : szB a ≤ INF ∨ a = NANB) : ∃ v, v < 2 ^ 64 ∧ (szB v ≤ INF ∨ v = NANB) ∧ (∀ d w, val (117, d + 2, 0, [some (.long (lI a)), none, none, none, none, none], [], w) = some (some (.long (lI v)), w)) ∧ (∀ d w, val (246, d + 2, 0, [some (.double (UInt64.ofNat a)), none, none, none, none, none, none, none, none, none, none, none, none, none, none], [], w) = some (some (.double (UInt64.ofNat v)), w)) := by
  have hi : INF = 2047 * 2 ^ 52 := rfl
  have i1 : ((1 : Int32) = 0) = False := by decide
  have hbits : ∀ d w, val (246, d + 2, 0, [some (.double (UInt64.ofNat a)), none, none, none, none, none, none, none, none, none, none, none, none, none, none], [], w) = val (246, d + 2, 4, [some (.double (UInt64.ofNat a)), none, none, none, none, none, none, none, none, none, none, none, none, none, none], [.long (lI a)], w) := by
    intro d w
    refine (tr_246 d w _).trans ?_
    have h := m_bits d w ha
    have hc : cnB a = a := by
      rcases hcn with h | h
      · exact cn_num h
      · rw [h]; exact cn_nan
    rw [hc] at h
    refine (val_call (pc2 := 4) rfl rfl rfl rfl rfl (Nat.le_of_ble_eq_true rfl) (Nat.le_of_ble_eq_true rfl) rfl h rfl).trans ?_
    rfl
  by_cases na : szB a ≤ INF
  · have Na : Num a := ⟨ha, na⟩
    have n0 : Num 0 := ⟨by decide, by decide⟩
    have l0 : lvB 0 = 0 := by decide
    have g3 := cmp_eq (k := .l) Na n0
    have g4 := cmp_ge (k := .g) Na n0
    rw [l0] at g3 g4
    have hf97 : fn_97 (lI a) = 0 := by rw [r_isNaN ha, if_neg (by omega)]
    by_cases z : szB a = 0
    · refine ⟨a, ha, Or.inl na, fun d w => ?_, fun d w => ?_⟩
      · refine (tr_117 d w _).trans ?_
        rw [if_pos hf97, if_neg (by rw [r_99 ha, if_pos z]; decide)]
      · refine (hbits d w).trans ((tr_246_4 d w _ _).trans ?_)
        have hz : Op.cmpValue (FP.dcmp (UInt64.ofNat a) 0) .l = 0 := g3.mpr (lv_0.mpr z)
        rw [if_neg (fun h => h ((m_same ha).mpr na)), if_pos hz]
    · have hz : ¬ Op.cmpValue (FP.dcmp (UInt64.ofNat a) 0) .l = 0 := fun h => z (lv_0.mp (g3.mp h))
      have hf99 : fn_99 (lI a) = 0 := by rw [r_99 ha, if_neg z]
      by_cases s : sgB a = true
      · have hlt : 2 ^ 63 ≤ a := of_decide_eq_true s
        refine ⟨NANB, by decide, Or.inr rfl, fun d w => ?_, fun d w => ?_⟩
        · refine (tr_117 d w _).trans ?_
          have hc : ¬ 0 ≤ cmpL (lI a) 0 := fun h => (cmpL_ge.mp h) ((l_neg_iff ha).mpr hlt)
          rw [if_pos hf97, if_pos hf99, if_neg hc]
          rfl
        · refine (hbits d w).trans ((tr_246_4 d w _ _).trans ?_)
          have hinf : ¬ cmpL (lI a) 9218868437227405312 = 0 := fun h => by
            have := (l_inj (b := INF) ha (by decide)).mp (cmpL_0.mp h)
            omega
          have hge : ¬ 0 ≤ Op.cmpValue (FP.dcmp (UInt64.ofNat a) 0) .g := fun h => by
            have := g4.mp h
            rw [lv_neg s] at this
            omega
          rw [if_neg (fun h => h ((m_same ha).mpr na)), if_neg hz, if_pos hinf, if_neg hge]
          refine (val_call (pc2 := 36) rfl rfl rfl rfl rfl (Nat.le_of_ble_eq_true rfl) (Nat.le_of_ble_eq_true rfl) rfl (m_noReal d w) rfl).trans ?_
          exact tr_246_36 d w _ _ _
      · have s' : sgB a = false := by
          cases h : sgB a
          · rfl
          · exact absurd h s
        have hlt : a < 2 ^ 63 := by
          have := of_decide_eq_false s'
          omega
        have hsz : szB a = a := Nat.mod_eq_of_lt hlt
        have hc : 0 ≤ cmpL (lI a) 0 := cmpL_ge.mpr (fun h => by
          have := (l_neg_iff ha).mp h
          omega)
        by_cases inf : a = INF
        · refine ⟨a, ha, Or.inl na, fun d w => ?_, fun d w => ?_⟩
          · refine (tr_117 d w _).trans ?_
            rw [if_pos hf97, if_pos hf99, if_pos hc, if_neg (by rw [r_98 ha, if_pos (by rw [hsz, inf])]; decide)]
          · refine (hbits d w).trans ((tr_246_4 d w _ _).trans ?_)
            have hinf : cmpL (lI a) 9218868437227405312 = 0 := cmpL_0.mpr (by rw [inf]; rfl)
            rw [if_neg (fun h => h ((m_same ha).mpr na)), if_neg hz, if_neg (fun h => h hinf)]
        · have hfin : szB a < INF := by omega
          have hf98 : fn_98 (lI a) = 0 := by rw [r_98 ha, if_neg (by omega)]
          have c0 : 0 < cfB (szB a) := Nat.pos_of_ne_zero (fun h => z ((cf_0 (sz_lt a)).mp h))
          obtain ⟨J, j1, j2, j3, jv⟩ : ∃ J, J ≤ 52 ∧ 2 ^ 52 ≤ cfB (szB a) * 2 ^ J ∧ cfB (szB a) * 2 ^ J < 2 ^ 53 ∧ ∀ d w, val (106, d, 0, [some (.long (lI (cfB (szB a)))), none, none], [], w) = some (some (.int (nI J)), w) := by
            obtain ⟨J, j1, j2, j3⟩ := log_ex (K := 52) c0 cf_lt
            exact ⟨J, j1, j2, j3, fun d w => (tr_106 d w _).trans (lp_106 d w j2 j3 j1 J 0 (by omega))⟩
          have hef := ef_lt hfin
          obtain ⟨f, hf⟩ : ∃ f : Int, f = (efB (szB a) : Int) - 1074 - J := ⟨_, rfl⟩
          obtain ⟨x, hxe⟩ : ∃ x, x = cfB (szB a) * 2 ^ J := ⟨_, rfl⟩
          -- the even exponent and its significand
          obtain ⟨y, e, hy⟩ : ∃ (y : Nat) (e : Int), (f % 2 = 0 ∧ y = x ∧ e = f) ∨ (f % 2 = 1 ∧ y = 2 * x ∧ e = f - 1) := by
            by_cases p : f % 2 = 0
            · exact ⟨x, f, Or.inl ⟨p, rfl, rfl⟩⟩
            · exact ⟨2 * x, f - 1, Or.inr ⟨by omega, rfl, rfl⟩⟩
          have y1 : 2 ^ 52 ≤ y := by omega
          have y2 : y < 2 ^ 54 := by omega
          have he0 : e % 2 = 0 := by omega
          obtain ⟨Q, q1, q2, q3, -⟩ := m_rootMain 0 (default : Wd) 0 0 (x := y) (E := e / 2 + 26) y1 y2 (by omega) (by omega)
          have hmain : ∀ d w l0 l2, val (246, d + 2, 132, [some (.double l0), none, some (.long l2), none, some (.int (iI (e / 2 + 26))), some (.long (lI (2 * y))), none, some (.long 0), none, some (.long 0), none, some (.long 9007199254740992), none, none, none], [], w) = some (some (.double (UInt64.ofNat (rtV y (e / 2 + 26) Q))), w) := by
            intro d w l0 l2
            obtain ⟨Q', p1, p2, p3, p4⟩ := m_rootMain d w l0 l2 (x := y) (E := e / 2 + 26) y1 y2 (by omega) (by omega)
            have a1 : Q < Q' + 1 := sq_lt (by omega)
            have a2 : Q' < Q + 1 := sq_lt (by omega)
            have : Q = Q' := by omega
            rw [this]
            exact p4
          have hvn : Num (rtV y (e / 2 + 26) Q) := by
            have : rtV y (e / 2 + 26) Q ≤ 1622 * 2 ^ 52 + 2 ^ 54 := by
              unfold rtV
              split <;> omega
            refine ⟨by omega, ?_⟩
            show rtV y (e / 2 + 26) Q % 2 ^ 63 ≤ INF
            omega
          refine ⟨rtV y (e / 2 + 26) Q, hvn.1, Or.inl hvn.2, fun d w => ?_, fun d w => ?_⟩
          · refine (tr_117 d w _).trans ?_
            rw [if_pos hf97, if_pos hf99, if_pos hc, if_pos hf98, r_104 ha hfin]
            refine (val_call (pc2 := 48) rfl rfl rfl rfl rfl (Nat.le_of_ble_eq_true rfl) (Nat.le_of_ble_eq_true rfl) rfl (jv (d + 1) w) rfl).trans ?_
            refine (tr_117_48 d w _ _ _).trans ?_
            rw [i_105 ha, l_shld (by omega), i_n, i_sub, ← hf, ← hxe]
            obtain ⟨R, v1, v2⟩ := c_rootMain d w (x := y) (Q := Q) (e := e) y1 y2 he0 (by omega) (by omega) q1 q2
            have e58 : ∀ {g : Int}, g = e → ((iI g - 58) / 2) - 1 = iI ((e - 58) / 2 - 1) := by
              intro g hg
              rw [hg, show (58 : Int32) = iI 58 from rfl, i_sub, i_half (by omega) (by omega) (by omega), show (1 : Int32) = iI 1 from rfl, i_sub]
            rcases hy with ⟨p, hy, he⟩ | ⟨p, hy, he⟩
            · rw [if_pos ((i_par f).mpr p), e58 he.symm, ← hy]
              refine (val_call (pc2 := 92) rfl rfl rfl rfl rfl (Nat.le_of_ble_eq_true rfl) (Nat.le_of_ble_eq_true rfl) rfl v1 rfl).trans ?_
              refine (val_call (pc2 := 95) rfl rfl rfl rfl rfl (Nat.le_of_ble_eq_true rfl) (Nat.le_of_ble_eq_true rfl) rfl v2 rfl).trans ?_
              exact tr_117_95 d w _ _ _ _ _
            · have ef1 : iI f + (-1) = iI (f - 1) := i_m1 f
              have es : shlL (lI x) 1 = lI y := (l_shld (k := 1) (by decide)).trans (by rw [Nat.pow_one, Nat.mul_comm, hy])
              rw [if_neg (fun h => by have := (i_par f).mp h; omega), ef1, e58 he.symm, es]
              refine (val_call (pc2 := 92) rfl rfl rfl rfl rfl (Nat.le_of_ble_eq_true rfl) (Nat.le_of_ble_eq_true rfl) rfl v1 rfl).trans ?_
              refine (val_call (pc2 := 95) rfl rfl rfl rfl rfl (Nat.le_of_ble_eq_true rfl) (Nat.le_of_ble_eq_true rfl) rfl v2 rfl).trans ?_
              exact tr_117_95 d w _ _ _ _ _
          · refine (hbits d w).trans ((tr_246_4 d w _ _).trans ?_)
            have hinf : ¬ cmpL (lI a) 9218868437227405312 = 0 := fun h => inf ((l_inj (b := INF) ha (by decide)).mp (cmpL_0.mp h))
            have hge : 0 ≤ Op.cmpValue (FP.dcmp (UInt64.ofNat a) 0) .g := g4.mpr (by
              rw [lv_pos s']
              omega)
            have eF : Int64.toInt32 (shrL (lI a) 52) = nI (a / 2 ^ 52) := by
              rw [show (52 : Int32) = nI 52 from rfl, l_shr hlt (by decide), l_toI, Nat.shiftRight_eq_div_pow]
            have efr : lI a &&& 4503599627370495 = lI (a % 2 ^ 52) := by
              rw [show (4503599627370495 : Int64) = lI (2 ^ 52 - 1) from rfl, l_mask (by decide)]
            rw [if_neg (fun h => h ((m_same ha).mpr na)), if_neg hz, if_pos hinf, if_pos hge, eF, efr]
            have eS : ∀ y, shlL (lI y) 1 = lI (2 * y) := fun y => (l_shld (k := 1) (by decide)).trans (by rw [Nat.pow_one, Nat.mul_comm])
            by_cases F0 : a / 2 ^ 52 = 0
            · have hcf : cfB (szB a) = a % 2 ^ 52 := by
                unfold cfB
                rw [hsz, if_pos F0]
              have he0 : efB (szB a) = 0 := by
                unfold efB
                rw [hsz, F0]
              rw [if_neg (fun h => h (by rw [F0]; rfl)), ← hcf]
              have hl := lp_246a d w (UInt64.ofNat a) (lI a) (c := cfB (szB a)) (J := J) j2 j3 j1 J 0 (by omega)
              rw [Nat.pow_zero, Nat.mul_one] at hl
              refine Eq.trans ?_ (hl.trans ?_)
              · rfl
              rcases hy with ⟨p, hy, he⟩ | ⟨p, hy, he⟩
              · rw [if_pos ((i_par _).mpr (by omega)), ← hxe, ← hy, show ((1 : Int) - J - 1023) / 2 = e / 2 + 26 by omega]
                exact hmain d w _ _
              · rw [if_neg (fun h => by have := (i_par _).mp h; omega), ← hxe, ← hy, show ((1 : Int) - J - 1023) / 2 = e / 2 + 26 by omega]
                exact hmain d w _ _
            · have hcf : cfB (szB a) = 2 ^ 52 + a % 2 ^ 52 := by
                unfold cfB
                rw [hsz, if_neg F0]
              have he0 : efB (szB a) = a / 2 ^ 52 - 1 := by
                unfold efB
                rw [hsz]
              have hJ0 : J = 0 := by
                rcases Nat.eq_zero_or_pos J with h | h
                · exact h
                · have := @pow_step (cfB (szB a)) 0 J h
                  rw [Nat.pow_zero, Nat.mul_one] at this
                  omega
              have hx0 : x = 2 ^ 52 + a % 2 ^ 52 := by rw [hxe, hJ0, Nat.pow_zero, Nat.mul_one, hcf]
              have eo : lI (a % 2 ^ 52) ||| 4503599627370496 = lI x := by
                rw [show (4503599627370496 : Int64) = lI (2 ^ 52) from rfl, l_or, or_52 (Nat.mod_lt _ (by decide)), hx0]
              have e1023 : nI (a / 2 ^ 52) + (-1023) = iI ((a / 2 ^ 52 : Nat) - 1023) := by
                rw [i_n]
                exact i_m1023 _
              rw [if_pos (n_ne0 F0 (by omega)), eo, e1023, i_sar (by omega) (by omega), eS, eS]
              rcases hy with ⟨p, hy, he⟩ | ⟨p, hy, he⟩
              · rw [if_pos ((i_par _).mpr (by omega)), ← hy, show (((a / 2 ^ 52 : Nat) : Int) - 1023) / 2 = e / 2 + 26 by omega]
                exact hmain d w _ _
              · rw [if_neg (fun h => by have := (i_par _).mp h; omega), ← hy, show (((a / 2 ^ 52 : Nat) : Int) - 1023) / 2 = e / 2 + 26 by omega]
                exact hmain d w _ _
  · have e := hcn.resolve_left na
    refine ⟨NANB, by decide, Or.inr rfl, fun d w => ?_, fun d w => ?_⟩
    · refine (tr_117 d w _).trans ?_
      rw [if_neg (by rw [r_isNaN ha, if_pos (by omega)]; decide)]
      rfl
    · refine (hbits d w).trans ((tr_246_4 d w _ _).trans ?_)
      rw [if_pos (fun h => na ((m_same ha).mp h)), e]
