/-! CALLS: line, along -/
theorem sub_neg {e : Nat} (he : Num e) (hs : sgB e = true) (hz : szB e ≠ 0) : fS 0 e = szB e := by
  have hi : INF = 2047 * 2 ^ 52 := rfl
  have hlt := sz_lt e
  have hx : e ^^^ 2 ^ 63 = szB e := by
    rw [xor_hi he.1, hs, Bool.not_true, show false.toNat * 2 ^ 63 = 0 by decide, Nat.zero_add]
  rw [show fS 0 e = fA 0 (e ^^^ 2 ^ 63) from sub_add he.1, hx]
  have hle := he.2
  generalize szB e = x at *
  have szx : szB x = x := Nat.mod_eq_of_lt hlt
  have sgx : sgB x = false := decide_eq_false (by omega)
  show Jvm.FP.Core.add Jvm.FP.Core.b64 0 x = x
  unfold Jvm.FP.Core.add
  rw [dec_fin (n := 0) (by decide) (by decide), show cfB (szB 0) = 0 from rfl, show sgB 0 = false from rfl, show efB (szB 0) = 0 from rfl]
  by_cases c : x = INF
  · rw [dec_inf (by omega) (by rw [szx]; exact c), sgx]
    show Jvm.FP.Core.encode Jvm.FP.Core.b64 (.inf false) = x
    rw [enc_inf, c, show false.toNat * 2 ^ 63 = 0 by decide, Nat.zero_add]
  · have hf : x < INF := by omega
    rw [dec_fin (by omega) (by rw [szx]; exact hf), szx, sgx]
    unfold Jvm.FP.Core.exactSum
    dsimp only
    have hm : min (((0 : Nat) : Int) - 1074) ((efB x : Int) - 1074) = -1074 := by omega
    have hv : Jvm.FP.Core.sumUnits false 0 (((0 : Nat) : Int) - 1074) false (cfB x) ((efB x : Int) - 1074) (min (((0 : Nat) : Int) - 1074) ((efB x : Int) - 1074)) = ((cfB x * 2 ^ efB x : Nat) : Int) := by
      unfold Jvm.FP.Core.sumUnits Jvm.FP.Core.inUnits Jvm.FP.Core.signed
      rw [hm, show ((efB x : Int) - 1074 - -1074).toNat = efB x by omega, Nat.zero_mul]
      simp only [Bool.false_eq_true, if_false]
      omega
    have c0 : 0 < cfB x := Nat.pos_of_ne_zero (fun h => hz ((cf_0 hlt).mp h))
    have hpos : 0 < cfB x * 2 ^ efB x := Nat.mul_pos c0 (Nat.two_pow_pos _)
    have hsg : Jvm.FP.Core.sumSign false false ((cfB x * 2 ^ efB x : Nat) : Int) = false := by
      unfold Jvm.FP.Core.sumSign
      split
      · rfl
      · exact decide_eq_false (by omega)
    rw [hv, hm, hsg, Int.natAbs_natCast]
    show Jvm.FP.Core.encode Jvm.FP.Core.b64 (Jvm.FP.Core.roundRatio Jvm.FP.Core.b64 false (cfB x * 2 ^ efB x) 1 (-1074)) = x
    have s1 := enc_shift (s := false) (n := cfB x) (d := 1) c0 (by decide) (efB x) 0 (e := (efB x : Int) - 1074) (e' := -1074) (by omega)
    rw [Nat.pow_zero, Nat.mul_one] at s1
    have hn : (efB x : Int) - 1074 = -1074 ∨ 2 ^ 52 ≤ cfB x := by
      unfold efB cfB
      by_cases g : x / 2 ^ 52 = 0
      · left
        omega
      · right
        rw [if_neg g]
        omega
    rw [s1, enc_exact c0 (by omega) cf_lt hn, show false.toNat * 2 ^ 63 = 0 by decide, Nat.zero_add]
    have hxx : ((efB x : Int) - 1074 + 1074).toNat * 2 ^ 52 + cfB x = x := by
      unfold efB cfB
      split <;> omega
    rw [hxx, Nat.min_eq_right hle]
theorem cmp_nanG {a b : Nat} (ha : a < 2 ^ 64) (hb : b < 2 ^ 64) (h : INF < szB a) : Op.cmpValue (FP.dcmp (UInt64.ofNat a) (UInt64.ofNat b)) .g = 1 := by
  rw [ucmp a b ha hb, dcmp_nan ha hb (Or.inl h)]
  rfl
section LINE
variable {w : Wd} {N C : Nat} {T bl : Nat → Nat}
noncomputable def t56 (d : Nat) (w : Wd) (g e : UInt64) (l4 : Int32) : Option (Option Value × Wd) := (if ¬ (Op.cmpValue (FP.dcmp e e) .l) = 0 then val (248, d + 4, 110, [some (.ref 108), some (.int 2), some (.double g), none, some (.int l4), some (.double e), none], [], w) else (if (Op.cmpValue (FP.dcmp g g) .l) = 0 then (if (Op.cmpValue (FP.dcmp e g) .l) ≤ 0 then val (248, d + 4, 41, [some (.ref 108), some (.int 2), some (.double g), none, some (.int (l4 + 1)), some (.double e), none], [], w) else val (248, d + 4, 41, [some (.ref 108), some (.int 2), some (.double e), none, some (.int (l4 + 1)), some (.double e), none], [], w)) else val (248, d + 4, 110, [some (.ref 108), some (.int 2), some (.double g), none, some (.int l4), some (.double e), none], [], w)))
theorem m_110 (d : Nat) (w : Wd) (g e : UInt64) (l4 : Int32) : val (248, d + 4, 110, [some (.ref 108), some (.int 2), some (.double g), none, some (.int l4), some (.double e), none], [], w) = val (248, d + 4, 41, [some (.ref 108), some (.int 2), some (.double (UInt64.ofNat NANB)), none, some (.int (l4 + 1)), some (.double e), none], [], w) := by
  refine (val_call (pc2 := 113) rfl rfl rfl rfl rfl (Nat.le_of_ble_eq_true rfl) (Nat.le_of_ble_eq_true rfl) rfl (m_noReal (d + 2) w) rfl).trans ?_
  exact tr_248_113 d w _ _ _ _ _
theorem m_t56 (d : Nat) (w : Wd) {g e : Nat} (hg : g < 2 ^ 63) (hg2 : g ≤ INF ∨ g = NANB) (he : Num e) (h0 : 0 ≤ lvB e) (l4 : Int32) : t56 d w (UInt64.ofNat g) (UInt64.ofNat e) l4 = val (248, d + 4, 41, [some (.ref 108), some (.int 2), some (.double (UInt64.ofNat (grt g (szB e)))), none, some (.int (l4 + 1)), some (.double (UInt64.ofNat e)), none], [], w) := by
  have eg : szB g = g := Nat.mod_eq_of_lt hg
  have ee : szB (szB e) = szB e := Nat.mod_eq_of_lt (sz_lt e)
  have sg : sgB g = false := decide_eq_false (by omega)
  have hle := he.2
  unfold t56
  rw [if_neg (fun h => h ((m_same he.1).mpr he.2))]
  unfold grt
  rw [eg, ee]
  by_cases c : g ≤ INF
  · have hgn : Num g := ⟨by omega, by omega⟩
    have lg : lvB g = g := by rw [lv_pos sg, eg]
    rw [if_pos ((m_same hgn.1).mpr hgn.2), if_neg (show ¬ (INF < g ∨ INF < szB e) by omega)]
    have hc := cmp_le (k := .l) he hgn
    rw [lg] at hc
    by_cases c2 : lvB e ≤ g
    · rw [if_pos (hc.mpr c2)]
      have : szB e ≤ g := by
        cases s : sgB e
        · rw [lv_pos s] at c2; omega
        · rw [lv_neg s] at h0; omega
      rw [Nat.max_eq_left this]
    · rw [if_neg (fun h => c2 (hc.mp h))]
      have s : sgB e = false := by
        cases s : sgB e
        · rfl
        · rw [lv_neg s] at c2; omega
      have e2 : szB e = e := by
        have := sg_eq he.1
        rw [s, show false.toNat * 2 ^ 63 = 0 by decide, Nat.zero_add] at this
        exact this.symm
      rw [lv_pos s] at c2
      rw [Nat.max_eq_right (by omega), e2]
  · have hn := hg2.resolve_left c
    rw [if_neg (fun h => c (by have := (m_same (show g < 2 ^ 64 by omega)).mp h; omega)), if_pos (show INF < g ∨ INF < szB e from Or.inl (by omega))]
    exact m_110 d w _ _ _
theorem m_56 (d : Nat) (w : Wd) {g e : Nat} (hg : g < 2 ^ 63) (hg2 : g ≤ INF ∨ g = NANB) (he : Rl e) (l4 : Int32) (l5 : Option Value) : ∃ l5', val (248, d + 4, 56, [some (.ref 108), some (.int 2), some (.double (UInt64.ofNat g)), none, some (.int l4), l5, none], [.double (UInt64.ofNat e)], w) = val (248, d + 4, 41, [some (.ref 108), some (.int 2), some (.double (UInt64.ofNat (grt g (szB e)))), none, some (.int (l4 + 1)), l5', none], [], w) := by
  have n0 : Num 0 := ⟨by decide, by decide⟩
  by_cases na : szB e ≤ INF
  · have hN : Num e := ⟨he.1, na⟩
    have hge := cmp_ge (k := .g) hN n0
    rw [show lvB 0 = 0 by decide] at hge
    by_cases c : 0 ≤ lvB e
    · refine ⟨some (.double (UInt64.ofNat e)), ?_⟩
      have hc : 0 ≤ Op.cmpValue (FP.dcmp (UInt64.ofNat e) 0) .g := hge.mpr c
      refine (tr_248_56 d w _ _ _ _ _ (fun _ h => absurd hc h)).trans ?_
      rw [if_pos (show ¬ (2 : Int32) = 3 by decide), if_pos hc]
      exact m_t56 d w hg hg2 hN c l4
    · have hs : sgB e = true := by
        cases s : sgB e
        · rw [lv_pos s] at c; omega
        · rfl
      have hz : szB e ≠ 0 := fun h => c (by rw [lv_0.mpr h]; exact Int.le_refl _)
      have hc : ¬ 0 ≤ Op.cmpValue (FP.dcmp (UInt64.ofNat e) 0) .g := fun h => c (hge.mp h)
      have e1 : FP.dsub 0 (UInt64.ofNat e) = UInt64.ofNat (szB e) := (u_sub (a := 0) (by decide) he.1).trans (by rw [show Jvm.FP.Core.sub Jvm.FP.Core.b64 0 e = szB e from sub_neg hN hs hz])
      have ee : szB (szB e) = szB e := Nat.mod_eq_of_lt (sz_lt e)
      have hlt := sz_lt e
      have hN2 : Num (szB e) := ⟨by omega, by rw [ee]; exact na⟩
      have s2 : sgB (szB e) = false := decide_eq_false (by omega)
      refine ⟨some (.double (UInt64.ofNat (szB e))), ?_⟩
      refine (tr_248_56 d w _ _ _ _ _ (fun _ _ => by rw [e1]; exact nN_num hN2)).trans ?_
      rw [if_pos (show ¬ (2 : Int32) = 3 by decide), if_neg hc, e1]
      have := m_t56 d w hg hg2 hN2 (by rw [lv_pos s2]; omega) l4
      rw [ee] at this
      exact this
  · have hn := he.2.resolve_left na
    have hc : Op.cmpValue (FP.dcmp (UInt64.ofNat e) 0) .g = 1 := cmp_nanG (b := 0) he.1 (by decide) (by omega)
    refine ⟨some (.double (UInt64.ofNat e)), ?_⟩
    have hge : 0 ≤ Op.cmpValue (FP.dcmp (UInt64.ofNat e) 0) .g := by rw [hc]; decide
    refine (tr_248_56 d w _ _ _ _ _ (fun _ h => absurd hge h)).trans ?_
    have ee : szB (szB e) = szB e := Nat.mod_eq_of_lt (sz_lt e)
    have hgr : grt g (szB e) = NANB := by
      unfold grt
      rw [ee, if_pos (Or.inr (by omega))]
    rw [if_pos (show ¬ (2 : Int32) = 3 by decide), if_pos hge, if_pos (fun h => na ((m_same he.1).mp h)), hgr]
    exact m_110 d w _ _ _
variable (hW : Fix w) (hN : NOK N C T bl) (hm : NM w C T bl) (hs : SRT w C T) (h60 : gD w 108 60 = UInt64.ofNat (gapV (nrd T C).1 (tm T C))) (h61 : gD w 108 61 = UInt64.ofNat (leadV (nrd T C).1 (tm T C)))
theorem lp_248b (d : Nat) (hW : Fix w) (hN : NOK N C T bl) (hm : NM w C T bl) (hs : SRT w C T) (h60 : gD w 108 60 = UInt64.ofNat (gapV (nrd T C).1 (tm T C))) (h61 : gD w 108 61 = UInt64.ofNat (leadV (nrd T C).1 (tm T C))) (n : Nat) : ∀ (i : Nat) (l5 : Option Value), i + n = (nrd T C).1 → val (248, d + 4, 41, [some (.ref 108), some (.int 2), some (.double (UInt64.ofNat (greV (nrd T C).1 (tm T C) i))), none, some (.int (nI i)), l5, none], [], w) = some (some (.long (lI (greV (nrd T C).1 (tm T C) (nrd T C).1))), w) := by
  obtain ⟨k1, -⟩ := nrd_ok T C
  have hC := hN.1
  have ht := tm_lt hN
  induction n with
  | zero =>
    intro i l5 hi
    have e : i = (nrd T C).1 := hi
    have hle : gI w 108 58 ≤ nI i := by rw [hs.1, e]; exact Int32.le_refl _
    obtain ⟨g1, g2⟩ := @gre_ok (nrd T C).1 (tm T C) i
    refine (tr_248_41 d w hW _ _ _ _).trans ?_
    rw [if_pos hle, if_pos (show ¬ (2 : Int32) = 3 by decide)]
    refine (val_call (pc2 := 162) rfl rfl rfl rfl rfl (Nat.le_of_ble_eq_true rfl) (Nat.le_of_ble_eq_true rfl) rfl (m_bits (d + 2) w (show greV (nrd T C).1 (tm T C) i < 2 ^ 64 by omega)) rfl).trans ?_
    refine (tr_248_162 d w _ _ _ _ _).trans ?_
    have eg : szB (greV (nrd T C).1 (tm T C) i) = greV (nrd T C).1 (tm T C) i := Nat.mod_eq_of_lt g1
    have hcn : cnB (greV (nrd T C).1 (tm T C) i) = greV (nrd T C).1 (tm T C) i := by
      rcases g2 with h | h
      · exact cn_num (by omega)
      · rw [h]; exact cn_nan
    rw [hcn, e]
  | succ n ih =>
    intro i l5 hi
    have hle : ¬ gI w 108 58 ≤ nI i := by rw [hs.1]; exact n_nle (by omega) (by omega)
    obtain ⟨g1, g2⟩ := @gre_ok (nrd T C).1 (tm T C) i
    refine (tr_248_41 d w hW _ _ _ _).trans ?_
    rw [if_neg hle]
    refine (val_call (pc2 := 56) rfl rfl rfl rfl (hW.rc _) (Nat.le_of_ble_eq_true rfl) (Nat.le_of_ble_eq_true rfl) rfl (m_error d hW hN hm hs h60 h61 (i := i) (by omega)) rfl).trans ?_
    obtain ⟨l5', hl⟩ := m_56 d w g1 g2 (rl_err (K := (nrd T C).1) ht i) (nI i) l5
    refine hl.trans ?_
    rw [n_succ]
    exact ih (i + 1) l5' (by omega)
theorem lp_248c (d : Nat) (hW : Fix w) (hN : NOK N C T bl) (hm : NM w C T bl) (hs : SRT w C T) (h60 : gD w 108 60 = UInt64.ofNat (gapV (nrd T C).1 (tm T C))) (h61 : gD w 108 61 = UInt64.ofNat (leadV (nrd T C).1 (tm T C))) {v : Nat} (hv : ROOT (fD (sqV (nrd T C).1 (tm T C) (nrd T C).1) (fI (nrd T C).1)) v) (n : Nat) : ∀ (i : Nat) (l5 : Option Value), i + n = (nrd T C).1 → val (248, d + 4, 41, [some (.ref 108), some (.int 3), some (.double (UInt64.ofNat (sqV (nrd T C).1 (tm T C) i))), none, some (.int (nI i)), l5, none], [], w) = some (some (.long (lI v)), w) := by
  obtain ⟨k1, -⟩ := nrd_ok T C
  have hC := hN.1
  have ht := tm_lt hN
  induction n with
  | zero =>
    intro i l5 hi
    have e : i = (nrd T C).1 := hi
    have hle : gI w 108 58 ≤ nI i := by rw [hs.1, e]; exact Int32.le_refl _
    refine (tr_248_41 d w hW _ _ _ _).trans ?_
    rw [if_pos hle, if_neg (show ¬ ¬ (3 : Int32) = 3 by decide), hs.1, u_i2dn (show (nrd T C).1 < 2 ^ 31 by omega), e]
    refine (val_call (pc2 := 150) rfl rfl rfl rfl rfl (Nat.le_of_ble_eq_true rfl) (Nat.le_of_ble_eq_true rfl) rfl (m_over (d + 1) w (rl_sq (K := (nrd T C).1) ht (nrd T C).1).1 (fi_rl (z := ((nrd T C).1 : Int))).1) rfl).trans ?_
    refine (val_call (pc2 := 153) rfl rfl rfl rfl rfl (Nat.le_of_ble_eq_true rfl) (Nat.le_of_ble_eq_true rfl) rfl (hv.2.2 (d + 1) w) rfl).trans ?_
    refine (tr_248_153 d w _ _ _ _ _).trans ?_
    refine (val_call (pc2 := 162) rfl rfl rfl rfl rfl (Nat.le_of_ble_eq_true rfl) (Nat.le_of_ble_eq_true rfl) rfl (m_bits (d + 2) w hv.1.1) rfl).trans ?_
    refine (tr_248_162 d w _ _ _ _ _).trans ?_
    have hcn : cnB v = v := by
      rcases hv.1.2 with h | h
      · exact cn_num h
      · rw [h]; exact cn_nan
    rw [hcn]
  | succ n ih =>
    intro i l5 hi
    have hle : ¬ gI w 108 58 ≤ nI i := by rw [hs.1]; exact n_nle (by omega) (by omega)
    have he := (rl_err (K := (nrd T C).1) ht i).1
    refine (tr_248_41 d w hW _ _ _ _).trans ?_
    rw [if_neg hle]
    refine (val_call (pc2 := 56) rfl rfl rfl rfl (hW.rc _) (Nat.le_of_ble_eq_true rfl) (Nat.le_of_ble_eq_true rfl) rfl (m_error d hW hN hm hs h60 h61 (i := i) (by omega)) rfl).trans ?_
    refine (tr_248_56 d w _ _ _ _ _ (fun h => absurd rfl h)).trans ?_
    rw [if_neg (show ¬ ¬ (3 : Int32) = 3 by decide)]
    refine (val_call (pc2 := 71) rfl rfl rfl rfl rfl (Nat.le_of_ble_eq_true rfl) (Nat.le_of_ble_eq_true rfl) rfl (m_timesR (d + 1) w he he) rfl).trans ?_
    refine (val_call (pc2 := 74) rfl rfl rfl rfl rfl (Nat.le_of_ble_eq_true rfl) (Nat.le_of_ble_eq_true rfl) rfl (m_plus (d + 1) w (rl_sq (K := (nrd T C).1) ht i).1 (rl_mul he he).1) rfl).trans ?_
    refine (tr_248_74 d w _ _ _ _ _).trans ?_
    rw [n_succ]
    exact ih (i + 1) _ (by omega)
end LINE
