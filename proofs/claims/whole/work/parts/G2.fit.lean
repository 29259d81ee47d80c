/-! THE LINE: fit and error of the reference -/
/-- a product of whole numbers is exact -/
theorem mul_fi {x y : Nat} (hx : x < 2 ^ 53) (hy : y < 2 ^ 53) : fM (fI x) (fI y) = fI (x * y) := by
  have hi : INF = 2047 * 2 ^ 52 := rfl
  have hx9 : ∀ z, z < 2 ^ 53 → fI z < INF ∧ mgB (fI z) = z * 2 ^ 1074 := fun z hz => fi_mg hz
  obtain ⟨x1, x2⟩ := hx9 x hx
  obtain ⟨y1, y2⟩ := hx9 y hy
  have hlhs : fM (fI x) (fI y) = Jvm.FP.Core.encode Jvm.FP.Core.b64 (Jvm.FP.Core.roundRatio Jvm.FP.Core.b64 false (cfB (fI x) * cfB (fI y)) 1 (((efB (fI x) : Int) - 1074) + ((efB (fI y) : Int) - 1074))) := by
    show Jvm.FP.Core.mul Jvm.FP.Core.b64 (fI x) (fI y) = _
    generalize fI x = X at *
    generalize fI y = Y at *
    have szx : szB X = X := Nat.mod_eq_of_lt (by omega)
    have szy : szB Y = Y := Nat.mod_eq_of_lt (by omega)
    have sgx : sgB X = false := decide_eq_false (by omega)
    have sgy : sgB Y = false := decide_eq_false (by omega)
    unfold Jvm.FP.Core.mul
    rw [dec_fin (by omega) (by rw [szx]; exact x1), dec_fin (by omega) (by rw [szy]; exact y1), szx, szy, sgx, sgy]
    rfl
  rw [hlhs, show fI (x * y) = _ from fi_nat (x * y)]
  unfold mgB at x2 y2
  generalize cfB (fI x) = c at *
  generalize cfB (fI y) = e at *
  generalize efB (fI x) = p at *
  generalize efB (fI y) = q at *
  clear hlhs x1 y1
  have key : c * e * 2 ^ (p + q) = x * y * 2 ^ 2148 := by
    have h1 : c * e * 2 ^ (p + q) = c * 2 ^ p * (e * 2 ^ q) := by
      rw [Nat.pow_add, Nat.mul_assoc c, Nat.mul_left_comm e, ← Nat.mul_assoc c]
    rw [h1, x2, y2, show 2148 = 1074 + 1074 from rfl, Nat.pow_add 2 1074 1074, Nat.mul_assoc x, Nat.mul_left_comm (2 ^ 1074) y, ← Nat.mul_assoc x]
  have hp : 0 < 2 ^ (p + q) := Nat.two_pow_pos _
  have hp2 : 0 < 2 ^ 2148 := Nat.two_pow_pos 2148
  have hE1 : (-2148 : Int) = (p : Int) - 1074 + ((q : Int) - 1074) - (p + q : Nat) + (0 : Nat) := by
    clear key hp2 x2 y2
    omega
  have hE2 : (-2148 : Int) = 0 - (2148 : Nat) + (0 : Nat) := by decide
  rcases Nat.eq_zero_or_pos (x * y) with h | h
  · have h3 : c * e = 0 := by
      rw [h, Nat.zero_mul] at key
      exact (Nat.mul_eq_zero.mp key).resolve_right (Nat.ne_of_gt hp)
    rw [h, h3]
    unfold Jvm.FP.Core.roundRatio
    rw [if_pos rfl, if_pos rfl]
  · have h3 : 0 < c * e := by
      rcases Nat.eq_zero_or_pos (c * e) with g | g
      · rw [g, Nat.zero_mul] at key
        exact absurd key.symm (Nat.ne_of_gt (Nat.mul_pos h hp2))
      · exact g
    have s1 := enc_shift (s := false) (n := c * e) (d := 1) h3 (by decide) (p + q) 0 (e := (p : Int) - 1074 + ((q : Int) - 1074)) (e' := -2148) hE1
    have s2 := enc_shift (s := false) (n := x * y) (d := 1) h (by decide) 2148 0 (e := 0) (e' := -2148) hE2
    rw [← s1, ← s2, key]
theorem u_i2d (z : Int) (h1 : -2147483648 ≤ z) (h2 : z < 2147483648) : FP.i2d (iI z) = UInt64.ofNat (Jvm.FP.Core.fromInt Jvm.FP.Core.b64 z) := by
  show UInt64.ofNat (Jvm.FP.Core.fromInt Jvm.FP.Core.b64 (iI z).toInt) = _
  rw [i_toInt h1 h2]
theorem u_i2dn {n : Nat} (h : n < 2 ^ 31) : FP.i2d (nI n) = UInt64.ofNat (fI n) := by
  rw [i_n]
  exact u_i2d n (by omega) (by omega)
section FIT
variable {w : Wd} {N C : Nat} {T bl : Nat → Nat}
abbrev FFt : List (Nat × Option Nat) := [(143, none), (108, some 58), (108, some 60), (108, some 61)]
/-- what sort leaves -/
def SRT (w : Wd) (C : Nat) (T : Nat → Nat) : Prop := gI w 108 58 = nI (nrd T C).1 ∧ ∀ j, j < (nrd T C).1 → gI w 143 j = nI ((nrd T C).2 j)
theorem m_time (hN : NOK N C T bl) (hm : NM w C T bl) (hs : SRT w C T) {i : Nat} (hi : i < (nrd T C).1) : inB (nI i) 300 = true ∧ inB (gI w 143 (nI i).toNatClampNeg) 300 = true ∧ gD w 142 (gI w 143 (nI i).toNatClampNeg).toNatClampNeg = UInt64.ofNat (tm T C i) := by
  obtain ⟨h1, h2⟩ := nrd_ok T C
  have hC := hN.1
  obtain ⟨o1, o2⟩ := h2 i hi
  have ic : (nI i).toNatClampNeg = i := nI_clamp (by omega)
  have oc : (nI ((nrd T C).2 i)).toNatClampNeg = (nrd T C).2 i := nI_clamp (by omega)
  rw [ic, hs.2 i hi, oc, hm.2.2 _ o1, cn_num o2]
  exact ⟨inB_nI (by omega) (by omega), inB_nI (by omega) (by omega), rfl⟩
theorem lp_244 (d : Nat) (hW : Fix w) (hN : NOK N C T bl) (hm : NM w C T bl) (hs : SRT w C T) (n : Nat) : ∀ (i : Nat) (l8 : Option Value), i + n = (nrd T C).1 → val (244, d + 3, 14, [some (.ref 108), some (.double (UInt64.ofNat (sSm (tm T C) i))), none, some (.double (UInt64.ofNat (sPr (tm T C) i))), none, some (.long (lI (sQr i))), none, some (.int (nI i)), l8, none, none], [], w) = val (244, d + 3, 102, [some (.ref 108), some (.double (UInt64.ofNat (sSm (tm T C) (nrd T C).1))), none, some (.double (UInt64.ofNat (sPr (tm T C) (nrd T C).1))), none, some (.long (lI (sQr (nrd T C).1))), none, some (.double (UInt64.ofNat (fI (nrd T C).1))), none, some (.double (UInt64.ofNat (fI (triK (nrd T C).1)))), none], [.double (UInt64.ofNat (sPr (tm T C) (nrd T C).1)), .double (UInt64.ofNat (fI (nrd T C).1)), .ref 108], w) := by
  obtain ⟨k1, -⟩ := nrd_ok T C
  have hC := hN.1
  have ht := tm_lt hN
  induction n with
  | zero =>
    intro i l8 hi
    have e : i = (nrd T C).1 := hi
    have hle : gI w 108 58 ≤ nI i := by rw [hs.1, e]; exact Int32.le_refl _
    refine (tr_244_14 d w hW _ _ _ _ _ (fun h => absurd hle h) (fun h => absurd hle h)).trans ?_
    rw [if_pos hle, hs.1, e, n_tri (by omega), u_i2dn (by omega), u_i2dn (tri_lt (by omega))]
  | succ n ih =>
    intro i l8 hi
    obtain ⟨b1, b2, b3⟩ := m_time hN hm hs (i := i) (by omega)
    have hle : ¬ gI w 108 58 ≤ nI i := by rw [hs.1]; exact n_nle (by omega) (by omega)
    refine (tr_244_14 d w hW _ _ _ _ _ (fun _ => b1) (fun _ => b2)).trans ?_
    rw [if_neg hle, b3]
    refine (val_call (pc2 := 43) rfl rfl rfl rfl rfl (Nat.le_of_ble_eq_true rfl) (Nat.le_of_ble_eq_true rfl) rfl (m_plus d w (rl_sSm ht i).1 (ht i)) rfl).trans ?_
    refine (tr_244_43 d w _ _ _ _ _ _).trans ?_
    rw [u_i2dn (show i < 2 ^ 31 by omega)]
    refine (val_call (pc2 := 53) rfl rfl rfl rfl rfl (Nat.le_of_ble_eq_true rfl) (Nat.le_of_ble_eq_true rfl) rfl (m_timesR d w (fi_rl (z := (i : Int))).1 (ht i)) rfl).trans ?_
    refine (val_call (pc2 := 56) rfl rfl rfl rfl rfl (Nat.le_of_ble_eq_true rfl) (Nat.le_of_ble_eq_true rfl) rfl (m_plus d w (rl_sPr ht i).1 (rl_mul (fi_rl (z := (i : Int))).1 (ht i)).1) rfl).trans ?_
    refine (tr_244_56 d w _ _ _ _ _ _).trans ?_
    rw [l_ofI (show i < 2 ^ 31 by omega), l_mul, l_add, n_succ]
    exact ih (i + 1) _ (by omega)
theorem m_fit (d : Nat) (hW : Fix w) (hN : NOK N C T bl) (hm : NM w C T bl) : ∃ w', val (244, d + 3, 0, [some (.ref 108), none, none, none, none, none, none, none, none, none, none], [], w) = some (none, w') ∧ Fr FFt w w' ∧ SRT w' C T ∧ gD w' 108 60 = UInt64.ofNat (gapV (nrd T C).1 (tm T C)) ∧ gD w' 108 61 = UInt64.ofNat (leadV (nrd T C).1 (tm T C)) := by
  obtain ⟨k1, -⟩ := nrd_ok T C
  have hC := hN.1
  have ht := tm_lt hN
  obtain ⟨w0, r0, f0, g58, g143⟩ := m_sort (d + 2) hW hN hm
  have hW0 := f0.fix rfl hW
  have hm0 := hm.fa f0.a rfl
  have hs0 : SRT w0 C T := ⟨g58, g143⟩
  obtain ⟨K, hK⟩ : ∃ K, K = (nrd T C).1 := ⟨_, rfl⟩
  have hKl : K ≤ 300 := by omega
  have hl := lp_244 d hW0 hN hm0 hs0 (nrd T C).1 0 none (by omega)
  rw [← hK] at hl ⊢
  have hg := (rl_gap (K := K) ht).1
  have hs := (rl_sSm ht K).1
  have hp := (rl_sPr ht K).1
  have hmm := (fi_rl (z := (K : Int))).1
  have ha := (fi_rl (z := (triK K : Int))).1
  have hb := (fi_rl (z := (sQr K : Int))).1
  have hQ := sQ_lt K hKl
  have hT : triK K ≤ 300 * 300 := by
    unfold triK
    have hb : K * (K - 1) ≤ 300 * 300 := Nat.mul_le_mul hKl (by omega)
    omega
  have e1 : FP.dmul (UInt64.ofNat (fI K)) (FP.l2d (lI (sQr K))) = UInt64.ofNat (fM (fI K) (fI (sQr K))) := by
    rw [u_l2d (by omega), u_mul hmm hb]
  have e2 : FP.dmul (UInt64.ofNat (fI (triK K))) (UInt64.ofNat (fI (triK K))) = UInt64.ofNat (fM (fI (triK K)) (fI (triK K))) := u_mul ha ha
  have q1 : fM (fI K) (fI (sQr K)) < INF := by
    have hkq : K * sQr K ≤ 300 * (90000 * 300) := Nat.mul_le_mul hKl (by omega)
    rw [mul_fi (by omega) (by omega)]
    exact (fi_mg (by omega)).1
  have q2 : fM (fI (triK K)) (fI (triK K)) < INF := by
    have hkq : triK K * triK K ≤ (300 * 300) * (300 * 300) := Nat.mul_le_mul hT hT
    rw [mul_fi (by omega) (by omega)]
    exact (fi_mg (by omega)).1
  have hi : INF = 2047 * 2 ^ 52 := rfl
  have n1 : Num (fM (fI K) (fI (sQr K))) := ⟨by omega, by show _ % 2 ^ 63 ≤ _; omega⟩
  have n2 : Num (fM (fI (triK K)) (fI (triK K))) := ⟨by omega, by show _ % 2 ^ 63 ≤ _; omega⟩
  have e3 : FP.dsub (UInt64.ofNat (fM (fI K) (fI (sQr K)))) (UInt64.ofNat (fM (fI (triK K)) (fI (triK K)))) = UInt64.ofNat (fS (fM (fI K) (fI (sQr K))) (fM (fI (triK K)) (fI (triK K)))) := u_sub n1.1 n2.1
  have n3 : Num (fS (fM (fI K) (fI (sQr K))) (fM (fI (triK K)) (fI (triK K)))) := sub_num n1.1 n2.1 (by
    have e5 : szB (fM (fI K) (fI (sQr K))) = fM (fI K) (fI (sQr K)) := Nat.mod_eq_of_lt (by omega)
    rintro (h | h | h)
    · have := n1.2
      omega
    · have := n2.2
      omega
    · have h5 := h.1
      rw [e5] at h5
      omega)
  obtain ⟨w1, hw1⟩ : ∃ z, z = sD w0 108 60 (UInt64.ofNat (gapV K (tm T C))) := ⟨_, rfl⟩
  obtain ⟨w2, hw2⟩ : ∃ z, z = sD w1 108 61 (UInt64.ofNat (leadV K (tm T C))) := ⟨_, rfl⟩
  have f1 : Fr FFt w w1 := by
    rw [hw1]
    exact (f0.mono rfl).sD 108 60 _ rfl
  have f2 : Fr FFt w w2 := by
    rw [hw2]
    exact f1.sD 108 61 _ rfl
  have hW1 := f1.fix rfl hW
  have g60 : gD w1 108 60 = UInt64.ofNat (gapV K (tm T C)) := by rw [hw1, gD_same]
  refine ⟨w2, ?_, f2, ⟨?_, fun j hj => ?_⟩, ?_, ?_⟩
  · refine (tr_244 d w).trans ?_
    refine (val_call (pc2 := 4) rfl rfl rfl rfl (hW.rc _) (Nat.le_of_ble_eq_true rfl) (Nat.le_of_ble_eq_true rfl) rfl r0 rfl).trans ?_
    refine (tr_244_4 d w0).trans ?_
    refine hl.trans ?_
    refine (val_call (pc2 := 105) rfl rfl rfl rfl rfl (Nat.le_of_ble_eq_true rfl) (Nat.le_of_ble_eq_true rfl) rfl (m_timesR d w0 hmm hp) rfl).trans ?_
    refine (tr_244_105 d w0 _ _ _ _ _ _).trans ?_
    refine (val_call (pc2 := 111) rfl rfl rfl rfl rfl (Nat.le_of_ble_eq_true rfl) (Nat.le_of_ble_eq_true rfl) rfl (m_timesR d w0 ha hs) rfl).trans ?_
    refine (val_call (pc2 := 114) rfl rfl rfl rfl rfl (Nat.le_of_ble_eq_true rfl) (Nat.le_of_ble_eq_true rfl) rfl (m_less2 d w0 (rl_mul hmm hp).1 (rl_mul ha hs).1) rfl).trans ?_
    refine (tr_244_114 d w0 _ _ _ _ _ _ (by rw [e1]; exact nN_num n1) (by rw [e2]; exact nN_num n2) (by rw [e1, e2, e3]; exact nN_num n3)).trans ?_
    rw [e1, e2, e3]
    refine (val_call (pc2 := 129) rfl rfl rfl rfl rfl (Nat.le_of_ble_eq_true rfl) (Nat.le_of_ble_eq_true rfl) rfl (m_over d w0 (rl_num (K := K) ht).1 n3.1) rfl).trans ?_
    refine (tr_244_129 d w0 hW0 _ _ _ _ _ _).trans ?_
    rw [show Jvm.FP.Core.div Jvm.FP.Core.b64 (Jvm.FP.Core.sub Jvm.FP.Core.b64 (Jvm.FP.Core.mul Jvm.FP.Core.b64 (fI K) (sPr (tm T C) K)) (Jvm.FP.Core.mul Jvm.FP.Core.b64 (fI (triK K)) (sSm (tm T C) K))) (fS (fM (fI K) (fI (sQr K))) (fM (fI (triK K)) (fI (triK K)))) = gapV K (tm T C) from rfl, ← hw1, g60]
    refine (val_call (pc2 := 143) rfl rfl rfl rfl rfl (Nat.le_of_ble_eq_true rfl) (Nat.le_of_ble_eq_true rfl) rfl (m_timesR d w1 hg ha) rfl).trans ?_
    refine (val_call (pc2 := 146) rfl rfl rfl rfl rfl (Nat.le_of_ble_eq_true rfl) (Nat.le_of_ble_eq_true rfl) rfl (m_less2 d w1 hs (rl_mul hg ha).1) rfl).trans ?_
    refine (tr_244_146 d w1 _ _ _ _ _ _).trans ?_
    refine (val_call (pc2 := 151) rfl rfl rfl rfl rfl (Nat.le_of_ble_eq_true rfl) (Nat.le_of_ble_eq_true rfl) rfl (m_over d w1 (rl_sub hs (rl_mul hg ha).1).1 hmm) rfl).trans ?_
    rw [hw2]
    exact tr_244_151 d w1 hW1 _ _ _ _ _ _
  · rw [hw2, hw1]
    exact g58
  · rw [hw2, hw1]
    exact g143 j hj
  · rw [hw2, gD_nk _ _ _ (by decide)]
    exact g60
  · rw [hw2, gD_same]
theorem m_error (d : Nat) (hW : Fix w) (hN : NOK N C T bl) (hm : NM w C T bl) (hs : SRT w C T) (h60 : gD w 108 60 = UInt64.ofNat (gapV (nrd T C).1 (tm T C))) (h61 : gD w 108 61 = UInt64.ofNat (leadV (nrd T C).1 (tm T C))) {i : Nat} (hi : i < (nrd T C).1) : val (245, d + 3, 0, [some (.ref 108), some (.int (nI i))], [], w) = some (some (.double (UInt64.ofNat (errV (nrd T C).1 (tm T C) i))), w) := by
  obtain ⟨k1, -⟩ := nrd_ok T C
  have hC := hN.1
  have ht := tm_lt hN
  obtain ⟨b1, b2, b3⟩ := m_time hN hm hs hi
  have hg := (rl_gap (K := (nrd T C).1) ht).1
  have hl := (rl_lead (K := (nrd T C).1) ht).1
  have hf := (fi_rl (z := (i : Int))).1
  refine (tr_245 d w hW _ b1 b2).trans ?_
  rw [b3, h60, h61, u_i2dn (show i < 2 ^ 31 by omega)]
  refine (val_call (pc2 := 24) rfl rfl rfl rfl rfl (Nat.le_of_ble_eq_true rfl) (Nat.le_of_ble_eq_true rfl) rfl (m_timesR d w hg hf) rfl).trans ?_
  refine (val_call (pc2 := 27) rfl rfl rfl rfl rfl (Nat.le_of_ble_eq_true rfl) (Nat.le_of_ble_eq_true rfl) rfl (m_plus d w hl (rl_mul hg hf).1) rfl).trans ?_
  refine (val_call (pc2 := 30) rfl rfl rfl rfl rfl (Nat.le_of_ble_eq_true rfl) (Nat.le_of_ble_eq_true rfl) rfl (m_less2 d w (ht i) (rl_on (K := (nrd T C).1) ht i).1) rfl).trans ?_
  exact tr_245_30 d w _ _
end FIT
