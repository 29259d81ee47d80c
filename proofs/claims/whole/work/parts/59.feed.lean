/-! THE TAPE: feed -/
theorem sh_u {x : Int64} : ∀ k, k < 8 → ushL x (8 * nI k) = (x.toUInt64 >>> UInt64.ofNat (8 * k)).toInt64 := by
  have h : ∀ k, k < 8 → (8 * nI k).toInt64.toUInt64 &&& Int64.toUInt64 63 = UInt64.ofNat (8 * k) := by decide
  intro k hk
  unfold ushL
  rw [h k hk]
theorem sh_s {x : Int64} : ∀ k, k < 8 → shrL x (8 * nI k) = x >>> Int64.ofNat (8 * k) := by
  have h : ∀ k, k < 8 → (8 * nI k).toInt64 &&& 63 = Int64.ofNat (8 * k) := by decide
  intro k hk
  unfold shrL
  rw [h k hk]
theorem e_byte (x : Int64) (k : Nat) (hk : k < 8) : (Int64.toInt32 (ushL x (8 * nI k))).toInt8 = (Int64.toInt32 (shrL x (8 * nI k))).toInt8 := by
  rw [sh_u k hk, sh_s k hk]
  apply Int8.toBitVec_inj.mp
  have h1 : ∀ k, k < 8 → (BitVec.ofNat 64 (8 * k)).smod 64 = BitVec.ofNat 64 (8 * k) := by decide
  have h2 : ∀ k, k < 8 → (UInt64.ofNat (8 * k)).toNat % 64 = 8 * k := by decide
  have h3 : ∀ k, k < 8 → (BitVec.ofNat 64 (8 * k)).toNat = 8 * k := by decide
  have e1 : (x.toUInt64 >>> UInt64.ofNat (8 * k)).toInt64.toBitVec = x.toBitVec >>> (8 * k) := by
    apply BitVec.eq_of_toNat_eq
    have : (x.toUInt64 >>> UInt64.ofNat (8 * k)).toNat = x.toUInt64.toNat >>> (8 * k) := by
      rw [UInt64.toNat_shiftRight, h2 k hk]
    rw [BitVec.toNat_ushiftRight]
    exact this
  have e2 : (x >>> Int64.ofNat (8 * k)).toBitVec = x.toBitVec.sshiftRight (8 * k) := by
    rw [Int64.toBitVec_shiftRight]
    show x.toBitVec.sshiftRight' ((BitVec.ofNat 64 (8 * k)).smod 64) = _
    rw [h1 k hk, BitVec.sshiftRight_eq', h3 k hk]
  apply BitVec.eq_of_getLsbD_eq
  intro i hi
  have g : ∀ y : Int64, y.toInt32.toInt8.toBitVec.getLsbD i = y.toBitVec.getLsbD i := by
    intro y
    rw [Int32.toBitVec_toInt8, Int64.toBitVec_toInt32, BitVec.getLsbD_signExtend, BitVec.getLsbD_signExtend]
    simp [hi, show i < 32 by omega, show i < 64 by omega]
  rw [g, g, e1, e2, BitVec.getLsbD_ushiftRight, BitVec.getLsbD_sshiftRight]
  have : 8 * k + i < 64 := by omega
  simp [this, show i < 64 by omega]
/-- the tapes are alike -/
def secT (w : Wd) : Prop := ∃ T, T ≤ 600 ∧ gI w 64 2 = nI T ∧ gI w 108 5 = nI T ∧ ∀ k, k < T → gI w 65 k = gI w 112 k
abbrev FT : List (Nat × Option Nat) := [(64, some 2), (108, some 5), (65, none), (112, none)]
theorem secT.fr {S : List (Nat × Option Nat)} {w v : Wd} (h : secT w) (hf : Fr S w v) (hs : dj S FT = true) : secT v := by
  obtain ⟨T, h1, h2, h3, h4⟩ := h
  exact ⟨T, h1, (hf.i 64 2 (dj_off hs rfl)).trans h2, (hf.i 108 5 (dj_off hs rfl)).trans h3, fun k hk => (hf.i 65 k (dj_off hs rfl)).trans ((h4 k hk).trans (hf.i 112 k (dj_off hs rfl)).symm)⟩
def fbC (x : Int64) (k : Nat) : Int32 := vp_nar .byte (Int8.toInt32 (Int32.toInt8 (Int64.toInt32 (ushL x (8 * nI k)))))
theorem a_feed {w : Wd} (hW : Fix w) (hT : secT w) (d : Nat) (n : Int32) (x : Int64) : ∃ r w1 w2, val (10, d, 0, [some (.ref 64), some (.int n), some (.long x), none, none], [], w) = some (some (.int r), w1) ∧ val (185, d, 0, [some (.ref 108), some (.int n), some (.long x), none, none], [], w1) = some (some (.int r), w2) ∧ Fr FT w w1 ∧ Fr FT w w2 ∧ secT w2 := by
  obtain ⟨T, h1, h2, h3, h4⟩ := id hT
  by_cases hn1 : n < 1
  · refine ⟨-1, w, w, ?_, ?_, Fr.refl _ _, Fr.refl _ _, hT⟩
    · refine (tr_10 d w hW n x).trans ?_
      rw [if_pos hn1]
    · refine (tr_185 d w hW n x).trans ?_
      rw [if_pos hn1]
  by_cases hn8 : n ≤ 8
  rotate_left
  · refine ⟨-1, w, w, ?_, ?_, Fr.refl _ _, Fr.refl _ _, hT⟩
    · refine (tr_10 d w hW n x).trans ?_
      rw [if_neg hn1, if_neg hn8]
    · refine (tr_185 d w hW n x).trans ?_
      rw [if_neg hn1, if_neg hn8]
  obtain ⟨m, hm, rfl⟩ := i_nat (v := n) (fun h => hn1 (Int32.lt_trans h (by decide)))
  have hm8 : m ≤ 8 := (n_le_iff (b := 8) hm (by omega)).mp hn8
  have hs : (600 : Int32) - gI w 64 2 = nI (600 - T) := by rw [h2]; exact n_sub (a := 600) h1
  by_cases hfull : m + T ≤ 600
  rotate_left
  · refine ⟨-3, w, w, ?_, ?_, Fr.refl _ _, Fr.refl _ _, hT⟩
    · refine (tr_10 d w hW _ x).trans ?_
      rw [if_neg hn1, if_pos hn8, hs, if_neg (n_nle (by omega) hm)]
    · refine (tr_185 d w hW _ x).trans ?_
      rw [if_neg hn1, if_pos hn8, h3, n_add, if_neg (show ¬ nI (T + m) ≤ (600 : Int32) from n_nle (b := 600) (by omega) (by omega))]
  have hc := loopUp (c := fun k v => (10, d, 31, [some (.ref 64), some (.int (nI m)), some (.long x), none, some (.int (nI k))], [], v)) (P := fun k v => Fr [(64, some 2), (65, none)] w v ∧ gI v 64 2 = nI (T + k) ∧ (∀ i, i < T → gI v 65 i = gI w 65 i) ∧ ∀ i, i < k → gI v 65 (T + i) = fbC x i) (R := fun r => ∃ v, r = some (some (.int (nI (T + m))), v) ∧ Fr [(64, some 2), (65, none)] w v ∧ gI v 64 2 = nI (T + m) ∧ (∀ i, i < T → gI v 65 i = gI w 65 i) ∧ ∀ i, i < m → gI v 65 (T + i) = fbC x i) (N := m) ?_ ?_ w ⟨Fr.refl _ _, h2, fun _ _ => rfl, fun i hi => by omega⟩
  · obtain ⟨w1, e1, f1, g1, g2, g3⟩ := hc
    have hW1 := f1.fix rfl hW
    have h3' : gI w1 108 5 = nI T := (f1.i 108 5 rfl).trans h3
    have hd := loopUp (c := fun k v => (185, d, 31, [some (.ref 108), some (.int (nI m)), some (.long x), none, some (.int (nI k))], [], v)) (P := fun k v => Fr [(108, some 5), (112, none)] w1 v ∧ gI v 108 5 = nI (T + k) ∧ (∀ i, i < T → gI v 112 i = gI w1 112 i) ∧ ∀ i, i < k → gI v 112 (T + i) = fbC x i) (R := fun r => ∃ v, r = some (some (.int (nI (T + m))), v) ∧ Fr [(108, some 5), (112, none)] w1 v ∧ gI v 108 5 = nI (T + m) ∧ (∀ i, i < T → gI v 112 i = gI w1 112 i) ∧ ∀ i, i < m → gI v 112 (T + i) = fbC x i) (N := m) ?_ ?_ w1 ⟨Fr.refl _ _, h3', fun _ _ => rfl, fun i hi => by omega⟩
    · obtain ⟨w2, e2, f2, k1, k2, k3⟩ := hd
      refine ⟨nI (T + m), w1, w2, ?_, ?_, f1.mono rfl, (f1.mono rfl).trans (f2.mono rfl), T + m, by omega, (f2.i 64 2 rfl).trans g1, k1, fun k hk => ?_⟩
      · refine (tr_10 d w hW _ x).trans ?_
        rw [if_neg hn1, if_pos hn8, hs, if_pos (n_le (by omega) (by omega))]
        exact e1
      · refine (tr_185 d w1 hW1 _ x).trans ?_
        rw [if_neg hn1, if_pos hn8, h3', n_add, if_pos (show nI (T + m) ≤ (600 : Int32) from n_le (b := 600) (by omega) (by omega))]
        exact e2
      · by_cases hkT : k < T
        · exact ((f2.i 65 k rfl).trans (g2 k hkT)).trans ((h4 k hkT).trans ((f1.i 112 k rfl).symm.trans (k2 k hkT).symm))
        · obtain ⟨i, rfl⟩ : ∃ i, k = T + i := ⟨k - T, by omega⟩
          exact ((f2.i 65 _ rfl).trans (g3 i (by omega))).trans (k3 i (by omega)).symm
    · rintro v ⟨p1, p2, p3, p4⟩
      have hWv := p1.fix rfl hW1
      refine ⟨v, ?_, p1, p2, p3, p4⟩
      refine (tr_185_31 d v hWv _ x _ (fun h => absurd (n_le (Nat.le_refl m) hm) h)).trans ?_
      rw [if_pos (n_le (Nat.le_refl m) hm), p2]
    · rintro k v hk ⟨p1, p2, p3, p4⟩
      have hWv := p1.fix rfl hW1
      refine Or.inr ⟨sI (sI v 112 (T + k) (fbC x k)) 108 5 (nI (T + (k + 1))), ?_, (p1.sI 112 _ _ rfl).sI 108 5 _ rfl, rfl, fun i hi => ?_, fun i hi => ?_⟩
      · refine (tr_185_31 d v hWv _ x _ (fun _ => by rw [p2]; exact inB_nI (by omega) (by omega))).trans ?_
        rw [if_neg (n_nle hk hm), n_succ, p2, nI_clamp (by omega), gI_ne _ _ _ _ (by decide), p2, n_succ, ← e_byte x k (by omega)]
        rfl
      · rw [gI_ne _ _ _ _ (by decide), gI_nk _ _ _ (by omega)]
        exact p3 i hi
      · rw [gI_ne _ _ _ _ (by decide)]
        by_cases e : i = k
        · subst e; exact gI_same _ _ _ _
        · rw [gI_nk _ _ _ (by omega)]
          exact p4 i (by omega)
  · rintro v ⟨p1, p2, p3, p4⟩
    have hWv := p1.fix rfl hW
    refine ⟨v, ?_, p1, p2, p3, p4⟩
    refine (tr_10_31 d v hWv _ x _ (fun h => absurd (n_le (Nat.le_refl m) hm) h)).trans ?_
    rw [if_pos (n_le (Nat.le_refl m) hm), p2]
  · rintro k v hk ⟨p1, p2, p3, p4⟩
    have hWv := p1.fix rfl hW
    refine Or.inr ⟨sI (sI v 64 2 (nI (T + (k + 1)))) 65 (T + k) (fbC x k), ?_, (p1.sI 64 2 _ rfl).sI 65 _ _ rfl, rfl, fun i hi => ?_, fun i hi => ?_⟩
    · refine (tr_10_31 d v hWv _ x _ (fun _ => by rw [p2]; exact inB_nI (by omega) (by omega))).trans ?_
      rw [if_neg (n_nle hk hm), n_succ, p2, nI_clamp (by omega), n_succ]
      rfl
    · rw [gI_nk _ _ _ (by omega), gI_ne _ _ _ _ (by decide)]
      exact p3 i hi
    · by_cases e : i = k
      · subst e; exact gI_same _ _ _ _
      · rw [gI_nk _ _ _ (by omega), gI_ne _ _ _ _ (by decide)]
        exact p4 i (by omega)
