/-! CALLS: call, go, run -/
theorem i_le {x : Int32} {b : Nat} (hb : b < 2 ^ 31) (h0 : ¬ x < 0) (h1 : x ≤ nI b) : ∃ X, X ≤ b ∧ x = nI X := by
  obtain ⟨X, hX, rfl⟩ := i_nat h0
  exact ⟨X, (n_le_iff hX hb).mp h1, rfl⟩
theorem i_01 {y : Int32} (h0 : ¬ y < 0) (h1 : y ≤ 1) : y = 0 ∨ y = 1 := by
  obtain ⟨X, hX, rfl⟩ := i_le (b := 1) (by decide) h0 h1
  rcases (show X = 0 ∨ X = 1 by omega) with rfl | rfl
  · exact Or.inl rfl
  · exact Or.inr rfl
theorem i_lt {x : Int32} {b : Nat} (hb : b < 2 ^ 31) (h0 : ¬ x < 0) (h1 : ¬ nI b ≤ x) : ∃ X, X < b ∧ x = nI X := by
  obtain ⟨X, hX, rfl⟩ := i_nat h0
  refine ⟨X, ?_, rfl⟩
  by_cases h : X < b
  · exact h
  · exact absurd (n_le (show b ≤ X by omega) hX) h1
theorem upF_b (cl : Nat → Bool) (k : Nat) (b : Bool) (j : Nat) : b01 (upF cl k b j) = if j = k then b01 b else b01 (cl j) := by
  unfold upF
  split <;> rfl
theorem a_call {N : Nat} {w : Wd} (hW : Fix w) (hR : secR w N) (d : Nat) (x y : Int32) : ∃ r w1 w2, val (16, d + 1, 0, [some (.ref 64), some (.int x), some (.int y)], [], w) = some (some (.int r), w1) ∧ val (209, d + 1, 0, [some (.ref 108), some (.int x), some (.int y)], [], w1) = some (some (.int r), w2) ∧ Fr [(69, none)] w w1 ∧ Fr [(128, none)] w1 w2 ∧ secR w2 N := by
  have e1 := tr_16 d w hW x y
  have e2 := fun w1 (hW1 : Fix w1) => tr_209 (d + 1) w1 hW1 x y (fun a b _ _ _ _ => by
    obtain ⟨X, hX, rfl⟩ := i_lt (b := 2000) (by decide) a b
    exact inB_nI hX (by decide)) (fun a b _ _ _ _ => by
    obtain ⟨X, hX, rfl⟩ := i_lt (b := 2000) (by decide) a b
    exact inB_nI hX (by decide))
  by_cases h1 : x < 0
  · have e2 := e2 w hW
    rw [if_pos h1] at e1 e2
    exact ⟨-1, w, w, e1, e2, Fr.refl _ _, Fr.refl _ _, hR⟩
  by_cases h2 : 2000 ≤ x
  · have e2 := e2 w hW
    rw [if_neg h1, if_pos h2] at e1 e2
    exact ⟨-1, w, w, e1, e2, Fr.refl _ _, Fr.refl _ _, hR⟩
  by_cases h3 : y < 0
  · have e2 := e2 w hW
    rw [if_neg h1, if_neg h2, if_pos h3] at e1 e2
    exact ⟨-1, w, w, e1, e2, Fr.refl _ _, Fr.refl _ _, hR⟩
  by_cases h4 : y ≤ 1
  · obtain ⟨X, hX, rfl⟩ := i_lt (b := 2000) (by decide) h1 h2
    have iX : (nI X).toNatClampNeg = X := nI_clamp (by omega)
    rw [if_neg h1, if_neg h2, if_neg h3, if_pos h4] at e1
    rcases hR with hO | ⟨m, M, cl, s, hO⟩
    · have e2 := e2 w hW
      rw [if_neg h1, if_neg h2, if_neg h3, if_pos h4, hO.2.1, if_neg (fun h => h rfl)] at e2
      refine ⟨-2, w, w, e1.trans ?_, e2, Fr.refl _ _, Fr.refl _ _, Or.inl hO⟩
      refine (val_call (pc2 := 29) rfl rfl rfl rfl (rcvO hW.k67 (by decide)) (Nat.le_of_ble_eq_true rfl) (Nat.le_of_ble_eq_true rfl) rfl (c152n d hW hO.1) rfl).trans ?_
      refine (tr_16_29 d w hW _ _ _ (fun h => absurd rfl h)).trans ?_
      rw [if_neg (fun h => h rfl)]
    · have e1' : val (16, d + 1, 0, [some (.ref 64), some (.int (nI X)), some (.int y)], [], w) = some (some (.int 0), sI w 69 X (vp_nar .byte (Int8.toInt32 (Int32.toInt8 y)))) := by
        refine e1.trans ?_
        refine (val_call (pc2 := 29) rfl rfl rfl rfl (rcvO hW.k67 (by decide)) (Nat.le_of_ble_eq_true rfl) (Nat.le_of_ble_eq_true rfl) rfl (c_isOn d hW hO.on) rfl).trans ?_
        refine (tr_16_29 d w hW _ _ _ (fun _ => inB_nI hX (by decide))).trans ?_
        rw [if_pos (by decide), iX]
      obtain ⟨hL, hM, s1, s2, s3⟩ := hO
      obtain ⟨b, hb1, hb2, hb3⟩ : ∃ b : Bool, vp_nar .byte (Int8.toInt32 (Int32.toInt8 y)) = b01 b ∧ (y = 1 → b = true) ∧ (¬ y = 1 → b = false) := by
        rcases i_01 h3 h4 with rfl | rfl
        · exact ⟨false, by decide, fun h => absurd h (by decide), fun _ => rfl⟩
        · exact ⟨true, by decide, fun _ => rfl, fun h => absurd rfl h⟩
      rw [hb1] at e1'
      obtain ⟨w1, hw1⟩ : ∃ z, z = sI w 69 X (b01 b) := ⟨_, rfl⟩
      rw [← hw1] at e1'
      have f1 : Fr [(69, none)] w w1 := by rw [hw1]; exact (Fr.refl _ w).sI 69 _ _ rfl
      have hW1 := f1.fix rfl hW
      have e2 := e2 w1 hW1
      rw [if_neg h1, if_neg h2, if_neg h3, if_pos h4, f1.i 108 27 rfl, s2.1, if_pos (by decide), iX] at e2
      have e2' : val (209, d + 1, 0, [some (.ref 108), some (.int (nI X)), some (.int y)], [], w1) = some (some (.int 0), sI w1 128 X (b01 b)) := by
        refine e2.trans ?_
        by_cases hy : y = 1
        · rw [if_neg (fun h => h hy), hb2 hy]; rfl
        · rw [if_pos hy, hb3 hy]; rfl
      obtain ⟨w2, hw2⟩ : ∃ z, z = sI w1 128 X (b01 b) := ⟨_, rfl⟩
      rw [← hw2] at e2'
      have f2 : Fr [(128, none)] w1 w2 := by rw [hw2]; exact (Fr.refl _ w1).sI 128 _ _ rfl
      have f12 : Fr [(69, none), (128, none)] w w2 := (f1.mono rfl).trans (f2.mono rfl)
      obtain ⟨a1, a2, a3, a4, a5, a6, a7, a8⟩ := s1
      obtain ⟨b1, b2, b3, b4, b5, b6, b7⟩ := s2
      refine ⟨0, w1, w2, e1', e2', f1, f2, Or.inr ⟨m, M, upF cl X b, s, hL.fa f12.a rfl, hM, ⟨(f12.r 67 0 rfl).trans a1, (f12.i 67 9 rfl).trans a2, (f12.i 67 10 rfl).trans a3, (f12.i 67 11 rfl).trans a4, fun k hk => (f12.i 68 k rfl).trans (a5 k hk), fun k hk => ?_, fun k hk => (f12.i 70 k rfl).trans (a7 k hk), a8.fr f12 rfl⟩, ⟨(f12.i 108 27 rfl).trans b1, (f12.i 108 28 rfl).trans b2, (f12.i 108 29 rfl).trans b3, (f12.i 108 30 rfl).trans b4, fun k hk => (f12.i 127 k rfl).trans (b5 k hk), fun k hk => ?_, fun k hk => (f12.i 129 k rfl).trans (b7 k hk)⟩, s3⟩⟩
      · rw [f2.i 69 k rfl, hw1, upF_b]
        by_cases e : k = X
        · rw [e, gI_same, if_pos rfl]
        · rw [gI_nk _ _ _ e, if_neg e]; exact a6 k hk
      · rw [hw2, upF_b]
        by_cases e : k = X
        · rw [e, gI_same, if_pos rfl]
        · rw [gI_nk _ _ _ e, if_neg e, f1.i 128 k rfl]; exact b6 k hk
  · have e2 := e2 w hW
    rw [if_neg h1, if_neg h2, if_neg h3, if_neg h4] at e1 e2
    exact ⟨-1, w, w, e1, e2, Fr.refl _ _, Fr.refl _ _, hR⟩
theorem a_go {N : Nat} {w : Wd} (hW : Fix w) (hB : Bl w N) (hM : secM w N) (hR : secR w N) {d : Nat} (hd : 121 ≤ d) (x : Int32) : ∃ r w1 w2, val (17, d + 7, 0, [some (.ref 64), some (.int x)], [], w) = some (some (.int r), w1) ∧ val (213, d + 7, 0, [some (.ref 108), some (.int x), none, none, none], [], w1) = some (some (.int r), w2) ∧ Fr FGo w w1 ∧ Fr FMg w1 w2 ∧ secR w2 N := by
  obtain ⟨h3, hN, hn, hm⟩ := id hB
  have e1 := tr_17 d w hW x
  have e2 := fun w1 (hW1 : Fix w1) => tr_213 (d + 3) w1 hW1 x
  by_cases h1 : x < 1
  · have e2 := e2 w hW
    rw [if_pos h1] at e1 e2
    exact ⟨-1, w, w, e1, e2, Fr.refl _ _, Fr.refl _ _, hR⟩
  by_cases h2 : x ≤ 500
  · obtain ⟨X, hX, rfl⟩ := i_le (b := 500) (by decide) (fun h => h1 (Int32.lt_trans h (by decide))) h2
    rw [if_neg h1, if_pos h2] at e1
    rcases hR with hO | ⟨m, M, cl, s, hO⟩
    · have e2 := e2 w hW
      rw [if_neg h1, if_pos h2, hO.2.1, if_neg (fun h => h rfl)] at e2
      refine ⟨-2, w, w, e1.trans ?_, e2, Fr.refl _ _, Fr.refl _ _, Or.inl hO⟩
      refine (val_call (pc2 := 21) rfl rfl rfl rfl (rcvO hW.k67 (by decide)) (Nat.le_of_ble_eq_true rfl) (Nat.le_of_ble_eq_true rfl) rfl (c152n (d + 6) hW hO.1) rfl).trans ?_
      refine (tr_17_21 d w hW _ _).trans ?_
      rw [if_neg (fun h => h rfl)]
    · obtain ⟨hm8, rs, c, g1, g2, g3, g4⟩ := hO.me hM
      have hon := hO.on
      obtain ⟨hL, hM1, s1, s2, s3⟩ := hO
      obtain ⟨w1, r1, f1, t1⟩ := c_goOn h3 hN g4 d (a := X) hX X 0 s w (Nat.zero_add X) hW g1 s1 s3
      have hW1 := f1.fix rfl hW
      have e2 := e2 w1 hW1
      rw [if_neg h1, if_pos h2, f1.i 108 27 rfl, s2.1, if_pos (by decide)] at e2
      obtain ⟨w2, r2, f2, t2⟩ := m_goL (d := d + 3) h3 hN g4 hm8 g1.2.2.2.2.2.2.2.1 g3 (by omega) (a := X) hX X 0 s w1 none (Nat.zero_add X) hW1 ((f1.i 108 0 rfl).trans hm) (g2.fa f1.a rfl) (s2.fa f1.a rfl) s3
      obtain ⟨k1, k2⟩ := goA_ok (cl := cl) g4 X s s3
      refine ⟨_, w1, w2, e1.trans ?_, e2.trans r2, f1, f2, Or.inr ⟨m, M, cl, _, (hL.fa f1.a rfl).fa f2.a rfl, hM1, t1.fa f2.a rfl rfl, t2, k1⟩⟩
      refine (val_call (pc2 := 21) rfl rfl rfl rfl (rcvO hW.k67 (by decide)) (Nat.le_of_ble_eq_true rfl) (Nat.le_of_ble_eq_true rfl) rfl (c_isOn (d + 6) hW hon) rfl).trans ?_
      refine (tr_17_21 d w hW _ _).trans ?_
      rw [if_pos (by decide), hn]
      have r1' := (tr_156 d w (nI X) (nI N)).trans r1
      refine (val_call (pc2 := 39) rfl rfl rfl rfl (rcvO hW.k67 (by decide)) (Nat.le_of_ble_eq_true rfl) (Nat.le_of_ble_eq_true rfl) rfl r1' rfl).trans ?_
      exact tr_17_39 d w1 _ _
  · have e2 := e2 w hW
    rw [if_neg h1, if_neg h2] at e1 e2
    exact ⟨-1, w, w, e1, e2, Fr.refl _ _, Fr.refl _ _, hR⟩
/-! run: what the reference counts anew -/
def rkP (N : Nat) (F : Nat → Nat → Nat) (r j : Nat) : Bool := decide (rkN N (F j) = r)
theorem rkP_sP {N S : Nat} (hN : N ≤ 8) {F : Nat → Nat → Nat} (hF : ∀ k, k ≤ S → IsRow N (F k)) {k j : Nat} (hk : k ≤ S) (hj : j ≤ S) : rkP N F (rkN N (F k)) j = sP N F k j := by
  refine decide_eq_decide.mpr ?_
  rcases rk_pk hN (hF j hj) (hF k hk) with ⟨-, a, b⟩ | ⟨a, b⟩ | ⟨a, b⟩
  · exact ⟨fun _ => b, fun _ => a⟩
  · exact ⟨fun h => by omega, fun h => by omega⟩
  · exact ⟨fun h => by omega, fun h => by omega⟩
theorem oc_rk {N S : Nat} (hN : N ≤ 8) {F : Nat → Nat → Nat} (hF : ∀ k, k ≤ S → IsRow N (F k)) {k i : Nat} (hk : k ≤ S) (hi : i ≤ S) : oc (rkP N F (rkN N (F k))) i = oc (sP N F k) i := oc_congr i (fun j _ hj => rkP_sP hN hF hk (by omega))
theorem lts_rk {N S : Nat} (hN : N ≤ 8) {F : Nat → Nat → Nat} (hF : ∀ k, k ≤ S → IsRow N (F k)) {k i : Nat} (hk : k ≤ S) (hi : i ≤ S) : lts (rkP N F (rkN N (F k))) i = lts (sP N F k) i := lts_congr i (fun j _ hj => rkP_sP hN hF hk (by omega))
abbrev SN : List (Nat × Option Nat) := [(109, none), (110, none), (111, none), (130, none)]
section RUNQ
variable {N : Nat} {w : Wd}
theorem m_run0 (d : Nat) (hW : Fix w) (x0 : Int32) : ∃ w', val (216, d + 2, 56, [some (.ref 108), some (.int x0), some (.int 0), some (.int (-9)), some (.int 0), none], [], w) = val (216, d + 2, 80, [some (.ref 108), some (.int x0), some (.int 0), some (.int (-9)), some (.int 1), none], [], w') ∧ Fr [(130, none)] w w' ∧ ∀ k, k < 40320 → gI w' 130 k = 0 := by
  have hL := loopUp (c := fun k v => (216, d + 2, 56, [some (.ref 108), some (.int x0), some (.int 0), some (.int (-9)), some (.int (nI k)), none], [], v)) (P := fun k v => Fr [(130, none)] w v ∧ ∀ i, i < k → gI v 130 i = 0) (R := fun r => ∃ w', r = val (216, d + 2, 80, [some (.ref 108), some (.int x0), some (.int 0), some (.int (-9)), some (.int 1), none], [], w') ∧ Fr [(130, none)] w w' ∧ ∀ k, k < 40320 → gI w' 130 k = 0) (N := 40320) (fun v hv => ⟨v, (tr_216_56 d v (hv.1.fix rfl hW) _ _ _ _ (fun h => absurd (Int32.le_refl _) h)).trans (if_pos (Int32.le_refl _)), hv.1, hv.2⟩) (fun k v hk hv => Or.inr ⟨sI v 130 k 0, (tr_216_56 d v (hv.1.fix rfl hW) _ _ _ _ (fun _ => inB_nI hk (by decide))).trans (by
      rw [if_neg (show ¬ (40320 : Int32) ≤ nI k from n_nle (a := 40320) hk (by decide)), n_succ, nI_clamp (by omega)]), hv.1.sI 130 _ _ rfl, fun i hi => by
        by_cases e : i = k
        · rw [e, gI_same]
        · rw [gI_nk _ _ _ e]; exact hv.2 i (by omega)⟩) w ⟨Fr.refl _ _, fun i hi => absurd hi (Nat.not_lt_zero i)⟩
  exact hL
theorem m_runL (h3 : 3 ≤ N) (hN : N ≤ 8) {S : Nat} {F : Nat → Nat → Nat} (hS : S ≤ 2000) (hF : ∀ k, k ≤ S → IsRow N (F k)) (d : Nat) (x0 : Int32) : ∀ n k (w : Wd) (l5 : Option Value), k + n = S → Fix w → gI w 108 0 = nI N → gI w 108 29 = nI S → (∀ k, k ≤ S → gI w 127 k = nI (dcN N (F k))) → (∀ r, r < 40320 → gI w 130 r = b01 (decide (0 < oc (rkP N F r) k))) → ∃ w', val (216, d + 2, 80, [some (.ref 108), some (.int x0), some (.int (nI (df N F k))), some (.int (fi N F k)), some (.int (nI (k + 1))), l5], [], w) = some (some (.int (if x0 = 2 then fi N F S else nI (df N F S))), w') ∧ Fr SN w w' := by
  intro n
  induction n with
  | zero =>
    intro k w l5 hk hW hn h29 h127 h130
    have hkS : k = S := by omega
    subst hkS
    have e := tr_216_80 d w hW x0 (nI (df N F k)) (fi N F k) (nI (k + 1)) l5 (fun h => absurd (by rw [h29]; exact n_lt (by omega) (by omega)) h) (fun h => absurd (by rw [h29]; exact n_lt (by omega) (by omega)) h)
    rw [h29, if_pos (n_lt (by omega) (by omega))] at e
    refine ⟨w, e.trans ?_, Fr.refl _ _⟩
    by_cases h : x0 = 2
    · rw [if_neg (fun hh => hh h), if_pos h]
    · rw [if_pos h, if_neg h]
  | succ n ih =>
    intro k w l5 hk hW hn h29 h127 h130
    have ik : (nI (k + 1)).toNatClampNeg = k + 1 := nI_clamp (by omega)
    have hr := hF (k + 1) (by omega)
    have e := tr_216_80 d w hW x0 (nI (df N F k)) (fi N F k) (nI (k + 1)) l5 (fun _ _ => inB_nI (by omega) (by omega)) (fun _ _ => inB_nI (by omega) (by omega))
    rw [h29, if_neg (n_nlt (show k + 1 ≤ S by omega) (by omega)), ik, h127 (k + 1) (by omega)] at e
    have e1 : val (216, d + 2, 80, [some (.ref 108), some (.int x0), some (.int (nI (df N F k))), some (.int (fi N F k)), some (.int (nI (k + 1))), l5], [], w) = val (216, d + 2, 124, [some (.ref 108), some (.int x0), some (.int (nI (df N F k))), some (.int (fi N F (k + 1))), some (.int (nI (k + 1))), l5], [.int (nI (dcN N (F (k + 1)))), .ref 108], w) := by
      have hfi : fi N F (k + 1) = if fi N F k = -9 ∧ isId N (F (k + 1)) = true then nI (k + 1) else fi N F k := rfl
      refine e.trans ?_
      by_cases c1 : fi N F k = -9
      · rw [if_neg (fun h => h c1)]
        refine (val_call (pc2 := 106) rfl rfl rfl rfl (hW.rc _) (Nat.le_of_ble_eq_true rfl) (Nat.le_of_ble_eq_true rfl) rfl (m_rounds hN (d + 1) hW hn) rfl).trans ?_
        refine (tr_216_106 d w hW _ _ _ _ _ _ _ (fun _ => inB_nI (by omega) (by omega)) (fun _ => inB_nI (by omega) (by omega))).trans ?_
        rw [ik, h127 (k + 1) (by omega)]
        by_cases c2 : isId N (F (k + 1)) = true
        · rw [if_neg (fun h => h ((dc_id hN hr).mpr c2)), hfi, if_pos ⟨c1, c2⟩]
        · rw [if_pos (fun h => c2 ((dc_id hN hr).mp h)), hfi, if_neg (fun h => c2 h.2)]
      · rw [if_pos c1, hfi, if_neg (fun h => c1 h.1)]
    obtain ⟨w1, r1, f1⟩ := m_rank h3 hN ⟨hr, rfl⟩ d hW hn
    have hW1 := f1.fix rfl hW
    obtain ⟨hq1, hq2⟩ := rkN_lt hN hr
    obtain ⟨q, hq⟩ : ∃ q, q = rkN N (F (k + 1)) := ⟨_, rfl⟩
    rw [← hq] at r1 hq1
    have iq : (nI q).toNatClampNeg = q := nI_clamp (by omega)
    have hqb : inB (nI q) 40320 = true := inB_nI (by omega) (by decide)
    have e2 := tr_216_127 d w1 hW1 x0 (nI (df N F k)) (fi N F (k + 1)) (nI (k + 1)) (nI q) l5 hqb (fun _ => hqb) (fun _ => hqb)
    have hdf : df N F (k + 1) = df N F k + (if oc (rkP N F q) k = 0 then 1 else 0) := by
      rw [hq, oc_rk hN hF (show k + 1 ≤ S by omega) (show k ≤ S by omega)]; rfl
    rw [iq, f1.i 130 q rfl, h130 q (by omega), n_succ (k + 1)] at e2
    obtain ⟨w2, hw2⟩ : ∃ z, z = sI w1 130 q 1 := ⟨_, rfl⟩
    rw [← hw2] at e2
    have f2 : Fr SN w w2 := by rw [hw2]; exact (f1.mono rfl).sI 130 _ _ rfl
    have e2' : val (216, d + 2, 127, [some (.ref 108), some (.int x0), some (.int (nI (df N F k))), some (.int (fi N F (k + 1))), some (.int (nI (k + 1))), l5], [.int (nI q)], w1) = val (216, d + 2, 80, [some (.ref 108), some (.int x0), some (.int (nI (df N F (k + 1)))), some (.int (fi N F (k + 1))), some (.int (nI (k + 1 + 1))), some (.int (nI q))], [], w2) := by
      refine e2.trans ?_
      by_cases c : oc (rkP N F q) k = 0
      · rw [if_neg (fun h => h (by rw [c]; rfl)), hdf, if_pos c, n_succ (df N F k)]
      · rw [if_pos (by rw [decide_eq_true (show 0 < oc (rkP N F q) k by omega)]; decide), hdf, if_neg c, show (0 : Int32) = nI 0 from rfl, n_add]
    obtain ⟨w3, r3, f3⟩ := ih (k + 1) w2 (some (.int (nI q))) (by omega) (f2.fix rfl hW) ((f2.i 108 0 rfl).trans hn) ((f2.i 108 29 rfl).trans h29) (fun j hj => (f2.i 127 j rfl).trans (h127 j hj)) (fun r hr => by
      have ho : oc (rkP N F r) (k + 1) = oc (rkP N F r) k + (rkP N F r (k + 1)).toNat := rfl
      rw [hw2]
      by_cases c : r = q
      · rw [c, gI_same]
        have : rkP N F q (k + 1) = true := decide_eq_true hq.symm
        rw [c, this] at ho
        rw [ho, decide_eq_true (show 0 < oc (rkP N F q) k + true.toNat by show 0 < _ + 1; omega)]; rfl
      · have : rkP N F r (k + 1) = false := decide_eq_false (fun h => c (by rw [hq, h]))
        rw [this] at ho
        rw [gI_nk _ _ _ c, f1.i 130 r rfl, h130 r hr, ho]; rfl)
    refine ⟨w3, e1.trans ?_, f2.trans f3⟩
    refine (val_call (pc2 := 127) rfl rfl rfl rfl (hW.rc _) (Nat.le_of_ble_eq_true rfl) (Nat.le_of_ble_eq_true rfl) rfl r1 rfl).trans ?_
    exact e2'.trans r3
end RUNQ
theorem a_run {N : Nat} {w : Wd} (hW : Fix w) (hB : Bl w N) (hR : secR w N) (d : Nat) (x : Int32) : ∃ r w2, val (19, d + 2, 0, [some (.ref 64), some (.int x)], [], w) = some (some (.int r), w) ∧ val (216, d + 2, 0, [some (.ref 108), some (.int x), none, none, none, none], [], w) = some (some (.int r), w2) ∧ Fr SN w w2 := by
  obtain ⟨h3, hN, hn, hm⟩ := id hB
  have e1 := tr_19 (d + 1) w hW x
  have e2 := tr_216 d w hW x
  by_cases h1 : x < 0
  · rw [if_pos h1] at e1 e2
    exact ⟨-1, w, e1, e2, Fr.refl _ _⟩
  by_cases h2 : x ≤ 3
  · rw [if_neg h1, if_pos h2] at e1 e2
    rcases hR with hO | ⟨m, M, cl, s, hO⟩
    · rw [hO.2.1, if_neg (fun h => h rfl)] at e2
      refine ⟨-2, w, e1.trans ?_, e2, Fr.refl _ _⟩
      refine (val_call (pc2 := 18) rfl rfl rfl rfl (rcvO hW.k67 (by decide)) (Nat.le_of_ble_eq_true rfl) (Nat.le_of_ble_eq_true rfl) rfl (c152n (d + 1) hW hO.1) rfl).trans ?_
      refine (tr_19_18 (d + 1) w hW _ _).trans ?_
      rw [if_neg (fun h => h rfl)]
    · have hon := hO.on
      obtain ⟨hL, hM1, ⟨a1, a2, a3, a4, a5, a6, a7, a8⟩, ⟨b1, b2, b3, b4, b5, b6, b7⟩, s3⟩ := hO
      have e1' : val (19, d + 2, 0, [some (.ref 64), some (.int x)], [], w) = val (19, d + 2, 18, [some (.ref 64), some (.int x)], [.int 1], w) := by
        refine e1.trans ?_
        refine (val_call (pc2 := 18) rfl rfl rfl rfl (rcvO hW.k67 (by decide)) (Nat.le_of_ble_eq_true rfl) (Nat.le_of_ble_eq_true rfl) rfl (c_isOn (d + 1) hW hon) rfl).trans ?_
        rfl
      have e3 := e1'.trans (tr_19_18 (d + 1) w hW x 1)
      rw [if_pos (by decide), a2, a3, a4, a8.2.1] at e3
      rw [b1, if_pos (by decide), b3, b4] at e2
      by_cases x0 : x = 0
      · rw [if_pos x0] at e3
        rw [if_neg (fun h => h x0)] at e2
        exact ⟨_, w, e3, e2, Fr.refl _ _⟩
      by_cases x1 : x = 1
      · rw [if_neg x0, if_pos x1] at e3
        rw [if_pos x0, if_neg (fun h => h x1)] at e2
        refine ⟨b01 s.2.2.1, w, e3.trans ?_, e2.trans ?_, Fr.refl _ _⟩
        · cases s.2.2.1 <;> rfl
        · cases s.2.2.1 <;> rfl
      rw [if_neg x0, if_neg x1] at e3
      rw [if_pos x0, if_pos x1] at e2
      obtain ⟨w1, r1, f1, g1⟩ := m_run0 d hW x
      obtain ⟨w2, r2, f2⟩ := m_runL h3 hN s3.1 s3.2.1 d x s.1 0 w1 none (Nat.zero_add _) (f1.fix rfl hW) ((f1.i 108 0 rfl).trans hm) ((f1.i 108 29 rfl).trans b3) (fun k hk => (f1.i 127 k rfl).trans (b5 k hk)) (fun r hr => g1 r hr)
      refine ⟨_, w2, ?_, e2.trans (r1.trans r2), (f1.mono rfl).trans f2⟩
      refine e3.trans ?_
      by_cases x2 : x = 2
      · rw [if_pos x2, if_pos x2]
      · rw [if_neg x2, if_neg x2]
  · rw [if_neg h1, if_neg h2] at e1 e2
    exact ⟨-1, w, e1, e2, Fr.refl _ _⟩
