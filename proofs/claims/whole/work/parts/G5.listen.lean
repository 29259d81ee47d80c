/-! CALL: listen -/
/-- a row's blows go in -/
def rT (T : Nat → Nat) (C : Nat) (τ : Nat → Nat) : Nat → Nat → Nat
  | 0 => T
  | p + 1 => upF (rT T C τ p) (C + p) (τ p)
def aT (T : Nat → Nat) (C : Nat) (τ : Nat → Nat → Nat) (m : Nat → Nat) : Nat → Nat → Nat
  | 0 => T
  | k + 1 => rT (aT T C τ m k) (C + sm m k) (τ k) (m k)
/-- seconds -/
def secs (x : Int32) : Nat := fD (Jvm.FP.Core.fromInt Jvm.FP.Core.b64 x.toInt) (fI 1000)
theorem num_1000 : fI 1000 = 4652007308841189376 := by decide
theorem secs_num (x : Int32) : Num (secs x) := by
  have hi : INF = 9218868437227405312 := rfl
  have hn : Num (Jvm.FP.Core.fromInt Jvm.FP.Core.b64 x.toInt) := num_rr (decide (x.toInt < 0)) x.toInt.natAbs (by decide) 0
  unfold secs
  rw [num_1000]
  have e : szB 4652007308841189376 = 4652007308841189376 := by decide
  refine div_num hn.1 (by decide) ?_
  have := hn.2
  rintro (h | h | h | h)
  · omega
  · rw [e] at h; omega
  · have := h.2; rw [e] at this; omega
  · have := h.2; rw [e] at this; omega
theorem i_self (x : Int32) : x = iI x.toInt := (Int32.ofInt_toInt x).symm
section LISTEN
variable {N C : Nat} {T bl : Nat → Nat}
/-- the class: one row -/
theorem lp_34b (d : Nat) (h3 : 3 ≤ N) (hN8 : N ≤ 8) {k M C0 : Nat} {G : Nat → Nat} (hk : k < 400) (hG : IsRow N G) (hM : M ≤ N) (hC0 : C0 + M ≤ 300) (x0 : Int64) {τ : Nat → Int32} (n : Nat) : ∀ (p : Nat) (w : Wd) (l5 : Option Value), p + n = M → Fix w → gI w 64 0 = nI N → gI w 88 k = nI (pkN N G) → gI w 89 k = nI M → (∀ p, p < M → gI w 90 (8 * k + p) = τ p) → NOK N (C0 + p) (rT T C0 (fun p => secs (τ p)) p) (rT bl C0 (fun p => G p + 1) p) → NC w (C0 + p) (rT T C0 (fun p => secs (τ p)) p) (rT bl C0 (fun p => G p + 1) p) → ∃ w' l4 l5', val (34, d + 5, 47, [some (.ref 64), some (.long (lI (fI 1000))), none, some (.int (nI k)), some (.int (nI p)), l5, none], [], w) = val (34, d + 5, 33, [some (.ref 64), some (.long (lI (fI 1000))), none, some (.int (nI (k + 1))), l4, l5', none], [], w') ∧ Fr FAd w w' ∧ NOK N (C0 + M) (rT T C0 (fun p => secs (τ p)) M) (rT bl C0 (fun p => G p + 1) M) ∧ NC w' (C0 + M) (rT T C0 (fun p => secs (τ p)) M) (rT bl C0 (fun p => G p + 1) M) ∧ KP w w' (rT T C0 (fun p => secs (τ p)) p) (C0 + p) (rT T C0 (fun p => secs (τ p)) M) (C0 + M) := by
  have ik : (nI k).toNatClampNeg = k := nI_clamp (by omega)
  induction n with
  | zero =>
    intro p w l5 hp hW hn h88 h89 h90 hK hc
    have e : p = M := hp
    subst e
    refine ⟨w, some (.int (nI p)), l5, ?_, Fr.refl _ _, hK, hc, KP.refl _ _ _⟩
    refine (tr_34_47 d w hW _ _ _ _ (inB_nI hk (by omega)) (fun h => absurd (by rw [ik, h89]; exact Int32.le_refl _) h)).trans ?_
    rw [ik, h89, if_pos (Int32.le_refl _), n_succ]
  | succ n ih =>
    intro p w l5 hp hW hn h88 h89 h90 hK hc
    have i8 : nI k * 8 + nI p = nI (8 * k + p) := by
      rw [show (8 : Int32) = nI 8 from rfl, n_mul, n_add, Nat.mul_comm]
    have i8c : (nI (8 * k + p)).toNatClampNeg = 8 * k + p := nI_clamp (by omega)
    have hs := secs_num (τ p)
    have hf : Rl (Jvm.FP.Core.fromInt Jvm.FP.Core.b64 (τ p).toInt) := fi_rl
    have h130 : fn_130 (nI N) (nI (pkN N G)) (nI p) + 1 = nI (G p + 1) := by
      rw [c130f hN8 (by omega) hG.1, n_succ]
    have hgp := hG.1 p (by omega)
    obtain ⟨w1, r1, f1, s1, z1, z2⟩ := c_addB d hW hK (by omega) hc (b := G p + 1) (by omega) hs.1
    have hW1 := f1.fix rfl hW
    have hK1 : NOK N (C0 + p + 1) (rT T C0 (fun p => secs (τ p)) (p + 1)) (rT bl C0 (fun p => G p + 1) (p + 1)) := hK.add (by omega) hs.1 (show 1 ≤ G p + 1 by omega) (show G p + 1 ≤ N by omega)
    obtain ⟨w', l4, l5', e1, e2, e3, e4, e5⟩ := ih (p + 1) w1 (some (.long (lI (secs (τ p))))) (by omega) hW1 ((f1.i 64 0 rfl).trans hn) ((f1.i 88 k rfl).trans h88) ((f1.i 89 k rfl).trans h89) (fun q hq => (f1.i 90 _ rfl).trans (h90 q hq)) hK1 s1
    refine ⟨w', l4, l5', ?_, f1.trans e2, e3, e4, (KP.add z1 z2).trans e5⟩
    refine (tr_34_47 d w hW _ _ _ _ (inB_nI hk (by omega)) (fun _ => by rw [i8]; exact inB_nI (by omega) (by omega))).trans ?_
    rw [ik, h89, if_neg (n_nle (by omega) (by omega)), i8, i8c, h90 p (by omega)]
    have hcf := c_fromInt (d + 2) w (z := (τ p).toInt) (Int32.le_toInt _) (Int32.toInt_lt _)
    rw [← i_self] at hcf
    refine (val_call (pc2 := 79) rfl rfl rfl rfl rfl (Nat.le_of_ble_eq_true rfl) (Nat.le_of_ble_eq_true rfl) rfl hcf rfl).trans ?_
    refine (tr_34_79 d w _ _ _ _ _).trans ?_
    refine (val_call (pc2 := 83) rfl rfl rfl rfl rfl (Nat.le_of_ble_eq_true rfl) (Nat.le_of_ble_eq_true rfl) rfl (c_div (d + 2) w hf.1 (fi_rl (z := ((1000 : Nat) : Int))).1) rfl).trans ?_
    refine (tr_34_83 d w hW _ _ _ _ _ (inB_nI hk (by omega))).trans ?_
    rw [hn, ik, h88, h130]
    refine (val_call (pc2 := 114) rfl rfl rfl rfl (rcvO hW.k91 (by decide)) (Nat.le_of_ble_eq_true rfl) (Nat.le_of_ble_eq_true rfl) rfl r1 rfl).trans ?_
    refine (tr_34_114 d w1 _ _ _ _ _).trans ?_
    rw [n_succ]
    exact e1
/-- the class: the rows -/
theorem lp_34a (d : Nat) (h3 : 3 ≤ N) (hN8 : N ≤ 8) {bg : Nat} (hbg : bg ≤ 400) {m : Nat → Nat} {G : Nat → Nat → Nat} {τ : Nat → Nat → Int32} (hG : ∀ k, k < bg → IsRow N (G k)) (hm : ∀ k, m k ≤ N) (hC : C + sm m bg ≤ 300) (n : Nat) : ∀ (k : Nat) (w : Wd) (l4 l5 : Option Value), k + n = bg → Fix w → gI w 64 0 = nI N → gI w 84 7 = nI bg → (∀ k, k < bg → gI w 88 k = nI (pkN N (G k)) ∧ gI w 89 k = nI (m k) ∧ ∀ p, p < m k → gI w 90 (8 * k + p) = τ k p) → NOK N (C + sm m k) (aT T C (fun k p => secs (τ k p)) m k) (aT bl C (fun k p => G k p + 1) m k) → NC w (C + sm m k) (aT T C (fun k p => secs (τ k p)) m k) (aT bl C (fun k p => G k p + 1) m k) → ∃ w', val (34, d + 5, 33, [some (.ref 64), some (.long (lI (fI 1000))), none, some (.int (nI k)), l4, l5, none], [], w) = some (some (.int (gI w 84 6)), w') ∧ Fr FAd w w' ∧ NOK N (C + sm m bg) (aT T C (fun k p => secs (τ k p)) m bg) (aT bl C (fun k p => G k p + 1) m bg) ∧ NC w' (C + sm m bg) (aT T C (fun k p => secs (τ k p)) m bg) (aT bl C (fun k p => G k p + 1) m bg) ∧ KP w w' (aT T C (fun k p => secs (τ k p)) m k) (C + sm m k) (aT T C (fun k p => secs (τ k p)) m bg) (C + sm m bg) := by
  induction n with
  | zero =>
    intro k w l4 l5 hk hW hn h7 hb hK hc
    have e : k = bg := hk
    subst e
    refine ⟨w, ?_, Fr.refl _ _, hK, hc, KP.refl _ _ _⟩
    refine (tr_34_33 d w hW _ _ _ _).trans ?_
    rw [h7, if_pos (Int32.le_refl _)]
  | succ n ih =>
    intro k w l4 l5 hk hW hn h7 hb hK hc
    have hsm : sm m (k + 1) = sm m k + m k := rfl
    have hle : sm m (k + 1) ≤ sm m bg := by
      have key : ∀ j, k + 1 + j ≤ bg → sm m (k + 1) ≤ sm m (k + 1 + j) := by
        intro j
        induction j with
        | zero => exact fun _ => Nat.le_refl _
        | succ j ihj =>
          intro hj
          have : sm m (k + 1 + (j + 1)) = sm m (k + 1 + j) + m (k + 1 + j) := rfl
          have := ihj (by omega)
          omega
      have := key (bg - (k + 1)) (by omega)
      rwa [show k + 1 + (bg - (k + 1)) = bg by omega] at this
    obtain ⟨b1, b2, b3⟩ := hb k (by omega)
    obtain ⟨w1, l4', l5', r1, f1, n1, c1, p1⟩ := lp_34b (T := aT T C (fun k p => secs (τ k p)) m k) (bl := aT bl C (fun k p => G k p + 1) m k) d h3 hN8 (k := k) (M := m k) (C0 := C + sm m k) (G := G k) (by omega) (hG k (by omega)) (hm k) (by omega) (lI (fI 1000)) (τ := τ k) (m k) 0 w l5 (by omega) hW hn b1 b2 b3 hK hc
    have hW1 := f1.fix rfl hW
    have ea : C + sm m k + m k = C + sm m (k + 1) := by rw [hsm, Nat.add_assoc]
    have n1' : NOK N (C + sm m k + m k) (aT T C (fun k p => secs (τ k p)) m (k + 1)) (aT bl C (fun k p => G k p + 1) m (k + 1)) := n1
    have c1' : NC w1 (C + sm m k + m k) (aT T C (fun k p => secs (τ k p)) m (k + 1)) (aT bl C (fun k p => G k p + 1) m (k + 1)) := c1
    have p1' : KP w w1 (aT T C (fun k p => secs (τ k p)) m k) (C + sm m k) (aT T C (fun k p => secs (τ k p)) m (k + 1)) (C + sm m k + m k) := p1
    rw [ea] at n1' c1' p1'
    obtain ⟨w', e1, e2, e3, e4, e5⟩ := ih (k + 1) w1 l4' l5' (by omega) hW1 ((f1.i 64 0 rfl).trans hn) ((f1.i 84 7 rfl).trans h7) (fun j hj => by
      obtain ⟨a1, a2, a3⟩ := hb j hj
      exact ⟨(f1.i 88 j rfl).trans a1, (f1.i 89 j rfl).trans a2, fun p hp => (f1.i 90 _ rfl).trans (a3 p hp)⟩) n1' c1'
    refine ⟨w', ?_, f1.trans e2, e3, e4, p1'.trans e5⟩
    refine (tr_34_33 d w hW _ _ _ _).trans ?_
    rw [h7, if_neg (n_nle (by omega) (by omega))]
    rw [f1.i 84 6 rfl] at e1
    exact r1.trans e1
end LISTEN
