/-! GROUPS: the class's group stands closed -/
theorem rk_id (N : Nat) : ∀ k, rk N (fun p => p) k = 0
  | 0 => rfl
  | k + 1 => by
    show rk N (fun p => p) k * (N - k) + lb (fun p => p) k = 0
    rw [rk_id N k, Nat.zero_mul, Nat.zero_add]
    show k - cn (fun i => decide (i < k)) k = 0
    rw [cn_below k k (Nat.le_refl k), Nat.sub_self]
theorem rkN_id (N : Nat) : rkN N (fun p => p) = 0 := rk_id N N
theorem fc6 {N : Nat} (h : N ≤ 6) : fc N ≤ 720 := by
  have : N = 0 ∨ N = 1 ∨ N = 2 ∨ N = 3 ∨ N = 4 ∨ N = 5 ∨ N = 6 := by omega
  rcases this with rfl | rfl | rfl | rfl | rfl | rfl | rfl <;> decide
abbrev FGr : List (Nat × Option Nat) := [(76, some 4), (77, none), (78, none)]
/-- the class's members -/
def CG (w : Wd) (N : Nat) (s : GS) : Prop := gI w 76 4 = nI s.1 ∧ (∀ i, i < s.1 → gI w 77 i = nI (pkN N (s.2 i))) ∧ ∀ r, r < 720 → gI w 78 r = b01 (hasG N s r)
/-- the class's generators that it needed -/
def CN (w : Wd) (N K : Nat) (ns : Nat → Nat → Nat) : Prop := K ≤ 6 ∧ gI w 76 3 = nI K ∧ ∀ g, g < K → IsRow N (ns g) ∧ gI w 79 g = nI (pkN N (ns g))
theorem CN.fa {T : List (Nat × Option Nat)} {w v : Wd} {N K : Nat} {ns : Nat → Nat → Nat} (h : CN w N K ns) (hf : FrA T w v) (ht : dj T [(76, some 3), (79, none)] = true) : CN v N K ns := ⟨h.1, (hf.i ht 76 3 (by decide) rfl).trans h.2.1, fun g hg => ⟨(h.2.2 g hg).1, (hf.i ht 79 g (by decide) rfl).trans (h.2.2 g hg).2⟩⟩
theorem CG.fa {T : List (Nat × Option Nat)} {w v : Wd} {N : Nat} {s : GS} (h : CG w N s) (hf : FrA T w v) (ht : dj T FGr = true) : CG v N s := ⟨(hf.i ht 76 4 (by decide) rfl).trans h.1, fun i hi => (hf.i ht 77 i (by decide) rfl).trans (h.2.1 i hi), fun r hr => (hf.i ht 78 r (by decide) rfl).trans (h.2.2 r hr)⟩
theorem Fix.k76 {w : Wd} (h : Fix w) : wK w 76 = (1, 6) := h.k 76 (by omega) (by omega)
theorem hasG_icl {N : Nat} {s : GS} {x : Nat → Nat} (hn : ¬ hasG N s (rkN N x) = true) (r : Nat) : hasG N (icl N s x) r = (hasG N s r || decide (r = rkN N x)) := by
  have e : icl N s x = (s.1 + 1, upF s.2 s.1 x) := if_neg hn
  rw [e]
  show (sn (fun i => rkN N (upF s.2 s.1 x i)) s.1 r || decide (r = rkN N (upF s.2 s.1 x s.1))) = _
  rw [upF_eq, sn_congr (g := rkS N s) (fun i hi => by show rkN N (upF s.2 s.1 x i) = _; rw [upF_ne _ _ (by omega)]; rfl)]
  rfl
section CGR
variable {N K : Nat} {ns : Nat → Nat → Nat}
theorem c_include (h3 : 3 ≤ N) (hN : N ≤ 8) (d : Nat) {w : Wd} (hW : Fix w) {s : GS} (hs : CG w N s) {x : Nat → Nat} (hx : IsRow N x) (hr : rkN N x < 720) (hf : 720 ≤ s.1 → hasG N s (rkN N x) = true) (h31 : s.1 < 2 ^ 30) : ∃ w', val (62, d + 2, 0, [some (.ref 76), some (.int (nI N)), some (.int (nI (pkN N x))), none], [], w) = some (none, w') ∧ Fr FGr w w' ∧ CG w' N (icl N s x) := by
  obtain ⟨c1, c2, c3⟩ := id hs
  have hO := okn h3 hN
  obtain ⟨q, hq⟩ : ∃ q, q = rkN N x := ⟨_, rfl⟩
  rw [← hq] at hr hf
  have iq : (nI q).toNatClampNeg = q := nI_clamp (by omega)
  have hqb : inB (nI q) 720 = true := inB_nI hr (by omega)
  have e0 : val (62, d + 2, 0, [some (.ref 76), some (.int (nI N)), some (.int (nI (pkN N x))), none], [], w) = val (62, d + 2, 5, [some (.ref 76), some (.int (nI N)), some (.int (nI (pkN N x))), none], [.int (nI q)], w) := by
    refine (tr_62 d w _ _).trans ?_
    refine (val_call (pc2 := 5) rfl rfl rfl rfl rfl (Nat.le_of_ble_eq_true rfl) (Nat.le_of_ble_eq_true rfl) rfl (ev_139 d w (nI N) (nI (pkN N x)) hO) rfl).trans ?_
    rw [r_139 hN hx, ← hq]
    rfl
  have g76 : gI (sI w 78 q (vp_nar .boolean 1)) 76 4 = nI s.1 := by rw [gI_ne _ _ _ _ (by decide)]; exact c1
  have e1 := tr_62_5 d w hW (nI N) (nI (pkN N x)) (nI q) (fun _ _ => hqb) (fun _ _ _ => hqb) (fun _ h _ => by
    rw [iq, g76]
    rw [c1] at h
    exact inB_nI (by
      by_cases c : s.1 < 720
      · exact c
      · exact absurd (n_le (a := 720) (show 720 ≤ s.1 by omega) (by omega)) h) (by omega))
  rw [if_neg (show ¬ (720 : Int32) ≤ nI q from n_nle (a := 720) hr (by omega)), c1, iq, g76, c3 q hr, nI_clamp (show s.1 < 2 ^ 31 by omega), n_succ] at e1
  by_cases hm : hasG N s q = true
  · have hi : icl N s x = s := if_pos (by rw [← hq]; exact hm)
    rw [hi]
    refine ⟨w, e0.trans (e1.trans ?_), Fr.refl _ _, hs⟩
    rw [hm]
    split
    · rfl
    · exact if_neg (by decide)
  · have hs720 : s.1 < 720 := by
      by_cases c : s.1 < 720
      · exact c
      · exact absurd (hf (by omega)) hm
    have hm2 : hasG N s q = false := by simpa using hm
    rw [if_neg (show ¬ (720 : Int32) ≤ nI s.1 from n_nle (a := 720) hs720 (by omega)), hm2, if_pos (show b01 false = 0 from rfl)] at e1
    have hmx : ¬ hasG N s (rkN N x) = true := by rw [← hq]; exact hm
    have hi : icl N s x = (s.1 + 1, upF s.2 s.1 x) := if_neg hmx
    refine ⟨_, e0.trans e1, (((Fr.refl _ w).sI 78 _ _ rfl).sI 76 4 _ rfl).sI 77 _ _ rfl, ?_, fun i h => ?_, fun r hr2 => ?_⟩
    · rw [hi, gI_ne _ _ _ _ (by decide), gI_same]
    · rw [hi] at h ⊢
      have h' : i < s.1 + 1 := h
      show _ = nI (pkN N (upF s.2 s.1 x i))
      by_cases c : i = s.1
      · rw [c, gI_same, upF_eq]
      · rw [gI_nk _ _ _ c, gI_ne _ _ _ _ (by decide), gI_ne _ _ _ _ (by decide), upF_ne _ _ c]; exact c2 i (by omega)
    · rw [hasG_icl hmx, ← hq, gI_ne _ _ _ _ (by decide), gI_ne _ _ _ _ (by decide)]
      by_cases c : r = q
      · rw [c, gI_same, decide_eq_true rfl, Bool.or_true]; rfl
      · rw [gI_nk _ _ _ c, decide_eq_false c, Bool.or_false]; exact c3 r hr2
theorem BI.full {s : GS} (h : BI N ns K s) (h6 : N ≤ 6) (hz : 720 ≤ s.1) {x : Nat → Nat} (hx : IsRow N x) : hasG N s (rkN N x) = true := by
  have h1 := h.le
  have h2 := fc6 h6
  have h3 := h.many
  have : cn (hasG N s) (fc N) = fc N := by omega
  exact (cn_full (fc N)).mp this _ (rkN_fc hx)
theorem c_closeI (h3 : 3 ≤ N) (hN : N ≤ 6) (d : Nat) {i : Nat} (hi : i < 720) : ∀ n g s (w : Wd), Fix w → CN w N K ns → CG w N s → BI N ns K s → i < s.1 → g + n = K → ∃ w' l3, val (64, d + 3, 55, [some (.ref 76), some (.int (nI N)), some (.int (nI i)), some (.int (nI g))], [], w) = val (64, d + 3, 38, [some (.ref 76), some (.int (nI N)), some (.int (nI (i + 1))), l3], [], w') ∧ Fr FGr w w' ∧ CG w' N (inn N opR ns i n g s) ∧ BI N ns K (inn N opR ns i n g s) := by
  intro n
  induction n with
  | zero =>
    intro g s w hW hC hs hb his hg
    have h6 := hC.1
    refine ⟨w, some (.int (nI g)), (tr_64_55 d w hW _ _ _ (fun _ => inB_nI hi (by omega)) (fun h => absurd (by rw [hC.2.1]; exact n_le (by omega) (by omega)) h)).trans ?_, Fr.refl _ _, hs, hb⟩
    rw [hC.2.1, if_pos (n_le (by omega) (by omega)), n_succ]
  | succ n ih =>
    intro g s w hW hC hs hb his hg
    have h6 := hC.1
    have hg6 : g < K := by omega
    have hgr := (hC.2.2 g hg6).1
    have hir := (hb.2.2.1 i his).1
    have e0 := tr_64_55 d w hW (nI N) (nI i) (nI g) (fun _ => inB_nI hi (by omega)) (fun _ => inB_nI (by omega) (by omega))
    rw [hC.2.1, if_neg (n_nle hg6 (by omega)), nI_clamp (show g < 2 ^ 31 by omega), nI_clamp (show i < 2 ^ 31 by omega), (hC.2.2 g hg6).2, hs.2.1 i his] at e0
    have hx : IsRow N (opR (s.2 i) (ns g)) := hir.comp hgr
    have hle := hb.le
    have h720 := fc6 hN
    obtain ⟨w1, e1, f1, c1⟩ := c_include h3 (by omega) d hW hs hx (by have := rkN_fc hx; omega) (fun h => hb.full hN h hx) (by omega)
    have hW1 := f1.fix rfl hW
    have hb1 := icl_BI hb hx (opR_ok (fun i hi => (hC.2.2 i hi).1) _ hir (hb.2.2.1 i his).2 g hg6).2
    obtain ⟨w2, l3, e2, f2, c2, b2⟩ := ih (g + 1) (icl N s (opR (s.2 i) (ns g))) w1 hW1 (hC.fa f1.a rfl) c1 hb1 (Nat.lt_of_lt_of_le his (icl_ext _).1) (by omega)
    refine ⟨w2, l3, e0.trans ?_, f1.trans f2, c2, b2⟩
    refine (val_call (pc2 := 81) rfl rfl rfl rfl rfl (Nat.le_of_ble_eq_true rfl) (Nat.le_of_ble_eq_true rfl) rfl (ev_136 (d + 1) w (nI N) (nI (pkN N (s.2 i))) (nI (pkN N (ns g))) (okn h3 (by omega))) rfl).trans ?_
    rw [r_136 (by omega) hir.1 hgr.1]
    refine (val_call (pc2 := 84) rfl rfl rfl rfl (rcvO hW.k76 (by decide)) (Nat.le_of_ble_eq_true rfl) (Nat.le_of_ble_eq_true rfl) rfl e1 rfl).trans ?_
    refine (tr_64_84 d w1 _ _ _).trans ?_
    rw [n_succ]
    exact e2
theorem c_closeL (h3 : 3 ≤ N) (hN : N ≤ 8) (hKN : K = 0 ∨ N ≤ 6) (d : Nat) : ∀ n i s (w : Wd) (l3 : Option Value), Fix w → CN w N K ns → CG w N s → BI N ns K s → s.1 ≤ 720 → i + n = 720 → ∃ w', val (64, d + 3, 38, [some (.ref 76), some (.int (nI N)), some (.int (nI i)), l3], [], w) = some (none, w') ∧ Fr FGr w w' ∧ CG w' N (outG N opR ns K n i s) := by
  intro n
  induction n with
  | zero =>
    intro i s w l3 hW hC hs hb hz hi
    refine ⟨w, (tr_64_38 d w hW _ _ l3).trans ?_, Fr.refl _ _, hs⟩
    rw [hs.1, if_pos (n_le (by omega) (by omega))]
  | succ n ih =>
    intro i s w l3 hW hC hs hb hz hi
    unfold outG
    by_cases c : i < s.1
    · rw [if_pos c]
      have e0 := tr_64_38 d w hW (nI N) (nI i) l3
      rw [hs.1, if_neg (n_nle c (by omega)), if_neg (show ¬ (720 : Int32) ≤ nI i from n_nle (a := 720) (by omega) (by omega))] at e0
      rcases hKN with hK | h6
      · subst hK
        have e1 := tr_64_55 d w hW (nI N) (nI i) 0 (fun h => absurd (by rw [hC.2.1]; exact Int32.le_refl _) h) (fun h => absurd (by rw [hC.2.1]; exact Int32.le_refl _) h)
        rw [hC.2.1, if_pos (show nI 0 ≤ 0 from Int32.le_refl _), n_succ] at e1
        obtain ⟨w2, e2, f2, c2⟩ := ih (i + 1) s w (some (.int 0)) hW hC hs hb hz (by omega)
        exact ⟨w2, e0.trans (e1.trans e2), f2, c2⟩
      · obtain ⟨w1, x3, e1, f1, c1, b1⟩ := c_closeI h3 h6 d (by omega) K 0 s w hW hC hs hb c (Nat.zero_add K)
        obtain ⟨w2, e2, f2, c2⟩ := ih (i + 1) _ w1 x3 (f1.fix rfl hW) (hC.fa f1.a rfl) c1 b1 (by have := b1.le; have := fc6 h6; omega) (by omega)
        exact ⟨w2, e0.trans (e1.trans e2), f1.trans f2, c2⟩
    · rw [if_neg c]
      refine ⟨w, (tr_64_38 d w hW _ _ l3).trans ?_, Fr.refl _ _, hs⟩
      rw [hs.1, if_pos (n_le (by omega) (by omega))]
theorem c_close (h3 : 3 ≤ N) (hN : N ≤ 8) (hKN : K = 0 ∨ N ≤ 6) (d : Nat) {w : Wd} (hW : Fix w) (hC : CN w N K ns) : ∃ w', val (64, d + 3, 0, [some (.ref 76), some (.int (nI N)), none, none], [], w) = some (none, w') ∧ Fr FGr w w' ∧ CG w' N (outG N opR ns K 720 0 gs0) := by
  have hL := loopUp (c := fun k v => (64, d + 3, 2, [some (.ref 76), some (.int (nI N)), some (.int (nI k)), none], [], v)) (P := fun k v => Fr [(78, none)] w v ∧ ∀ i, i < k → gI v 78 i = 0) (R := fun r => ∃ w' l2, r = val (64, d + 3, 30, [some (.ref 76), some (.int (nI N)), some (.int l2), none], [.int (nI N), .int (nI N), .ref 76], sI w' 76 4 0) ∧ Fr [(78, none)] w w' ∧ ∀ k, k < 720 → gI w' 78 k = 0) (N := 720) (fun v hv => ⟨v, nI 720, (tr_64_2 d v (hv.1.fix rfl hW) _ _ (fun h => absurd (Int32.le_refl _) h)).trans (if_pos (Int32.le_refl _)), hv.1, hv.2⟩) (fun k v hk hv => Or.inr ⟨sI v 78 k 0, (tr_64_2 d v (hv.1.fix rfl hW) _ _ (fun _ => inB_nI hk (by decide))).trans (by
      rw [if_neg (show ¬ (720 : Int32) ≤ nI k from n_nle (a := 720) hk (by decide)), n_succ, nI_clamp (by omega), show vp_nar .boolean 0 = 0 from rfl]), hv.1.sI 78 _ _ rfl, fun i hi => by
        by_cases e : i = k
        · rw [e, gI_same]
        · rw [gI_nk _ _ _ e]; exact hv.2 i (by omega)⟩) w ⟨Fr.refl _ _, fun i hi => absurd hi (Nat.not_lt_zero i)⟩
  obtain ⟨wa, l2, e1, fa, ga⟩ := hL
  obtain ⟨wb, hwb⟩ : ∃ z, z = sI wa 76 4 0 := ⟨_, rfl⟩
  rw [← hwb] at e1
  have fb : Fr FGr w wb := by rw [hwb]; exact (fa.mono rfl).sI 76 4 _ rfl
  have hWb := fb.fix rfl hW
  have hsb : CG wb N (0, fun _ p => p) := ⟨by rw [hwb, gI_same]; rfl, fun i hi => absurd hi (Nat.not_lt_zero i), fun r hr => by rw [hwb, gI_ne _ _ _ _ (by decide), ga r hr]; rfl⟩
  obtain ⟨wc, e2, fc', cc⟩ := c_include h3 hN d hWb hsb (IsRow.id N) (by rw [rkN_id]; decide) (fun h => absurd h (by decide)) (by decide)
  have hic : icl N (0, fun _ p => p) (fun p => p) = gs0 := by
    have : icl N (0, fun _ p => p) (fun p => p) = (1, upF (fun _ p => p) 0 (fun p => p)) := if_neg (fun h => by cases h)
    rw [this]
    refine Prod.ext rfl (funext fun i => ?_)
    show upF (fun _ p => p) 0 (fun p => p) i = fun p => p
    by_cases c : i = 0
    · rw [c, upF_eq]
    · rw [upF_ne _ _ c]
  rw [hic] at cc
  have fbc := fb.trans fc'
  obtain ⟨wd, e3, fd, cd⟩ := c_closeL h3 hN hKN d 720 0 gs0 wc none (fc'.fix rfl hWb) ((hC.fa fb.a rfl).fa fc'.a rfl) cc gs0_BI (by decide) rfl
  refine ⟨wd, (tr_64 d w (nI N)).trans (e1.trans ?_), fbc.trans fd, cd⟩
  refine (val_call (pc2 := 33) rfl rfl rfl rfl rfl (Nat.le_of_ble_eq_true rfl) (Nat.le_of_ble_eq_true rfl) rfl (ev_133 (d + 2) wb (nI N) (okn h3 hN)) rfl).trans ?_
  rw [r_133 hN]
  refine (val_call (pc2 := 36) rfl rfl rfl rfl (rcvO hWb.k76 (by decide)) (Nat.le_of_ble_eq_true rfl) (Nat.le_of_ble_eq_true rfl) rfl e2 rfl).trans ?_
  refine (tr_64_36 d wc _ _).trans ?_
  exact e3
end CGR
