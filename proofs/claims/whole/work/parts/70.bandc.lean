/-! THE BAND: the class -/
theorem Fix.k84 {w : Wd} (h : Fix w) : wK w 84 = (0, 11) := h.k 84 (by omega) (by omega)
/-- the ringers' kinds, SKILLS and SLIPS, on the class's side -/
def RgC (w : Wd) (kd sk sl : Nat → Nat) : Prop := ∀ b, 1 ≤ b → b ≤ 8 → gI w 85 b = nI (kd b) ∧ gI w 86 b = nI (sk b) ∧ gI w 87 b = nI (sl b)
/-- kinds and SKILLS are such -/
def KS (kd sk : Nat → Nat) : Prop := ∀ b, kd b ≤ 4 ∧ sk b ≤ 20
theorem c_draw (d : Nat) {w : Wd} (hW : Fix w) {kd sk sl : Nat → Nat} (hK : KS kd sk) (hR : RgC w kd sk sl) {b : Nat} (h1 : 1 ≤ b) (h8 : b ≤ 8) (r seed : Int32) : val (52, d, 0, [some (.ref 84), some (.int (nI b)), some (.int r), some (.int seed), none, none], [], w) = some (some (.int (drw seed r (nI b) (nI (sk b)))), w) := by
  obtain ⟨-, e2, -⟩ := hR b h1 h8
  have hb : inB (nI b) 9 = true := inB_nI (by omega) (by omega)
  have hc : (nI b).toNatClampNeg = b := nI_clamp (by omega)
  have hs := (hK b).2
  have ew : (41 : Int32) - 2 * nI (sk b) = nI (41 - 2 * sk b) := by
    rw [show (41 : Int32) = nI 41 from rfl, show (2 : Int32) = nI 2 from rfl, n_mul, n_sub (by omega)]
  refine (tr_52 d w hW _ _ _ hb (fun _ => hb) (fun _ => ?_) (fun _ => hb)).trans ?_
  · rw [hc, e2, ew]; exact n_ne0 (by omega) (by omega)
  · rw [hc, e2, if_neg (by rw [ew]; exact n_nle0 (by omega) (by omega))]
    rfl
theorem c_off (d : Nat) {w : Wd} (hW : Fix w) {kd sk sl : Nat → Nat} (hK : KS kd sk) (hR : RgC w kd sk sl) {b : Nat} (h1 : 1 ≤ b) (h8 : b ≤ 8) (x : Int32) : val (53, d, 0, [some (.ref 84), some (.int (nI b)), some (.int x), none], [], w) = some (some (.int (ofs (kd b) (sl b) x)), w) := by
  obtain ⟨e1, -, e3⟩ := hR b h1 h8
  have hb : inB (nI b) 9 = true := inB_nI (by omega) (by omega)
  have hc : (nI b).toNatClampNeg = b := nI_clamp (by omega)
  have hk := (hK b).1
  have eq : ∀ j, j ≤ 4 → ((nI (kd b) = nI j) ↔ kd b = j) := fun j hj => n_inj (by omega) (by omega)
  refine (tr_53 d w hW _ _ hb (fun _ _ => hb)).trans ?_
  rw [hc, e1, e3]
  unfold ofs
  have q1 : (nI (kd b) = 1) ↔ kd b = 1 := eq 1 (by omega)
  have q2 : (nI (kd b) = 2) ↔ kd b = 2 := eq 2 (by omega)
  have q3 : (nI (kd b) = 3) ↔ kd b = 3 := eq 3 (by omega)
  have q4 : (nI (kd b) = 4) ↔ kd b = 4 := eq 4 (by omega)
  by_cases c1 : kd b = 1
  · rw [if_pos c1, if_pos (q1.mpr c1)]
  rw [if_neg c1, if_neg (fun h => c1 (q1.mp h))]
  by_cases c2 : kd b = 2
  · rw [if_pos c2, if_pos (q2.mpr c2)]
  rw [if_neg c2, if_neg (fun h => c2 (q2.mp h))]
  by_cases c3 : kd b = 3
  · rw [if_pos c3, if_pos (q3.mpr c3)]
  rw [if_neg c3, if_neg (fun h => c3 (q3.mp h))]
  by_cases c4 : kd b = 4
  · rw [if_pos c4, if_pos (q4.mpr c4)]
  rw [if_neg c4, if_neg (fun h => c4 (q4.mp h))]
theorem c_cond (d : Nat) {w : Wd} (hW : Fix w) {kd sk sl : Nat → Nat} (hK : KS kd sk) (hR : RgC w kd sk sl) {N : Nat} (hN : N ≤ 8) : val (57, d, 0, [some (.ref 84), some (.int (nI N)), none], [], w) = some (some (.int (if cdr kd N = true then 1 else 0)), w) := by
  refine (tr_57 d w _).trans ?_
  have up : ∀ j, j ≤ N → cdr kd (N - j) = true → cdr kd N = true := by
    intro j
    induction j with
    | zero => intro _ h; exact h
    | succ j ih =>
      intro hj h
      refine ih (by omega) ?_
      rw [show N - j = (N - (j + 1)) + 1 by omega]
      show (cdr kd (N - (j + 1)) || _) = true
      rw [h]; rfl
  refine loopUp (α := Unit) (c := fun k _ => (57, d, 2, [some (.ref 84), some (.int (nI N)), some (.int (nI (k + 1)))], [], w)) (P := fun k _ => cdr kd k = false) (R := fun r => r = some (some (.int (if cdr kd N = true then 1 else 0)), w)) (N := N) ?_ ?_ () rfl
  · intro _ h
    refine (tr_57_2 d w hW _ _ (fun hh => absurd (n_lt (Nat.lt_succ_self N) (by omega)) hh) (fun hh => absurd (n_lt (Nat.lt_succ_self N) (by omega)) hh)).trans ?_
    rw [if_pos (n_lt (Nat.lt_succ_self N) (by omega)), h]
    rfl
  · intro k _ hk h
    have hb : inB (nI (k + 1)) 9 = true := inB_nI (by omega) (by omega)
    obtain ⟨e1, -, -⟩ := hR (k + 1) (by omega) (by omega)
    have hk4 := (hK (k + 1)).1
    have e := tr_57_2 d w hW (nI N) (nI (k + 1)) (fun _ => hb) (fun _ _ => hb)
    rw [if_neg (n_nlt (by omega) (by omega)), nI_clamp (n := k + 1) (by omega), e1, n_succ] at e
    have q3 : (nI (kd (k + 1)) = 3) ↔ kd (k + 1) = 3 := n_inj (b := 3) (by omega) (by omega)
    have q4 : (nI (kd (k + 1)) = 4) ↔ kd (k + 1) = 4 := n_inj (b := 4) (by omega) (by omega)
    by_cases c : 3 ≤ kd (k + 1)
    · refine Or.inl (e.trans ?_)
      have ht : cdr kd N = true := up (N - (k + 1)) (by omega) (by
        rw [show N - (N - (k + 1)) = k + 1 by omega]
        show (cdr kd k || decide (3 ≤ kd (k + 1))) = true
        rw [decide_eq_true c, Bool.or_true])
      rw [ht, if_pos rfl]
      by_cases c3 : kd (k + 1) = 3
      · rw [if_pos (q3.mpr c3)]
      · rw [if_neg (fun hh => c3 (q3.mp hh)), if_neg (fun hh => hh (q4.mpr (by omega)))]
    · refine Or.inr ⟨(), e.trans ?_, ?_⟩
      · rw [if_neg (fun hh => by have := q3.mp hh; omega), if_pos (fun hh => by have := q4.mp hh; omega)]
      · show (cdr kd k || decide (3 ≤ kd (k + 1))) = false
        rw [h, decide_eq_false c]
        rfl
/-- the class's world after k rows of a ringing -/
def CB (w : Wd) (N : Nat) (kd sk : Nat → Nat) (seed : Int32) (fr : Nat) (F : Nat → Nat → Nat) (sl0 : Nat → Nat) (k : Nat) : Prop :=
  RgC w kd sk (bst N kd sk seed fr F sl0 k).1 ∧ gI w 84 7 = nI k ∧ gI w 84 8 = nI (bst N kd sk seed fr F sl0 k).2.1 ∧ gI w 84 9 = nI (bst N kd sk seed fr F sl0 k).2.2.1 ∧ gI w 84 10 = (bst N kd sk seed fr F sl0 k).2.2.2.1 ∧ gI w 84 6 = nI (sm (fun i => (brw N kd sk seed fr F sl0 i).2.2.2.2.1) k) ∧
  ∀ i, i < k → gI w 88 i = nI (pkN N (F (fr + i))) ∧ gI w 89 i = nI (brw N kd sk seed fr F sl0 i).2.2.2.2.1 ∧ ∀ p, p < (brw N kd sk seed fr F sl0 i).2.2.2.2.1 → gI w 90 (8 * i + p) = (brw N kd sk seed fr F sl0 i).2.2.2.2.2 p
abbrev FBc : List (Nat × Option Nat) := [(84, some 6), (84, some 7), (84, some 8), (84, some 9), (84, some 10), (87, none), (88, none), (89, none), (90, none)]
abbrev FBi : List (Nat × Option Nat) := [(84, some 6), (84, some 8), (87, none), (89, none), (90, none)]
/-- inside a row -/
def CR (w1 v : Wd) (kd sk : Nat → Nat) (k B0 : Nat) (s : RSt) : Prop :=
  Fr FBi w1 v ∧ RgC v kd sk s.1 ∧ gI v 84 8 = nI s.2.1 ∧ gI v 84 6 = nI (B0 + s.2.2.2.2.1) ∧ gI v 89 k = nI s.2.2.2.2.1 ∧ (∀ i, i ≠ k → gI v 89 i = gI w1 89 i) ∧ (∀ i, i < s.2.2.2.2.1 → gI v 90 (8 * k + i) = s.2.2.2.2.2 i) ∧ ∀ q, (q < 8 * k ∨ 8 * k + 8 ≤ q) → gI v 90 q = gI w1 90 q
theorem RgC.sl {w v : Wd} {kd sk sl : Nat → Nat} (h : RgC w kd sk sl) {b x : Nat} (h1 : ∀ c, gI v 85 c = gI w 85 c) (h2 : ∀ c, gI v 86 c = gI w 86 c) (h3 : ∀ c, gI v 87 c = if c = b then nI x else gI w 87 c) : RgC v kd sk (u1 sl b x) := by
  intro c c1 c8
  obtain ⟨e1, e2, e3⟩ := h c c1 c8
  refine ⟨(h1 c).trans e1, (h2 c).trans e2, (h3 c).trans ?_⟩
  show _ = nI (if c = b then x else sl c)
  by_cases e : c = b
  · rw [if_pos e, if_pos e]
  · rw [if_neg e, if_neg e, e3]
theorem RgC.eq {w v : Wd} {kd sk sl : Nat → Nat} (h : RgC w kd sk sl) (h1 : ∀ c, gI v 85 c = gI w 85 c) (h2 : ∀ c, gI v 86 c = gI w 86 c) (h3 : ∀ c, gI v 87 c = gI w 87 c) : RgC v kd sk sl := fun c c1 c8 => by
  obtain ⟨e1, e2, e3⟩ := h c c1 c8
  exact ⟨(h1 c).trans e1, (h2 c).trans e2, (h3 c).trans e3⟩
/-- one blow -/
theorem c_blow {N : Nat} (h3 : 3 ≤ N) (hN : N ≤ 8) {kd sk : Nat → Nat} (hK : KS kd sk) {seed : Int32} {r : Nat} (hr : r ≤ 2000) {f : Nat → Nat} (hf : IsRow N f) {k B0 : Nat} (hk : k < 400) {w1 v : Wd} (hW1 : Fix w1) {sl0 : Nat → Nat} {cl0 : Nat} {p : Nat} (hp : p < N) (hB : B0 + 8 < 2 ^ 31) (hsl : ∀ b, (rst N kd sk seed r f sl0 cl0 p).1 b + 1 < 2 ^ 31) (hcl : (rst N kd sk seed r f sl0 cl0 p).2.1 + 1 < 2 ^ 31)
    (hl : (rst N kd sk seed r f sl0 cl0 p).2.2.2.1 = false) (hC : CR w1 v kd sk k B0 (rst N kd sk seed r f sl0 cl0 p)) (d : Nat) (l8 l9 : Option Value) :
    ∃ (v' : Wd) (l8' : Option Value) (l9' : Int32), CR w1 v' kd sk k B0 (rst N kd sk seed r f sl0 cl0 (p + 1)) ∧ val (54, d + 2, 47, [some (.ref 84), some (.int (nI N)), some (.int (nI (pkN N f))), some (.int (nI r)), some (.int seed), some (.int (nI k)), some (.int (rst N kd sk seed r f sl0 cl0 p).2.2.1), some (.int (nI p)), l8, l9], [], v) =
      (if (rst N kd sk seed r f sl0 cl0 (p + 1)).2.2.2.1 = true then val (54, d + 2, 165, [some (.ref 84), some (.int (nI N)), some (.int (nI (pkN N f))), some (.int (nI r)), some (.int seed), some (.int (nI k)), some (.int (rst N kd sk seed r f sl0 cl0 p).2.2.1), some (.int (nI p)), some (.int (nI (f p + 1))), some (.int l9')], [.int (nI (f p + 1)), .int (nI N), .ref 84], v')
       else val (54, d + 2, 47, [some (.ref 84), some (.int (nI N)), some (.int (nI (pkN N f))), some (.int (nI r)), some (.int seed), some (.int (nI k)), some (.int (rst N kd sk seed r f sl0 cl0 (p + 1)).2.2.1), some (.int (nI (p + 1))), l8', some (.int l9')], [], v')) := by
  obtain ⟨c1, c2, c3, c4, c5, c6, c7, c8⟩ := hC
  have hpl := (rst_pl (N := N) (kd := kd) (sk := sk) (seed := seed) (r := r) (f := f) (sl0 := sl0) (cl0 := cl0) p).2.1 hl
  rw [hpl] at c4 c5 c7
  have hWv := c1.fix rfl hW1
  have hfp := hf.1 p hp
  have hNr : N * r ≤ 8 * 2000 := Nat.mul_le_mul hN hr
  have e0 := tr_54_47 d v (nI N) (nI (pkN N f)) (nI r) seed (nI k) (rst N kd sk seed r f sl0 cl0 p).2.2.1 (nI p) l8 l9
  rw [if_neg (n_nle hp (by omega)), c130f hN hp hf.1, n_succ] at e0
  have ex : (20 : Int32) * ((((nI N * nI r) + nI p) + 1) + (nI r / 2)) = nI (20 * (N * r + p + 1 + r / 2)) := by
    rw [n_mul, n_add, n_succ, show (2 : Int32) = nI 2 from rfl, n_div (by omega) (by omega), n_add, show (20 : Int32) = nI 20 from rfl, n_mul]
  rw [ex] at e0
  have e2 : val (54, d + 2, 47, [some (.ref 84), some (.int (nI N)), some (.int (nI (pkN N f))), some (.int (nI r)), some (.int seed), some (.int (nI k)), some (.int (rst N kd sk seed r f sl0 cl0 p).2.2.1), some (.int (nI p)), l8, l9], [], v) = val (54, d + 2, 94, [some (.ref 84), some (.int (nI N)), some (.int (nI (pkN N f))), some (.int (nI r)), some (.int seed), some (.int (nI k)), some (.int (rst N kd sk seed r f sl0 cl0 p).2.2.1), some (.int (nI p)), some (.int (nI (f p + 1))), l9], [.int (ofs (kd (f p + 1)) ((rst N kd sk seed r f sl0 cl0 p).1 (f p + 1)) (drw seed (nI r) (nI (f p + 1)) (nI (sk (f p + 1))))), .int (nI (20 * (N * r + p + 1 + r / 2)))], v) := by
    refine e0.trans ?_
    refine (val_call (pc2 := 91) rfl rfl rfl rfl (rcvO hWv.k84 (by decide)) (Nat.le_of_ble_eq_true rfl) (Nat.le_of_ble_eq_true rfl) rfl (c_draw (d + 1) hWv hK c2 (b := f p + 1) (by omega) (by omega) (nI r) seed) rfl).trans ?_
    refine (val_call (pc2 := 94) rfl rfl rfl rfl (rcvO hWv.k84 (by decide)) (Nat.le_of_ble_eq_true rfl) (Nat.le_of_ble_eq_true rfl) rfl (c_off (d + 1) hWv hK c2 (b := f p + 1) (by omega) (by omega) _) rfl).trans ?_
    rfl
  have ei : nI k * 8 + nI p = nI (8 * k + p) := by rw [show (8 : Int32) = nI 8 from rfl, n_mul, n_add, Nat.mul_comm]
  have e3 := tr_54_94 d v hWv (nI N) (nI (pkN N f)) (nI r) seed (nI k) (rst N kd sk seed r f sl0 cl0 p).2.2.1 (nI p) (nI (f p + 1)) (ofs (kd (f p + 1)) ((rst N kd sk seed r f sl0 cl0 p).1 (f p + 1)) (drw seed (nI r) (nI (f p + 1)) (nI (sk (f p + 1))))) (nI (20 * (N * r + p + 1 + r / 2))) l9 (by rw [ei]; exact inB_nI (by omega) (by omega)) (inB_nI hk (by omega))
  rw [ei, nI_clamp (n := 8 * k + p) (by omega), nI_clamp (n := k) (by omega), n_succ] at e3
  have eT : nI (20 * (N * r + p + 1 + r / 2)) + ofs (kd (f p + 1)) ((rst N kd sk seed r f sl0 cl0 p).1 (f p + 1)) (drw seed (nI r) (nI (f p + 1)) (nI (sk (f p + 1)))) = tmb N kd sk seed r p (f p + 1) ((rst N kd sk seed r f sl0 cl0 p).1 (f p + 1)) := rfl
  rw [eT] at e3
  have r1 := rst.eq_2 N kd sk seed r f sl0 cl0 p
  rw [if_neg (by rw [hl]; decide)] at r1
  generalize hTT : tmb N kd sk seed r p (f p + 1) ((rst N kd sk seed r f sl0 cl0 p).1 (f p + 1)) = T at e3 r1
  have a1 : gI (sI v 90 (8 * k + p) T) 89 k + 1 = nI (p + 1) := by rw [gI_ne _ _ _ _ (by decide), c5, n_succ]
  rw [a1] at e3
  have a2 : gI (sI (sI v 90 (8 * k + p) T) 89 k (nI (p + 1))) 84 6 + 1 = nI (B0 + (p + 1)) := by rw [gI_ne _ _ _ _ (by decide), gI_ne _ _ _ _ (by decide), c4, n_succ]; rfl
  rw [a2] at e3
  -- the world when the blow is written
  have f4 : Fr FBi w1 (sI (sI (sI v 90 (8 * k + p) T) 89 k (nI (p + 1))) 84 6 (nI (B0 + (p + 1)))) := ((c1.sI 90 _ _ rfl).sI 89 _ _ rfl).sI 84 6 _ rfl
  have base : ∀ s : RSt, s.1 = (rst N kd sk seed r f sl0 cl0 p).1 → s.2.1 = (rst N kd sk seed r f sl0 cl0 p).2.1 → s.2.2.2.2.1 = p + 1 → s.2.2.2.2.2 = u1 (rst N kd sk seed r f sl0 cl0 p).2.2.2.2.2 p T → CR w1 (sI (sI (sI v 90 (8 * k + p) T) 89 k (nI (p + 1))) 84 6 (nI (B0 + (p + 1)))) kd sk k B0 s := by
    intro s s1 s2 s3 s4
    refine ⟨f4, ?_, ?_, ?_, ?_, fun i hi => ?_, fun i hi => ?_, fun q hq => ?_⟩
    · rw [s1]
      exact c2.eq (fun c => by rw [gI_ne _ _ _ _ (by decide), gI_ne _ _ _ _ (by decide), gI_ne _ _ _ _ (by decide)]) (fun c => by rw [gI_ne _ _ _ _ (by decide), gI_ne _ _ _ _ (by decide), gI_ne _ _ _ _ (by decide)]) (fun c => by rw [gI_ne _ _ _ _ (by decide), gI_ne _ _ _ _ (by decide), gI_ne _ _ _ _ (by decide)])
    · rw [s2, gI_nk _ _ _ (by decide), gI_ne _ _ _ _ (by decide), gI_ne _ _ _ _ (by decide), c3]
    · rw [s3, gI_same]
    · rw [s3, gI_ne _ _ _ _ (by decide), gI_same]
    · rw [gI_ne _ _ _ _ (by decide), gI_nk _ _ _ hi, gI_ne _ _ _ _ (by decide)]
      exact c6 i hi
    · rw [s3] at hi
      rw [s4, gI_ne _ _ _ _ (by decide), gI_ne _ _ _ _ (by decide)]
      show _ = (if i = p then T else (rst N kd sk seed r f sl0 cl0 p).2.2.2.2.2 i)
      by_cases e : i = p
      · subst e; rw [if_pos rfl, gI_same]
      · rw [if_neg e, gI_nk _ _ _ (by omega)]
        exact c7 i (by omega)
    · rw [gI_ne _ _ _ _ (by decide), gI_ne _ _ _ _ (by decide), gI_nk _ _ _ (by omega)]
      exact c8 q hq
  by_cases c : p = 0 ∨ (rst N kd sk seed r f sl0 cl0 p).2.2.1 < T
  · rw [if_pos c] at r1
    refine ⟨_, some (.int (nI (f p + 1))), T, base _ (by rw [r1]) (by rw [r1]) (by rw [r1]) (by rw [r1]), ?_⟩
    rw [r1, if_neg (fun h => by cases h)]
    refine e2.trans (e3.trans ?_)
    by_cases p0 : p = 0
    · rw [if_pos (by rw [p0]; rfl)]
    · have hgt : (rst N kd sk seed r f sl0 cl0 p).2.2.1 < T := by
        rcases c with c | c
        · exact absurd c p0
        · exact c
      rw [if_neg (n_ne0 p0 (by omega)), if_neg (Int32.not_le.mpr hgt)]
  · have p0 : p ≠ 0 := fun h => c (Or.inl h)
    have hle : T ≤ (rst N kd sk seed r f sl0 cl0 p).2.2.1 := Int32.not_lt.mp (fun h => c (Or.inr h))
    rw [if_neg c] at r1
    rw [if_neg (n_ne0 p0 (by omega)), if_pos hle] at e3
    have hb9 : inB (nI (f p + 1)) 9 = true := inB_nI (by omega) (by omega)
    have hbc : (nI (f p + 1)).toNatClampNeg = f p + 1 := nI_clamp (by omega)
    have hW4 := f4.fix rfl hW1
    obtain ⟨g1, g2, g3, g4, g5, g6, g7, g8⟩ := base ((rst N kd sk seed r f sl0 cl0 p).1, (rst N kd sk seed r f sl0 cl0 p).2.1, 0, false, p + 1, u1 (rst N kd sk seed r f sl0 cl0 p).2.2.2.2.2 p T) rfl rfl rfl rfl
    obtain ⟨b1, b2, b3⟩ := g2 (f p + 1) (by omega) (by omega)
    have e5 := tr_55 (d + 1) _ hW4 (nI (f p + 1)) hb9 (fun _ => hb9)
    generalize sI (sI (sI v 90 (8 * k + p) T) 89 k (nI (p + 1))) 84 6 (nI (B0 + (p + 1))) = x at e3 f4 g1 g2 g3 g4 g5 g6 g7 g8 b1 b2 b3 hW4 e5
    dsimp only at g2 g3 g4 g5 g6 g7 g8 b1 b2 b3
    have t1 : gI (sI x 84 8 (nI ((rst N kd sk seed r f sl0 cl0 p).2.1 + 1))) 87 (f p + 1) = nI ((rst N kd sk seed r f sl0 cl0 p).1 (f p + 1)) := (gI_ne _ _ _ _ (by decide)).trans b3
    have t2 : gI (sI (sI x 84 8 (nI ((rst N kd sk seed r f sl0 cl0 p).2.1 + 1))) 87 (f p + 1) (nI ((rst N kd sk seed r f sl0 cl0 p).1 (f p + 1) + 1))) 85 (f p + 1) = nI (kd (f p + 1)) := (gI_ne _ _ _ _ (by decide)).trans ((gI_ne _ _ _ _ (by decide)).trans b1)
    rw [hbc, g3, n_succ, t1, n_succ, gI_same, t2] at e5
    have fx : Fr FBi w1 (sI (sI x 84 8 (nI ((rst N kd sk seed r f sl0 cl0 p).2.1 + 1))) 87 (f p + 1) (nI ((rst N kd sk seed r f sl0 cl0 p).1 (f p + 1) + 1))) := (f4.sI 84 8 _ rfl).sI 87 _ _ rfl
    refine ⟨sI (sI x 84 8 (nI ((rst N kd sk seed r f sl0 cl0 p).2.1 + 1))) 87 (f p + 1) (nI ((rst N kd sk seed r f sl0 cl0 p).1 (f p + 1) + 1)), some (.int (nI (f p + 1))), T, ?_, ?_⟩
    · rw [r1]
      refine ⟨fx, ?_, ?_, ?_, ?_, fun i hi => ?_, fun i hi => ?_, fun q hq => ?_⟩
      · refine g2.sl (fun c => ?_) (fun c => ?_) (fun c => ?_)
        · rw [gI_ne _ _ _ _ (by decide), gI_ne _ _ _ _ (by decide)]
        · rw [gI_ne _ _ _ _ (by decide), gI_ne _ _ _ _ (by decide)]
        · by_cases e : c = f p + 1
          · rw [e, gI_same, if_pos rfl]
          · rw [gI_nk _ _ _ e, gI_ne _ _ _ _ (by decide), if_neg e]
      · rw [gI_ne _ _ _ _ (by decide), gI_same]
      · rw [gI_ne _ _ _ _ (by decide), gI_nk _ _ _ (by decide), g4]
      · rw [gI_ne _ _ _ _ (by decide), gI_ne _ _ _ _ (by decide), g5]
      · rw [gI_ne _ _ _ _ (by decide), gI_ne _ _ _ _ (by decide), g6 i hi]
      · rw [gI_ne _ _ _ _ (by decide), gI_ne _ _ _ _ (by decide), g7 i hi]
      · rw [gI_ne _ _ _ _ (by decide), gI_ne _ _ _ _ (by decide), g8 q hq]
    · refine e2.trans (e3.trans ?_)
      rw [r1]
      have hk4 := (hK (f p + 1)).1
      have hs1 := hsl (f p + 1)
      have q2 : (nI (kd (f p + 1)) = 2) ↔ kd (f p + 1) = 2 := n_inj (b := 2) (by omega) (by omega)
      have q3 : (nI ((rst N kd sk seed r f sl0 cl0 p).1 (f p + 1) + 1) < 3) ↔ (rst N kd sk seed r f sl0 cl0 p).1 (f p + 1) + 1 < 3 := n_lt_iff (b := 3) hs1 (by omega)
      by_cases hlost : kd (f p + 1) = 2 ∧ 3 ≤ (rst N kd sk seed r f sl0 cl0 p).1 (f p + 1) + 1
      · rw [if_pos (decide_eq_true hlost)]
        rw [if_neg (fun hh => hh (q2.mpr hlost.1)), if_neg (fun hh => by have := q3.mp hh; omega)] at e5
        refine (val_call (pc2 := 158) rfl rfl rfl rfl (rcvO hW4.k84 (by decide)) (Nat.le_of_ble_eq_true rfl) (Nat.le_of_ble_eq_true rfl) rfl e5 rfl).trans ?_
        refine (tr_54_158 d _ _ _ _ _ _ _ _ _ _ _).trans ?_
        rw [if_neg (by decide)]
      · rw [if_neg (fun h => hlost (of_decide_eq_true h))]
        have e6 : val (55, d + 1, 0, [some (.ref 84), some (.int (nI (f p + 1)))], [], x) = some (some (.int 0), sI (sI x 84 8 (nI ((rst N kd sk seed r f sl0 cl0 p).2.1 + 1))) 87 (f p + 1) (nI ((rst N kd sk seed r f sl0 cl0 p).1 (f p + 1) + 1))) := by
          rw [e5]
          by_cases h2 : kd (f p + 1) = 2
          · rw [if_neg (fun hh => hh (q2.mpr h2)), if_pos (q3.mpr (by omega))]
          · rw [if_pos (fun hh => h2 (q2.mp hh))]
        refine (val_call (pc2 := 158) rfl rfl rfl rfl (rcvO hW4.k84 (by decide)) (Nat.le_of_ble_eq_true rfl) (Nat.le_of_ble_eq_true rfl) rfl e6 rfl).trans ?_
        refine (tr_54_158 d _ _ _ _ _ _ _ _ _ _ _).trans ?_
        rw [if_pos rfl, n_succ]
