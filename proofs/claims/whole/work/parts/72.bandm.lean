/-! THE BAND: the reference's blows -/
def RgM (w : Wd) (kd sk sl : Nat → Nat) : Prop := ∀ b, 1 ≤ b → b ≤ 8 → gI w 137 b = nI (kd b) ∧ gI w 138 b = nI (sk b) ∧ gI w 139 b = nI (sl b)
theorem RgM.sl {w v : Wd} {kd sk sl : Nat → Nat} (h : RgM w kd sk sl) {b x : Nat} (h1 : ∀ c, gI v 137 c = gI w 137 c) (h2 : ∀ c, gI v 138 c = gI w 138 c) (h3 : ∀ c, gI v 139 c = if c = b then nI x else gI w 139 c) : RgM v kd sk (u1 sl b x) := by
  intro c c1 c8
  obtain ⟨e1, e2, e3⟩ := h c c1 c8
  refine ⟨(h1 c).trans e1, (h2 c).trans e2, (h3 c).trans ?_⟩
  show _ = nI (if c = b then x else sl c)
  by_cases e : c = b
  · rw [if_pos e, if_pos e]
  · rw [if_neg e, if_neg e, e3]
theorem RgM.eq {w v : Wd} {kd sk sl : Nat → Nat} (h : RgM w kd sk sl) (h1 : ∀ c, gI v 137 c = gI w 137 c) (h2 : ∀ c, gI v 138 c = gI w 138 c) (h3 : ∀ c, gI v 139 c = gI w 139 c) : RgM v kd sk sl := fun c c1 c8 => by
  obtain ⟨e1, e2, e3⟩ := h c c1 c8
  exact ⟨(h1 c).trans e1, (h2 c).trans e2, (h3 c).trans e3⟩
theorem m_off (d : Nat) {w : Wd} (hW : Fix w) {kd sk sl : Nat → Nat} (hK : KS kd sk) (hR : RgM w kd sk sl) {b : Nat} (h1 : 1 ≤ b) (h8 : b ≤ 8) (seed r : Int32) : val (226, d, 0, [some (.ref 108), some (.int seed), some (.int r), some (.int (nI b)), none, none, none], [], w) = some (some (.int (ofs (kd b) (sl b) (drw seed r (nI b) (nI (sk b))))), w) := by
  obtain ⟨e1, e2, e3⟩ := hR b h1 h8
  have hb : inB (nI b) 9 = true := inB_nI (by omega) (by omega)
  have hc : (nI b).toNatClampNeg = b := nI_clamp (by omega)
  have hs := (hK b).2
  have hk := (hK b).1
  have ew : (41 : Int32) - 2 * nI (sk b) = nI (41 - 2 * sk b) := by
    rw [show (41 : Int32) = nI 41 from rfl, show (2 : Int32) = nI 2 from rfl, n_mul, n_sub (by omega)]
  refine (tr_226 d w hW _ _ _ hb ?_ (by intros; exact hb)).trans ?_
  · rw [hc, e2, ew]; exact n_ne0 (by omega) (by omega)
  rw [hc, e1, e2, e3]
  have q2 : (nI (kd b) = 2) ↔ kd b = 2 := n_inj (b := 2) (by omega) (by omega)
  have q3 : (nI (kd b) = 3) ↔ kd b = 3 := n_inj (b := 3) (by omega) (by omega)
  have p3 : (3 ≤ nI (kd b)) ↔ 3 ≤ kd b := n_le_iff (a := 3) (by omega) (by omega)
  have hcs : kd b = 0 ∨ kd b = 1 ∨ kd b = 2 ∨ kd b = 3 ∨ kd b = 4 := by omega
  unfold ofs
  rcases hcs with c | c | c | c | c
  · rw [if_neg (fun h => h (by rw [c]; rfl)), if_neg (by omega), if_neg (by omega), if_neg (by omega), if_neg (by omega)]
    rfl
  · rw [if_pos (n_ne0 (by omega) (by omega)), if_neg (fun h => by have := p3.mp h; omega), if_pos (fun h => by have := q2.mp h; omega), if_pos c, Int32.add_zero]
    rfl
  · rw [if_pos (n_ne0 (by omega) (by omega)), if_neg (fun h => by have := p3.mp h; omega), if_neg (fun h => h (q2.mpr c)), if_neg (by omega), if_pos c]
    rfl
  · rw [if_pos (n_ne0 (by omega) (by omega)), if_pos (p3.mpr (by omega)), if_neg (fun h => h (q3.mpr c)), if_neg (by omega), if_neg (by omega), if_pos c]
    rfl
  · rw [if_pos (n_ne0 (by omega) (by omega)), if_pos (p3.mpr (by omega)), if_pos (fun h => by have := q3.mp h; omega), if_neg (by omega), if_neg (by omega), if_neg (by omega), if_pos c]
    rfl
abbrev FMi : List (Nat × Option Nat) := [(108, some 50), (108, some 52), (139, none), (140, none)]
def MR (w1 v : Wd) (kd sk : Nat → Nat) (N : Nat) (f : Nat → Nat) (k : Nat) (lo : Int32) (s : RSt) : Prop :=
  Fr FMi w1 v ∧ RgM v kd sk s.1 ∧ gI v 108 50 = nI s.2.1 ∧ gI v 108 52 = (if s.2.2.2.1 = true then nI (f (s.2.2.2.2.1 - 1) + 1) else lo) ∧ (∀ i, i < N → gI v 140 (9 * k + (f i + 1)) = if i < s.2.2.2.2.1 then s.2.2.2.2.2 i else -1000000) ∧ ∀ q, (q < 9 * k ∨ 9 * k + 9 ≤ q) → gI v 140 q = gI w1 140 q
theorem m_blow {N : Nat} (h3 : 3 ≤ N) (hN : N ≤ 8) {kd sk : Nat → Nat} (hK : KS kd sk) {seed : Int32} {r : Nat} (hr : r ≤ 2000) {f : Nat → Nat} (hf : IsRow N f) {k : Nat} (hk : k < 400) {lo : Int32} {w1 v : Wd} (hW1 : Fix w1) (hn : gI w1 108 0 = nI N) (hwk : ∀ p, p < N → gI w1 126 (p + 1) = nI (f p + 1)) {sl0 : Nat → Nat} {cl0 : Nat} {p : Nat} (hp : p < N) (hsl : ∀ b, (rst N kd sk seed r f sl0 cl0 p).1 b + 1 ≤ 2 ^ 22) (hcl : (rst N kd sk seed r f sl0 cl0 p).2.1 + 1 < 2 ^ 31)
    (hl : (rst N kd sk seed r f sl0 cl0 p).2.2.2.1 = false) (hC : MR w1 v kd sk N f k lo (rst N kd sk seed r f sl0 cl0 p)) (d : Nat) (fr rows l4 l5 : Int32) (l11 l12 : Option Value) :
    ∃ (v' : Wd) (l11' l12' : Option Value), MR w1 v' kd sk N f k lo (rst N kd sk seed r f sl0 cl0 (p + 1)) ∧ val (227, d + 1, 210, [some (.ref 108), some (.int seed), some (.int fr), some (.int rows), some (.int l4), some (.int l5), some (.int (nI k)), some (.int (nI r)), some (.int (if p = 0 then -1000000000 else (rst N kd sk seed r f sl0 cl0 p).2.2.1)), some (.int 0), some (.int (nI (p + 1))), l11, l12], [], v) =
      val (227, d + 1, 210, [some (.ref 108), some (.int seed), some (.int fr), some (.int rows), some (.int l4), some (.int l5), some (.int (nI k)), some (.int (nI r)), some (.int (if p + 1 = 0 then -1000000000 else (rst N kd sk seed r f sl0 cl0 (p + 1)).2.2.1)), some (.int (if (rst N kd sk seed r f sl0 cl0 (p + 1)).2.2.2.1 = true then 1 else 0)), some (.int (nI (p + 2))), l11', l12'], [], v') := by
  generalize hla : (if p = 0 then (-1000000000 : Int32) else (rst N kd sk seed r f sl0 cl0 p).2.2.1) = la
  obtain ⟨c1, c2, c3, c4, c5, c6⟩ := hC
  have hpl := (rst_pl (N := N) (kd := kd) (sk := sk) (seed := seed) (r := r) (f := f) (sl0 := sl0) (cl0 := cl0) p).2.1 hl
  rw [hpl] at c5
  rw [if_neg (by rw [hl]; decide)] at c4
  have hWv := c1.fix rfl hW1
  have hfp := hf.1 p hp
  have hnv : gI v 108 0 = nI N := (c1.i 108 0 rfl).trans hn
  have hwv : gI v 126 (p + 1) = nI (f p + 1) := (c1.i 126 (p + 1) rfl).trans (hwk p hp)
  have hNr : N * r ≤ 8 * 2000 := Nat.mul_le_mul hN hr
  have ip : inB (nI (p + 1)) 9 = true := inB_nI (by omega) (by omega)
  have e0 := tr_227_210 d v hWv seed fr rows l4 l5 (nI k) (nI r) la 0 (nI (p + 1)) l11 l12 (fun _ _ h => absurd rfl h) (fun _ h => absurd rfl h) (fun _ h => absurd rfl h) (fun _ h => absurd rfl h) (fun _ _ => ip)
  rw [hnv, if_neg (n_nlt (by omega) (by omega)), if_neg (fun h => h rfl), nI_clamp (n := p + 1) (by omega), hwv] at e0
  have ex : (20 : Int32) * (((nI N * nI r) + nI (p + 1)) + (nI r / 2)) = nI (20 * (N * r + p + 1 + r / 2)) := by
    rw [n_mul, n_add, show (2 : Int32) = nI 2 from rfl, n_div (by omega) (by omega), n_add, show (20 : Int32) = nI 20 from rfl, n_mul]
    rfl
  rw [ex] at e0
  have e2 : val (227, d + 1, 210, [some (.ref 108), some (.int seed), some (.int fr), some (.int rows), some (.int l4), some (.int l5), some (.int (nI k)), some (.int (nI r)), some (.int la), some (.int 0), some (.int (nI (p + 1))), l11, l12], [], v) = val (227, d + 1, 260, [some (.ref 108), some (.int seed), some (.int fr), some (.int rows), some (.int l4), some (.int l5), some (.int (nI k)), some (.int (nI r)), some (.int la), some (.int 0), some (.int (nI (p + 1))), some (.int (nI (f p + 1))), l12], [.int (ofs (kd (f p + 1)) ((rst N kd sk seed r f sl0 cl0 p).1 (f p + 1)) (drw seed (nI r) (nI (f p + 1)) (nI (sk (f p + 1))))), .int (nI (20 * (N * r + p + 1 + r / 2)))], v) := by
    refine e0.trans ?_
    refine (val_call (pc2 := 260) rfl rfl rfl rfl (hWv.rc _) (Nat.le_of_ble_eq_true rfl) (Nat.le_of_ble_eq_true rfl) rfl (m_off d hWv hK c2 (b := f p + 1) (by omega) (by omega) seed (nI r)) rfl).trans ?_
    rfl
  have ei : (9 : Int32) * nI k + nI (f p + 1) = nI (9 * k + (f p + 1)) := by rw [show (9 : Int32) = nI 9 from rfl, n_mul, n_add]
  have hb9 : inB (nI (f p + 1)) 9 = true := inB_nI (by omega) (by omega)
  have e3 := tr_227_260 d v hWv seed fr rows l4 l5 (nI k) (nI r) la 0 (nI (p + 1)) (nI (f p + 1)) (ofs (kd (f p + 1)) ((rst N kd sk seed r f sl0 cl0 p).1 (f p + 1)) (drw seed (nI r) (nI (f p + 1)) (nI (sk (f p + 1))))) (nI (20 * (N * r + p + 1 + r / 2))) l12 (by rw [ei]; exact inB_nI (by omega) (by omega)) (fun _ => hb9) (fun _ _ => hb9)
  have eT : nI (20 * (N * r + p + 1 + r / 2)) + ofs (kd (f p + 1)) ((rst N kd sk seed r f sl0 cl0 p).1 (f p + 1)) (drw seed (nI r) (nI (f p + 1)) (nI (sk (f p + 1)))) = tmb N kd sk seed r p (f p + 1) ((rst N kd sk seed r f sl0 cl0 p).1 (f p + 1)) := rfl
  have hTb := tmb_bd (kd := kd) hN seed (p := p) hr (by omega) (hK (f p + 1)).2 (sl := (rst N kd sk seed r f sl0 cl0 p).1 (f p + 1)) (by have := hsl (f p + 1); omega)
  rw [ei, eT, nI_clamp (n := 9 * k + (f p + 1)) (by omega), nI_clamp (n := f p + 1) (by omega), n_succ (p + 1)] at e3
  have r1 := rst.eq_2 N kd sk seed r f sl0 cl0 p
  rw [if_neg (by rw [hl]; decide)] at r1
  rw [if_neg (show ¬ p + 1 = 0 by omega)]
  generalize hTT : tmb N kd sk seed r p (f p + 1) ((rst N kd sk seed r f sl0 cl0 p).1 (f p + 1)) = T at e3 r1 hTb
  have f4 : Fr FMi w1 (sI v 140 (9 * k + (f p + 1)) T) := c1.sI 140 _ _ rfl
  have hlast : la < T ↔ (p = 0 ∨ (rst N kd sk seed r f sl0 cl0 p).2.2.1 < T) := by
    by_cases p0 : p = 0
    · rw [← hla, if_pos p0]
      refine ⟨fun _ => Or.inl p0, fun _ => Int32.lt_iff_toInt_lt.mpr ?_⟩
      have : (-1000000000 : Int32).toInt = -1000000000 := by decide
      omega
    · rw [← hla, if_neg p0]
      exact ⟨fun h => Or.inr h, fun h => by rcases h with h | h; exact absurd h p0; exact h⟩
  have cells : ∀ i, i < N → gI (sI v 140 (9 * k + (f p + 1)) T) 140 (9 * k + (f i + 1)) = if i < p + 1 then (u1 (rst N kd sk seed r f sl0 cl0 p).2.2.2.2.2 p T) i else -1000000 := by
    intro i hi
    show _ = if i < p + 1 then (if i = p then T else (rst N kd sk seed r f sl0 cl0 p).2.2.2.2.2 i) else _
    by_cases e : i = p
    · subst e
      rw [gI_same, if_pos (by omega), if_pos rfl]
    · have hne : f i ≠ f p := fun h => e (hf.2 i p hi hp h)
      rw [gI_nk _ _ _ (by omega), c5 i hi, if_neg e]
      by_cases h : i < p
      · rw [if_pos h, if_pos (by omega)]
      · rw [if_neg h, if_neg (by omega)]
  by_cases c : p = 0 ∨ (rst N kd sk seed r f sl0 cl0 p).2.2.1 < T
  · rw [if_pos c] at r1
    rw [if_pos (hlast.mpr c), if_neg (Int32.not_le.mpr (hlast.mpr c))] at e3
    refine ⟨sI v 140 (9 * k + (f p + 1)) T, some (.int (nI (f p + 1))), some (.int T), ?_, e2.trans (e3.trans ?_)⟩
    · rw [r1]
      refine ⟨f4, c2.eq (fun c => gI_ne _ _ _ _ (by decide)) (fun c => gI_ne _ _ _ _ (by decide)) (fun c => gI_ne _ _ _ _ (by decide)), ?_, ?_, cells, fun q hq => ?_⟩
      · rw [gI_ne _ _ _ _ (by decide), c3]
      · rw [gI_ne _ _ _ _ (by decide), c4]; rfl
      · rw [gI_nk _ _ _ (by omega)]; exact c6 q hq
    · rw [r1]; rfl
  · have p0 : p ≠ 0 := fun h => c (Or.inl h)
    have nlt : ¬ la < T := fun h => c (hlast.mp h)
    rw [if_neg c] at r1
    rw [if_neg nlt] at e3
    obtain ⟨b1, b2, b3⟩ := c2 (f p + 1) (by omega) (by omega)
    have hk4 := (hK (f p + 1)).1
    have hs1 := hsl (f p + 1)
    have t1 : gI (sI v 140 (9 * k + (f p + 1)) T) 108 50 + 1 = nI ((rst N kd sk seed r f sl0 cl0 p).2.1 + 1) := by rw [gI_ne _ _ _ _ (by decide), c3, n_succ]
    rw [t1] at e3
    have t2 : gI (sI (sI v 140 (9 * k + (f p + 1)) T) 108 50 (nI ((rst N kd sk seed r f sl0 cl0 p).2.1 + 1))) 139 (f p + 1) + 1 = nI ((rst N kd sk seed r f sl0 cl0 p).1 (f p + 1) + 1) := by rw [gI_ne _ _ _ _ (by decide), gI_ne _ _ _ _ (by decide), b3, n_succ]
    rw [t2] at e3
    have t3 : gI (sI (sI (sI v 140 (9 * k + (f p + 1)) T) 108 50 (nI ((rst N kd sk seed r f sl0 cl0 p).2.1 + 1))) 139 (f p + 1) (nI ((rst N kd sk seed r f sl0 cl0 p).1 (f p + 1) + 1))) 137 (f p + 1) = nI (kd (f p + 1)) := by rw [gI_ne _ _ _ _ (by decide), gI_ne _ _ _ _ (by decide), gI_ne _ _ _ _ (by decide), b1]
    have t4 : gI (sI (sI (sI v 140 (9 * k + (f p + 1)) T) 108 50 (nI ((rst N kd sk seed r f sl0 cl0 p).2.1 + 1))) 139 (f p + 1) (nI ((rst N kd sk seed r f sl0 cl0 p).1 (f p + 1) + 1))) 108 52 = lo := by rw [gI_ne _ _ _ _ (by decide), gI_nk _ _ _ (by decide), gI_ne _ _ _ _ (by decide), c4]
    rw [t3, t4, gI_same] at e3
    have f5 : Fr FMi w1 (sI (sI (sI v 140 (9 * k + (f p + 1)) T) 108 50 (nI ((rst N kd sk seed r f sl0 cl0 p).2.1 + 1))) 139 (f p + 1) (nI ((rst N kd sk seed r f sl0 cl0 p).1 (f p + 1) + 1))) := (f4.sI 108 50 _ rfl).sI 139 _ _ rfl
    have q2 : (nI (kd (f p + 1)) = 2) ↔ kd (f p + 1) = 2 := n_inj (b := 2) (by omega) (by omega)
    have q3 : (nI ((rst N kd sk seed r f sl0 cl0 p).1 (f p + 1) + 1) < 3) ↔ (rst N kd sk seed r f sl0 cl0 p).1 (f p + 1) + 1 < 3 := n_lt_iff (b := 3) (by omega) (by omega)
    have post : ∀ x : Int32, (if (rst N kd sk seed r f sl0 cl0 (p + 1)).2.2.2.1 = true then nI (f p + 1) else lo) = x → MR w1 (sI (sI (sI (sI v 140 (9 * k + (f p + 1)) T) 108 50 (nI ((rst N kd sk seed r f sl0 cl0 p).2.1 + 1))) 139 (f p + 1) (nI ((rst N kd sk seed r f sl0 cl0 p).1 (f p + 1) + 1))) 108 52 x) kd sk N f k lo (rst N kd sk seed r f sl0 cl0 (p + 1)) := by
      intro x hx
      rw [r1] at hx ⊢
      refine ⟨f5.sI 108 52 _ rfl, ?_, ?_, ?_, fun i hi => ?_, fun q hq => ?_⟩
      · refine c2.sl (fun c => ?_) (fun c => ?_) (fun c => ?_)
        · rw [gI_ne _ _ _ _ (by decide), gI_ne _ _ _ _ (by decide), gI_ne _ _ _ _ (by decide), gI_ne _ _ _ _ (by decide)]
        · rw [gI_ne _ _ _ _ (by decide), gI_ne _ _ _ _ (by decide), gI_ne _ _ _ _ (by decide), gI_ne _ _ _ _ (by decide)]
        · by_cases e : c = f p + 1
          · rw [e, gI_ne _ _ _ _ (by decide), gI_same, if_pos rfl]
          · rw [gI_ne _ _ _ _ (by decide), gI_nk _ _ _ e, gI_ne _ _ _ _ (by decide), gI_ne _ _ _ _ (by decide), if_neg e]
      · rw [gI_nk _ _ _ (by decide), gI_ne _ _ _ _ (by decide), gI_same]
      · rw [gI_same]; exact hx.symm
      · rw [gI_ne _ _ _ _ (by decide), gI_ne _ _ _ _ (by decide), gI_ne _ _ _ _ (by decide)]
        exact cells i hi
      · rw [gI_ne _ _ _ _ (by decide), gI_ne _ _ _ _ (by decide), gI_ne _ _ _ _ (by decide), gI_nk _ _ _ (by omega)]
        exact c6 q hq
    by_cases hlost : kd (f p + 1) = 2 ∧ 3 ≤ (rst N kd sk seed r f sl0 cl0 p).1 (f p + 1) + 1
    · rw [if_neg (fun hh => hh (q2.mpr hlost.1)), if_neg (fun hh => by have := q3.mp hh; omega)] at e3
      refine ⟨_, some (.int (nI (f p + 1))), some (.int T), post (nI (f p + 1)) (by rw [r1, if_pos (decide_eq_true hlost)]), e2.trans (e3.trans ?_)⟩
      rw [if_pos (Int32.not_lt.mp nlt), r1, if_pos (decide_eq_true hlost), ← hla, if_neg p0]
    · have e4 : (if ¬ nI (kd (f p + 1)) = 2 then (val (227, d + 1, 210, [some (.ref 108), some (.int seed), some (.int fr), some (.int rows), some (.int l4), some (.int l5), some (.int (nI k)), some (.int (nI r)), some (.int la), some (.int 0), some (.int (nI (p + 1 + 1))), some (.int (nI (f p + 1))), some (.int T)], [], (sI (sI (sI (sI v 140 (9 * k + (f p + 1)) T) 108 50 (nI ((rst N kd sk seed r f sl0 cl0 p).2.1 + 1))) 139 (f p + 1) (nI ((rst N kd sk seed r f sl0 cl0 p).1 (f p + 1) + 1))) 108 52 lo))) else val (227, d + 1, 210, [some (.ref 108), some (.int seed), some (.int fr), some (.int rows), some (.int l4), some (.int l5), some (.int (nI k)), some (.int (nI r)), some (.int la), some (.int 0), some (.int (nI (p + 1 + 1))), some (.int (nI (f p + 1))), some (.int T)], [], (sI (sI (sI (sI v 140 (9 * k + (f p + 1)) T) 108 50 (nI ((rst N kd sk seed r f sl0 cl0 p).2.1 + 1))) 139 (f p + 1) (nI ((rst N kd sk seed r f sl0 cl0 p).1 (f p + 1) + 1))) 108 52 lo))) = val (227, d + 1, 210, [some (.ref 108), some (.int seed), some (.int fr), some (.int rows), some (.int l4), some (.int l5), some (.int (nI k)), some (.int (nI r)), some (.int la), some (.int 0), some (.int (nI (p + 1 + 1))), some (.int (nI (f p + 1))), some (.int T)], [], (sI (sI (sI (sI v 140 (9 * k + (f p + 1)) T) 108 50 (nI ((rst N kd sk seed r f sl0 cl0 p).2.1 + 1))) 139 (f p + 1) (nI ((rst N kd sk seed r f sl0 cl0 p).1 (f p + 1) + 1))) 108 52 lo)) := by
        split <;> rfl
      refine ⟨_, some (.int (nI (f p + 1))), some (.int T), post lo (by rw [r1, if_neg (fun h => hlost (of_decide_eq_true h))]), e2.trans (e3.trans (Eq.trans ?_ (e4.trans ?_)))⟩
      · by_cases h2 : nI (kd (f p + 1)) = 2
        · rw [if_neg (fun h => h h2), if_pos (q3.mpr (by have := q2.mp h2; omega)), if_pos (Int32.not_lt.mp nlt), if_neg (fun h => h h2)]
        · rw [if_pos h2, if_pos (Int32.not_lt.mp nlt), if_pos h2]
      · rw [r1, if_neg (fun h => hlost (of_decide_eq_true h)), ← hla, if_neg p0]
