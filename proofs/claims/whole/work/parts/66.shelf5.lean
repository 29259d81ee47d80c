/-! THE SHELF: copy, the reference's part, and both -/
theorem val_acp {y d pc a b sp dp n k na nb : Nat} {ls : List (Option Value)} {w : Wd} {av : Value} {sw : List (Int32 × Nat)} (h : mtab y pc = some (.invokestatic k, 3, [3], av, sw)) (ha : wK w a = (23, na)) (hb : wK w b = (23, nb)) (hsp : sp < 2 ^ 31) (hdp : dp < 2 ^ 31) (hn : n < 2 ^ 31) (h1 : sp + n ≤ na) (h2 : dp + n ≤ nb) : val (y, d + 1, pc, ls, [.int (nI n), .int (nI dp), .ref b, .int (nI sp), .ref a], w) = val (y, d + 1, pc + 3, ls, [], cpL w a sp b dp n) := by
  refine val_g ?_
  unfold plan
  simp only [h, pst, pln, pnat]
  rw [ha, if_pos rfl, hb, if_pos rfl, if_neg (nI_pos hsp), if_neg (nI_pos hdp), if_neg (nI_pos hn), nI_clamp hsp, nI_clamp hdp, nI_clamp hn, if_pos h1, if_pos h2, if_pos (by decide)]
  rfl
theorem cpL_fr (w : Wd) (a si b di n : Nat) : Fr [(b, none)] w (cpL w a si b di n) := by
  refine ⟨⟨rfl, rfl, rfl⟩, fun c k hs => ⟨rfl, ?_, rfl, rfl⟩⟩
  have hne : c ≠ b := by
    intro e
    subst e
    rw [inS_self] at hs
    cases hs
  show (if c = b then _ else gL w c) k = gL w c k
  rw [if_neg hne]
theorem cpL_at (w : Wd) (a si b di n q : Nat) : gL (cpL w a si b di n) b q = if di ≤ q ∧ q < di + n then gL w a (si + (q - di)) else gL w b q := by
  show (if b = b then va_cpy (gL w a) (gL w b) si di n else gL w b) q = _
  rw [if_pos rfl]
  rfl
abbrev nbo (x : Int32) : Int32 := vp_nar .boolean x
theorem nbo1 {c : Nat} (hc : c ≤ 1) : nbo (nI c) = nI c := by
  have : c = 0 ∨ c = 1 := by omega
  rcases this with rfl | rfl <;> decide
abbrev FMC : List (Nat × Option Nat) := [(147, none), (148, none), (149, none), (150, none)]
theorem m255 {w : Wd} (hW : Fix w) {A B i j m K : Nat} (hA : A < 8) (hB : B < 8) (hi : i + m ≤ 64) (hj : j + m ≤ 64) (hK : K ≤ m)
    (h1 : ∀ k, k < K → ¬ (gI w 145 B = 4 ∧ ¬ gL w 147 (64 * A + i + k) = 0 ∧ nbo (gI w 148 (64 * A + i + k)) = 0)) (h2 : K < m → (gI w 145 B = 4 ∧ ¬ gL w 147 (64 * A + i + K) = 0 ∧ nbo (gI w 148 (64 * A + i + K)) = 0)) (d : Nat) :
    ∃ w', val (255, d + 1, 126, [some (.ref 108), some (.int (nI A)), some (.int (nI i)), some (.int (nI B)), some (.int (nI j)), some (.int (nI m)), some (.int 0)], [], w) = some (some (.int (if K < m then -8 else 0)), w') ∧ Fr FMC w w' ∧ ∀ q, gL w' 147 q = (if 64 * B + j ≤ q ∧ q < 64 * B + j + K then gL w 147 (64 * A + i + (q - (64 * B + j))) else gL w 147 q) ∧ gI w' 148 q = (if 64 * B + j ≤ q ∧ q < 64 * B + j + K then nbo (nbo (gI w 148 (64 * A + i + (q - (64 * B + j))))) else gI w 148 q) := by
  have e64 : ∀ C k l, (64 : Int32) * nI C + nI k + nI l = nI (64 * C + k + l) := fun C k l => by rw [show (64 : Int32) = nI 64 from rfl, n_mul, n_add, n_add]
  refine loopUp (c := fun k v => (255, d + 1, 126, [some (.ref 108), some (.int (nI A)), some (.int (nI i)), some (.int (nI B)), some (.int (nI j)), some (.int (nI m)), some (.int (nI k))], [], v)) (P := fun k v => Fr [(149, none), (150, none)] w v ∧ ∀ l, l < k → gL v 149 l = gL w 147 (64 * A + i + l) ∧ gI v 150 l = nbo (gI w 148 (64 * A + i + l))) (R := fun r => ∃ w', r = some (some (.int (if K < m then -8 else 0)), w') ∧ Fr FMC w w' ∧ ∀ q, gL w' 147 q = (if 64 * B + j ≤ q ∧ q < 64 * B + j + K then gL w 147 (64 * A + i + (q - (64 * B + j))) else gL w 147 q) ∧ gI w' 148 q = (if 64 * B + j ≤ q ∧ q < 64 * B + j + K then nbo (nbo (gI w 148 (64 * A + i + (q - (64 * B + j))))) else gI w 148 q)) (N := m) ?_ ?_ w ⟨Fr.refl _ _, fun l hl => absurd hl (Nat.not_lt_zero l)⟩
  · rintro v ⟨p1, p2⟩
    have hWv := p1.fix rfl hW
    have hs : gI v 145 B = gI w 145 B := p1.i 145 B rfl
    rw [(tr_255_126 d v hWv _ _ _ _ _ _ (fun h => absurd (n_le (Nat.le_refl m) (by omega)) h) (fun h => absurd (n_le (Nat.le_refl m) (by omega)) h)).trans (if_pos (n_le (Nat.le_refl m) (by omega)))]
    have ib : inB (nI B) 8 = true := inB_nI hB (by omega)
    have cB : (nI B).toNatClampNeg = B := nI_clamp (by omega)
    refine loopUp (c := fun k x => (255, d + 1, 184, [some (.ref 108), some (.int (nI A)), some (.int (nI i)), some (.int (nI B)), some (.int (nI j)), some (.int (nI m)), some (.int (nI k))], [], x)) (P := fun k x => Fr [(147, none), (148, none)] v x ∧ ∀ q, gL x 147 q = (if 64 * B + j ≤ q ∧ q < 64 * B + j + k then gL w 147 (64 * A + i + (q - (64 * B + j))) else gL w 147 q) ∧ gI x 148 q = (if 64 * B + j ≤ q ∧ q < 64 * B + j + k then nbo (nbo (gI w 148 (64 * A + i + (q - (64 * B + j))))) else gI w 148 q)) (R := fun r => ∃ w', r = some (some (.int (if K < m then -8 else 0)), w') ∧ Fr FMC w w' ∧ ∀ q, gL w' 147 q = (if 64 * B + j ≤ q ∧ q < 64 * B + j + K then gL w 147 (64 * A + i + (q - (64 * B + j))) else gL w 147 q) ∧ gI w' 148 q = (if 64 * B + j ≤ q ∧ q < 64 * B + j + K then nbo (nbo (gI w 148 (64 * A + i + (q - (64 * B + j))))) else gI w 148 q)) (N := K) ?_ ?_ v ⟨Fr.refl _ _, fun q => ⟨by rw [if_neg (by omega)]; exact p1.l 147 q rfl, by rw [if_neg (by omega)]; exact p1.i 148 q rfl⟩⟩
    · rintro x ⟨q1, q2⟩
      have hWx := q1.fix rfl hWv
      refine ⟨x, ?_, (p1.mono rfl).trans (q1.mono rfl), q2⟩
      by_cases hk : K < m
      · obtain ⟨c1, c2, c3⟩ := h2 hk
        obtain ⟨r1, r2⟩ := p2 K hk
        have r1' : gL x 149 K = gL w 147 (64 * A + i + K) := (q1.l 149 K rfl).trans r1
        have r2' : gI x 150 K = nbo (gI w 148 (64 * A + i + K)) := (q1.i 150 K rfl).trans r2
        have r3 : gI x 145 B = 4 := (q1.i 145 B rfl).trans (hs.trans c1)
        have ik : inB (nI K) 64 = true := inB_nI (by omega) (by omega)
        have cK : (nI K).toNatClampNeg = K := nI_clamp (by omega)
        have idx : inB (64 * nI B + nI j + nI K) 512 = true := by rw [e64]; exact inB_nI (by omega) (by omega)
        refine (tr_255_184 d x hWx _ _ _ _ _ _ (fun _ => ib) (fun _ _ => ik) (fun _ _ => idx) (fun _ _ => ik) (fun _ _ _ => ik) (fun _ _ _ => idx) (fun _ _ _ => ik) (fun _ _ _ _ => ik) (fun _ _ _ _ => idx)).trans ?_
        rw [if_neg (n_nle hk (by omega)), cB, r3, if_neg (fun h => h rfl), cK, r1', if_neg (fun h => c2 (cmpL_0.mp h)), r2', c3, if_neg (fun h => h rfl), if_pos hk]
      · refine (tr_255_184 d x hWx _ _ _ _ _ _ (fun _ => ib) (fun h => absurd (n_le (a := m) (b := K) (by omega) (by omega)) h) (fun h => absurd (n_le (a := m) (b := K) (by omega) (by omega)) h) (fun h => absurd (n_le (a := m) (b := K) (by omega) (by omega)) h) (fun h => absurd (n_le (a := m) (b := K) (by omega) (by omega)) h) (fun h => absurd (n_le (a := m) (b := K) (by omega) (by omega)) h) (fun h => absurd (n_le (a := m) (b := K) (by omega) (by omega)) h) (fun h => absurd (n_le (a := m) (b := K) (by omega) (by omega)) h) (fun h => absurd (n_le (a := m) (b := K) (by omega) (by omega)) h)).trans ?_
        rw [if_pos (n_le (by omega) (by omega)), if_neg hk]
    · rintro k x hk ⟨q1, q2⟩
      have hWx := q1.fix rfl hWv
      obtain ⟨r1, r2⟩ := p2 k (by omega)
      have r1' : gL x 149 k = gL w 147 (64 * A + i + k) := (q1.l 149 k rfl).trans r1
      have r2' : gI x 150 k = nbo (gI w 148 (64 * A + i + k)) := (q1.i 150 k rfl).trans r2
      have r3 : gI x 145 B = gI w 145 B := (q1.i 145 B rfl).trans hs
      have ik : inB (nI k) 64 = true := inB_nI (by omega) (by omega)
      have ck : (nI k).toNatClampNeg = k := nI_clamp (by omega)
      have idx : inB (64 * nI B + nI j + nI k) 512 = true := by rw [e64]; exact inB_nI (by omega) (by omega)
      have hh := h1 k hk
      have e := tr_255_184 d x hWx (nI A) (nI i) (nI B) (nI j) (nI m) (nI k) (fun _ => ib) (fun _ _ => ik) (fun _ _ => idx) (fun _ _ => ik) (fun _ _ _ => ik) (fun _ _ _ => idx) (fun _ _ _ => ik) (fun _ _ _ _ => ik) (fun _ _ _ _ => idx)
      rw [if_neg (n_nle (by omega) (by omega)), cB, r3, ck, e64, nI_clamp (n := 64 * B + j + k) (by omega), n_succ] at e
      refine Or.inr ⟨_, e.trans (Eq.trans (b := val (255, d + 1, 184, [some (.ref 108), some (.int (nI A)), some (.int (nI i)), some (.int (nI B)), some (.int (nI j)), some (.int (nI m)), some (.int (nI (k + 1)))], [], sI (sL x 147 (64 * B + j + k) (gL x 149 k)) 148 (64 * B + j + k) (nbo (gI x 150 k)))) ?_ rfl), (q1.sL 147 _ _ rfl).sI 148 _ _ rfl, fun q => ⟨?_, ?_⟩⟩
      · by_cases g1 : gI w 145 B = 4
        · rw [if_neg (fun h => h g1)]
          by_cases g2 : gL x 149 k = 0
          · rw [if_pos (cmpL_0.mpr g2)]; rfl
          · rw [if_neg (fun h => g2 (cmpL_0.mp h)), if_pos (fun h => hh ⟨g1, by rw [← r1']; exact g2, by rw [← r2']; exact h⟩)]; rfl
        · rw [if_pos g1]; rfl
      · show gL (sL x 147 (64 * B + j + k) (gL x 149 k)) 147 q = _
        by_cases e : q = 64 * B + j + k
        · subst e
          rw [gL_same, r1', if_pos (by omega), show 64 * B + j + k - (64 * B + j) = k by omega]
        · rw [gL_nk _ _ _ e, (q2 q).1]
          by_cases h : 64 * B + j ≤ q ∧ q < 64 * B + j + k
          · rw [if_pos h, if_pos (by omega)]
          · rw [if_neg h, if_neg (by omega)]
      · by_cases e : q = 64 * B + j + k
        · subst e
          rw [gI_same, r2', if_pos (by omega), show 64 * B + j + k - (64 * B + j) = k by omega]
        · rw [gI_nk _ _ _ e]
          refine ((q2 q).2).trans ?_
          by_cases h : 64 * B + j ≤ q ∧ q < 64 * B + j + k
          · rw [if_pos h, if_pos (by omega)]
          · rw [if_neg h, if_neg (by omega)]
  · rintro k v hk ⟨p1, p2⟩
    have hWv := p1.fix rfl hW
    have idx : inB (64 * nI A + nI i + nI k) 512 = true := by rw [e64]; exact inB_nI (by omega) (by omega)
    refine Or.inr ⟨sI (sL v 149 k (gL v 147 (64 * A + i + k))) 150 k (nbo (gI v 148 (64 * A + i + k))), (tr_255_126 d v hWv _ _ _ _ _ _ (fun _ => idx) (fun _ => inB_nI (by omega) (by omega))).trans ?_, (p1.sL 149 _ _ rfl).sI 150 _ _ rfl, fun l hl => ⟨?_, ?_⟩⟩
    · rw [if_neg (n_nle hk (by omega)), e64, nI_clamp (n := k) (by omega), nI_clamp (n := 64 * A + i + k) (by omega), n_succ]
      rfl
    · show gL (sL v 149 k _) 149 l = _
      by_cases e : l = k
      · subst e
        rw [gL_same]
        exact p1.l 147 _ rfl
      · rw [gL_nk _ _ _ e]
        exact (p2 l (by omega)).1
    · by_cases e : l = k
      · subst e
        rw [gI_same, p1.i 148 _ rfl]
      · rw [gI_nk _ _ _ e]
        exact (p2 l (by omega)).2
