/-! WORLDS THAT GROW; a new rule -/
/-- so much new, and of the old nothing changed but at places of S -/
def Gw (S : List (Nat × Option Nat)) (n s : Nat) (w v : Wd) : Prop := (wN w ≤ wN v ∧ wN v ≤ wN w + n ∧ wS v ≤ wS w + s) ∧ (∀ a, a < wN w → wK v a = wK w a) ∧ ∀ a k, a < wN w → inS S a k = false → Same w v a k
theorem Gw.of {S : List (Nat × Option Nat)} {w v : Wd} (h : Fr S w v) : Gw S 0 0 w v := ⟨⟨by rw [h.1.2.1]; exact Nat.le_refl _, by rw [h.1.2.1]; exact Nat.le_refl _, by rw [h.1.2.2]; exact Nat.le_refl _⟩, fun a _ => by rw [h.k], fun a k _ hs => h.2 a k hs⟩
theorem Gw.refl (S : List (Nat × Option Nat)) (w : Wd) : Gw S 0 0 w w := Gw.of (Fr.refl S w)
theorem Gw.trans {S : List (Nat × Option Nat)} {n s m q : Nat} {u v w : Wd} (h : Gw S n s u v) (g : Gw S m q v w) : Gw S (n + m) (s + q) u w := by
  obtain ⟨⟨a1, a2, a3⟩, a4, a5⟩ := h
  obtain ⟨⟨b1, b2, b3⟩, b4, b5⟩ := g
  exact ⟨⟨by omega, by omega, by omega⟩, fun a ha => (b4 a (by omega)).trans (a4 a ha), fun a k ha hs => (a5 a k ha hs).trans (b5 a k (by omega) hs)⟩
theorem Gw.up {S : List (Nat × Option Nat)} {n s m q : Nat} {u v : Wd} (h : Gw S n s u v) (h1 : n ≤ m) (h2 : s ≤ q) : Gw S m q u v := ⟨⟨h.1.1, by have := h.1.2.1; omega, by have := h.1.2.2; omega⟩, h.2⟩
theorem Gw.sub {S T : List (Nat × Option Nat)} {n s : Nat} {w v : Wd} (h : Gw S n s w v) (hs : ∀ x, x ∈ S → x.1 < wN w → x ∈ T) : Gw T n s w v := ⟨h.1, h.2.1, fun a k ha ht => h.2.2 a k ha (by
  cases e : inS S a k with
  | false => rfl
  | true =>
    obtain ⟨x, h1, h2, h3⟩ := inS_iff.mp e
    rw [inS_iff.mpr ⟨x, hs x h1 (by omega), h2, h3⟩] at ht
    cases ht)⟩
theorem nw_K (w : Wd) (t n a : Nat) : wK (nw w t n) a = if a = wN w then (t, n) else wK w a := rfl
theorem nw_I (w : Wd) (t n a k : Nat) : gI (nw w t n) a k = if a = wN w then 0 else gI w a k := by
  show (if a = wN w then (fun _ => (0 : Int32)) else gI w a) k = _
  split <;> rfl
theorem nw_R (w : Wd) (t n a k : Nat) : gR (nw w t n) a k = if a = wN w then none else gR w a k := by
  show (if a = wN w then (fun _ => (none : Option Nat)) else gR w a) k = _
  split <;> rfl
theorem nwK_ne {w : Wd} {t n a : Nat} (h : a ≠ wN w) : wK (nw w t n) a = wK w a := if_neg h
theorem nwR_ne {w : Wd} {t n a k : Nat} (h : a ≠ wN w) : gR (nw w t n) a k = gR w a k := (nw_R w t n a k).trans (if_neg h)
theorem nwI_ne {w : Wd} {t n a k : Nat} (h : a ≠ wN w) : gI (nw w t n) a k = gI w a k := (nw_I w t n a k).trans (if_neg h)
theorem gR_same (w : Wd) (a k : Nat) (x : Option Nat) : gR (sR w a k x) a k = x := (if_pos rfl).trans (if_pos rfl)
theorem gR_ne (w : Wd) {a b : Nat} (k j : Nat) (x : Option Nat) (h : b ≠ a) : gR (sR w a k x) b j = gR w b j := if_neg h
theorem gR_nk (w : Wd) (a : Nat) {k j : Nat} (x : Option Nat) (h : j ≠ k) : gR (sR w a k x) a j = gR w a j := (if_pos rfl).trans (if_neg h)
theorem Gw.nw {S : List (Nat × Option Nat)} {n s : Nat} {u v : Wd} (h : Gw S n s u v) (t m : Nat) : Gw S (n + 1) (s + m) u (nw v t m) := by
  obtain ⟨⟨a1, a2, a3⟩, a4, a5⟩ := h
  refine ⟨⟨?_, ?_, ?_⟩, fun a ha => ?_, fun a k ha hs => (a5 a k ha hs).trans ?_⟩
  · show wN u ≤ wN v + 1; omega
  · show wN v + 1 ≤ _; omega
  · show wS v + m ≤ _; omega
  · rw [nw_K, if_neg (by omega)]; exact a4 a ha
  · have e : ∀ {α : Type} (g : Nat → Nat → α) (x : Nat → α), u1 g (wN v) x a k = g a k := fun g x => by
      show (if a = wN v then x else g a) k = _
      rw [if_neg (by omega)]
    exact ⟨e _ _, e _ _, e _ _, e _ _⟩
theorem Gw.sRn {S : List (Nat × Option Nat)} {n s : Nat} {u v : Wd} (h : Gw S n s u v) {a : Nat} (k : Nat) (x : Option Nat) (ha : wN u ≤ a) : Gw S n s u (sR v a k x) := by
  obtain ⟨a1, a4, a5⟩ := h
  refine ⟨a1, a4, fun b j hb hs => (a5 b j hb hs).trans ⟨rfl, rfl, rfl, ?_⟩⟩
  rw [gR_sR, if_neg (by omega)]
theorem Gw.sIn {S : List (Nat × Option Nat)} {n s : Nat} {u v : Wd} (h : Gw S n s u v) {a : Nat} (k : Nat) (x : Int32) (ha : wN u ≤ a) : Gw S n s u (sI v a k x) := by
  obtain ⟨a1, a4, a5⟩ := h
  exact ⟨a1, a4, fun b j hb hs => (a5 b j hb hs).trans ⟨gI_ne _ _ _ _ (by omega), rfl, rfl, rfl⟩⟩
theorem Gw.i {S : List (Nat × Option Nat)} {n s : Nat} {w v : Wd} (h : Gw S n s w v) {a k : Nat} (ha : a < wN w) (hs : inS S a k = false) : gI v a k = gI w a k := (h.2.2 a k ha hs).1
theorem Gw.r {S : List (Nat × Option Nat)} {n s : Nat} {w v : Wd} (h : Gw S n s w v) {a k : Nat} (ha : a < wN w) (hs : inS S a k = false) : gR v a k = gR w a k := (h.2.2 a k ha hs).2.2.2
theorem Gw.l {S : List (Nat × Option Nat)} {n s : Nat} {w v : Wd} (h : Gw S n s w v) {a k : Nat} (ha : a < wN w) (hs : inS S a k = false) : gL v a k = gL w a k := (h.2.2 a k ha hs).2.1
theorem Gw.d {S : List (Nat × Option Nat)} {n s : Nat} {w v : Wd} (h : Gw S n s w v) {a k : Nat} (ha : a < wN w) (hs : inS S a k = false) : gD v a k = gD w a k := (h.2.2 a k ha hs).2.2.1
theorem Gw.fixO {S : List (Nat × Option Nat)} {n s : Nat} {w v : Wd} (h : Gw S n s w v) (hb : 151 ≤ wN w) (hS : ∀ a k, a < 151 → inS S a k = false) (hW : Fix w) : Fix v := by
  refine ⟨fun a h1 h2 h3 => ?_, fun a k b hr => ?_, fun j => ?_⟩
  · rw [h.2.1 a (by omega)]; exact hW.1 a h1 h2 h3
  · have ha : a < 151 := by
      have := rfx_in hr
      unfold fxA at this
      rw [List.any_eq_true] at this
      obtain ⟨x, hx, hb⟩ := this
      have e := Nat.eq_of_beq_eq_true hb
      simp only [List.mem_cons, List.mem_nil_iff, or_false] at hx
      omega
    rw [h.r (by omega) (hS a k ha)]; exact hW.2.1 a k b hr
  · rw [h.i (by omega) (hS 1 j (by omega))]; exact hW.2.2 j
theorem Gw.txO {S : List (Nat × Option Nat)} {n s : Nat} {w v : Wd} (h : Gw S n s w v) (hb : 151 ≤ wN w) (hS : ∀ a k, a < 151 → inS S a k = false) (hT : TX w) : TX v := fun k hk => by
  obtain ⟨h1, h2, h3⟩ := hT k hk
  exact ⟨(h.r (by omega) (hS _ _ (by omega))).trans h1, (h.i (by omega) (hS _ _ (by omega))).trans h2, fun j hj => (h.i (by omega) (hS _ _ (by omega))).trans (h3 j hj)⟩
/-- a new rule, made -/
def nru (w : Wd) : Wd := sI (sI (sR (nw (sR (nw (sR (nw (sR (nw (nw w 6 6) 20 8) (wN w) 0 (some (wN w + 1))) 22 8) (wN w) 1 (some (wN w + 2))) 20 8) (wN w) 2 (some (wN w + 3))) 20 8) (wN w) 3 (some (wN w + 4))) (wN w) 4 0) (wN w) 5 0
theorem nru_g (w : Wd) : Gw [] 5 38 w (nru w) :=
  (((((((((((Gw.refl [] w).nw 6 6).nw 20 8).sRn _ _ (Nat.le_refl _)).nw 22 8).sRn _ _ (Nat.le_refl _)).nw 20 8).sRn _ _ (Nat.le_refl _)).nw 20 8).sRn _ _ (Nat.le_refl _)).sIn _ _ (Nat.le_refl _)).sIn _ _ (Nat.le_refl _)
theorem nru_l (w : Wd) : RuL (nru w) (wN w) [] := by
  have hk : ∀ a, wK (nru w) a = if a = wN w + 4 then (20, 8) else if a = wN w + 3 then (20, 8) else if a = wN w + 2 then (22, 8) else if a = wN w + 1 then (20, 8) else if a = wN w then (6, 6) else wK w a := fun _ => rfl
  have w1 : wN w ≠ wN w + 1 := by omega
  have w2 : wN w ≠ wN w + 2 := by omega
  have w3 : wN w ≠ wN w + 3 := by omega
  have w4 : wN w ≠ wN w + 4 := by omega
  have g3 : gR (nru w) (wN w) 3 = some (wN w + 4) := gR_same _ _ _ _
  have g2 : gR (nru w) (wN w) 2 = some (wN w + 3) := (gR_nk _ _ _ (by decide)).trans ((nwR_ne w4).trans (gR_same _ _ _ _))
  have g1 : gR (nru w) (wN w) 1 = some (wN w + 2) := (gR_nk _ _ _ (by decide)).trans ((nwR_ne w4).trans ((gR_nk _ _ _ (by decide)).trans ((nwR_ne w3).trans (gR_same _ _ _ _))))
  have g0 : gR (nru w) (wN w) 0 = some (wN w + 1) := (gR_nk _ _ _ (by decide)).trans ((nwR_ne w4).trans ((gR_nk _ _ _ (by decide)).trans ((nwR_ne w3).trans ((gR_nk _ _ _ (by decide)).trans ((nwR_ne w2).trans (gR_same _ _ _ _))))))
  refine ⟨?_, ⟨?_, ?_, ?_, ?_⟩, ⟨?_, ?_, ?_, ?_⟩, Nat.zero_le 8, ?_, fun i hi => absurd hi (Nat.not_lt_zero i)⟩
  · rw [hk, if_neg (by omega), if_neg (by omega), if_neg (by omega), if_neg (by omega), if_pos rfl]
  · exact g0
  · exact g1
  · exact g2
  · exact g3
  · rw [hk, if_neg (by omega), if_neg (by omega), if_neg (by omega), if_pos rfl]
  · rw [hk, if_neg (by omega), if_neg (by omega), if_pos rfl]
  · rw [hk, if_neg (by omega), if_pos rfl]
  · rw [hk, if_pos rfl]
  · exact (gI_nk _ _ _ (by decide)).trans (gI_same _ _ _ _)
theorem svR {w : Wd} {a k b : Nat} (h : 64 ≤ b) : sval w a k 3 (.ref b) = some (sR w a k (some b)) := if_pos h
theorem c_newRule (d : Nat) {w : Wd} (hb : 151 ≤ wN w) (o : Nat) : val (88, d + 8, 0, [some (.ref o), none, none, none], [], w) = val (88, d + 8, 11, [some (.ref o), some (.ref (wN w)), none, none], [.ref 2, .ref o], nru w) := by
  have k1 : wK (nw (nw w 6 6) 20 8) (wN w) = (6, 6) := by rw [nw_K, if_neg (by show ¬ wN w = wN w + 1; omega), nw_K, if_pos rfl]
  have e147 : val (147, d + 7, 0, [some (.ref (wN w))], [], nw w 6 6) = some (none, nru w) := by
    refine (tr_147 (d + 6) _ (wN w) (by omega)).trans ?_
    refine (val_g (c2 := (147, d + 7, 9, [some (.ref (wN w))], [.ref (wN w + 1), .ref (wN w)], nw (nw w 6 6) 20 8)) rfl).trans ?_
    refine (val_pf (w2 := sR (nw (nw w 6 6) 20 8) (wN w) 0 (some (wN w + 1))) rfl k1 (svR (b := wN w + 1) (by omega))).trans ?_
    refine (tr_147_12 (d + 6) _ (wN w)).trans ?_
    refine (val_g (c2 := (147, d + 7, 17, [some (.ref (wN w))], [.ref (wN w + 2), .ref (wN w)], nw (sR (nw (nw w 6 6) 20 8) (wN w) 0 (some (wN w + 1))) 22 8)) rfl).trans ?_
    refine (val_pf (w2 := sR (nw (sR (nw (nw w 6 6) 20 8) (wN w) 0 (some (wN w + 1))) 22 8) (wN w) 1 (some (wN w + 2))) (n := 6) rfl (show wK (nw (sR (nw (nw w 6 6) 20 8) (wN w) 0 (some (wN w + 1))) 22 8) (wN w) = (6, 6) from ((nwK_ne (by show wN w ≠ wN w + 2; omega)).trans k1)) (svR (b := wN w + 2) (by omega))).trans ?_
    refine (tr_147_20 (d + 6) _ (wN w)).trans ?_
    refine (val_g (c2 := (147, d + 7, 25, [some (.ref (wN w))], [.ref (wN w + 3), .ref (wN w)], nw (sR (nw (sR (nw (nw w 6 6) 20 8) (wN w) 0 (some (wN w + 1))) 22 8) (wN w) 1 (some (wN w + 2))) 20 8)) rfl).trans ?_
    refine (val_pf (w2 := sR (nw (sR (nw (sR (nw (nw w 6 6) 20 8) (wN w) 0 (some (wN w + 1))) 22 8) (wN w) 1 (some (wN w + 2))) 20 8) (wN w) 2 (some (wN w + 3))) (n := 6) rfl (show wK (nw (sR (nw (sR (nw (nw w 6 6) 20 8) (wN w) 0 (some (wN w + 1))) 22 8) (wN w) 1 (some (wN w + 2))) 20 8) (wN w) = (6, 6) from ((nwK_ne (by show wN w ≠ wN w + 3; omega)).trans ((nwK_ne (by show wN w ≠ wN w + 2; omega)).trans k1))) (svR (b := wN w + 3) (by omega))).trans ?_
    refine (tr_147_28 (d + 6) _ (wN w)).trans ?_
    refine (val_g (c2 := (147, d + 7, 33, [some (.ref (wN w))], [.ref (wN w + 4), .ref (wN w)], nw (sR (nw (sR (nw (sR (nw (nw w 6 6) 20 8) (wN w) 0 (some (wN w + 1))) 22 8) (wN w) 1 (some (wN w + 2))) 20 8) (wN w) 2 (some (wN w + 3))) 20 8)) rfl).trans ?_
    refine (val_pf (w2 := sR (nw (sR (nw (sR (nw (sR (nw (nw w 6 6) 20 8) (wN w) 0 (some (wN w + 1))) 22 8) (wN w) 1 (some (wN w + 2))) 20 8) (wN w) 2 (some (wN w + 3))) 20 8) (wN w) 3 (some (wN w + 4))) (n := 6) rfl (show wK (nw (sR (nw (sR (nw (sR (nw (nw w 6 6) 20 8) (wN w) 0 (some (wN w + 1))) 22 8) (wN w) 1 (some (wN w + 2))) 20 8) (wN w) 2 (some (wN w + 3))) 20 8) (wN w) = (6, 6) from ((nwK_ne (by show wN w ≠ wN w + 4; omega)).trans ((nwK_ne (by show wN w ≠ wN w + 3; omega)).trans ((nwK_ne (by show wN w ≠ wN w + 2; omega)).trans k1)))) (svR (b := wN w + 4) (by omega))).trans ?_
    exact tr_147_36 (d + 6) _ (wN w) 6 ((nwK_ne (by show wN w ≠ wN w + 4; omega)).trans ((nwK_ne (by show wN w ≠ wN w + 3; omega)).trans ((nwK_ne (by show wN w ≠ wN w + 2; omega)).trans k1)))
  refine (val_g (c2 := (88, d + 8, 3, [some (.ref o), none, none, none], [.ref (wN w)], nw w 6 6)) rfl).trans ?_
  refine (tr_88_3 d _ o (wN w)).trans ?_
  refine (val_call (pc2 := 7) rfl rfl rfl rfl (rcvO (w := nw w 6 6) (show wK (nw w 6 6) (wN w) = (6, 6) from if_pos rfl) (by decide)) (Nat.le_of_ble_eq_true rfl) (Nat.le_of_ble_eq_true rfl) rfl e147 rfl).trans ?_
  exact tr_88_7 d (nru w) o (wN w)
