/-! FRAMES: what may have changed, as a list of places: a cell and one index of it, or all of it -/
def plc (s : Nat × Option Nat) (a k : Nat) : Bool := Nat.beq s.1 a && (match s.2 with | none => true | some j => Nat.beq j k)
def inS (S : List (Nat × Option Nat)) (a k : Nat) : Bool := S.any (fun s => plc s a k)
def pdj (s f : Nat × Option Nat) : Bool := !Nat.beq s.1 f.1 || (match s.2, f.2 with | some i, some j => !Nat.beq i j | _, _ => false)
def dj (S F : List (Nat × Option Nat)) : Bool := S.all (fun s => F.all (fun f => pdj s f))
def psb (s t : Nat × Option Nat) : Bool := Nat.beq s.1 t.1 && (match t.2, s.2 with | none, _ => true | some i, some j => Nat.beq i j | some _, none => false)
def sbS (S T : List (Nat × Option Nat)) : Bool := S.all (fun s => T.any (fun t => psb s t))
theorem pdj_not {s f : Nat × Option Nat} {a k : Nat} (h1 : plc s a k = true) (h2 : plc f a k = true) : ¬ pdj s f = true := by
  obtain ⟨s1, s2⟩ := s
  obtain ⟨f1, f2⟩ := f
  unfold plc at h1 h2
  unfold pdj
  simp only [Bool.and_eq_true, Nat.beq_eq] at h1 h2
  obtain ⟨e1, e2⟩ := h1
  obtain ⟨e3, e4⟩ := h2
  subst e1
  subst e3
  cases s2 with
  | none => cases f2 <;> simp
  | some i =>
    cases f2 with
    | none => simp
    | some j =>
      simp only [Nat.beq_eq] at e2 e4
      subst e2
      subst e4
      simp
theorem dj_off {S F : List (Nat × Option Nat)} (h : dj S F = true) {a k : Nat} (hf : inS F a k = true) : inS S a k = false := by
  cases hs : inS S a k with
  | false => rfl
  | true =>
    unfold inS at hs hf
    rw [List.any_eq_true] at hs hf
    obtain ⟨s, hs1, hs2⟩ := hs
    obtain ⟨f, hf1, hf2⟩ := hf
    unfold dj at h
    rw [List.all_eq_true] at h
    have h1 := h s hs1
    rw [List.all_eq_true] at h1
    exact absurd (h1 f hf1) (pdj_not hs2 hf2)
theorem psb_in {s t : Nat × Option Nat} {a k : Nat} (h1 : plc s a k = true) (h2 : psb s t = true) : plc t a k = true := by
  obtain ⟨s1, s2⟩ := s
  obtain ⟨t1, t2⟩ := t
  unfold plc at h1 ⊢
  unfold psb at h2
  simp only [Bool.and_eq_true, Nat.beq_eq] at h1 h2 ⊢
  obtain ⟨e1, e2⟩ := h1
  obtain ⟨e3, e4⟩ := h2
  refine ⟨e3.symm.trans e1, ?_⟩
  cases t2 with
  | none => rfl
  | some i =>
    cases s2 with
    | none => cases e4
    | some j =>
      simp only [Nat.beq_eq] at e2 e4 ⊢
      exact e4.trans e2
theorem sb_in {S T : List (Nat × Option Nat)} (h : sbS S T = true) {a k : Nat} (hs : inS S a k = true) : inS T a k = true := by
  unfold inS at hs ⊢
  rw [List.any_eq_true] at hs ⊢
  obtain ⟨s, hs1, hs2⟩ := hs
  unfold sbS at h
  rw [List.all_eq_true] at h
  have h1 := h s hs1
  rw [List.any_eq_true] at h1
  obtain ⟨t, ht1, ht2⟩ := h1
  exact ⟨t, ht1, psb_in hs2 ht2⟩
/-- the same in both worlds at a place -/
def Same (w v : Wd) (a k : Nat) : Prop := gI v a k = gI w a k ∧ gL v a k = gL w a k ∧ gD v a k = gD w a k ∧ gR v a k = gR w a k
theorem Same.trans {u v w : Wd} {a k : Nat} (h : Same u v a k) (g : Same v w a k) : Same u w a k := ⟨g.1.trans h.1, g.2.1.trans h.2.1, g.2.2.1.trans h.2.2.1, g.2.2.2.trans h.2.2.2⟩
/-- nothing new, and nothing changed but at places of S -/
def Fr (S : List (Nat × Option Nat)) (w v : Wd) : Prop := (wK v = wK w ∧ wN v = wN w ∧ wS v = wS w) ∧ ∀ a k, inS S a k = false → Same w v a k
theorem Fr.refl (S : List (Nat × Option Nat)) (w : Wd) : Fr S w w := ⟨⟨rfl, rfl, rfl⟩, fun _ _ _ => ⟨rfl, rfl, rfl, rfl⟩⟩
theorem Fr.trans {S : List (Nat × Option Nat)} {u v w : Wd} (h : Fr S u v) (g : Fr S v w) : Fr S u w := ⟨⟨g.1.1.trans h.1.1, g.1.2.1.trans h.1.2.1, g.1.2.2.trans h.1.2.2⟩, fun a k hs => (h.2 a k hs).trans (g.2 a k hs)⟩
theorem Fr.mono {S T : List (Nat × Option Nat)} {w v : Wd} (h : Fr S w v) (hs : sbS S T = true) : Fr T w v := ⟨h.1, fun a k ht => h.2 a k (by
  cases e : inS S a k with
  | false => rfl
  | true => rw [sb_in hs e] at ht; cases ht)⟩
theorem Fr.k {S : List (Nat × Option Nat)} {w v : Wd} (h : Fr S w v) : wK v = wK w := h.1.1
theorem Fr.i {S : List (Nat × Option Nat)} {w v : Wd} (h : Fr S w v) (a k : Nat) (hs : inS S a k = false) : gI v a k = gI w a k := (h.2 a k hs).1
theorem Fr.l {S : List (Nat × Option Nat)} {w v : Wd} (h : Fr S w v) (a k : Nat) (hs : inS S a k = false) : gL v a k = gL w a k := (h.2 a k hs).2.1
theorem Fr.d {S : List (Nat × Option Nat)} {w v : Wd} (h : Fr S w v) (a k : Nat) (hs : inS S a k = false) : gD v a k = gD w a k := (h.2 a k hs).2.2.1
theorem Fr.r {S : List (Nat × Option Nat)} {w v : Wd} (h : Fr S w v) (a k : Nat) (hs : inS S a k = false) : gR v a k = gR w a k := (h.2 a k hs).2.2.2
theorem Fr.sI {S : List (Nat × Option Nat)} {w v : Wd} (h : Fr S w v) (a k : Nat) (x : Int32) (hs : inS S a k = true) : Fr S w (sI v a k x) := by
  refine ⟨h.1, fun b j hb => ?_⟩
  obtain ⟨p1, p2, p3, p4⟩ := h.2 b j hb
  refine ⟨?_, p2, p3, p4⟩
  rw [gI_sI]
  by_cases e : b = a
  · by_cases e2 : j = k
    · subst e; subst e2; rw [hs] at hb; cases hb
    · rw [if_pos e, if_neg e2]; exact p1
  · rw [if_neg e]; exact p1
theorem Fr.sL {S : List (Nat × Option Nat)} {w v : Wd} (h : Fr S w v) (a k : Nat) (x : Int64) (hs : inS S a k = true) : Fr S w (sL v a k x) := by
  refine ⟨h.1, fun b j hb => ?_⟩
  obtain ⟨p1, p2, p3, p4⟩ := h.2 b j hb
  refine ⟨p1, ?_, p3, p4⟩
  rw [gL_sL]
  by_cases e : b = a
  · by_cases e2 : j = k
    · subst e; subst e2; rw [hs] at hb; cases hb
    · rw [if_pos e, if_neg e2]; exact p2
  · rw [if_neg e]; exact p2
theorem Fr.sD {S : List (Nat × Option Nat)} {w v : Wd} (h : Fr S w v) (a k : Nat) (x : UInt64) (hs : inS S a k = true) : Fr S w (sD v a k x) := by
  refine ⟨h.1, fun b j hb => ?_⟩
  obtain ⟨p1, p2, p3, p4⟩ := h.2 b j hb
  refine ⟨p1, p2, ?_, p4⟩
  rw [gD_sD]
  by_cases e : b = a
  · by_cases e2 : j = k
    · subst e; subst e2; rw [hs] at hb; cases hb
    · rw [if_pos e, if_neg e2]; exact p3
  · rw [if_neg e]; exact p3
theorem Fr.sR {S : List (Nat × Option Nat)} {w v : Wd} (h : Fr S w v) (a k : Nat) (x : Option Nat) (hs : inS S a k = true) : Fr S w (sR v a k x) := by
  refine ⟨h.1, fun b j hb => ?_⟩
  obtain ⟨p1, p2, p3, p4⟩ := h.2 b j hb
  refine ⟨p1, p2, p3, ?_⟩
  rw [gR_sR]
  by_cases e : b = a
  · by_cases e2 : j = k
    · subst e; subst e2; rw [hs] at hb; cases hb
    · rw [if_pos e, if_neg e2]; exact p4
  · rw [if_neg e]; exact p4
theorem Fr.of_only {a : Nat} {w v : Wd} (h : Only (· = a) w v) : Fr [(a, none)] w v := by
  obtain ⟨a1, a2, a3, a4, a5, a6, a7⟩ := h
  refine ⟨⟨a1, a5, a6⟩, fun b j hb => ⟨a7 b (fun e => ?_) j, by rw [a2], by rw [a3], by rw [a4]⟩⟩
  have e2 : b = a := e
  subst e2
  have : inS [(b, none)] b j = true := by
    show (Nat.beq b b && true || false) = true
    rw [Nat.beq_refl]; rfl
  rw [this] at hb
  cases hb
/-- cells whose references are final, but for some -/
def fxA (a : Nat) : Bool := [64, 67, 76, 80, 84, 91, 96, 99, 108].any (Nat.beq a)
def okS (S : List (Nat × Option Nat)) : Bool := S.all (fun s => !Nat.beq s.1 1 && (match s.2 with | some k => (rfx s.1 k).isNone | none => !fxA s.1))
theorem rfx_in {a k b : Nat} (h : rfx a k = some b) : fxA a = true := by
  unfold rfx at h
  by_cases h1 : a = 64
  · subst h1; rfl
  rw [if_neg h1] at h
  by_cases h1 : a = 67
  · subst h1; rfl
  rw [if_neg h1] at h
  by_cases h1 : a = 76
  · subst h1; rfl
  rw [if_neg h1] at h
  by_cases h1 : a = 80
  · subst h1; rfl
  rw [if_neg h1] at h
  by_cases h1 : a = 84
  · subst h1; rfl
  rw [if_neg h1] at h
  by_cases h1 : a = 91
  · subst h1; rfl
  rw [if_neg h1] at h
  by_cases h1 : a = 96
  · subst h1; rfl
  rw [if_neg h1] at h
  by_cases h1 : a = 99
  · subst h1; rfl
  rw [if_neg h1] at h
  by_cases h1 : a = 108
  · subst h1; rfl
  rw [if_neg h1] at h
  cases h
theorem okS_off {S : List (Nat × Option Nat)} (h : okS S = true) : (∀ k, inS S 1 k = false) ∧ ∀ a k b, rfx a k = some b → inS S a k = false := by
  unfold okS at h
  rw [List.all_eq_true] at h
  refine ⟨fun k => ?_, fun a k b hr => ?_⟩
  · cases hs : inS S 1 k with
    | false => rfl
    | true =>
      unfold inS at hs
      rw [List.any_eq_true] at hs
      obtain ⟨s, hs1, hs2⟩ := hs
      have h1 := h s hs1
      unfold plc at hs2
      rw [Bool.and_eq_true] at hs2 h1
      rw [hs2.1] at h1
      cases h1.1
  · cases hs : inS S a k with
    | false => rfl
    | true =>
      unfold inS at hs
      rw [List.any_eq_true] at hs
      obtain ⟨⟨s1, s2⟩, hs1, hs2⟩ := hs
      have h1 := h _ hs1
      unfold plc at hs2
      simp only [Bool.and_eq_true, Nat.beq_eq] at hs2
      obtain ⟨e1, e2⟩ := hs2
      subst e1
      rw [Bool.and_eq_true] at h1
      cases s2 with
      | none =>
        have h2 := h1.2
        have h3 := rfx_in hr
        simp only [h3] at h2
        cases h2
      | some j =>
        simp only [Nat.beq_eq] at e2
        subst e2
        have h2 := h1.2
        simp only [hr] at h2
        cases h2
theorem Fr.fix {S : List (Nat × Option Nat)} {w v : Wd} (h : Fr S w v) (hS : okS S = true) (hW : Fix w) : Fix v := by
  obtain ⟨o1, o2⟩ := okS_off hS
  refine ⟨fun a h1 h2 h3 => ?_, fun a k b hr => ?_, fun j => ?_⟩
  · rw [h.k]; exact hW.1 a h1 h2 h3
  · rw [h.r a k (o2 a k b hr)]; exact hW.2.1 a k b hr
  · rw [h.i 1 j (o1 j)]; exact hW.2.2 j
theorem Fix.k108 {w : Wd} (h : Fix w) : wK w 108 = (10, 68) := h.k 108 (by omega) (by omega)
theorem Fix.rc {w : Wd} (h : Fix w) (as : List Value) : rcv w 10 (.ref 108 :: as) = true := rcvO h.k108 (by decide)
