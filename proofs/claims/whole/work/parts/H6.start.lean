/-! THE START: the law's first steps, the invariant at the loop's head; printed by program (wip/gen/p_h6.py) -/
def RLc : List (Nat × Nat × Nat) := [(64, 1, 65), (64, 3, 66), (64, 5, 67), (64, 6, 76), (64, 7, 80), (64, 8, 84), (64, 9, 91), (64, 10, 96), (67, 1, 68), (67, 2, 69), (67, 3, 70), (67, 4, 71), (67, 5, 72), (67, 6, 73), (67, 7, 74), (67, 8, 75), (76, 0, 77), (76, 1, 78), (76, 2, 79), (80, 0, 81), (80, 2, 82), (80, 3, 83), (84, 0, 85), (84, 1, 86), (84, 2, 87), (84, 3, 88), (84, 4, 89), (84, 5, 90), (91, 0, 92), (91, 1, 93), (91, 2, 94), (91, 3, 95), (96, 0, 97), (96, 1, 98), (96, 2, 99), (99, 0, 100), (99, 1, 101), (99, 2, 102), (99, 3, 103), (99, 4, 104), (99, 5, 105), (99, 6, 106), (99, 7, 107)]
def RLm : List (Nat × Nat × Nat) := [(108, 1, 109), (108, 2, 110), (108, 3, 111), (108, 4, 112), (108, 12, 113), (108, 13, 114), (108, 14, 115), (108, 15, 116), (108, 16, 117), (108, 17, 118), (108, 18, 119), (108, 19, 120), (108, 21, 121), (108, 22, 122), (108, 23, 123), (108, 24, 124), (108, 25, 125), (108, 26, 126), (108, 31, 127), (108, 32, 128), (108, 33, 129), (108, 34, 130), (108, 35, 131), (108, 37, 132), (108, 38, 133), (108, 39, 134), (108, 42, 135), (108, 43, 136), (108, 44, 137), (108, 45, 138), (108, 46, 139), (108, 53, 140), (108, 55, 141), (108, 56, 142), (108, 57, 143), (108, 59, 144), (108, 62, 145), (108, 63, 146), (108, 64, 147), (108, 65, 148), (108, 66, 149), (108, 67, 150)]
theorem rfx_bd {a k b : Nat} (h : rfx a k = some b) : a < 151 ∧ k < 70 := by
  have ha : a < 151 := by
    by_cases c : a < 151
    · exact c
    · unfold rfx at h
      rw [if_neg (by omega), if_neg (by omega), if_neg (by omega), if_neg (by omega), if_neg (by omega), if_neg (by omega), if_neg (by omega), if_neg (by omega), if_neg (by omega)] at h
      cases h
  refine ⟨ha, ?_⟩
  by_cases c : k < 70
  · exact c
  · obtain ⟨j, hj⟩ : ∃ j, k = j + 70 := ⟨k - 70, by omega⟩
    subst hj
    by_cases c64 : a = 64
    · subst c64
      exact absurd (show (none : Option Nat) = some b from h) (fun h => (by cases h))
    by_cases c67 : a = 67
    · subst c67
      exact absurd (show (none : Option Nat) = some b from h) (fun h => (by cases h))
    by_cases c76 : a = 76
    · subst c76
      exact absurd (show (none : Option Nat) = some b from h) (fun h => (by cases h))
    by_cases c80 : a = 80
    · subst c80
      exact absurd (show (none : Option Nat) = some b from h) (fun h => (by cases h))
    by_cases c84 : a = 84
    · subst c84
      exact absurd (show (none : Option Nat) = some b from h) (fun h => (by cases h))
    by_cases c91 : a = 91
    · subst c91
      exact absurd (show (none : Option Nat) = some b from h) (fun h => (by cases h))
    by_cases c96 : a = 96
    · subst c96
      exact absurd (show (none : Option Nat) = some b from h) (fun h => (by cases h))
    by_cases c99 : a = 99
    · subst c99
      exact absurd (show (none : Option Nat) = some b from h) (fun h => (by cases h))
    by_cases c108 : a = 108
    · subst c108
      exact absurd (show (none : Option Nat) = some b from h) (fun h => (by cases h))
    unfold rfx at h
    rw [if_neg c64, if_neg c67, if_neg c76, if_neg c80, if_neg c84, if_neg c91, if_neg c96, if_neg c99, if_neg c108] at h
    cases h
theorem rfx_ck : ∀ a, a < 151 → ∀ k, k < 70 → (match rfx a k with | none => true | some b => RLc.contains (a, k, b) || RLm.contains (a, k, b)) = true := by decide +kernel
theorem rfx_mem {a k b : Nat} (h : rfx a k = some b) : (a, k, b) ∈ RLc ∨ (a, k, b) ∈ RLm := by
  obtain ⟨h1, h2⟩ := rfx_bd h
  have h3 := rfx_ck a h1 k h2
  rw [h] at h3
  rcases (Bool.or_eq_true _ _).mp h3 with h4 | h4
  · exact Or.inl (List.contains_iff_mem.mp h4)
  · exact Or.inr (List.contains_iff_mem.mp h4)
section START
variable {L : Nat} {xs : Nat → Int32}
theorem W00_K : ∀ a, 1 ≤ a → a < 34 → wK (W00 L xs) a = kfx a := by
  intro a h1 h2
  have h : a = 1 ∨ a = 2 ∨ a = 3 ∨ a = 4 ∨ a = 5 ∨ a = 6 ∨ a = 7 ∨ a = 8 ∨ a = 9 ∨ a = 10 ∨ a = 11 ∨ a = 12 ∨ a = 13 ∨ a = 14 ∨ a = 15 ∨ a = 16 ∨ a = 17 ∨ a = 18 ∨ a = 19 ∨ a = 20 ∨ a = 21 ∨ a = 22 ∨ a = 23 ∨ a = 24 ∨ a = 25 ∨ a = 26 ∨ a = 27 ∨ a = 28 ∨ a = 29 ∨ a = 30 ∨ a = 31 ∨ a = 32 ∨ a = 33 := by omega
  rcases h with rfl | rfl | rfl | rfl | rfl | rfl | rfl | rfl | rfl | rfl | rfl | rfl | rfl | rfl | rfl | rfl | rfl | rfl | rfl | rfl | rfl | rfl | rfl | rfl | rfl | rfl | rfl | rfl | rfl | rfl | rfl | rfl | rfl <;> rfl
theorem W00_tx : TX (W00 L xs) := by
  intro k hk
  have h : k = 0 ∨ k = 1 ∨ k = 2 ∨ k = 3 ∨ k = 4 ∨ k = 5 ∨ k = 6 ∨ k = 7 ∨ k = 8 ∨ k = 9 ∨ k = 10 ∨ k = 11 ∨ k = 12 ∨ k = 13 ∨ k = 14 ∨ k = 15 := by omega
  rcases h with rfl | rfl | rfl | rfl | rfl | rfl | rfl | rfl | rfl | rfl | rfl | rfl | rfl | rfl | rfl | rfl <;> exact ⟨rfl, rfl, fun j _ => rfl⟩
theorem TX.gw64 {S : List (Nat × Option Nat)} {n s : Nat} {w v : Wd} (h : TX w) (hf : Gw S n s w v) (hb : 64 ≤ wN w) (hs : S.all (fun s => Nat.ble 64 s.1) = true) : TX v := fun k hk => by
  obtain ⟨h1, h2, h3⟩ := h k hk
  exact ⟨(hf.r (by omega) (lo_off hs (by omega))).trans h1, (hf.i (by omega) (lo_off hs (by omega))).trans h2, fun j hj => (hf.i (by omega) (lo_off hs (by omega))).trans (h3 j hj)⟩
theorem cw_cl : ∀ a, 64 ≤ a → a < 108 → wK (cw95 L xs) a = kfx a := by
  intro a h1 h2
  have h : a = 64 ∨ a = 65 ∨ a = 66 ∨ a = 67 ∨ a = 68 ∨ a = 69 ∨ a = 70 ∨ a = 71 ∨ a = 72 ∨ a = 73 ∨ a = 74 ∨ a = 75 ∨ a = 76 ∨ a = 77 ∨ a = 78 ∨ a = 79 ∨ a = 80 ∨ a = 81 ∨ a = 82 ∨ a = 83 ∨ a = 84 ∨ a = 85 ∨ a = 86 ∨ a = 87 ∨ a = 88 ∨ a = 89 ∨ a = 90 ∨ a = 91 ∨ a = 92 ∨ a = 93 ∨ a = 94 ∨ a = 95 ∨ a = 96 ∨ a = 97 ∨ a = 98 ∨ a = 99 ∨ a = 100 ∨ a = 101 ∨ a = 102 ∨ a = 103 ∨ a = 104 ∨ a = 105 ∨ a = 106 ∨ a = 107 := by omega
  rcases h with rfl | rfl | rfl | rfl | rfl | rfl | rfl | rfl | rfl | rfl | rfl | rfl | rfl | rfl | rfl | rfl | rfl | rfl | rfl | rfl | rfl | rfl | rfl | rfl | rfl | rfl | rfl | rfl | rfl | rfl | rfl | rfl | rfl | rfl | rfl | rfl | rfl | rfl | rfl | rfl | rfl | rfl | rfl | rfl
  · exact cwK_64 L xs
  · exact cwK_65 L xs
  · exact cwK_66 L xs
  · exact cwK_67 L xs
  · exact cwK_68 L xs
  · exact cwK_69 L xs
  · exact cwK_70 L xs
  · exact cwK_71 L xs
  · exact cwK_72 L xs
  · exact cwK_73 L xs
  · exact cwK_74 L xs
  · exact cwK_75 L xs
  · exact cwK_76 L xs
  · exact cwK_77 L xs
  · exact cwK_78 L xs
  · exact cwK_79 L xs
  · exact cwK_80 L xs
  · exact cwK_81 L xs
  · exact cwK_82 L xs
  · exact cwK_83 L xs
  · exact cwK_84 L xs
  · exact cwK_85 L xs
  · exact cwK_86 L xs
  · exact cwK_87 L xs
  · exact cwK_88 L xs
  · exact cwK_89 L xs
  · exact cwK_90 L xs
  · exact cwK_91 L xs
  · exact cwK_92 L xs
  · exact cwK_93 L xs
  · exact cwK_94 L xs
  · exact cwK_95 L xs
  · exact cwK_96 L xs
  · exact cwK_97 L xs
  · exact cwK_98 L xs
  · exact cwK_99 L xs
  · exact cwK_100 L xs
  · exact cwK_101 L xs
  · exact cwK_102 L xs
  · exact cwK_103 L xs
  · exact cwK_104 L xs
  · exact cwK_105 L xs
  · exact cwK_106 L xs
  · exact cwK_107 L xs
theorem cw_cr : ∀ a k b, (a, k, b) ∈ RLc → a < 108 ∧ gR (cw95 L xs) a k = some b := by
  intro a k b h
  unfold RLc at h
  simp only [List.mem_cons, Prod.mk.injEq, List.not_mem_nil, or_false] at h
  rcases h with ⟨rfl, rfl, rfl⟩ | ⟨rfl, rfl, rfl⟩ | ⟨rfl, rfl, rfl⟩ | ⟨rfl, rfl, rfl⟩ | ⟨rfl, rfl, rfl⟩ | ⟨rfl, rfl, rfl⟩ | ⟨rfl, rfl, rfl⟩ | ⟨rfl, rfl, rfl⟩ | ⟨rfl, rfl, rfl⟩ | ⟨rfl, rfl, rfl⟩ | ⟨rfl, rfl, rfl⟩ | ⟨rfl, rfl, rfl⟩ | ⟨rfl, rfl, rfl⟩ | ⟨rfl, rfl, rfl⟩ | ⟨rfl, rfl, rfl⟩ | ⟨rfl, rfl, rfl⟩ | ⟨rfl, rfl, rfl⟩ | ⟨rfl, rfl, rfl⟩ | ⟨rfl, rfl, rfl⟩ | ⟨rfl, rfl, rfl⟩ | ⟨rfl, rfl, rfl⟩ | ⟨rfl, rfl, rfl⟩ | ⟨rfl, rfl, rfl⟩ | ⟨rfl, rfl, rfl⟩ | ⟨rfl, rfl, rfl⟩ | ⟨rfl, rfl, rfl⟩ | ⟨rfl, rfl, rfl⟩ | ⟨rfl, rfl, rfl⟩ | ⟨rfl, rfl, rfl⟩ | ⟨rfl, rfl, rfl⟩ | ⟨rfl, rfl, rfl⟩ | ⟨rfl, rfl, rfl⟩ | ⟨rfl, rfl, rfl⟩ | ⟨rfl, rfl, rfl⟩ | ⟨rfl, rfl, rfl⟩ | ⟨rfl, rfl, rfl⟩ | ⟨rfl, rfl, rfl⟩ | ⟨rfl, rfl, rfl⟩ | ⟨rfl, rfl, rfl⟩ | ⟨rfl, rfl, rfl⟩ | ⟨rfl, rfl, rfl⟩ | ⟨rfl, rfl, rfl⟩ | ⟨rfl, rfl, rfl⟩
  · exact ⟨by decide, cwR_64_1 L xs⟩
  · exact ⟨by decide, cwR_64_3 L xs⟩
  · exact ⟨by decide, cwR_64_5 L xs⟩
  · exact ⟨by decide, cwR_64_6 L xs⟩
  · exact ⟨by decide, cwR_64_7 L xs⟩
  · exact ⟨by decide, cwR_64_8 L xs⟩
  · exact ⟨by decide, cwR_64_9 L xs⟩
  · exact ⟨by decide, cwR_64_10 L xs⟩
  · exact ⟨by decide, cwR_67_1 L xs⟩
  · exact ⟨by decide, cwR_67_2 L xs⟩
  · exact ⟨by decide, cwR_67_3 L xs⟩
  · exact ⟨by decide, cwR_67_4 L xs⟩
  · exact ⟨by decide, cwR_67_5 L xs⟩
  · exact ⟨by decide, cwR_67_6 L xs⟩
  · exact ⟨by decide, cwR_67_7 L xs⟩
  · exact ⟨by decide, cwR_67_8 L xs⟩
  · exact ⟨by decide, cwR_76_0 L xs⟩
  · exact ⟨by decide, cwR_76_1 L xs⟩
  · exact ⟨by decide, cwR_76_2 L xs⟩
  · exact ⟨by decide, cwR_80_0 L xs⟩
  · exact ⟨by decide, cwR_80_2 L xs⟩
  · exact ⟨by decide, cwR_80_3 L xs⟩
  · exact ⟨by decide, cwR_84_0 L xs⟩
  · exact ⟨by decide, cwR_84_1 L xs⟩
  · exact ⟨by decide, cwR_84_2 L xs⟩
  · exact ⟨by decide, cwR_84_3 L xs⟩
  · exact ⟨by decide, cwR_84_4 L xs⟩
  · exact ⟨by decide, cwR_84_5 L xs⟩
  · exact ⟨by decide, cwR_91_0 L xs⟩
  · exact ⟨by decide, cwR_91_1 L xs⟩
  · exact ⟨by decide, cwR_91_2 L xs⟩
  · exact ⟨by decide, cwR_91_3 L xs⟩
  · exact ⟨by decide, cwR_96_0 L xs⟩
  · exact ⟨by decide, cwR_96_1 L xs⟩
  · exact ⟨by decide, cwR_96_2 L xs⟩
  · exact ⟨by decide, cwR_99_0 L xs⟩
  · exact ⟨by decide, cwR_99_1 L xs⟩
  · exact ⟨by decide, cwR_99_2 L xs⟩
  · exact ⟨by decide, cwR_99_3 L xs⟩
  · exact ⟨by decide, cwR_99_4 L xs⟩
  · exact ⟨by decide, cwR_99_5 L xs⟩
  · exact ⟨by decide, cwR_99_6 L xs⟩
  · exact ⟨by decide, cwR_99_7 L xs⟩
theorem rlm_108 : ∀ a k b, (a, k, b) ∈ RLm → a = 108 := by
  intro a k b h
  unfold RLm at h
  simp only [List.mem_cons, Prod.mk.injEq, List.not_mem_nil, or_false] at h
  rcases h with ⟨rfl, rfl, rfl⟩ | ⟨rfl, rfl, rfl⟩ | ⟨rfl, rfl, rfl⟩ | ⟨rfl, rfl, rfl⟩ | ⟨rfl, rfl, rfl⟩ | ⟨rfl, rfl, rfl⟩ | ⟨rfl, rfl, rfl⟩ | ⟨rfl, rfl, rfl⟩ | ⟨rfl, rfl, rfl⟩ | ⟨rfl, rfl, rfl⟩ | ⟨rfl, rfl, rfl⟩ | ⟨rfl, rfl, rfl⟩ | ⟨rfl, rfl, rfl⟩ | ⟨rfl, rfl, rfl⟩ | ⟨rfl, rfl, rfl⟩ | ⟨rfl, rfl, rfl⟩ | ⟨rfl, rfl, rfl⟩ | ⟨rfl, rfl, rfl⟩ | ⟨rfl, rfl, rfl⟩ | ⟨rfl, rfl, rfl⟩ | ⟨rfl, rfl, rfl⟩ | ⟨rfl, rfl, rfl⟩ | ⟨rfl, rfl, rfl⟩ | ⟨rfl, rfl, rfl⟩ | ⟨rfl, rfl, rfl⟩ | ⟨rfl, rfl, rfl⟩ | ⟨rfl, rfl, rfl⟩ | ⟨rfl, rfl, rfl⟩ | ⟨rfl, rfl, rfl⟩ | ⟨rfl, rfl, rfl⟩ | ⟨rfl, rfl, rfl⟩ | ⟨rfl, rfl, rfl⟩ | ⟨rfl, rfl, rfl⟩ | ⟨rfl, rfl, rfl⟩ | ⟨rfl, rfl, rfl⟩ | ⟨rfl, rfl, rfl⟩ | ⟨rfl, rfl, rfl⟩ | ⟨rfl, rfl, rfl⟩ | ⟨rfl, rfl, rfl⟩ | ⟨rfl, rfl, rfl⟩ | ⟨rfl, rfl, rfl⟩ | ⟨rfl, rfl, rfl⟩ <;> rfl
theorem cw_fix : FixC (cw95 L xs) := by
  refine ⟨fun a h1 h2 h3 => ?_, fun a k b ha hr => ?_, fun j => ?_⟩
  · rcases h3 with h | h
    · exact ((cw_gw L xs).2.1 a (show a < 64 by omega)).trans (W00_K a h1 h)
    · exact cw_cl a h h2
  · rcases rfx_mem hr with h | h
    · exact (cw_cr a k b h).2
    · have := rlm_108 a k b h
      omega
  · exact ((cw_gw L xs).i (show 1 < 64 by decide) rfl).trans rfl
set_option maxRecDepth 20000 in
theorem cw_n : gI (cw95 L xs) 64 0 = nI 6 := rfl
set_option maxRecDepth 20000 in
theorem cw_t : gI (cw95 L xs) 64 2 = nI 0 := rfl
set_option maxRecDepth 20000 in
theorem cw_z : gI (cw95 L xs) 70 0 = 0 := rfl
theorem cw_N : wN (cw95 L xs) = 108 := rfl
theorem cw_S : wS (cw95 L xs) ≤ 25205 := by
  have h := (cw_gw L xs).1.2.2
  have h0 : wS (W00 L xs) = 0 := rfl
  omega
theorem mw_cl (gK : Nat → Nat × Nat) (gi : Nat → Nat → Int32) (gl : Nat → Nat → Int64) (gd : Nat → Nat → UInt64) (gr : Nat → Nat → Option Nat) (gs : Nat) : ∀ a, 108 ≤ a → a < 151 → wK (mw86 gK gi gl gd gr gs) a = kfx a := by
  intro a h1 h2
  have h : a = 108 ∨ a = 109 ∨ a = 110 ∨ a = 111 ∨ a = 112 ∨ a = 113 ∨ a = 114 ∨ a = 115 ∨ a = 116 ∨ a = 117 ∨ a = 118 ∨ a = 119 ∨ a = 120 ∨ a = 121 ∨ a = 122 ∨ a = 123 ∨ a = 124 ∨ a = 125 ∨ a = 126 ∨ a = 127 ∨ a = 128 ∨ a = 129 ∨ a = 130 ∨ a = 131 ∨ a = 132 ∨ a = 133 ∨ a = 134 ∨ a = 135 ∨ a = 136 ∨ a = 137 ∨ a = 138 ∨ a = 139 ∨ a = 140 ∨ a = 141 ∨ a = 142 ∨ a = 143 ∨ a = 144 ∨ a = 145 ∨ a = 146 ∨ a = 147 ∨ a = 148 ∨ a = 149 ∨ a = 150 := by omega
  rcases h with rfl | rfl | rfl | rfl | rfl | rfl | rfl | rfl | rfl | rfl | rfl | rfl | rfl | rfl | rfl | rfl | rfl | rfl | rfl | rfl | rfl | rfl | rfl | rfl | rfl | rfl | rfl | rfl | rfl | rfl | rfl | rfl | rfl | rfl | rfl | rfl | rfl | rfl | rfl | rfl | rfl | rfl | rfl
  · exact mwK_108 gK gi gl gd gr gs
  · exact mwK_109 gK gi gl gd gr gs
  · exact mwK_110 gK gi gl gd gr gs
  · exact mwK_111 gK gi gl gd gr gs
  · exact mwK_112 gK gi gl gd gr gs
  · exact mwK_113 gK gi gl gd gr gs
  · exact mwK_114 gK gi gl gd gr gs
  · exact mwK_115 gK gi gl gd gr gs
  · exact mwK_116 gK gi gl gd gr gs
  · exact mwK_117 gK gi gl gd gr gs
  · exact mwK_118 gK gi gl gd gr gs
  · exact mwK_119 gK gi gl gd gr gs
  · exact mwK_120 gK gi gl gd gr gs
  · exact mwK_121 gK gi gl gd gr gs
  · exact mwK_122 gK gi gl gd gr gs
  · exact mwK_123 gK gi gl gd gr gs
  · exact mwK_124 gK gi gl gd gr gs
  · exact mwK_125 gK gi gl gd gr gs
  · exact mwK_126 gK gi gl gd gr gs
  · exact mwK_127 gK gi gl gd gr gs
  · exact mwK_128 gK gi gl gd gr gs
  · exact mwK_129 gK gi gl gd gr gs
  · exact mwK_130 gK gi gl gd gr gs
  · exact mwK_131 gK gi gl gd gr gs
  · exact mwK_132 gK gi gl gd gr gs
  · exact mwK_133 gK gi gl gd gr gs
  · exact mwK_134 gK gi gl gd gr gs
  · exact mwK_135 gK gi gl gd gr gs
  · exact mwK_136 gK gi gl gd gr gs
  · exact mwK_137 gK gi gl gd gr gs
  · exact mwK_138 gK gi gl gd gr gs
  · exact mwK_139 gK gi gl gd gr gs
  · exact mwK_140 gK gi gl gd gr gs
  · exact mwK_141 gK gi gl gd gr gs
  · exact mwK_142 gK gi gl gd gr gs
  · exact mwK_143 gK gi gl gd gr gs
  · exact mwK_144 gK gi gl gd gr gs
  · exact mwK_145 gK gi gl gd gr gs
  · exact mwK_146 gK gi gl gd gr gs
  · exact mwK_147 gK gi gl gd gr gs
  · exact mwK_148 gK gi gl gd gr gs
  · exact mwK_149 gK gi gl gd gr gs
  · exact mwK_150 gK gi gl gd gr gs
theorem mw_cr (gK : Nat → Nat × Nat) (gi : Nat → Nat → Int32) (gl : Nat → Nat → Int64) (gd : Nat → Nat → UInt64) (gr : Nat → Nat → Option Nat) (gs : Nat) : ∀ a k b, (a, k, b) ∈ RLm → gR (mw86 gK gi gl gd gr gs) a k = some b := by
  intro a k b h
  unfold RLm at h
  simp only [List.mem_cons, Prod.mk.injEq, List.not_mem_nil, or_false] at h
  rcases h with ⟨rfl, rfl, rfl⟩ | ⟨rfl, rfl, rfl⟩ | ⟨rfl, rfl, rfl⟩ | ⟨rfl, rfl, rfl⟩ | ⟨rfl, rfl, rfl⟩ | ⟨rfl, rfl, rfl⟩ | ⟨rfl, rfl, rfl⟩ | ⟨rfl, rfl, rfl⟩ | ⟨rfl, rfl, rfl⟩ | ⟨rfl, rfl, rfl⟩ | ⟨rfl, rfl, rfl⟩ | ⟨rfl, rfl, rfl⟩ | ⟨rfl, rfl, rfl⟩ | ⟨rfl, rfl, rfl⟩ | ⟨rfl, rfl, rfl⟩ | ⟨rfl, rfl, rfl⟩ | ⟨rfl, rfl, rfl⟩ | ⟨rfl, rfl, rfl⟩ | ⟨rfl, rfl, rfl⟩ | ⟨rfl, rfl, rfl⟩ | ⟨rfl, rfl, rfl⟩ | ⟨rfl, rfl, rfl⟩ | ⟨rfl, rfl, rfl⟩ | ⟨rfl, rfl, rfl⟩ | ⟨rfl, rfl, rfl⟩ | ⟨rfl, rfl, rfl⟩ | ⟨rfl, rfl, rfl⟩ | ⟨rfl, rfl, rfl⟩ | ⟨rfl, rfl, rfl⟩ | ⟨rfl, rfl, rfl⟩ | ⟨rfl, rfl, rfl⟩ | ⟨rfl, rfl, rfl⟩ | ⟨rfl, rfl, rfl⟩ | ⟨rfl, rfl, rfl⟩ | ⟨rfl, rfl, rfl⟩ | ⟨rfl, rfl, rfl⟩ | ⟨rfl, rfl, rfl⟩ | ⟨rfl, rfl, rfl⟩ | ⟨rfl, rfl, rfl⟩ | ⟨rfl, rfl, rfl⟩ | ⟨rfl, rfl, rfl⟩ | ⟨rfl, rfl, rfl⟩
  · exact mwR_108_1 gK gi gl gd gr gs
  · exact mwR_108_2 gK gi gl gd gr gs
  · exact mwR_108_3 gK gi gl gd gr gs
  · exact mwR_108_4 gK gi gl gd gr gs
  · exact mwR_108_12 gK gi gl gd gr gs
  · exact mwR_108_13 gK gi gl gd gr gs
  · exact mwR_108_14 gK gi gl gd gr gs
  · exact mwR_108_15 gK gi gl gd gr gs
  · exact mwR_108_16 gK gi gl gd gr gs
  · exact mwR_108_17 gK gi gl gd gr gs
  · exact mwR_108_18 gK gi gl gd gr gs
  · exact mwR_108_19 gK gi gl gd gr gs
  · exact mwR_108_21 gK gi gl gd gr gs
  · exact mwR_108_22 gK gi gl gd gr gs
  · exact mwR_108_23 gK gi gl gd gr gs
  · exact mwR_108_24 gK gi gl gd gr gs
  · exact mwR_108_25 gK gi gl gd gr gs
  · exact mwR_108_26 gK gi gl gd gr gs
  · exact mwR_108_31 gK gi gl gd gr gs
  · exact mwR_108_32 gK gi gl gd gr gs
  · exact mwR_108_33 gK gi gl gd gr gs
  · exact mwR_108_34 gK gi gl gd gr gs
  · exact mwR_108_35 gK gi gl gd gr gs
  · exact mwR_108_37 gK gi gl gd gr gs
  · exact mwR_108_38 gK gi gl gd gr gs
  · exact mwR_108_39 gK gi gl gd gr gs
  · exact mwR_108_42 gK gi gl gd gr gs
  · exact mwR_108_43 gK gi gl gd gr gs
  · exact mwR_108_44 gK gi gl gd gr gs
  · exact mwR_108_45 gK gi gl gd gr gs
  · exact mwR_108_46 gK gi gl gd gr gs
  · exact mwR_108_53 gK gi gl gd gr gs
  · exact mwR_108_55 gK gi gl gd gr gs
  · exact mwR_108_56 gK gi gl gd gr gs
  · exact mwR_108_57 gK gi gl gd gr gs
  · exact mwR_108_59 gK gi gl gd gr gs
  · exact mwR_108_62 gK gi gl gd gr gs
  · exact mwR_108_63 gK gi gl gd gr gs
  · exact mwR_108_64 gK gi gl gd gr gs
  · exact mwR_108_65 gK gi gl gd gr gs
  · exact mwR_108_66 gK gi gl gd gr gs
  · exact mwR_108_67 gK gi gl gd gr gs
set_option maxRecDepth 20000 in
theorem mw_n (gK : Nat → Nat × Nat) (gi : Nat → Nat → Int32) (gl : Nat → Nat → Int64) (gd : Nat → Nat → UInt64) (gr : Nat → Nat → Option Nat) (gs : Nat) : gI (mw86 gK gi gl gd gr gs) 108 0 = nI 6 := rfl
set_option maxRecDepth 20000 in
theorem mw_t (gK : Nat → Nat × Nat) (gi : Nat → Nat → Int32) (gl : Nat → Nat → Int64) (gd : Nat → Nat → UInt64) (gr : Nat → Nat → Option Nat) (gs : Nat) : gI (mw86 gK gi gl gd gr gs) 108 5 = nI 0 := rfl
theorem mw_N (gK : Nat → Nat × Nat) (gi : Nat → Nat → Int32) (gl : Nat → Nat → Int64) (gd : Nat → Nat → UInt64) (gr : Nat → Nat → Option Nat) (gs : Nat) : wN (mw86 gK gi gl gd gr gs) = 151 := rfl
theorem mw_fix (gK : Nat → Nat × Nat) (gi : Nat → Nat → Int32) (gl : Nat → Nat → Int64) (gd : Nat → Nat → UInt64) (gr : Nat → Nat → Option Nat) (gs : Nat) (h : FixC ((gK, gi, gl, gd, gr, 108, gs) : Wd)) : Fix (mw86 gK gi gl gd gr gs) := by
  refine ⟨fun a h1 h2 h3 => ?_, fun a k b hr => ?_, fun j => ?_⟩
  · by_cases c : a < 108
    · exact ((mw_gw gK gi gl gd gr gs).2.1 a c).trans (h.1 a h1 c h3)
    · exact mw_cl gK gi gl gd gr gs a (by omega) h2
  · rcases rfx_mem hr with g | g
    · have ha := (cw_cr (L := 0) (xs := fun _ => 0) a k b g).1
      exact ((mw_gw gK gi gl gd gr gs).r ha rfl).trans (h.2.1 a k b ha hr)
    · exact mw_cr gK gi gl gd gr gs a k b g
  · exact ((mw_gw gK gi gl gd gr gs).i (show 1 < 108 by decide) rfl).trans (h.2.2 j)
theorem CA.gw {n s : Nat} {w v : Wd} {N : Nat} (h : CA w N) (hf : Gw [] n s w v) (hb : 108 ≤ wN w) : CA v N := by
  obtain ⟨a1, a2, ⟨a3, a4, a5⟩, a6, ⟨a7, b1, b2, b3, b4, b5⟩, ⟨c1, c2, c3⟩, c4⟩ := h
  have o : ∀ a k, a < 108 → gI v a k = gI w a k := fun a k hi => hf.i (by omega) rfl
  refine ⟨(o 64 4 (by decide)).trans a1, (hf.r (by omega) rfl).trans a2, ⟨(o 76 5 (by decide)).trans a3, (o 76 3 (by decide)).trans a4, (o 76 4 (by decide)).trans a5.1, fun i hi => (o 77 i (by decide)).trans (a5.2.1 i hi), fun r hr => (o 78 r (by decide)).trans (a5.2.2 r hr)⟩, (o 80 1 (by decide)).trans a6, ⟨fun b b1 b8 => ?_, (o 84 6 (by decide)).trans b1, (o 84 7 (by decide)).trans b2, (o 84 8 (by decide)).trans b3, (o 84 9 (by decide)).trans b4, (o 84 10 (by decide)).trans b5⟩, ⟨(o 91 4 (by decide)).trans c1, (o 91 5 (by decide)).trans c2, (o 91 6 (by decide)).trans c3⟩, fun B hB => (o 97 B (by decide)).trans (c4 B hB)⟩
  rw [o 85 b (by decide), o 86 b (by decide), o 87 b (by decide)]
  exact a7 b b1 b8
/-- the start: the law comes to its loop, with the invariant -/
theorem start_inv (L : Nat) (xs : Nat → Int32) : ∃ w3, val (0, 1000, 0, [some (.ref 0), none, none, none], [], W00 L xs) = val (0, 1000, 18, [some (.ref 0), some (.ref 64), some (.ref 108), some (.int (nI (6 * 0)))], [], w3) ∧ InvE w3 0 ∧ wK w3 0 = (30, L) := by
  obtain ⟨w1, e1, f1, h1⟩ := c_anewQ (N := 6) (by decide) (by decide) (cw_fix (L := L) (xs := xs)) cw_n 993
  have hF1 : FixC w1 := f1.fixC rfl cw_fix
  have hN1 : wN w1 = 108 := f1.1.2.1.trans cw_N
  have hS1 : wS w1 ≤ 25205 := Nat.le_trans (Nat.le_of_eq f1.1.2.2) cw_S
  have hK0 : wK w1 0 = (30, L) := by
    rw [f1.k]
    exact ((cw_gw L xs).2.1 0 (show 0 < 64 by decide)).trans rfl
  have hX1 : TX w1 := (W00_tx.gw64 (cw_gw L xs) (Nat.le_refl _) rfl).fr f1 rfl
  have hn1 : gI w1 64 0 = nI 6 := (f1.i 64 0 rfl).trans cw_n
  have ht1 : gI w1 64 2 = nI 0 := (f1.i 64 2 rfl).trans cw_t
  have hz1 : gI w1 70 0 = 0 := (f1.i 70 0 rfl).trans cw_z
  have E1 : val (1, 999, 0, [some (.ref 64)], [], cw1 L xs) = some (none, w1) := by
    refine (kl_1 L xs).trans ?_
    refine (val_call (d := 998) (pc2 := 108) rfl rfl rfl rfl (rcvO (cwK_64 L xs) (by decide)) (Nat.le_of_ble_eq_true rfl) (Nat.le_of_ble_eq_true rfl) rfl e1 rfl).trans ?_
    exact val_r rfl
  have E0 : val (0, 1000, 0, [some (.ref 0), none, none, none], [], W00 L xs) = val (0, 1000, 8, [some (.ref 0), some (.ref 64), none, none], [], w1) := by
    refine (kl_0 L xs).trans ?_
    refine (val_call (d := 999) (pc2 := 7) rfl rfl rfl rfl (rcvO (show wK (cw1 L xs) 64 = (9, 11) from rfl) (by decide)) (Nat.le_of_ble_eq_true rfl) (Nat.le_of_ble_eq_true rfl) rfl E1 rfl).trans ?_
    exact val_g (c2 := (0, 1000, 8, [some (.ref 0), some (.ref 64), none, none], [], w1)) rfl
  clear e1 E1
  obtain ⟨gK, gi, gl, gd, gr, n, gs⟩ := w1
  have hn : n = 108 := hN1
  subst hn
  have hFm := mw_fix gK gi gl gd gr gs hF1
  obtain ⟨w3, e3, f3, h3⟩ := m_anew 998 hFm
  have g := mw_gw gK gi gl gd gr gs
  have E2 : val (170, 999, 0, [some (.ref 108)], [], mw1 gK gi gl gd gr gs) = some (none, w3) := by
    refine (kl_170 gK gi gl gd gr gs).trans ?_
    refine (val_call (d := 998) (pc2 := 375) rfl rfl rfl rfl (rcvO (mwK_108 gK gi gl gd gr gs) (by decide)) (Nat.le_of_ble_eq_true rfl) (Nat.le_of_ble_eq_true rfl) rfl e3 rfl).trans ?_
    exact val_r rfl
  have hS3 : wS w3 ≤ 146816 := by
    have a1 := g.1.2.2
    have a2 : wS w3 = wS (mw86 gK gi gl gd gr gs) := f3.1.2.2
    have a3 : wS ((gK, gi, gl, gd, gr, 108, gs) : Wd) ≤ 25205 := hS1
    omega
  have hN3 : wN w3 = 151 := f3.1.2.1.trans (mw_N gK gi gl gd gr gs)
  have hX3 : TX w3 := (hX1.gw64 g (show 64 ≤ 108 by decide) rfl).fr f3 rfl
  have hF3 : Fix w3 := f3.fix rfl hFm
  have i64 : ∀ k, k ≠ 0 → True := fun _ _ => trivial
  have hn3 : gI w3 64 0 = nI 6 := (f3.i 64 0 rfl).trans ((g.i (show 64 < 108 by decide) rfl).trans hn1)
  have ht3 : gI w3 64 2 = nI 0 := (f3.i 64 2 rfl).trans ((g.i (show 64 < 108 by decide) rfl).trans ht1)
  have hz3 : gI w3 70 0 = 0 := (f3.i 70 0 rfl).trans ((g.i (show 70 < 108 by decide) rfl).trans hz1)
  have hm3 : gI w3 108 0 = nI 6 := (f3.i 108 0 rfl).trans (mw_n gK gi gl gd gr gs)
  have hu3 : gI w3 108 5 = nI 0 := (f3.i 108 5 rfl).trans (mw_t gK gi gl gd gr gs)
  have hCA : CA w3 6 := (h1.gw g (Nat.le_refl _)).fr f3 rfl
  obtain ⟨s1, s2, s3, s4, s5, s6, s7, s8, s9, s10, s11, s12⟩ := sec_anew (by decide) (by decide) hn3 hm3 hz3 hCA h3
  refine ⟨w3, E0.trans ?_, InvX.mk hF3 hX3 (by rw [hN3]; exact Nat.le_refl _) (by rw [hN3]; exact Nat.le_refl _) (by omega) s1 ⟨0, by omega, ht3, hu3, fun k hk => absurd hk (Nat.not_lt_zero k)⟩ s2 s3 s4 s5 s6 s7 s8 s9 s10 s11 (Or.inl s12), ?_⟩
  · refine (kl_8 gK gi gl gd gr gs).trans ?_
    refine (val_call (d := 999) (pc2 := 15) rfl rfl rfl rfl (rcvO (show wK (mw1 gK gi gl gd gr gs) 108 = (10, 68) from rfl) (by decide)) (Nat.le_of_ble_eq_true rfl) (Nat.le_of_ble_eq_true rfl) rfl E2 rfl).trans ?_
    refine (val_g (c2 := (0, 1000, 16, [some (.ref 0), some (.ref 64), some (.ref 108), none], [], w3)) rfl).trans ?_
    refine (val_g (c2 := (0, 1000, 17, [some (.ref 0), some (.ref 64), some (.ref 108), none], [.int 0], w3)) rfl).trans ?_
    exact val_g (c2 := (0, 1000, 18, [some (.ref 0), some (.ref 64), some (.ref 108), some (.int 0)], [], w3)) rfl
  · rw [f3.k]
    exact (g.2.1 0 (show 0 < 108 by decide)).trans hK0
theorem runs : Runs := by
  intro L xs hL
  obtain ⟨w3, e1, e2, e3⟩ := start_inv L xs
  obtain ⟨w4, g1, g2, g3⟩ := loop_all hL (L / 6) 0 w3 (by omega) e2 e3
  exact ⟨w4, e1.trans g1, g2, g3⟩
end START
