/-! THE CONSTRUCTORS: the class's, up to beginAnew; printed by program (wip/gen/p_h4.py) -/
theorem Gw.nwm {S : List (Nat × Option Nat)} {n s : Nat} {u v : Wd} (h : Gw S n s u v) (j k : Nat) : Gw S (n + (1 + j)) (s + (j + j * k)) u (nwm v j k) := by
  obtain ⟨⟨a1, a2, a3⟩, a4, a5⟩ := h
  refine ⟨⟨?_, ?_, ?_⟩, fun a ha => ?_, fun a q ha hs => (a5 a q ha hs).trans ?_⟩
  · show wN u ≤ wN v + 1 + j; omega
  · show wN v + 1 + j ≤ _; omega
  · show wS v + j + j * k ≤ _; omega
  · exact (if_pos (show a < wN v by omega)).trans (a4 a ha)
  · have e : a < wN v := by omega
    refine ⟨?_, ?_, ?_, ?_⟩
    · show (if a < wN v then gI v a else _) q = _
      rw [if_pos e]
    · show (if a < wN v then gL v a else _) q = _
      rw [if_pos e]
    · show (if a < wN v then gD v a else _) q = _
      rw [if_pos e]
    · show (if a < wN v then gR v a else _) q = _
      rw [if_pos e]
theorem Gw.sLn {S : List (Nat × Option Nat)} {n s : Nat} {u v : Wd} (h : Gw S n s u v) {a : Nat} (k : Nat) (x : Int64) (ha : wN u ≤ a) : Gw S n s u (sL v a k x) := by
  obtain ⟨a1, a4, a5⟩ := h
  exact ⟨a1, a4, fun b j hb hs => (a5 b j hb hs).trans ⟨rfl, gL_ne _ _ _ _ (by omega), rfl, rfl⟩⟩
def cw0 (L : Nat) (xs : Nat → Int32) : Wd := W00 L xs
def cw1 (L : Nat) (xs : Nat → Int32) : Wd := nw (cw0 L xs) 9 11
def cw2 (L : Nat) (xs : Nat → Int32) : Wd := sI (cw1 L xs) 64 0 6
def cw3 (L : Nat) (xs : Nat → Int32) : Wd := nw (cw2 L xs) 21 600
def cw4 (L : Nat) (xs : Nat → Int32) : Wd := sR (cw3 L xs) 64 1 (some 65)
def cw5 (L : Nat) (xs : Nat → Int32) : Wd := sI (cw4 L xs) 64 2 0
def cw6 (L : Nat) (xs : Nat → Int32) : Wd := nw (cw5 L xs) 25 8
def cw7 (L : Nat) (xs : Nat → Int32) : Wd := sR (cw6 L xs) 64 3 (some 66)
def cw8 (L : Nat) (xs : Nat → Int32) : Wd := sI (cw7 L xs) 64 4 0
def cw9 (L : Nat) (xs : Nat → Int32) : Wd := nw (cw8 L xs) 7 13
def cw10 (L : Nat) (xs : Nat → Int32) : Wd := sR (cw9 L xs) 67 0 none
def cw11 (L : Nat) (xs : Nat → Int32) : Wd := nw (cw10 L xs) 20 2001
def cw12 (L : Nat) (xs : Nat → Int32) : Wd := sR (cw11 L xs) 67 1 (some 68)
def cw13 (L : Nat) (xs : Nat → Int32) : Wd := nw (cw12 L xs) 21 2000
def cw14 (L : Nat) (xs : Nat → Int32) : Wd := sR (cw13 L xs) 67 2 (some 69)
def cw15 (L : Nat) (xs : Nat → Int32) : Wd := nw (cw14 L xs) 21 2001
def cw16 (L : Nat) (xs : Nat → Int32) : Wd := sR (cw15 L xs) 67 3 (some 70)
def cw17 (L : Nat) (xs : Nat → Int32) : Wd := nw (cw16 L xs) 20 2001
def cw18 (L : Nat) (xs : Nat → Int32) : Wd := sR (cw17 L xs) 67 4 (some 71)
def cw19 (L : Nat) (xs : Nat → Int32) : Wd := nw (cw18 L xs) 20 2001
def cw20 (L : Nat) (xs : Nat → Int32) : Wd := sR (cw19 L xs) 67 5 (some 72)
def cw21 (L : Nat) (xs : Nat → Int32) : Wd := nw (cw20 L xs) 20 10
def cw22 (L : Nat) (xs : Nat → Int32) : Wd := sR (cw21 L xs) 67 6 (some 73)
def cw23 (L : Nat) (xs : Nat → Int32) : Wd := nw (cw22 L xs) 20 1024
def cw24 (L : Nat) (xs : Nat → Int32) : Wd := sR (cw23 L xs) 67 7 (some 74)
def cw25 (L : Nat) (xs : Nat → Int32) : Wd := nw (cw24 L xs) 20 2001
def cw26 (L : Nat) (xs : Nat → Int32) : Wd := sR (cw25 L xs) 67 8 (some 75)
def cw27 (L : Nat) (xs : Nat → Int32) : Wd := sI (cw26 L xs) 67 9 0
def cw28 (L : Nat) (xs : Nat → Int32) : Wd := sI (cw27 L xs) 67 10 0
def cw29 (L : Nat) (xs : Nat → Int32) : Wd := sI (cw28 L xs) 67 11 (-9)
def cw30 (L : Nat) (xs : Nat → Int32) : Wd := sI (cw29 L xs) 67 12 0
def cw31 (L : Nat) (xs : Nat → Int32) : Wd := sR (cw30 L xs) 64 5 (some 67)
def cw32 (L : Nat) (xs : Nat → Int32) : Wd := nw (cw31 L xs) 1 6
def cw33 (L : Nat) (xs : Nat → Int32) : Wd := nw (cw32 L xs) 20 720
def cw34 (L : Nat) (xs : Nat → Int32) : Wd := sR (cw33 L xs) 76 0 (some 77)
def cw35 (L : Nat) (xs : Nat → Int32) : Wd := nw (cw34 L xs) 22 720
def cw36 (L : Nat) (xs : Nat → Int32) : Wd := sR (cw35 L xs) 76 1 (some 78)
def cw37 (L : Nat) (xs : Nat → Int32) : Wd := nw (cw36 L xs) 20 6
def cw38 (L : Nat) (xs : Nat → Int32) : Wd := sR (cw37 L xs) 76 2 (some 79)
def cw39 (L : Nat) (xs : Nat → Int32) : Wd := sI (cw38 L xs) 76 3 0
def cw40 (L : Nat) (xs : Nat → Int32) : Wd := sI (cw39 L xs) 76 4 0
def cw41 (L : Nat) (xs : Nat → Int32) : Wd := sI (cw40 L xs) 76 5 0
def cw42 (L : Nat) (xs : Nat → Int32) : Wd := sR (cw41 L xs) 64 6 (some 76)
def cw43 (L : Nat) (xs : Nat → Int32) : Wd := nw (cw42 L xs) 2 4
def cw44 (L : Nat) (xs : Nat → Int32) : Wd := nw (cw43 L xs) 20 3600
def cw45 (L : Nat) (xs : Nat → Int32) : Wd := sR (cw44 L xs) 80 0 (some 81)
def cw46 (L : Nat) (xs : Nat → Int32) : Wd := sI (cw45 L xs) 80 1 0
def cw47 (L : Nat) (xs : Nat → Int32) : Wd := nw (cw46 L xs) 23 630
def cw48 (L : Nat) (xs : Nat → Int32) : Wd := sR (cw47 L xs) 80 2 (some 82)
def cw49 (L : Nat) (xs : Nat → Int32) : Wd := nw (cw48 L xs) 20 60
def cw50 (L : Nat) (xs : Nat → Int32) : Wd := sR (cw49 L xs) 80 3 (some 83)
def cw51 (L : Nat) (xs : Nat → Int32) : Wd := sR (cw50 L xs) 64 7 (some 80)
def cw52 (L : Nat) (xs : Nat → Int32) : Wd := nw (cw51 L xs) 0 11
def cw53 (L : Nat) (xs : Nat → Int32) : Wd := nw (cw52 L xs) 20 9
def cw54 (L : Nat) (xs : Nat → Int32) : Wd := sR (cw53 L xs) 84 0 (some 85)
def cw55 (L : Nat) (xs : Nat → Int32) : Wd := nw (cw54 L xs) 20 9
def cw56 (L : Nat) (xs : Nat → Int32) : Wd := sR (cw55 L xs) 84 1 (some 86)
def cw57 (L : Nat) (xs : Nat → Int32) : Wd := nw (cw56 L xs) 20 9
def cw58 (L : Nat) (xs : Nat → Int32) : Wd := sR (cw57 L xs) 84 2 (some 87)
def cw59 (L : Nat) (xs : Nat → Int32) : Wd := nw (cw58 L xs) 20 400
def cw60 (L : Nat) (xs : Nat → Int32) : Wd := sR (cw59 L xs) 84 3 (some 88)
def cw61 (L : Nat) (xs : Nat → Int32) : Wd := nw (cw60 L xs) 20 400
def cw62 (L : Nat) (xs : Nat → Int32) : Wd := sR (cw61 L xs) 84 4 (some 89)
def cw63 (L : Nat) (xs : Nat → Int32) : Wd := nw (cw62 L xs) 20 3200
def cw64 (L : Nat) (xs : Nat → Int32) : Wd := sR (cw63 L xs) 84 5 (some 90)
def cw65 (L : Nat) (xs : Nat → Int32) : Wd := sI (cw64 L xs) 84 6 0
def cw66 (L : Nat) (xs : Nat → Int32) : Wd := sI (cw65 L xs) 84 7 0
def cw67 (L : Nat) (xs : Nat → Int32) : Wd := sI (cw66 L xs) 84 8 0
def cw68 (L : Nat) (xs : Nat → Int32) : Wd := sI (cw67 L xs) 84 9 0
def cw69 (L : Nat) (xs : Nat → Int32) : Wd := sI (cw68 L xs) 84 10 (-9)
def cw70 (L : Nat) (xs : Nat → Int32) : Wd := sR (cw69 L xs) 64 8 (some 84)
def cw71 (L : Nat) (xs : Nat → Int32) : Wd := nw (cw70 L xs) 5 11
def cw72 (L : Nat) (xs : Nat → Int32) : Wd := nw (cw71 L xs) 20 300
def cw73 (L : Nat) (xs : Nat → Int32) : Wd := sR (cw72 L xs) 91 0 (some 92)
def cw74 (L : Nat) (xs : Nat → Int32) : Wd := nw (cw73 L xs) 23 300
def cw75 (L : Nat) (xs : Nat → Int32) : Wd := sR (cw74 L xs) 91 1 (some 93)
def cw76 (L : Nat) (xs : Nat → Int32) : Wd := nw (cw75 L xs) 20 300
def cw77 (L : Nat) (xs : Nat → Int32) : Wd := sR (cw76 L xs) 91 2 (some 94)
def cw78 (L : Nat) (xs : Nat → Int32) : Wd := nw (cw77 L xs) 23 300
def cw79 (L : Nat) (xs : Nat → Int32) : Wd := sR (cw78 L xs) 91 3 (some 95)
def cw80 (L : Nat) (xs : Nat → Int32) : Wd := sI (cw79 L xs) 91 4 0
def cw81 (L : Nat) (xs : Nat → Int32) : Wd := sI (cw80 L xs) 91 5 0
def cw82 (L : Nat) (xs : Nat → Int32) : Wd := sI (cw81 L xs) 91 6 0
def cw83 (L : Nat) (xs : Nat → Int32) : Wd := sL (cw82 L xs) 91 7 0
def cw84 (L : Nat) (xs : Nat → Int32) : Wd := sL (cw83 L xs) 91 8 0
def cw85 (L : Nat) (xs : Nat → Int32) : Wd := sL (cw84 L xs) 91 9 0
def cw86 (L : Nat) (xs : Nat → Int32) : Wd := sL (cw85 L xs) 91 10 0
def cw87 (L : Nat) (xs : Nat → Int32) : Wd := sR (cw86 L xs) 64 9 (some 91)
def cw88 (L : Nat) (xs : Nat → Int32) : Wd := nw (cw87 L xs) 8 3
def cw89 (L : Nat) (xs : Nat → Int32) : Wd := nw (cw88 L xs) 20 8
def cw90 (L : Nat) (xs : Nat → Int32) : Wd := sR (cw89 L xs) 96 0 (some 97)
def cw91 (L : Nat) (xs : Nat → Int32) : Wd := nw (cw90 L xs) 20 8
def cw92 (L : Nat) (xs : Nat → Int32) : Wd := sR (cw91 L xs) 96 1 (some 98)
def cw93 (L : Nat) (xs : Nat → Int32) : Wd := nwm (cw92 L xs) 8 64
def cw94 (L : Nat) (xs : Nat → Int32) : Wd := sR (cw93 L xs) 96 2 (some 99)
def cw95 (L : Nat) (xs : Nat → Int32) : Wd := sR (cw94 L xs) 64 10 (some 96)
theorem kl_0 (L : Nat) (xs : Nat → Int32) : val (0, 1000, 0, [some (.ref 0), none, none, none], [], (cw0 L xs)) = val (0, 1000, 4, [some (.ref 0), none, none, none], [.ref 64, .ref 64], (cw1 L xs)) := by
  refine (val_g (c2 := (0, 1000, 3, [some (.ref 0), none, none, none], [.ref 64], (cw1 L xs))) rfl).trans ?_
  refine (val_g (c2 := (0, 1000, 4, [some (.ref 0), none, none, none], [.ref 64, .ref 64], (cw1 L xs))) rfl).trans ?_
  rfl
theorem kcw_151_67 (L : Nat) (xs : Nat → Int32) : val (151, 998, 0, [some (.ref 67)], [], (cw9 L xs)) = some (none, (cw30 L xs)) := by
  refine (val_g (c2 := (151, 998, 1, [some (.ref 67)], [.ref 67], (cw9 L xs))) rfl).trans ?_
  refine (val_g (c2 := (151, 998, 4, [some (.ref 67)], [], (cw9 L xs))) rfl).trans ?_
  refine (val_g (c2 := (151, 998, 5, [some (.ref 67)], [.ref 67], (cw9 L xs))) rfl).trans ?_
  refine (val_g (c2 := (151, 998, 6, [some (.ref 67)], [.null, .ref 67], (cw9 L xs))) rfl).trans ?_
  refine (val_pf (w2 := (cw10 L xs)) rfl (show wK (cw9 L xs) 67 = (7, 13) from rfl) rfl).trans ?_
  refine (val_g (c2 := (151, 998, 10, [some (.ref 67)], [.ref 67], (cw10 L xs))) rfl).trans ?_
  refine (val_g (c2 := (151, 998, 13, [some (.ref 67)], [.int 2001, .ref 67], (cw10 L xs))) rfl).trans ?_
  refine (val_g (c2 := (151, 998, 15, [some (.ref 67)], [.ref 68, .ref 67], (cw11 L xs))) rfl).trans ?_
  refine (val_pf (w2 := (cw12 L xs)) rfl (show wK (cw11 L xs) 67 = (7, 13) from rfl) rfl).trans ?_
  refine (val_g (c2 := (151, 998, 19, [some (.ref 67)], [.ref 67], (cw12 L xs))) rfl).trans ?_
  refine (val_g (c2 := (151, 998, 22, [some (.ref 67)], [.int 2000, .ref 67], (cw12 L xs))) rfl).trans ?_
  refine (val_g (c2 := (151, 998, 24, [some (.ref 67)], [.ref 69, .ref 67], (cw13 L xs))) rfl).trans ?_
  refine (val_pf (w2 := (cw14 L xs)) rfl (show wK (cw13 L xs) 67 = (7, 13) from rfl) rfl).trans ?_
  refine (val_g (c2 := (151, 998, 28, [some (.ref 67)], [.ref 67], (cw14 L xs))) rfl).trans ?_
  refine (val_g (c2 := (151, 998, 31, [some (.ref 67)], [.int 2001, .ref 67], (cw14 L xs))) rfl).trans ?_
  refine (val_g (c2 := (151, 998, 33, [some (.ref 67)], [.ref 70, .ref 67], (cw15 L xs))) rfl).trans ?_
  refine (val_pf (w2 := (cw16 L xs)) rfl (show wK (cw15 L xs) 67 = (7, 13) from rfl) rfl).trans ?_
  refine (val_g (c2 := (151, 998, 37, [some (.ref 67)], [.ref 67], (cw16 L xs))) rfl).trans ?_
  refine (val_g (c2 := (151, 998, 40, [some (.ref 67)], [.int 2001, .ref 67], (cw16 L xs))) rfl).trans ?_
  refine (val_g (c2 := (151, 998, 42, [some (.ref 67)], [.ref 71, .ref 67], (cw17 L xs))) rfl).trans ?_
  refine (val_pf (w2 := (cw18 L xs)) rfl (show wK (cw17 L xs) 67 = (7, 13) from rfl) rfl).trans ?_
  refine (val_g (c2 := (151, 998, 46, [some (.ref 67)], [.ref 67], (cw18 L xs))) rfl).trans ?_
  refine (val_g (c2 := (151, 998, 49, [some (.ref 67)], [.int 2001, .ref 67], (cw18 L xs))) rfl).trans ?_
  refine (val_g (c2 := (151, 998, 51, [some (.ref 67)], [.ref 72, .ref 67], (cw19 L xs))) rfl).trans ?_
  refine (val_pf (w2 := (cw20 L xs)) rfl (show wK (cw19 L xs) 67 = (7, 13) from rfl) rfl).trans ?_
  refine (val_g (c2 := (151, 998, 55, [some (.ref 67)], [.ref 67], (cw20 L xs))) rfl).trans ?_
  refine (val_g (c2 := (151, 998, 57, [some (.ref 67)], [.int 10, .ref 67], (cw20 L xs))) rfl).trans ?_
  refine (val_g (c2 := (151, 998, 59, [some (.ref 67)], [.ref 73, .ref 67], (cw21 L xs))) rfl).trans ?_
  refine (val_pf (w2 := (cw22 L xs)) rfl (show wK (cw21 L xs) 67 = (7, 13) from rfl) rfl).trans ?_
  refine (val_g (c2 := (151, 998, 63, [some (.ref 67)], [.ref 67], (cw22 L xs))) rfl).trans ?_
  refine (val_g (c2 := (151, 998, 66, [some (.ref 67)], [.int 1024, .ref 67], (cw22 L xs))) rfl).trans ?_
  refine (val_g (c2 := (151, 998, 68, [some (.ref 67)], [.ref 74, .ref 67], (cw23 L xs))) rfl).trans ?_
  refine (val_pf (w2 := (cw24 L xs)) rfl (show wK (cw23 L xs) 67 = (7, 13) from rfl) rfl).trans ?_
  refine (val_g (c2 := (151, 998, 72, [some (.ref 67)], [.ref 67], (cw24 L xs))) rfl).trans ?_
  refine (val_g (c2 := (151, 998, 75, [some (.ref 67)], [.int 2001, .ref 67], (cw24 L xs))) rfl).trans ?_
  refine (val_g (c2 := (151, 998, 77, [some (.ref 67)], [.ref 75, .ref 67], (cw25 L xs))) rfl).trans ?_
  refine (val_pf (w2 := (cw26 L xs)) rfl (show wK (cw25 L xs) 67 = (7, 13) from rfl) rfl).trans ?_
  refine (val_g (c2 := (151, 998, 81, [some (.ref 67)], [.ref 67], (cw26 L xs))) rfl).trans ?_
  refine (val_g (c2 := (151, 998, 82, [some (.ref 67)], [.int 0, .ref 67], (cw26 L xs))) rfl).trans ?_
  refine (val_pf (w2 := (cw27 L xs)) rfl (show wK (cw26 L xs) 67 = (7, 13) from rfl) rfl).trans ?_
  refine (val_g (c2 := (151, 998, 86, [some (.ref 67)], [.ref 67], (cw27 L xs))) rfl).trans ?_
  refine (val_g (c2 := (151, 998, 87, [some (.ref 67)], [.int 0, .ref 67], (cw27 L xs))) rfl).trans ?_
  refine (val_pf (w2 := (cw28 L xs)) rfl (show wK (cw27 L xs) 67 = (7, 13) from rfl) rfl).trans ?_
  refine (val_g (c2 := (151, 998, 91, [some (.ref 67)], [.ref 67], (cw28 L xs))) rfl).trans ?_
  refine (val_g (c2 := (151, 998, 93, [some (.ref 67)], [.int (-9), .ref 67], (cw28 L xs))) rfl).trans ?_
  refine (val_pf (w2 := (cw29 L xs)) rfl (show wK (cw28 L xs) 67 = (7, 13) from rfl) rfl).trans ?_
  refine (val_g (c2 := (151, 998, 97, [some (.ref 67)], [.ref 67], (cw29 L xs))) rfl).trans ?_
  refine (val_g (c2 := (151, 998, 98, [some (.ref 67)], [.int 0, .ref 67], (cw29 L xs))) rfl).trans ?_
  refine (val_pf (w2 := (cw30 L xs)) rfl (show wK (cw29 L xs) 67 = (7, 13) from rfl) rfl).trans ?_
  exact val_r rfl
theorem kcw_59_76 (L : Nat) (xs : Nat → Int32) : val (59, 998, 0, [some (.ref 76)], [], (cw32 L xs)) = some (none, (cw41 L xs)) := by
  refine (val_g (c2 := (59, 998, 1, [some (.ref 76)], [.ref 76], (cw32 L xs))) rfl).trans ?_
  refine (val_g (c2 := (59, 998, 4, [some (.ref 76)], [], (cw32 L xs))) rfl).trans ?_
  refine (val_g (c2 := (59, 998, 5, [some (.ref 76)], [.ref 76], (cw32 L xs))) rfl).trans ?_
  refine (val_g (c2 := (59, 998, 8, [some (.ref 76)], [.int 720, .ref 76], (cw32 L xs))) rfl).trans ?_
  refine (val_g (c2 := (59, 998, 10, [some (.ref 76)], [.ref 77, .ref 76], (cw33 L xs))) rfl).trans ?_
  refine (val_pf (w2 := (cw34 L xs)) rfl (show wK (cw33 L xs) 76 = (1, 6) from rfl) rfl).trans ?_
  refine (val_g (c2 := (59, 998, 14, [some (.ref 76)], [.ref 76], (cw34 L xs))) rfl).trans ?_
  refine (val_g (c2 := (59, 998, 17, [some (.ref 76)], [.int 720, .ref 76], (cw34 L xs))) rfl).trans ?_
  refine (val_g (c2 := (59, 998, 19, [some (.ref 76)], [.ref 78, .ref 76], (cw35 L xs))) rfl).trans ?_
  refine (val_pf (w2 := (cw36 L xs)) rfl (show wK (cw35 L xs) 76 = (1, 6) from rfl) rfl).trans ?_
  refine (val_g (c2 := (59, 998, 23, [some (.ref 76)], [.ref 76], (cw36 L xs))) rfl).trans ?_
  refine (val_g (c2 := (59, 998, 25, [some (.ref 76)], [.int 6, .ref 76], (cw36 L xs))) rfl).trans ?_
  refine (val_g (c2 := (59, 998, 27, [some (.ref 76)], [.ref 79, .ref 76], (cw37 L xs))) rfl).trans ?_
  refine (val_pf (w2 := (cw38 L xs)) rfl (show wK (cw37 L xs) 76 = (1, 6) from rfl) rfl).trans ?_
  refine (val_g (c2 := (59, 998, 31, [some (.ref 76)], [.ref 76], (cw38 L xs))) rfl).trans ?_
  refine (val_g (c2 := (59, 998, 32, [some (.ref 76)], [.int 0, .ref 76], (cw38 L xs))) rfl).trans ?_
  refine (val_pf (w2 := (cw39 L xs)) rfl (show wK (cw38 L xs) 76 = (1, 6) from rfl) rfl).trans ?_
  refine (val_g (c2 := (59, 998, 36, [some (.ref 76)], [.ref 76], (cw39 L xs))) rfl).trans ?_
  refine (val_g (c2 := (59, 998, 37, [some (.ref 76)], [.int 0, .ref 76], (cw39 L xs))) rfl).trans ?_
  refine (val_pf (w2 := (cw40 L xs)) rfl (show wK (cw39 L xs) 76 = (1, 6) from rfl) rfl).trans ?_
  refine (val_g (c2 := (59, 998, 41, [some (.ref 76)], [.ref 76], (cw40 L xs))) rfl).trans ?_
  refine (val_g (c2 := (59, 998, 42, [some (.ref 76)], [.int 0, .ref 76], (cw40 L xs))) rfl).trans ?_
  refine (val_pf (w2 := (cw41 L xs)) rfl (show wK (cw40 L xs) 76 = (1, 6) from rfl) rfl).trans ?_
  exact val_r rfl
theorem kcw_66_80 (L : Nat) (xs : Nat → Int32) : val (66, 998, 0, [some (.ref 80)], [], (cw43 L xs)) = some (none, (cw50 L xs)) := by
  refine (val_g (c2 := (66, 998, 1, [some (.ref 80)], [.ref 80], (cw43 L xs))) rfl).trans ?_
  refine (val_g (c2 := (66, 998, 4, [some (.ref 80)], [], (cw43 L xs))) rfl).trans ?_
  refine (val_g (c2 := (66, 998, 5, [some (.ref 80)], [.ref 80], (cw43 L xs))) rfl).trans ?_
  refine (val_g (c2 := (66, 998, 8, [some (.ref 80)], [.int 3600, .ref 80], (cw43 L xs))) rfl).trans ?_
  refine (val_g (c2 := (66, 998, 10, [some (.ref 80)], [.ref 81, .ref 80], (cw44 L xs))) rfl).trans ?_
  refine (val_pf (w2 := (cw45 L xs)) rfl (show wK (cw44 L xs) 80 = (2, 4) from rfl) rfl).trans ?_
  refine (val_g (c2 := (66, 998, 14, [some (.ref 80)], [.ref 80], (cw45 L xs))) rfl).trans ?_
  refine (val_g (c2 := (66, 998, 15, [some (.ref 80)], [.int 0, .ref 80], (cw45 L xs))) rfl).trans ?_
  refine (val_pf (w2 := (cw46 L xs)) rfl (show wK (cw45 L xs) 80 = (2, 4) from rfl) rfl).trans ?_
  refine (val_g (c2 := (66, 998, 19, [some (.ref 80)], [.ref 80], (cw46 L xs))) rfl).trans ?_
  refine (val_g (c2 := (66, 998, 22, [some (.ref 80)], [.int 630, .ref 80], (cw46 L xs))) rfl).trans ?_
  refine (val_g (c2 := (66, 998, 24, [some (.ref 80)], [.ref 82, .ref 80], (cw47 L xs))) rfl).trans ?_
  refine (val_pf (w2 := (cw48 L xs)) rfl (show wK (cw47 L xs) 80 = (2, 4) from rfl) rfl).trans ?_
  refine (val_g (c2 := (66, 998, 28, [some (.ref 80)], [.ref 80], (cw48 L xs))) rfl).trans ?_
  refine (val_g (c2 := (66, 998, 30, [some (.ref 80)], [.int 60, .ref 80], (cw48 L xs))) rfl).trans ?_
  refine (val_g (c2 := (66, 998, 32, [some (.ref 80)], [.ref 83, .ref 80], (cw49 L xs))) rfl).trans ?_
  refine (val_pf (w2 := (cw50 L xs)) rfl (show wK (cw49 L xs) 80 = (2, 4) from rfl) rfl).trans ?_
  exact val_r rfl
theorem kcw_48_84 (L : Nat) (xs : Nat → Int32) : val (48, 998, 0, [some (.ref 84)], [], (cw52 L xs)) = some (none, (cw69 L xs)) := by
  refine (val_g (c2 := (48, 998, 1, [some (.ref 84)], [.ref 84], (cw52 L xs))) rfl).trans ?_
  refine (val_g (c2 := (48, 998, 4, [some (.ref 84)], [], (cw52 L xs))) rfl).trans ?_
  refine (val_g (c2 := (48, 998, 5, [some (.ref 84)], [.ref 84], (cw52 L xs))) rfl).trans ?_
  refine (val_g (c2 := (48, 998, 7, [some (.ref 84)], [.int 9, .ref 84], (cw52 L xs))) rfl).trans ?_
  refine (val_g (c2 := (48, 998, 9, [some (.ref 84)], [.ref 85, .ref 84], (cw53 L xs))) rfl).trans ?_
  refine (val_pf (w2 := (cw54 L xs)) rfl (show wK (cw53 L xs) 84 = (0, 11) from rfl) rfl).trans ?_
  refine (val_g (c2 := (48, 998, 13, [some (.ref 84)], [.ref 84], (cw54 L xs))) rfl).trans ?_
  refine (val_g (c2 := (48, 998, 15, [some (.ref 84)], [.int 9, .ref 84], (cw54 L xs))) rfl).trans ?_
  refine (val_g (c2 := (48, 998, 17, [some (.ref 84)], [.ref 86, .ref 84], (cw55 L xs))) rfl).trans ?_
  refine (val_pf (w2 := (cw56 L xs)) rfl (show wK (cw55 L xs) 84 = (0, 11) from rfl) rfl).trans ?_
  refine (val_g (c2 := (48, 998, 21, [some (.ref 84)], [.ref 84], (cw56 L xs))) rfl).trans ?_
  refine (val_g (c2 := (48, 998, 23, [some (.ref 84)], [.int 9, .ref 84], (cw56 L xs))) rfl).trans ?_
  refine (val_g (c2 := (48, 998, 25, [some (.ref 84)], [.ref 87, .ref 84], (cw57 L xs))) rfl).trans ?_
  refine (val_pf (w2 := (cw58 L xs)) rfl (show wK (cw57 L xs) 84 = (0, 11) from rfl) rfl).trans ?_
  refine (val_g (c2 := (48, 998, 29, [some (.ref 84)], [.ref 84], (cw58 L xs))) rfl).trans ?_
  refine (val_g (c2 := (48, 998, 32, [some (.ref 84)], [.int 400, .ref 84], (cw58 L xs))) rfl).trans ?_
  refine (val_g (c2 := (48, 998, 34, [some (.ref 84)], [.ref 88, .ref 84], (cw59 L xs))) rfl).trans ?_
  refine (val_pf (w2 := (cw60 L xs)) rfl (show wK (cw59 L xs) 84 = (0, 11) from rfl) rfl).trans ?_
  refine (val_g (c2 := (48, 998, 38, [some (.ref 84)], [.ref 84], (cw60 L xs))) rfl).trans ?_
  refine (val_g (c2 := (48, 998, 41, [some (.ref 84)], [.int 400, .ref 84], (cw60 L xs))) rfl).trans ?_
  refine (val_g (c2 := (48, 998, 43, [some (.ref 84)], [.ref 89, .ref 84], (cw61 L xs))) rfl).trans ?_
  refine (val_pf (w2 := (cw62 L xs)) rfl (show wK (cw61 L xs) 84 = (0, 11) from rfl) rfl).trans ?_
  refine (val_g (c2 := (48, 998, 47, [some (.ref 84)], [.ref 84], (cw62 L xs))) rfl).trans ?_
  refine (val_g (c2 := (48, 998, 50, [some (.ref 84)], [.int 3200, .ref 84], (cw62 L xs))) rfl).trans ?_
  refine (val_g (c2 := (48, 998, 52, [some (.ref 84)], [.ref 90, .ref 84], (cw63 L xs))) rfl).trans ?_
  refine (val_pf (w2 := (cw64 L xs)) rfl (show wK (cw63 L xs) 84 = (0, 11) from rfl) rfl).trans ?_
  refine (val_g (c2 := (48, 998, 56, [some (.ref 84)], [.ref 84], (cw64 L xs))) rfl).trans ?_
  refine (val_g (c2 := (48, 998, 57, [some (.ref 84)], [.int 0, .ref 84], (cw64 L xs))) rfl).trans ?_
  refine (val_pf (w2 := (cw65 L xs)) rfl (show wK (cw64 L xs) 84 = (0, 11) from rfl) rfl).trans ?_
  refine (val_g (c2 := (48, 998, 61, [some (.ref 84)], [.ref 84], (cw65 L xs))) rfl).trans ?_
  refine (val_g (c2 := (48, 998, 62, [some (.ref 84)], [.int 0, .ref 84], (cw65 L xs))) rfl).trans ?_
  refine (val_pf (w2 := (cw66 L xs)) rfl (show wK (cw65 L xs) 84 = (0, 11) from rfl) rfl).trans ?_
  refine (val_g (c2 := (48, 998, 66, [some (.ref 84)], [.ref 84], (cw66 L xs))) rfl).trans ?_
  refine (val_g (c2 := (48, 998, 67, [some (.ref 84)], [.int 0, .ref 84], (cw66 L xs))) rfl).trans ?_
  refine (val_pf (w2 := (cw67 L xs)) rfl (show wK (cw66 L xs) 84 = (0, 11) from rfl) rfl).trans ?_
  refine (val_g (c2 := (48, 998, 71, [some (.ref 84)], [.ref 84], (cw67 L xs))) rfl).trans ?_
  refine (val_g (c2 := (48, 998, 72, [some (.ref 84)], [.int 0, .ref 84], (cw67 L xs))) rfl).trans ?_
  refine (val_pf (w2 := (cw68 L xs)) rfl (show wK (cw67 L xs) 84 = (0, 11) from rfl) rfl).trans ?_
  refine (val_g (c2 := (48, 998, 76, [some (.ref 84)], [.ref 84], (cw68 L xs))) rfl).trans ?_
  refine (val_g (c2 := (48, 998, 78, [some (.ref 84)], [.int (-9), .ref 84], (cw68 L xs))) rfl).trans ?_
  refine (val_pf (w2 := (cw69 L xs)) rfl (show wK (cw68 L xs) 84 = (0, 11) from rfl) rfl).trans ?_
  exact val_r rfl
theorem kcw_120_91 (L : Nat) (xs : Nat → Int32) : val (120, 998, 0, [some (.ref 91)], [], (cw71 L xs)) = some (none, (cw86 L xs)) := by
  refine (val_g (c2 := (120, 998, 1, [some (.ref 91)], [.ref 91], (cw71 L xs))) rfl).trans ?_
  refine (val_g (c2 := (120, 998, 4, [some (.ref 91)], [], (cw71 L xs))) rfl).trans ?_
  refine (val_g (c2 := (120, 998, 5, [some (.ref 91)], [.ref 91], (cw71 L xs))) rfl).trans ?_
  refine (val_g (c2 := (120, 998, 8, [some (.ref 91)], [.int 300, .ref 91], (cw71 L xs))) rfl).trans ?_
  refine (val_g (c2 := (120, 998, 10, [some (.ref 91)], [.ref 92, .ref 91], (cw72 L xs))) rfl).trans ?_
  refine (val_pf (w2 := (cw73 L xs)) rfl (show wK (cw72 L xs) 91 = (5, 11) from rfl) rfl).trans ?_
  refine (val_g (c2 := (120, 998, 14, [some (.ref 91)], [.ref 91], (cw73 L xs))) rfl).trans ?_
  refine (val_g (c2 := (120, 998, 17, [some (.ref 91)], [.int 300, .ref 91], (cw73 L xs))) rfl).trans ?_
  refine (val_g (c2 := (120, 998, 19, [some (.ref 91)], [.ref 93, .ref 91], (cw74 L xs))) rfl).trans ?_
  refine (val_pf (w2 := (cw75 L xs)) rfl (show wK (cw74 L xs) 91 = (5, 11) from rfl) rfl).trans ?_
  refine (val_g (c2 := (120, 998, 23, [some (.ref 91)], [.ref 91], (cw75 L xs))) rfl).trans ?_
  refine (val_g (c2 := (120, 998, 26, [some (.ref 91)], [.int 300, .ref 91], (cw75 L xs))) rfl).trans ?_
  refine (val_g (c2 := (120, 998, 28, [some (.ref 91)], [.ref 94, .ref 91], (cw76 L xs))) rfl).trans ?_
  refine (val_pf (w2 := (cw77 L xs)) rfl (show wK (cw76 L xs) 91 = (5, 11) from rfl) rfl).trans ?_
  refine (val_g (c2 := (120, 998, 32, [some (.ref 91)], [.ref 91], (cw77 L xs))) rfl).trans ?_
  refine (val_g (c2 := (120, 998, 35, [some (.ref 91)], [.int 300, .ref 91], (cw77 L xs))) rfl).trans ?_
  refine (val_g (c2 := (120, 998, 37, [some (.ref 91)], [.ref 95, .ref 91], (cw78 L xs))) rfl).trans ?_
  refine (val_pf (w2 := (cw79 L xs)) rfl (show wK (cw78 L xs) 91 = (5, 11) from rfl) rfl).trans ?_
  refine (val_g (c2 := (120, 998, 41, [some (.ref 91)], [.ref 91], (cw79 L xs))) rfl).trans ?_
  refine (val_g (c2 := (120, 998, 42, [some (.ref 91)], [.int 0, .ref 91], (cw79 L xs))) rfl).trans ?_
  refine (val_pf (w2 := (cw80 L xs)) rfl (show wK (cw79 L xs) 91 = (5, 11) from rfl) rfl).trans ?_
  refine (val_g (c2 := (120, 998, 46, [some (.ref 91)], [.ref 91], (cw80 L xs))) rfl).trans ?_
  refine (val_g (c2 := (120, 998, 47, [some (.ref 91)], [.int 0, .ref 91], (cw80 L xs))) rfl).trans ?_
  refine (val_pf (w2 := (cw81 L xs)) rfl (show wK (cw80 L xs) 91 = (5, 11) from rfl) rfl).trans ?_
  refine (val_g (c2 := (120, 998, 51, [some (.ref 91)], [.ref 91], (cw81 L xs))) rfl).trans ?_
  refine (val_g (c2 := (120, 998, 52, [some (.ref 91)], [.int 0, .ref 91], (cw81 L xs))) rfl).trans ?_
  refine (val_pf (w2 := (cw82 L xs)) rfl (show wK (cw81 L xs) 91 = (5, 11) from rfl) rfl).trans ?_
  refine (val_g (c2 := (120, 998, 56, [some (.ref 91)], [.ref 91], (cw82 L xs))) rfl).trans ?_
  refine (val_g (c2 := (120, 998, 57, [some (.ref 91)], [.long 0, .ref 91], (cw82 L xs))) rfl).trans ?_
  refine (val_pf (w2 := (cw83 L xs)) rfl (show wK (cw82 L xs) 91 = (5, 11) from rfl) rfl).trans ?_
  refine (val_g (c2 := (120, 998, 61, [some (.ref 91)], [.ref 91], (cw83 L xs))) rfl).trans ?_
  refine (val_g (c2 := (120, 998, 62, [some (.ref 91)], [.long 0, .ref 91], (cw83 L xs))) rfl).trans ?_
  refine (val_pf (w2 := (cw84 L xs)) rfl (show wK (cw83 L xs) 91 = (5, 11) from rfl) rfl).trans ?_
  refine (val_g (c2 := (120, 998, 66, [some (.ref 91)], [.ref 91], (cw84 L xs))) rfl).trans ?_
  refine (val_g (c2 := (120, 998, 67, [some (.ref 91)], [.long 0, .ref 91], (cw84 L xs))) rfl).trans ?_
  refine (val_pf (w2 := (cw85 L xs)) rfl (show wK (cw84 L xs) 91 = (5, 11) from rfl) rfl).trans ?_
  refine (val_g (c2 := (120, 998, 71, [some (.ref 91)], [.ref 91], (cw85 L xs))) rfl).trans ?_
  refine (val_g (c2 := (120, 998, 72, [some (.ref 91)], [.long 0, .ref 91], (cw85 L xs))) rfl).trans ?_
  refine (val_pf (w2 := (cw86 L xs)) rfl (show wK (cw85 L xs) 91 = (5, 11) from rfl) rfl).trans ?_
  exact val_r rfl
theorem kcw_159_96 (L : Nat) (xs : Nat → Int32) : val (159, 998, 0, [some (.ref 96)], [], (cw88 L xs)) = some (none, (cw94 L xs)) := by
  refine (val_g (c2 := (159, 998, 1, [some (.ref 96)], [.ref 96], (cw88 L xs))) rfl).trans ?_
  refine (val_g (c2 := (159, 998, 4, [some (.ref 96)], [], (cw88 L xs))) rfl).trans ?_
  refine (val_g (c2 := (159, 998, 5, [some (.ref 96)], [.ref 96], (cw88 L xs))) rfl).trans ?_
  refine (val_g (c2 := (159, 998, 7, [some (.ref 96)], [.int 8, .ref 96], (cw88 L xs))) rfl).trans ?_
  refine (val_g (c2 := (159, 998, 9, [some (.ref 96)], [.ref 97, .ref 96], (cw89 L xs))) rfl).trans ?_
  refine (val_pf (w2 := (cw90 L xs)) rfl (show wK (cw89 L xs) 96 = (8, 3) from rfl) rfl).trans ?_
  refine (val_g (c2 := (159, 998, 13, [some (.ref 96)], [.ref 96], (cw90 L xs))) rfl).trans ?_
  refine (val_g (c2 := (159, 998, 15, [some (.ref 96)], [.int 8, .ref 96], (cw90 L xs))) rfl).trans ?_
  refine (val_g (c2 := (159, 998, 17, [some (.ref 96)], [.ref 98, .ref 96], (cw91 L xs))) rfl).trans ?_
  refine (val_pf (w2 := (cw92 L xs)) rfl (show wK (cw91 L xs) 96 = (8, 3) from rfl) rfl).trans ?_
  refine (val_g (c2 := (159, 998, 21, [some (.ref 96)], [.ref 96], (cw92 L xs))) rfl).trans ?_
  refine (val_g (c2 := (159, 998, 23, [some (.ref 96)], [.int 8, .ref 96], (cw92 L xs))) rfl).trans ?_
  refine (val_g (c2 := (159, 998, 25, [some (.ref 96)], [.int 64, .int 8, .ref 96], (cw92 L xs))) rfl).trans ?_
  refine (val_g (c2 := (159, 998, 29, [some (.ref 96)], [.ref 99, .ref 96], (cw93 L xs))) rfl).trans ?_
  refine (val_pf (w2 := (cw94 L xs)) rfl (show wK (cw93 L xs) 96 = (8, 3) from rfl) rfl).trans ?_
  exact val_r rfl
theorem kl_1 (L : Nat) (xs : Nat → Int32) : val (1, 999, 0, [some (.ref 64)], [], (cw1 L xs)) = val (1, 999, 105, [some (.ref 64)], [.ref 64], (cw95 L xs)) := by
  refine (val_g (c2 := (1, 999, 1, [some (.ref 64)], [.ref 64], (cw1 L xs))) rfl).trans ?_
  refine (val_g (c2 := (1, 999, 4, [some (.ref 64)], [], (cw1 L xs))) rfl).trans ?_
  refine (val_g (c2 := (1, 999, 5, [some (.ref 64)], [.ref 64], (cw1 L xs))) rfl).trans ?_
  refine (val_g (c2 := (1, 999, 7, [some (.ref 64)], [.int 6, .ref 64], (cw1 L xs))) rfl).trans ?_
  refine (val_pf (w2 := (cw2 L xs)) rfl (show wK (cw1 L xs) 64 = (9, 11) from rfl) rfl).trans ?_
  refine (val_g (c2 := (1, 999, 11, [some (.ref 64)], [.ref 64], (cw2 L xs))) rfl).trans ?_
  refine (val_g (c2 := (1, 999, 14, [some (.ref 64)], [.int 600, .ref 64], (cw2 L xs))) rfl).trans ?_
  refine (val_g (c2 := (1, 999, 16, [some (.ref 64)], [.ref 65, .ref 64], (cw3 L xs))) rfl).trans ?_
  refine (val_pf (w2 := (cw4 L xs)) rfl (show wK (cw3 L xs) 64 = (9, 11) from rfl) rfl).trans ?_
  refine (val_g (c2 := (1, 999, 20, [some (.ref 64)], [.ref 64], (cw4 L xs))) rfl).trans ?_
  refine (val_g (c2 := (1, 999, 21, [some (.ref 64)], [.int 0, .ref 64], (cw4 L xs))) rfl).trans ?_
  refine (val_pf (w2 := (cw5 L xs)) rfl (show wK (cw4 L xs) 64 = (9, 11) from rfl) rfl).trans ?_
  refine (val_g (c2 := (1, 999, 25, [some (.ref 64)], [.ref 64], (cw5 L xs))) rfl).trans ?_
  refine (val_g (c2 := (1, 999, 27, [some (.ref 64)], [.int 8, .ref 64], (cw5 L xs))) rfl).trans ?_
  refine (val_g (c2 := (1, 999, 30, [some (.ref 64)], [.ref 66, .ref 64], (cw6 L xs))) rfl).trans ?_
  refine (val_pf (w2 := (cw7 L xs)) rfl (show wK (cw6 L xs) 64 = (9, 11) from rfl) rfl).trans ?_
  refine (val_g (c2 := (1, 999, 34, [some (.ref 64)], [.ref 64], (cw7 L xs))) rfl).trans ?_
  refine (val_g (c2 := (1, 999, 35, [some (.ref 64)], [.int 0, .ref 64], (cw7 L xs))) rfl).trans ?_
  refine (val_pf (w2 := (cw8 L xs)) rfl (show wK (cw7 L xs) 64 = (9, 11) from rfl) rfl).trans ?_
  refine (val_g (c2 := (1, 999, 39, [some (.ref 64)], [.ref 64], (cw8 L xs))) rfl).trans ?_
  refine (val_g (c2 := (1, 999, 42, [some (.ref 64)], [.ref 67, .ref 64], (cw9 L xs))) rfl).trans ?_
  refine (val_g (c2 := (1, 999, 43, [some (.ref 64)], [.ref 67, .ref 67, .ref 64], (cw9 L xs))) rfl).trans ?_
  refine (val_call (d := 998) (pc2 := 46) rfl rfl rfl rfl (rcvO (show wK (cw9 L xs) 67 = (7, 13) from rfl) (by decide)) (Nat.le_of_ble_eq_true rfl) (Nat.le_of_ble_eq_true rfl) rfl (kcw_151_67 L xs) rfl).trans ?_
  refine (val_pf (w2 := (cw31 L xs)) rfl (show wK (cw30 L xs) 64 = (9, 11) from rfl) rfl).trans ?_
  refine (val_g (c2 := (1, 999, 50, [some (.ref 64)], [.ref 64], (cw31 L xs))) rfl).trans ?_
  refine (val_g (c2 := (1, 999, 53, [some (.ref 64)], [.ref 76, .ref 64], (cw32 L xs))) rfl).trans ?_
  refine (val_g (c2 := (1, 999, 54, [some (.ref 64)], [.ref 76, .ref 76, .ref 64], (cw32 L xs))) rfl).trans ?_
  refine (val_call (d := 998) (pc2 := 57) rfl rfl rfl rfl (rcvO (show wK (cw32 L xs) 76 = (1, 6) from rfl) (by decide)) (Nat.le_of_ble_eq_true rfl) (Nat.le_of_ble_eq_true rfl) rfl (kcw_59_76 L xs) rfl).trans ?_
  refine (val_pf (w2 := (cw42 L xs)) rfl (show wK (cw41 L xs) 64 = (9, 11) from rfl) rfl).trans ?_
  refine (val_g (c2 := (1, 999, 61, [some (.ref 64)], [.ref 64], (cw42 L xs))) rfl).trans ?_
  refine (val_g (c2 := (1, 999, 64, [some (.ref 64)], [.ref 80, .ref 64], (cw43 L xs))) rfl).trans ?_
  refine (val_g (c2 := (1, 999, 65, [some (.ref 64)], [.ref 80, .ref 80, .ref 64], (cw43 L xs))) rfl).trans ?_
  refine (val_call (d := 998) (pc2 := 68) rfl rfl rfl rfl (rcvO (show wK (cw43 L xs) 80 = (2, 4) from rfl) (by decide)) (Nat.le_of_ble_eq_true rfl) (Nat.le_of_ble_eq_true rfl) rfl (kcw_66_80 L xs) rfl).trans ?_
  refine (val_pf (w2 := (cw51 L xs)) rfl (show wK (cw50 L xs) 64 = (9, 11) from rfl) rfl).trans ?_
  refine (val_g (c2 := (1, 999, 72, [some (.ref 64)], [.ref 64], (cw51 L xs))) rfl).trans ?_
  refine (val_g (c2 := (1, 999, 75, [some (.ref 64)], [.ref 84, .ref 64], (cw52 L xs))) rfl).trans ?_
  refine (val_g (c2 := (1, 999, 76, [some (.ref 64)], [.ref 84, .ref 84, .ref 64], (cw52 L xs))) rfl).trans ?_
  refine (val_call (d := 998) (pc2 := 79) rfl rfl rfl rfl (rcvO (show wK (cw52 L xs) 84 = (0, 11) from rfl) (by decide)) (Nat.le_of_ble_eq_true rfl) (Nat.le_of_ble_eq_true rfl) rfl (kcw_48_84 L xs) rfl).trans ?_
  refine (val_pf (w2 := (cw70 L xs)) rfl (show wK (cw69 L xs) 64 = (9, 11) from rfl) rfl).trans ?_
  refine (val_g (c2 := (1, 999, 83, [some (.ref 64)], [.ref 64], (cw70 L xs))) rfl).trans ?_
  refine (val_g (c2 := (1, 999, 86, [some (.ref 64)], [.ref 91, .ref 64], (cw71 L xs))) rfl).trans ?_
  refine (val_g (c2 := (1, 999, 87, [some (.ref 64)], [.ref 91, .ref 91, .ref 64], (cw71 L xs))) rfl).trans ?_
  refine (val_call (d := 998) (pc2 := 90) rfl rfl rfl rfl (rcvO (show wK (cw71 L xs) 91 = (5, 11) from rfl) (by decide)) (Nat.le_of_ble_eq_true rfl) (Nat.le_of_ble_eq_true rfl) rfl (kcw_120_91 L xs) rfl).trans ?_
  refine (val_pf (w2 := (cw87 L xs)) rfl (show wK (cw86 L xs) 64 = (9, 11) from rfl) rfl).trans ?_
  refine (val_g (c2 := (1, 999, 94, [some (.ref 64)], [.ref 64], (cw87 L xs))) rfl).trans ?_
  refine (val_g (c2 := (1, 999, 97, [some (.ref 64)], [.ref 96, .ref 64], (cw88 L xs))) rfl).trans ?_
  refine (val_g (c2 := (1, 999, 98, [some (.ref 64)], [.ref 96, .ref 96, .ref 64], (cw88 L xs))) rfl).trans ?_
  refine (val_call (d := 998) (pc2 := 101) rfl rfl rfl rfl (rcvO (show wK (cw88 L xs) 96 = (8, 3) from rfl) (by decide)) (Nat.le_of_ble_eq_true rfl) (Nat.le_of_ble_eq_true rfl) rfl (kcw_159_96 L xs) rfl).trans ?_
  refine (val_pf (w2 := (cw95 L xs)) rfl (show wK (cw94 L xs) 64 = (9, 11) from rfl) rfl).trans ?_
  refine (val_g (c2 := (1, 999, 105, [some (.ref 64)], [.ref 64], (cw95 L xs))) rfl).trans ?_
  rfl
set_option maxRecDepth 20000 in
theorem cw_gw (L : Nat) (xs : Nat → Int32) : Gw [] 44 25205 (W00 L xs) (cw95 L xs) :=
  (((((((((((((((((((((((((((((((((((((((((((((((((((((((((((((((((((((((((((((((((((((((((((((((Gw.refl [] (W00 L xs)).nw 9 11).sIn _ _ (Nat.le_of_ble_eq_true rfl)).nw 21 600).sRn _ _ (Nat.le_of_ble_eq_true rfl)).sIn _ _ (Nat.le_of_ble_eq_true rfl)).nw 25 8).sRn _ _ (Nat.le_of_ble_eq_true rfl)).sIn _ _ (Nat.le_of_ble_eq_true rfl)).nw 7 13).sRn _ _ (Nat.le_of_ble_eq_true rfl)).nw 20 2001).sRn _ _ (Nat.le_of_ble_eq_true rfl)).nw 21 2000).sRn _ _ (Nat.le_of_ble_eq_true rfl)).nw 21 2001).sRn _ _ (Nat.le_of_ble_eq_true rfl)).nw 20 2001).sRn _ _ (Nat.le_of_ble_eq_true rfl)).nw 20 2001).sRn _ _ (Nat.le_of_ble_eq_true rfl)).nw 20 10).sRn _ _ (Nat.le_of_ble_eq_true rfl)).nw 20 1024).sRn _ _ (Nat.le_of_ble_eq_true rfl)).nw 20 2001).sRn _ _ (Nat.le_of_ble_eq_true rfl)).sIn _ _ (Nat.le_of_ble_eq_true rfl)).sIn _ _ (Nat.le_of_ble_eq_true rfl)).sIn _ _ (Nat.le_of_ble_eq_true rfl)).sIn _ _ (Nat.le_of_ble_eq_true rfl)).sRn _ _ (Nat.le_of_ble_eq_true rfl)).nw 1 6).nw 20 720).sRn _ _ (Nat.le_of_ble_eq_true rfl)).nw 22 720).sRn _ _ (Nat.le_of_ble_eq_true rfl)).nw 20 6).sRn _ _ (Nat.le_of_ble_eq_true rfl)).sIn _ _ (Nat.le_of_ble_eq_true rfl)).sIn _ _ (Nat.le_of_ble_eq_true rfl)).sIn _ _ (Nat.le_of_ble_eq_true rfl)).sRn _ _ (Nat.le_of_ble_eq_true rfl)).nw 2 4).nw 20 3600).sRn _ _ (Nat.le_of_ble_eq_true rfl)).sIn _ _ (Nat.le_of_ble_eq_true rfl)).nw 23 630).sRn _ _ (Nat.le_of_ble_eq_true rfl)).nw 20 60).sRn _ _ (Nat.le_of_ble_eq_true rfl)).sRn _ _ (Nat.le_of_ble_eq_true rfl)).nw 0 11).nw 20 9).sRn _ _ (Nat.le_of_ble_eq_true rfl)).nw 20 9).sRn _ _ (Nat.le_of_ble_eq_true rfl)).nw 20 9).sRn _ _ (Nat.le_of_ble_eq_true rfl)).nw 20 400).sRn _ _ (Nat.le_of_ble_eq_true rfl)).nw 20 400).sRn _ _ (Nat.le_of_ble_eq_true rfl)).nw 20 3200).sRn _ _ (Nat.le_of_ble_eq_true rfl)).sIn _ _ (Nat.le_of_ble_eq_true rfl)).sIn _ _ (Nat.le_of_ble_eq_true rfl)).sIn _ _ (Nat.le_of_ble_eq_true rfl)).sIn _ _ (Nat.le_of_ble_eq_true rfl)).sIn _ _ (Nat.le_of_ble_eq_true rfl)).sRn _ _ (Nat.le_of_ble_eq_true rfl)).nw 5 11).nw 20 300).sRn _ _ (Nat.le_of_ble_eq_true rfl)).nw 23 300).sRn _ _ (Nat.le_of_ble_eq_true rfl)).nw 20 300).sRn _ _ (Nat.le_of_ble_eq_true rfl)).nw 23 300).sRn _ _ (Nat.le_of_ble_eq_true rfl)).sIn _ _ (Nat.le_of_ble_eq_true rfl)).sIn _ _ (Nat.le_of_ble_eq_true rfl)).sIn _ _ (Nat.le_of_ble_eq_true rfl)).sLn _ _ (Nat.le_of_ble_eq_true rfl)).sLn _ _ (Nat.le_of_ble_eq_true rfl)).sLn _ _ (Nat.le_of_ble_eq_true rfl)).sLn _ _ (Nat.le_of_ble_eq_true rfl)).sRn _ _ (Nat.le_of_ble_eq_true rfl)).nw 8 3).nw 20 8).sRn _ _ (Nat.le_of_ble_eq_true rfl)).nw 20 8).sRn _ _ (Nat.le_of_ble_eq_true rfl)).nwm 8 64).sRn _ _ (Nat.le_of_ble_eq_true rfl)).sRn _ _ (Nat.le_of_ble_eq_true rfl)
set_option maxRecDepth 20000 in
theorem cwK_64 (L : Nat) (xs : Nat → Int32) : wK (cw95 L xs) 64 = kfx 64 := rfl
set_option maxRecDepth 20000 in
theorem cwK_65 (L : Nat) (xs : Nat → Int32) : wK (cw95 L xs) 65 = kfx 65 := rfl
set_option maxRecDepth 20000 in
theorem cwK_66 (L : Nat) (xs : Nat → Int32) : wK (cw95 L xs) 66 = kfx 66 := rfl
set_option maxRecDepth 20000 in
theorem cwK_67 (L : Nat) (xs : Nat → Int32) : wK (cw95 L xs) 67 = kfx 67 := rfl
set_option maxRecDepth 20000 in
theorem cwK_68 (L : Nat) (xs : Nat → Int32) : wK (cw95 L xs) 68 = kfx 68 := rfl
set_option maxRecDepth 20000 in
theorem cwK_69 (L : Nat) (xs : Nat → Int32) : wK (cw95 L xs) 69 = kfx 69 := rfl
set_option maxRecDepth 20000 in
theorem cwK_70 (L : Nat) (xs : Nat → Int32) : wK (cw95 L xs) 70 = kfx 70 := rfl
set_option maxRecDepth 20000 in
theorem cwK_71 (L : Nat) (xs : Nat → Int32) : wK (cw95 L xs) 71 = kfx 71 := rfl
set_option maxRecDepth 20000 in
theorem cwK_72 (L : Nat) (xs : Nat → Int32) : wK (cw95 L xs) 72 = kfx 72 := rfl
set_option maxRecDepth 20000 in
theorem cwK_73 (L : Nat) (xs : Nat → Int32) : wK (cw95 L xs) 73 = kfx 73 := rfl
set_option maxRecDepth 20000 in
theorem cwK_74 (L : Nat) (xs : Nat → Int32) : wK (cw95 L xs) 74 = kfx 74 := rfl
set_option maxRecDepth 20000 in
theorem cwK_75 (L : Nat) (xs : Nat → Int32) : wK (cw95 L xs) 75 = kfx 75 := rfl
set_option maxRecDepth 20000 in
theorem cwK_76 (L : Nat) (xs : Nat → Int32) : wK (cw95 L xs) 76 = kfx 76 := rfl
set_option maxRecDepth 20000 in
theorem cwK_77 (L : Nat) (xs : Nat → Int32) : wK (cw95 L xs) 77 = kfx 77 := rfl
set_option maxRecDepth 20000 in
theorem cwK_78 (L : Nat) (xs : Nat → Int32) : wK (cw95 L xs) 78 = kfx 78 := rfl
set_option maxRecDepth 20000 in
theorem cwK_79 (L : Nat) (xs : Nat → Int32) : wK (cw95 L xs) 79 = kfx 79 := rfl
set_option maxRecDepth 20000 in
theorem cwK_80 (L : Nat) (xs : Nat → Int32) : wK (cw95 L xs) 80 = kfx 80 := rfl
set_option maxRecDepth 20000 in
theorem cwK_81 (L : Nat) (xs : Nat → Int32) : wK (cw95 L xs) 81 = kfx 81 := rfl
set_option maxRecDepth 20000 in
theorem cwK_82 (L : Nat) (xs : Nat → Int32) : wK (cw95 L xs) 82 = kfx 82 := rfl
set_option maxRecDepth 20000 in
theorem cwK_83 (L : Nat) (xs : Nat → Int32) : wK (cw95 L xs) 83 = kfx 83 := rfl
set_option maxRecDepth 20000 in
theorem cwK_84 (L : Nat) (xs : Nat → Int32) : wK (cw95 L xs) 84 = kfx 84 := rfl
set_option maxRecDepth 20000 in
theorem cwK_85 (L : Nat) (xs : Nat → Int32) : wK (cw95 L xs) 85 = kfx 85 := rfl
set_option maxRecDepth 20000 in
theorem cwK_86 (L : Nat) (xs : Nat → Int32) : wK (cw95 L xs) 86 = kfx 86 := rfl
set_option maxRecDepth 20000 in
theorem cwK_87 (L : Nat) (xs : Nat → Int32) : wK (cw95 L xs) 87 = kfx 87 := rfl
set_option maxRecDepth 20000 in
theorem cwK_88 (L : Nat) (xs : Nat → Int32) : wK (cw95 L xs) 88 = kfx 88 := rfl
set_option maxRecDepth 20000 in
theorem cwK_89 (L : Nat) (xs : Nat → Int32) : wK (cw95 L xs) 89 = kfx 89 := rfl
set_option maxRecDepth 20000 in
theorem cwK_90 (L : Nat) (xs : Nat → Int32) : wK (cw95 L xs) 90 = kfx 90 := rfl
set_option maxRecDepth 20000 in
theorem cwK_91 (L : Nat) (xs : Nat → Int32) : wK (cw95 L xs) 91 = kfx 91 := rfl
set_option maxRecDepth 20000 in
theorem cwK_92 (L : Nat) (xs : Nat → Int32) : wK (cw95 L xs) 92 = kfx 92 := rfl
set_option maxRecDepth 20000 in
theorem cwK_93 (L : Nat) (xs : Nat → Int32) : wK (cw95 L xs) 93 = kfx 93 := rfl
set_option maxRecDepth 20000 in
theorem cwK_94 (L : Nat) (xs : Nat → Int32) : wK (cw95 L xs) 94 = kfx 94 := rfl
set_option maxRecDepth 20000 in
theorem cwK_95 (L : Nat) (xs : Nat → Int32) : wK (cw95 L xs) 95 = kfx 95 := rfl
set_option maxRecDepth 20000 in
theorem cwK_96 (L : Nat) (xs : Nat → Int32) : wK (cw95 L xs) 96 = kfx 96 := rfl
set_option maxRecDepth 20000 in
theorem cwK_97 (L : Nat) (xs : Nat → Int32) : wK (cw95 L xs) 97 = kfx 97 := rfl
set_option maxRecDepth 20000 in
theorem cwK_98 (L : Nat) (xs : Nat → Int32) : wK (cw95 L xs) 98 = kfx 98 := rfl
set_option maxRecDepth 20000 in
theorem cwK_99 (L : Nat) (xs : Nat → Int32) : wK (cw95 L xs) 99 = kfx 99 := rfl
set_option maxRecDepth 20000 in
theorem cwK_100 (L : Nat) (xs : Nat → Int32) : wK (cw95 L xs) 100 = kfx 100 := rfl
set_option maxRecDepth 20000 in
theorem cwK_101 (L : Nat) (xs : Nat → Int32) : wK (cw95 L xs) 101 = kfx 101 := rfl
set_option maxRecDepth 20000 in
theorem cwK_102 (L : Nat) (xs : Nat → Int32) : wK (cw95 L xs) 102 = kfx 102 := rfl
set_option maxRecDepth 20000 in
theorem cwK_103 (L : Nat) (xs : Nat → Int32) : wK (cw95 L xs) 103 = kfx 103 := rfl
set_option maxRecDepth 20000 in
theorem cwK_104 (L : Nat) (xs : Nat → Int32) : wK (cw95 L xs) 104 = kfx 104 := rfl
set_option maxRecDepth 20000 in
theorem cwK_105 (L : Nat) (xs : Nat → Int32) : wK (cw95 L xs) 105 = kfx 105 := rfl
set_option maxRecDepth 20000 in
theorem cwK_106 (L : Nat) (xs : Nat → Int32) : wK (cw95 L xs) 106 = kfx 106 := rfl
set_option maxRecDepth 20000 in
theorem cwK_107 (L : Nat) (xs : Nat → Int32) : wK (cw95 L xs) 107 = kfx 107 := rfl
set_option maxRecDepth 20000 in
theorem cwR_64_1 (L : Nat) (xs : Nat → Int32) : gR (cw95 L xs) 64 1 = some 65 := rfl
set_option maxRecDepth 20000 in
theorem cwR_64_3 (L : Nat) (xs : Nat → Int32) : gR (cw95 L xs) 64 3 = some 66 := rfl
set_option maxRecDepth 20000 in
theorem cwR_64_5 (L : Nat) (xs : Nat → Int32) : gR (cw95 L xs) 64 5 = some 67 := rfl
set_option maxRecDepth 20000 in
theorem cwR_64_6 (L : Nat) (xs : Nat → Int32) : gR (cw95 L xs) 64 6 = some 76 := rfl
set_option maxRecDepth 20000 in
theorem cwR_64_7 (L : Nat) (xs : Nat → Int32) : gR (cw95 L xs) 64 7 = some 80 := rfl
set_option maxRecDepth 20000 in
theorem cwR_64_8 (L : Nat) (xs : Nat → Int32) : gR (cw95 L xs) 64 8 = some 84 := rfl
set_option maxRecDepth 20000 in
theorem cwR_64_9 (L : Nat) (xs : Nat → Int32) : gR (cw95 L xs) 64 9 = some 91 := rfl
set_option maxRecDepth 20000 in
theorem cwR_64_10 (L : Nat) (xs : Nat → Int32) : gR (cw95 L xs) 64 10 = some 96 := rfl
set_option maxRecDepth 20000 in
theorem cwR_67_1 (L : Nat) (xs : Nat → Int32) : gR (cw95 L xs) 67 1 = some 68 := rfl
set_option maxRecDepth 20000 in
theorem cwR_67_2 (L : Nat) (xs : Nat → Int32) : gR (cw95 L xs) 67 2 = some 69 := rfl
set_option maxRecDepth 20000 in
theorem cwR_67_3 (L : Nat) (xs : Nat → Int32) : gR (cw95 L xs) 67 3 = some 70 := rfl
set_option maxRecDepth 20000 in
theorem cwR_67_4 (L : Nat) (xs : Nat → Int32) : gR (cw95 L xs) 67 4 = some 71 := rfl
set_option maxRecDepth 20000 in
theorem cwR_67_5 (L : Nat) (xs : Nat → Int32) : gR (cw95 L xs) 67 5 = some 72 := rfl
set_option maxRecDepth 20000 in
theorem cwR_67_6 (L : Nat) (xs : Nat → Int32) : gR (cw95 L xs) 67 6 = some 73 := rfl
set_option maxRecDepth 20000 in
theorem cwR_67_7 (L : Nat) (xs : Nat → Int32) : gR (cw95 L xs) 67 7 = some 74 := rfl
set_option maxRecDepth 20000 in
theorem cwR_67_8 (L : Nat) (xs : Nat → Int32) : gR (cw95 L xs) 67 8 = some 75 := rfl
set_option maxRecDepth 20000 in
theorem cwR_76_0 (L : Nat) (xs : Nat → Int32) : gR (cw95 L xs) 76 0 = some 77 := rfl
set_option maxRecDepth 20000 in
theorem cwR_76_1 (L : Nat) (xs : Nat → Int32) : gR (cw95 L xs) 76 1 = some 78 := rfl
set_option maxRecDepth 20000 in
theorem cwR_76_2 (L : Nat) (xs : Nat → Int32) : gR (cw95 L xs) 76 2 = some 79 := rfl
set_option maxRecDepth 20000 in
theorem cwR_80_0 (L : Nat) (xs : Nat → Int32) : gR (cw95 L xs) 80 0 = some 81 := rfl
set_option maxRecDepth 20000 in
theorem cwR_80_2 (L : Nat) (xs : Nat → Int32) : gR (cw95 L xs) 80 2 = some 82 := rfl
set_option maxRecDepth 20000 in
theorem cwR_80_3 (L : Nat) (xs : Nat → Int32) : gR (cw95 L xs) 80 3 = some 83 := rfl
set_option maxRecDepth 20000 in
theorem cwR_84_0 (L : Nat) (xs : Nat → Int32) : gR (cw95 L xs) 84 0 = some 85 := rfl
set_option maxRecDepth 20000 in
theorem cwR_84_1 (L : Nat) (xs : Nat → Int32) : gR (cw95 L xs) 84 1 = some 86 := rfl
set_option maxRecDepth 20000 in
theorem cwR_84_2 (L : Nat) (xs : Nat → Int32) : gR (cw95 L xs) 84 2 = some 87 := rfl
set_option maxRecDepth 20000 in
theorem cwR_84_3 (L : Nat) (xs : Nat → Int32) : gR (cw95 L xs) 84 3 = some 88 := rfl
set_option maxRecDepth 20000 in
theorem cwR_84_4 (L : Nat) (xs : Nat → Int32) : gR (cw95 L xs) 84 4 = some 89 := rfl
set_option maxRecDepth 20000 in
theorem cwR_84_5 (L : Nat) (xs : Nat → Int32) : gR (cw95 L xs) 84 5 = some 90 := rfl
set_option maxRecDepth 20000 in
theorem cwR_91_0 (L : Nat) (xs : Nat → Int32) : gR (cw95 L xs) 91 0 = some 92 := rfl
set_option maxRecDepth 20000 in
theorem cwR_91_1 (L : Nat) (xs : Nat → Int32) : gR (cw95 L xs) 91 1 = some 93 := rfl
set_option maxRecDepth 20000 in
theorem cwR_91_2 (L : Nat) (xs : Nat → Int32) : gR (cw95 L xs) 91 2 = some 94 := rfl
set_option maxRecDepth 20000 in
theorem cwR_91_3 (L : Nat) (xs : Nat → Int32) : gR (cw95 L xs) 91 3 = some 95 := rfl
set_option maxRecDepth 20000 in
theorem cwR_96_0 (L : Nat) (xs : Nat → Int32) : gR (cw95 L xs) 96 0 = some 97 := rfl
set_option maxRecDepth 20000 in
theorem cwR_96_1 (L : Nat) (xs : Nat → Int32) : gR (cw95 L xs) 96 1 = some 98 := rfl
set_option maxRecDepth 20000 in
theorem cwR_96_2 (L : Nat) (xs : Nat → Int32) : gR (cw95 L xs) 96 2 = some 99 := rfl
set_option maxRecDepth 20000 in
theorem cwR_99_0 (L : Nat) (xs : Nat → Int32) : gR (cw95 L xs) 99 0 = some 100 := rfl
set_option maxRecDepth 20000 in
theorem cwR_99_1 (L : Nat) (xs : Nat → Int32) : gR (cw95 L xs) 99 1 = some 101 := rfl
set_option maxRecDepth 20000 in
theorem cwR_99_2 (L : Nat) (xs : Nat → Int32) : gR (cw95 L xs) 99 2 = some 102 := rfl
set_option maxRecDepth 20000 in
theorem cwR_99_3 (L : Nat) (xs : Nat → Int32) : gR (cw95 L xs) 99 3 = some 103 := rfl
set_option maxRecDepth 20000 in
theorem cwR_99_4 (L : Nat) (xs : Nat → Int32) : gR (cw95 L xs) 99 4 = some 104 := rfl
set_option maxRecDepth 20000 in
theorem cwR_99_5 (L : Nat) (xs : Nat → Int32) : gR (cw95 L xs) 99 5 = some 105 := rfl
set_option maxRecDepth 20000 in
theorem cwR_99_6 (L : Nat) (xs : Nat → Int32) : gR (cw95 L xs) 99 6 = some 106 := rfl
set_option maxRecDepth 20000 in
theorem cwR_99_7 (L : Nat) (xs : Nat → Int32) : gR (cw95 L xs) 99 7 = some 107 := rfl
