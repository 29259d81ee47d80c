/-! methods in segments; printed by program (wip/gen/p41.py, seg.py) -/
/-- BelfryHouseModel.<init>()V -/
theorem tr_170 (d : Nat) (w : Wd) (hW : Fix w)      : val (170, d + 1, 0, [some (.ref 108)], [], w) = val (170, d + 1, 13, [some (.ref 108)], [.int 9, .ref 108], (sI w 108 0 6)) := by
  refine (val_g (c2 := (170, d + 1, 1, [some (.ref 108)], [.ref 108], w)) rfl).trans ?_
  refine (val_g (c2 := (170, d + 1, 4, [some (.ref 108)], [], w)) rfl).trans ?_
  refine (val_g (c2 := (170, d + 1, 5, [some (.ref 108)], [.ref 108], w)) rfl).trans ?_
  refine (val_g (c2 := (170, d + 1, 7, [some (.ref 108)], [.int 6, .ref 108], w)) rfl).trans ?_
  refine (val_pf rfl (hW.k 108 (Nat.le_of_ble_eq_true rfl) (Nat.le_of_ble_eq_true rfl)) rfl).trans ?_
  show val (170, d + 1, 10, [some (.ref 108)], [], (sI w 108 0 6)) = _
  refine (val_g (c2 := (170, d + 1, 11, [some (.ref 108)], [.ref 108], (sI w 108 0 6))) rfl).trans ?_
  refine (val_g (c2 := (170, d + 1, 13, [some (.ref 108)], [.int 9, .ref 108], (sI w 108 0 6))) rfl).trans ?_
  rfl
theorem tr_170_18 (d : Nat) (w : Wd)      : val (170, d + 1, 18, [some (.ref 108)], [], w) = val (170, d + 1, 21, [some (.ref 108)], [.int 9, .ref 108], w) := by
  refine (val_g (c2 := (170, d + 1, 19, [some (.ref 108)], [.ref 108], w)) rfl).trans ?_
  refine (val_g (c2 := (170, d + 1, 21, [some (.ref 108)], [.int 9, .ref 108], w)) rfl).trans ?_
  rfl
theorem tr_170_26 (d : Nat) (w : Wd)      : val (170, d + 1, 26, [some (.ref 108)], [], w) = val (170, d + 1, 29, [some (.ref 108)], [.int 9, .ref 108], w) := by
  refine (val_g (c2 := (170, d + 1, 27, [some (.ref 108)], [.ref 108], w)) rfl).trans ?_
  refine (val_g (c2 := (170, d + 1, 29, [some (.ref 108)], [.int 9, .ref 108], w)) rfl).trans ?_
  rfl
theorem tr_170_34 (d : Nat) (w : Wd)      : val (170, d + 1, 34, [some (.ref 108)], [], w) = val (170, d + 1, 38, [some (.ref 108)], [.int 600, .ref 108], w) := by
  refine (val_g (c2 := (170, d + 1, 35, [some (.ref 108)], [.ref 108], w)) rfl).trans ?_
  refine (val_g (c2 := (170, d + 1, 38, [some (.ref 108)], [.int 600, .ref 108], w)) rfl).trans ?_
  rfl
theorem tr_170_43 (d : Nat) (w : Wd)      : val (170, d + 1, 43, [some (.ref 108)], [], w) = val (170, d + 1, 46, [some (.ref 108)], [.int 9, .ref 108], w) := by
  refine (val_g (c2 := (170, d + 1, 44, [some (.ref 108)], [.ref 108], w)) rfl).trans ?_
  refine (val_g (c2 := (170, d + 1, 46, [some (.ref 108)], [.int 9, .ref 108], w)) rfl).trans ?_
  rfl
theorem tr_170_51 (d : Nat) (w : Wd)      : val (170, d + 1, 51, [some (.ref 108)], [], w) = val (170, d + 1, 54, [some (.ref 108)], [.int 9, .ref 108], w) := by
  refine (val_g (c2 := (170, d + 1, 52, [some (.ref 108)], [.ref 108], w)) rfl).trans ?_
  refine (val_g (c2 := (170, d + 1, 54, [some (.ref 108)], [.int 9, .ref 108], w)) rfl).trans ?_
  rfl
theorem tr_170_59 (d : Nat) (w : Wd)      : val (170, d + 1, 59, [some (.ref 108)], [], w) = val (170, d + 1, 63, [some (.ref 108)], [.int 180, .ref 108], w) := by
  refine (val_g (c2 := (170, d + 1, 60, [some (.ref 108)], [.ref 108], w)) rfl).trans ?_
  refine (val_g (c2 := (170, d + 1, 63, [some (.ref 108)], [.int 180, .ref 108], w)) rfl).trans ?_
  rfl
theorem tr_170_68 (d : Nat) (w : Wd)      : val (170, d + 1, 68, [some (.ref 108)], [], w) = val (170, d + 1, 72, [some (.ref 108)], [.int 1440, .ref 108], w) := by
  refine (val_g (c2 := (170, d + 1, 69, [some (.ref 108)], [.ref 108], w)) rfl).trans ?_
  refine (val_g (c2 := (170, d + 1, 72, [some (.ref 108)], [.int 1440, .ref 108], w)) rfl).trans ?_
  rfl
theorem tr_170_77 (d : Nat) (w : Wd)      : val (170, d + 1, 77, [some (.ref 108)], [], w) = val (170, d + 1, 81, [some (.ref 108)], [.int 1440, .ref 108], w) := by
  refine (val_g (c2 := (170, d + 1, 78, [some (.ref 108)], [.ref 108], w)) rfl).trans ?_
  refine (val_g (c2 := (170, d + 1, 81, [some (.ref 108)], [.int 1440, .ref 108], w)) rfl).trans ?_
  rfl
theorem tr_170_86 (d : Nat) (w : Wd)      : val (170, d + 1, 86, [some (.ref 108)], [], w) = val (170, d + 1, 90, [some (.ref 108)], [.int 1440, .ref 108], w) := by
  refine (val_g (c2 := (170, d + 1, 87, [some (.ref 108)], [.ref 108], w)) rfl).trans ?_
  refine (val_g (c2 := (170, d + 1, 90, [some (.ref 108)], [.int 1440, .ref 108], w)) rfl).trans ?_
  rfl
theorem tr_170_95 (d : Nat) (w : Wd)      : val (170, d + 1, 95, [some (.ref 108)], [], w) = val (170, d + 1, 99, [some (.ref 108)], [.int 1440, .ref 108], w) := by
  refine (val_g (c2 := (170, d + 1, 96, [some (.ref 108)], [.ref 108], w)) rfl).trans ?_
  refine (val_g (c2 := (170, d + 1, 99, [some (.ref 108)], [.int 1440, .ref 108], w)) rfl).trans ?_
  rfl
theorem tr_170_104 (d : Nat) (w : Wd)      : val (170, d + 1, 104, [some (.ref 108)], [], w) = val (170, d + 1, 108, [some (.ref 108)], [.int 180, .ref 108], w) := by
  refine (val_g (c2 := (170, d + 1, 105, [some (.ref 108)], [.ref 108], w)) rfl).trans ?_
  refine (val_g (c2 := (170, d + 1, 108, [some (.ref 108)], [.int 180, .ref 108], w)) rfl).trans ?_
  rfl
theorem tr_170_113 (d : Nat) (w : Wd)      : val (170, d + 1, 113, [some (.ref 108)], [], w) = val (170, d + 1, 117, [some (.ref 108)], [.int 369, .ref 108], w) := by
  refine (val_g (c2 := (170, d + 1, 114, [some (.ref 108)], [.ref 108], w)) rfl).trans ?_
  refine (val_g (c2 := (170, d + 1, 117, [some (.ref 108)], [.int 369, .ref 108], w)) rfl).trans ?_
  rfl
theorem tr_170_122 (d : Nat) (w : Wd)      : val (170, d + 1, 122, [some (.ref 108)], [], w) = val (170, d + 1, 126, [some (.ref 108)], [.int 369, .ref 108], w) := by
  refine (val_g (c2 := (170, d + 1, 123, [some (.ref 108)], [.ref 108], w)) rfl).trans ?_
  refine (val_g (c2 := (170, d + 1, 126, [some (.ref 108)], [.int 369, .ref 108], w)) rfl).trans ?_
  rfl
theorem tr_170_131 (d : Nat) (w : Wd)      : val (170, d + 1, 131, [some (.ref 108)], [], w) = val (170, d + 1, 135, [some (.ref 108)], [.int 369, .ref 108], w) := by
  refine (val_g (c2 := (170, d + 1, 132, [some (.ref 108)], [.ref 108], w)) rfl).trans ?_
  refine (val_g (c2 := (170, d + 1, 135, [some (.ref 108)], [.int 369, .ref 108], w)) rfl).trans ?_
  rfl
theorem tr_170_140 (d : Nat) (w : Wd)      : val (170, d + 1, 140, [some (.ref 108)], [], w) = val (170, d + 1, 144, [some (.ref 108)], [.int 369, .ref 108], w) := by
  refine (val_g (c2 := (170, d + 1, 141, [some (.ref 108)], [.ref 108], w)) rfl).trans ?_
  refine (val_g (c2 := (170, d + 1, 144, [some (.ref 108)], [.int 369, .ref 108], w)) rfl).trans ?_
  rfl
theorem tr_170_149 (d : Nat) (w : Wd)      : val (170, d + 1, 149, [some (.ref 108)], [], w) = val (170, d + 1, 153, [some (.ref 108)], [.int 369, .ref 108], w) := by
  refine (val_g (c2 := (170, d + 1, 150, [some (.ref 108)], [.ref 108], w)) rfl).trans ?_
  refine (val_g (c2 := (170, d + 1, 153, [some (.ref 108)], [.int 369, .ref 108], w)) rfl).trans ?_
  rfl
theorem tr_170_158 (d : Nat) (w : Wd)      : val (170, d + 1, 158, [some (.ref 108)], [], w) = val (170, d + 1, 161, [some (.ref 108)], [.int 9, .ref 108], w) := by
  refine (val_g (c2 := (170, d + 1, 159, [some (.ref 108)], [.ref 108], w)) rfl).trans ?_
  refine (val_g (c2 := (170, d + 1, 161, [some (.ref 108)], [.int 9, .ref 108], w)) rfl).trans ?_
  rfl
theorem tr_170_166 (d : Nat) (w : Wd)      : val (170, d + 1, 166, [some (.ref 108)], [], w) = val (170, d + 1, 170, [some (.ref 108)], [.int 2001, .ref 108], w) := by
  refine (val_g (c2 := (170, d + 1, 167, [some (.ref 108)], [.ref 108], w)) rfl).trans ?_
  refine (val_g (c2 := (170, d + 1, 170, [some (.ref 108)], [.int 2001, .ref 108], w)) rfl).trans ?_
  rfl
theorem tr_170_175 (d : Nat) (w : Wd)      : val (170, d + 1, 175, [some (.ref 108)], [], w) = val (170, d + 1, 179, [some (.ref 108)], [.int 2000, .ref 108], w) := by
  refine (val_g (c2 := (170, d + 1, 176, [some (.ref 108)], [.ref 108], w)) rfl).trans ?_
  refine (val_g (c2 := (170, d + 1, 179, [some (.ref 108)], [.int 2000, .ref 108], w)) rfl).trans ?_
  rfl
theorem tr_170_184 (d : Nat) (w : Wd)      : val (170, d + 1, 184, [some (.ref 108)], [], w) = val (170, d + 1, 188, [some (.ref 108)], [.int 2001, .ref 108], w) := by
  refine (val_g (c2 := (170, d + 1, 185, [some (.ref 108)], [.ref 108], w)) rfl).trans ?_
  refine (val_g (c2 := (170, d + 1, 188, [some (.ref 108)], [.int 2001, .ref 108], w)) rfl).trans ?_
  rfl
theorem tr_170_193 (d : Nat) (w : Wd)      : val (170, d + 1, 193, [some (.ref 108)], [], w) = val (170, d + 1, 196, [some (.ref 108)], [.int 40320, .ref 108], w) := by
  refine (val_g (c2 := (170, d + 1, 194, [some (.ref 108)], [.ref 108], w)) rfl).trans ?_
  refine (val_g (c2 := (170, d + 1, 196, [some (.ref 108)], [.int 40320, .ref 108], w)) rfl).trans ?_
  rfl
theorem tr_170_201 (d : Nat) (w : Wd)      : val (170, d + 1, 201, [some (.ref 108)], [], w) = val (170, d + 1, 204, [some (.ref 108)], [.int 40320, .ref 108], w) := by
  refine (val_g (c2 := (170, d + 1, 202, [some (.ref 108)], [.ref 108], w)) rfl).trans ?_
  refine (val_g (c2 := (170, d + 1, 204, [some (.ref 108)], [.int 40320, .ref 108], w)) rfl).trans ?_
  rfl
theorem tr_170_209 (d : Nat) (w : Wd)      : val (170, d + 1, 209, [some (.ref 108)], [], w) = val (170, d + 1, 212, [some (.ref 108)], [.int 6, .ref 108], w) := by
  refine (val_g (c2 := (170, d + 1, 210, [some (.ref 108)], [.ref 108], w)) rfl).trans ?_
  refine (val_g (c2 := (170, d + 1, 212, [some (.ref 108)], [.int 6, .ref 108], w)) rfl).trans ?_
  rfl
theorem tr_170_217 (d : Nat) (w : Wd)      : val (170, d + 1, 217, [some (.ref 108)], [], w) = val (170, d + 1, 221, [some (.ref 108)], [.int 5040, .ref 108], w) := by
  refine (val_g (c2 := (170, d + 1, 218, [some (.ref 108)], [.ref 108], w)) rfl).trans ?_
  refine (val_g (c2 := (170, d + 1, 221, [some (.ref 108)], [.int 5040, .ref 108], w)) rfl).trans ?_
  rfl
theorem tr_170_226 (d : Nat) (w : Wd)      : val (170, d + 1, 226, [some (.ref 108)], [], w) = val (170, d + 1, 230, [some (.ref 108)], [.int 5040, .ref 108], w) := by
  refine (val_g (c2 := (170, d + 1, 227, [some (.ref 108)], [.ref 108], w)) rfl).trans ?_
  refine (val_g (c2 := (170, d + 1, 230, [some (.ref 108)], [.int 5040, .ref 108], w)) rfl).trans ?_
  rfl
theorem tr_170_235 (d : Nat) (w : Wd)      : val (170, d + 1, 235, [some (.ref 108)], [], w) = val (170, d + 1, 239, [some (.ref 108)], [.int 10001, .ref 108], w) := by
  refine (val_g (c2 := (170, d + 1, 236, [some (.ref 108)], [.ref 108], w)) rfl).trans ?_
  refine (val_g (c2 := (170, d + 1, 239, [some (.ref 108)], [.int 10001, .ref 108], w)) rfl).trans ?_
  rfl
theorem tr_170_244 (d : Nat) (w : Wd)      : val (170, d + 1, 244, [some (.ref 108)], [], w) = val (170, d + 1, 247, [some (.ref 108)], [.int 100, .ref 108], w) := by
  refine (val_g (c2 := (170, d + 1, 245, [some (.ref 108)], [.ref 108], w)) rfl).trans ?_
  refine (val_g (c2 := (170, d + 1, 247, [some (.ref 108)], [.int 100, .ref 108], w)) rfl).trans ?_
  rfl
theorem tr_170_252 (d : Nat) (w : Wd)      : val (170, d + 1, 252, [some (.ref 108)], [], w) = val (170, d + 1, 255, [some (.ref 108)], [.int 9, .ref 108], w) := by
  refine (val_g (c2 := (170, d + 1, 253, [some (.ref 108)], [.ref 108], w)) rfl).trans ?_
  refine (val_g (c2 := (170, d + 1, 255, [some (.ref 108)], [.int 9, .ref 108], w)) rfl).trans ?_
  rfl
theorem tr_170_260 (d : Nat) (w : Wd)      : val (170, d + 1, 260, [some (.ref 108)], [], w) = val (170, d + 1, 263, [some (.ref 108)], [.int 9, .ref 108], w) := by
  refine (val_g (c2 := (170, d + 1, 261, [some (.ref 108)], [.ref 108], w)) rfl).trans ?_
  refine (val_g (c2 := (170, d + 1, 263, [some (.ref 108)], [.int 9, .ref 108], w)) rfl).trans ?_
  rfl
theorem tr_170_268 (d : Nat) (w : Wd)      : val (170, d + 1, 268, [some (.ref 108)], [], w) = val (170, d + 1, 271, [some (.ref 108)], [.int 9, .ref 108], w) := by
  refine (val_g (c2 := (170, d + 1, 269, [some (.ref 108)], [.ref 108], w)) rfl).trans ?_
  refine (val_g (c2 := (170, d + 1, 271, [some (.ref 108)], [.int 9, .ref 108], w)) rfl).trans ?_
  rfl
theorem tr_170_276 (d : Nat) (w : Wd)      : val (170, d + 1, 276, [some (.ref 108)], [], w) = val (170, d + 1, 280, [some (.ref 108)], [.int 3600, .ref 108], w) := by
  refine (val_g (c2 := (170, d + 1, 277, [some (.ref 108)], [.ref 108], w)) rfl).trans ?_
  refine (val_g (c2 := (170, d + 1, 280, [some (.ref 108)], [.int 3600, .ref 108], w)) rfl).trans ?_
  rfl
theorem tr_170_285 (d : Nat) (w : Wd)      : val (170, d + 1, 285, [some (.ref 108)], [], w) = val (170, d + 1, 289, [some (.ref 108)], [.int 300, .ref 108], w) := by
  refine (val_g (c2 := (170, d + 1, 286, [some (.ref 108)], [.ref 108], w)) rfl).trans ?_
  refine (val_g (c2 := (170, d + 1, 289, [some (.ref 108)], [.int 300, .ref 108], w)) rfl).trans ?_
  rfl
theorem tr_170_294 (d : Nat) (w : Wd)      : val (170, d + 1, 294, [some (.ref 108)], [], w) = val (170, d + 1, 298, [some (.ref 108)], [.int 300, .ref 108], w) := by
  refine (val_g (c2 := (170, d + 1, 295, [some (.ref 108)], [.ref 108], w)) rfl).trans ?_
  refine (val_g (c2 := (170, d + 1, 298, [some (.ref 108)], [.int 300, .ref 108], w)) rfl).trans ?_
  rfl
theorem tr_170_303 (d : Nat) (w : Wd)      : val (170, d + 1, 303, [some (.ref 108)], [], w) = val (170, d + 1, 307, [some (.ref 108)], [.int 300, .ref 108], w) := by
  refine (val_g (c2 := (170, d + 1, 304, [some (.ref 108)], [.ref 108], w)) rfl).trans ?_
  refine (val_g (c2 := (170, d + 1, 307, [some (.ref 108)], [.int 300, .ref 108], w)) rfl).trans ?_
  rfl
theorem tr_170_312 (d : Nat) (w : Wd)      : val (170, d + 1, 312, [some (.ref 108)], [], w) = val (170, d + 1, 316, [some (.ref 108)], [.int 400, .ref 108], w) := by
  refine (val_g (c2 := (170, d + 1, 313, [some (.ref 108)], [.ref 108], w)) rfl).trans ?_
  refine (val_g (c2 := (170, d + 1, 316, [some (.ref 108)], [.int 400, .ref 108], w)) rfl).trans ?_
  rfl
theorem tr_170_321 (d : Nat) (w : Wd)      : val (170, d + 1, 321, [some (.ref 108)], [], w) = val (170, d + 1, 324, [some (.ref 108)], [.int 8, .ref 108], w) := by
  refine (val_g (c2 := (170, d + 1, 322, [some (.ref 108)], [.ref 108], w)) rfl).trans ?_
  refine (val_g (c2 := (170, d + 1, 324, [some (.ref 108)], [.int 8, .ref 108], w)) rfl).trans ?_
  rfl
theorem tr_170_329 (d : Nat) (w : Wd)      : val (170, d + 1, 329, [some (.ref 108)], [], w) = val (170, d + 1, 332, [some (.ref 108)], [.int 8, .ref 108], w) := by
  refine (val_g (c2 := (170, d + 1, 330, [some (.ref 108)], [.ref 108], w)) rfl).trans ?_
  refine (val_g (c2 := (170, d + 1, 332, [some (.ref 108)], [.int 8, .ref 108], w)) rfl).trans ?_
  rfl
theorem tr_170_337 (d : Nat) (w : Wd)      : val (170, d + 1, 337, [some (.ref 108)], [], w) = val (170, d + 1, 341, [some (.ref 108)], [.int 512, .ref 108], w) := by
  refine (val_g (c2 := (170, d + 1, 338, [some (.ref 108)], [.ref 108], w)) rfl).trans ?_
  refine (val_g (c2 := (170, d + 1, 341, [some (.ref 108)], [.int 512, .ref 108], w)) rfl).trans ?_
  rfl
theorem tr_170_346 (d : Nat) (w : Wd)      : val (170, d + 1, 346, [some (.ref 108)], [], w) = val (170, d + 1, 350, [some (.ref 108)], [.int 512, .ref 108], w) := by
  refine (val_g (c2 := (170, d + 1, 347, [some (.ref 108)], [.ref 108], w)) rfl).trans ?_
  refine (val_g (c2 := (170, d + 1, 350, [some (.ref 108)], [.int 512, .ref 108], w)) rfl).trans ?_
  rfl
theorem tr_170_355 (d : Nat) (w : Wd)      : val (170, d + 1, 355, [some (.ref 108)], [], w) = val (170, d + 1, 358, [some (.ref 108)], [.int 64, .ref 108], w) := by
  refine (val_g (c2 := (170, d + 1, 356, [some (.ref 108)], [.ref 108], w)) rfl).trans ?_
  refine (val_g (c2 := (170, d + 1, 358, [some (.ref 108)], [.int 64, .ref 108], w)) rfl).trans ?_
  rfl
theorem tr_170_363 (d : Nat) (w : Wd)      : val (170, d + 1, 363, [some (.ref 108)], [], w) = val (170, d + 1, 366, [some (.ref 108)], [.int 64, .ref 108], w) := by
  refine (val_g (c2 := (170, d + 1, 364, [some (.ref 108)], [.ref 108], w)) rfl).trans ?_
  refine (val_g (c2 := (170, d + 1, 366, [some (.ref 108)], [.int 64, .ref 108], w)) rfl).trans ?_
  rfl
theorem tr_170_371 (d : Nat) (w : Wd)      : val (170, d + 1, 371, [some (.ref 108)], [], w) = val (170, d + 1, 372, [some (.ref 108)], [.ref 108], w) := by
  refine (val_g (c2 := (170, d + 1, 372, [some (.ref 108)], [.ref 108], w)) rfl).trans ?_
  rfl
theorem tr_170_375 (d : Nat) (w : Wd)      : val (170, d + 1, 375, [some (.ref 108)], [], w) = some (none, w) := by
  exact val_r rfl
/-- BelfryHouseModel.into([II)Z -/
theorem tr_171 (d : Nat) (w : Wd) (hW : Fix w) (p0 : Nat) (x1 : Int32)     : val (171, d, 0, [some (.ref 108), some (.ref p0), some (.int x1), none, none, none], [], w) = val (171, d, 11, [some (.ref 108), some (.ref p0), some (.int x1), some (.int x1), some (.int 0), some (.int (gI w 108 0))], [], w) := by
  refine (val_g (c2 := (171, d, 1, [some (.ref 108), some (.ref p0), some (.int x1), none, none, none], [.int x1], w)) rfl).trans ?_
  refine (val_g (c2 := (171, d, 2, [some (.ref 108), some (.ref p0), some (.int x1), some (.int x1), none, none], [], w)) rfl).trans ?_
  refine (val_g (c2 := (171, d, 3, [some (.ref 108), some (.ref p0), some (.int x1), some (.int x1), none, none], [.int 0], w)) rfl).trans ?_
  refine (val_g (c2 := (171, d, 5, [some (.ref 108), some (.ref p0), some (.int x1), some (.int x1), some (.int 0), none], [], w)) rfl).trans ?_
  refine (val_g (c2 := (171, d, 6, [some (.ref 108), some (.ref p0), some (.int x1), some (.int x1), some (.int 0), none], [.ref 108], w)) rfl).trans ?_
  refine (val_gf rfl (hW.k 108 (Nat.le_of_ble_eq_true rfl) (Nat.le_of_ble_eq_true rfl)) rfl).trans ?_
  show val (171, d, 9, [some (.ref 108), some (.ref p0), some (.int x1), some (.int x1), some (.int 0), none], [.int (gI w 108 0)], w) = _
  refine (val_g (c2 := (171, d, 11, [some (.ref 108), some (.ref p0), some (.int x1), some (.int x1), some (.int 0), some (.int (gI w 108 0))], [], w)) rfl).trans ?_
  rfl
theorem tr_171_11 (d : Nat) (w : Wd) (hW : Fix w) (l1 : Nat) (l2 : Int32) (l3 : Int32) (l4 : Int32) (l5 : Int32)    (m_l1 : Nat) (hk_l1 : wK w l1 = (20, m_l1)) (hy3 : (¬ (l5 ≤ 0)) → inB l5 m_l1 = true) (hy4 : (¬ (l5 ≤ 0)) → (¬ ((gI ((sI w l1 (l5).toNatClampNeg ((l3 - l3 / 10 * 10)))) l1 (l5).toNatClampNeg) < 1)) → inB l5 m_l1 = true) (hy5 : (¬ (l5 ≤ 0)) → (¬ ((gI ((sI w l1 (l5).toNatClampNeg ((l3 - l3 / 10 * 10)))) l1 (l5).toNatClampNeg) < 1)) → (¬ ((gI ((sI w l1 (l5).toNatClampNeg ((l3 - l3 / 10 * 10)))) 108 0) < (gI ((sI w l1 (l5).toNatClampNeg ((l3 - l3 / 10 * 10)))) l1 (l5).toNatClampNeg))) → inB l5 m_l1 = true) (hy6 : (¬ (l5 ≤ 0)) → (¬ ((gI ((sI w l1 (l5).toNatClampNeg ((l3 - l3 / 10 * 10)))) l1 (l5).toNatClampNeg) < 1)) → (¬ ((gI ((sI w l1 (l5).toNatClampNeg ((l3 - l3 / 10 * 10)))) 108 0) < (gI ((sI w l1 (l5).toNatClampNeg ((l3 - l3 / 10 * 10)))) l1 (l5).toNatClampNeg))) → (¬ ((l4 >>> ((gI ((sI w l1 (l5).toNatClampNeg ((l3 - l3 / 10 * 10)))) l1 (l5).toNatClampNeg) &&& 31)) &&& 1) = 1) → inB l5 m_l1 = true) : val (171, d, 11, [some (.ref 108), some (.ref l1), some (.int l2), some (.int l3), some (.int l4), some (.int l5)], [], w) = (if l5 ≤ 0 then (if ¬ l3 = 0 then some (some (.int 0), w) else (if l2 ≤ 0 then some (some (.int 0), w) else some (some (.int 1), w))) else (if (gI ((sI w l1 (l5).toNatClampNeg ((l3 - l3 / 10 * 10)))) l1 (l5).toNatClampNeg) < 1 then some (some (.int 0), (sI w l1 (l5).toNatClampNeg ((l3 - l3 / 10 * 10)))) else (if (gI ((sI w l1 (l5).toNatClampNeg ((l3 - l3 / 10 * 10)))) 108 0) < (gI ((sI w l1 (l5).toNatClampNeg ((l3 - l3 / 10 * 10)))) l1 (l5).toNatClampNeg) then some (some (.int 0), (sI w l1 (l5).toNatClampNeg ((l3 - l3 / 10 * 10)))) else (if ¬ ((l4 >>> ((gI ((sI w l1 (l5).toNatClampNeg ((l3 - l3 / 10 * 10)))) l1 (l5).toNatClampNeg) &&& 31)) &&& 1) = 1 then val (171, d, 11, [some (.ref 108), some (.ref l1), some (.int l2), some (.int (l3 / 10)), some (.int (l4 ||| (1 <<< ((gI ((sI w l1 (l5).toNatClampNeg ((l3 - l3 / 10 * 10)))) l1 (l5).toNatClampNeg) &&& 31)))), some (.int (l5 + (-1)))], [], (sI w l1 (l5).toNatClampNeg ((l3 - l3 / 10 * 10)))) else some (some (.int 0), (sI w l1 (l5).toNatClampNeg ((l3 - l3 / 10 * 10)))))))) := by
  refine (val_g (c2 := (171, d, 13, [some (.ref 108), some (.ref l1), some (.int l2), some (.int l3), some (.int l4), some (.int l5)], [.int l5], w)) rfl).trans ?_
  by_cases hc881 : l5 ≤ 0
  · refine ((val_if_le rfl).trans (if_pos hc881)).trans ?_
    show val (171, d, 80, [some (.ref 108), some (.ref l1), some (.int l2), some (.int l3), some (.int l4), some (.int l5)], [], w) = _
    refine Eq.trans ?_ (if_pos hc881).symm
    refine (val_g (c2 := (171, d, 81, [some (.ref 108), some (.ref l1), some (.int l2), some (.int l3), some (.int l4), some (.int l5)], [.int l3], w)) rfl).trans ?_
    by_cases hc882 : ¬ l3 = 0
    · refine ((val_if_ne rfl).trans (if_pos hc882)).trans ?_
      show val (171, d, 92, [some (.ref 108), some (.ref l1), some (.int l2), some (.int l3), some (.int l4), some (.int l5)], [], w) = _
      refine Eq.trans ?_ (if_pos hc882).symm
      refine (val_g (c2 := (171, d, 93, [some (.ref 108), some (.ref l1), some (.int l2), some (.int l3), some (.int l4), some (.int l5)], [.int 0], w)) rfl).trans ?_
      exact val_r rfl
    · refine ((val_if_ne rfl).trans (if_neg hc882)).trans ?_
      show val (171, d, 84, [some (.ref 108), some (.ref l1), some (.int l2), some (.int l3), some (.int l4), some (.int l5)], [], w) = _
      refine Eq.trans ?_ (if_neg hc882).symm
      refine (val_g (c2 := (171, d, 85, [some (.ref 108), some (.ref l1), some (.int l2), some (.int l3), some (.int l4), some (.int l5)], [.int l2], w)) rfl).trans ?_
      by_cases hc883 : l2 ≤ 0
      · refine ((val_if_le rfl).trans (if_pos hc883)).trans ?_
        show val (171, d, 92, [some (.ref 108), some (.ref l1), some (.int l2), some (.int l3), some (.int l4), some (.int l5)], [], w) = _
        refine Eq.trans ?_ (if_pos hc883).symm
        refine (val_g (c2 := (171, d, 93, [some (.ref 108), some (.ref l1), some (.int l2), some (.int l3), some (.int l4), some (.int l5)], [.int 0], w)) rfl).trans ?_
        exact val_r rfl
      · refine ((val_if_le rfl).trans (if_neg hc883)).trans ?_
        show val (171, d, 88, [some (.ref 108), some (.ref l1), some (.int l2), some (.int l3), some (.int l4), some (.int l5)], [], w) = _
        refine Eq.trans ?_ (if_neg hc883).symm
        refine (val_g (c2 := (171, d, 89, [some (.ref 108), some (.ref l1), some (.int l2), some (.int l3), some (.int l4), some (.int l5)], [.int 1], w)) rfl).trans ?_
        refine (val_g (c2 := (171, d, 93, [some (.ref 108), some (.ref l1), some (.int l2), some (.int l3), some (.int l4), some (.int l5)], [.int 1], w)) rfl).trans ?_
        exact val_r rfl
  · refine ((val_if_le rfl).trans (if_neg hc881)).trans ?_
    show val (171, d, 16, [some (.ref 108), some (.ref l1), some (.int l2), some (.int l3), some (.int l4), some (.int l5)], [], w) = _
    refine Eq.trans ?_ (if_neg hc881).symm
    refine (val_g (c2 := (171, d, 17, [some (.ref 108), some (.ref l1), some (.int l2), some (.int l3), some (.int l4), some (.int l5)], [.ref l1], w)) rfl).trans ?_
    refine (val_g (c2 := (171, d, 19, [some (.ref 108), some (.ref l1), some (.int l2), some (.int l3), some (.int l4), some (.int l5)], [.int l5, .ref l1], w)) rfl).trans ?_
    refine (val_g (c2 := (171, d, 20, [some (.ref 108), some (.ref l1), some (.int l2), some (.int l3), some (.int l4), some (.int l5)], [.int l3, .int l5, .ref l1], w)) rfl).trans ?_
    refine (val_g (c2 := (171, d, 22, [some (.ref 108), some (.ref l1), some (.int l2), some (.int l3), some (.int l4), some (.int l5)], [.int 10, .int l3, .int l5, .ref l1], w)) rfl).trans ?_
    refine (val_irem rfl (by decide)).trans ?_
    show val (171, d, 23, [some (.ref 108), some (.ref l1), some (.int l2), some (.int l3), some (.int l4), some (.int l5)], [.int (l3 - l3 / 10 * 10), .int l5, .ref l1], w) = _
    refine (val_ias rfl hk_l1 (hy3 hc881)).trans ?_
    show val (171, d, 24, [some (.ref 108), some (.ref l1), some (.int l2), some (.int l3), some (.int l4), some (.int l5)], [], (sI w l1 (l5).toNatClampNeg ((l3 - l3 / 10 * 10)))) = _
    refine (val_g (c2 := (171, d, 25, [some (.ref 108), some (.ref l1), some (.int l2), some (.int l3), some (.int l4), some (.int l5)], [.int l3], (sI w l1 (l5).toNatClampNeg ((l3 - l3 / 10 * 10))))) rfl).trans ?_
    refine (val_g (c2 := (171, d, 27, [some (.ref 108), some (.ref l1), some (.int l2), some (.int l3), some (.int l4), some (.int l5)], [.int 10, .int l3], (sI w l1 (l5).toNatClampNeg ((l3 - l3 / 10 * 10))))) rfl).trans ?_
    refine (val_idiv rfl (by decide)).trans ?_
    show val (171, d, 28, [some (.ref 108), some (.ref l1), some (.int l2), some (.int l3), some (.int l4), some (.int l5)], [.int (l3 / 10)], (sI w l1 (l5).toNatClampNeg ((l3 - l3 / 10 * 10)))) = _
    refine (val_g (c2 := (171, d, 29, [some (.ref 108), some (.ref l1), some (.int l2), some (.int (l3 / 10)), some (.int l4), some (.int l5)], [], (sI w l1 (l5).toNatClampNeg ((l3 - l3 / 10 * 10))))) rfl).trans ?_
    refine (val_g (c2 := (171, d, 30, [some (.ref 108), some (.ref l1), some (.int l2), some (.int (l3 / 10)), some (.int l4), some (.int l5)], [.ref l1], (sI w l1 (l5).toNatClampNeg ((l3 - l3 / 10 * 10))))) rfl).trans ?_
    refine (val_g (c2 := (171, d, 32, [some (.ref 108), some (.ref l1), some (.int l2), some (.int (l3 / 10)), some (.int l4), some (.int l5)], [.int l5, .ref l1], (sI w l1 (l5).toNatClampNeg ((l3 - l3 / 10 * 10))))) rfl).trans ?_
    refine (val_ial (w := (sI w l1 (l5).toNatClampNeg ((l3 - l3 / 10 * 10)))) rfl hk_l1 rfl (hy3 hc881)).trans ?_
    show val (171, d, 33, [some (.ref 108), some (.ref l1), some (.int l2), some (.int (l3 / 10)), some (.int l4), some (.int l5)], [.int (gI ((sI w l1 (l5).toNatClampNeg ((l3 - l3 / 10 * 10)))) l1 (l5).toNatClampNeg)], (sI w l1 (l5).toNatClampNeg ((l3 - l3 / 10 * 10)))) = _
    refine (val_g (c2 := (171, d, 34, [some (.ref 108), some (.ref l1), some (.int l2), some (.int (l3 / 10)), some (.int l4), some (.int l5)], [.int 1, .int (gI ((sI w l1 (l5).toNatClampNeg ((l3 - l3 / 10 * 10)))) l1 (l5).toNatClampNeg)], (sI w l1 (l5).toNatClampNeg ((l3 - l3 / 10 * 10))))) rfl).trans ?_
    by_cases hc884 : (gI ((sI w l1 (l5).toNatClampNeg ((l3 - l3 / 10 * 10)))) l1 (l5).toNatClampNeg) < 1
    · refine ((val_ic_lt rfl).trans (if_pos hc884)).trans ?_
      show val (171, d, 61, [some (.ref 108), some (.ref l1), some (.int l2), some (.int (l3 / 10)), some (.int l4), some (.int l5)], [], (sI w l1 (l5).toNatClampNeg ((l3 - l3 / 10 * 10)))) = _
      refine Eq.trans ?_ (if_pos hc884).symm
      refine (val_g (c2 := (171, d, 62, [some (.ref 108), some (.ref l1), some (.int l2), some (.int (l3 / 10)), some (.int l4), some (.int l5)], [.int 0], (sI w l1 (l5).toNatClampNeg ((l3 - l3 / 10 * 10))))) rfl).trans ?_
      exact val_r rfl
    · refine ((val_ic_lt rfl).trans (if_neg hc884)).trans ?_
      show val (171, d, 37, [some (.ref 108), some (.ref l1), some (.int l2), some (.int (l3 / 10)), some (.int l4), some (.int l5)], [], (sI w l1 (l5).toNatClampNeg ((l3 - l3 / 10 * 10)))) = _
      refine Eq.trans ?_ (if_neg hc884).symm
      refine (val_g (c2 := (171, d, 38, [some (.ref 108), some (.ref l1), some (.int l2), some (.int (l3 / 10)), some (.int l4), some (.int l5)], [.ref l1], (sI w l1 (l5).toNatClampNeg ((l3 - l3 / 10 * 10))))) rfl).trans ?_
      refine (val_g (c2 := (171, d, 40, [some (.ref 108), some (.ref l1), some (.int l2), some (.int (l3 / 10)), some (.int l4), some (.int l5)], [.int l5, .ref l1], (sI w l1 (l5).toNatClampNeg ((l3 - l3 / 10 * 10))))) rfl).trans ?_
      refine (val_ial (w := (sI w l1 (l5).toNatClampNeg ((l3 - l3 / 10 * 10)))) rfl hk_l1 rfl (hy4 hc881 hc884)).trans ?_
      show val (171, d, 41, [some (.ref 108), some (.ref l1), some (.int l2), some (.int (l3 / 10)), some (.int l4), some (.int l5)], [.int (gI ((sI w l1 (l5).toNatClampNeg ((l3 - l3 / 10 * 10)))) l1 (l5).toNatClampNeg)], (sI w l1 (l5).toNatClampNeg ((l3 - l3 / 10 * 10)))) = _
      refine (val_g (c2 := (171, d, 42, [some (.ref 108), some (.ref l1), some (.int l2), some (.int (l3 / 10)), some (.int l4), some (.int l5)], [.ref 108, .int (gI ((sI w l1 (l5).toNatClampNeg ((l3 - l3 / 10 * 10)))) l1 (l5).toNatClampNeg)], (sI w l1 (l5).toNatClampNeg ((l3 - l3 / 10 * 10))))) rfl).trans ?_
      refine (val_gf (w := (sI w l1 (l5).toNatClampNeg ((l3 - l3 / 10 * 10)))) rfl (hW.k 108 (Nat.le_of_ble_eq_true rfl) (Nat.le_of_ble_eq_true rfl)) rfl).trans ?_
      show val (171, d, 45, [some (.ref 108), some (.ref l1), some (.int l2), some (.int (l3 / 10)), some (.int l4), some (.int l5)], [.int (gI ((sI w l1 (l5).toNatClampNeg ((l3 - l3 / 10 * 10)))) 108 0), .int (gI ((sI w l1 (l5).toNatClampNeg ((l3 - l3 / 10 * 10)))) l1 (l5).toNatClampNeg)], (sI w l1 (l5).toNatClampNeg ((l3 - l3 / 10 * 10)))) = _
      by_cases hc885 : (gI ((sI w l1 (l5).toNatClampNeg ((l3 - l3 / 10 * 10)))) 108 0) < (gI ((sI w l1 (l5).toNatClampNeg ((l3 - l3 / 10 * 10)))) l1 (l5).toNatClampNeg)
      · refine ((val_ic_gt rfl).trans (if_pos hc885)).trans ?_
        show val (171, d, 61, [some (.ref 108), some (.ref l1), some (.int l2), some (.int (l3 / 10)), some (.int l4), some (.int l5)], [], (sI w l1 (l5).toNatClampNeg ((l3 - l3 / 10 * 10)))) = _
        refine Eq.trans ?_ (if_pos hc885).symm
        refine (val_g (c2 := (171, d, 62, [some (.ref 108), some (.ref l1), some (.int l2), some (.int (l3 / 10)), some (.int l4), some (.int l5)], [.int 0], (sI w l1 (l5).toNatClampNeg ((l3 - l3 / 10 * 10))))) rfl).trans ?_
        exact val_r rfl
      · refine ((val_ic_gt rfl).trans (if_neg hc885)).trans ?_
        show val (171, d, 48, [some (.ref 108), some (.ref l1), some (.int l2), some (.int (l3 / 10)), some (.int l4), some (.int l5)], [], (sI w l1 (l5).toNatClampNeg ((l3 - l3 / 10 * 10)))) = _
        refine Eq.trans ?_ (if_neg hc885).symm
        refine (val_g (c2 := (171, d, 50, [some (.ref 108), some (.ref l1), some (.int l2), some (.int (l3 / 10)), some (.int l4), some (.int l5)], [.int l4], (sI w l1 (l5).toNatClampNeg ((l3 - l3 / 10 * 10))))) rfl).trans ?_
        refine (val_g (c2 := (171, d, 51, [some (.ref 108), some (.ref l1), some (.int l2), some (.int (l3 / 10)), some (.int l4), some (.int l5)], [.ref l1, .int l4], (sI w l1 (l5).toNatClampNeg ((l3 - l3 / 10 * 10))))) rfl).trans ?_
        refine (val_g (c2 := (171, d, 53, [some (.ref 108), some (.ref l1), some (.int l2), some (.int (l3 / 10)), some (.int l4), some (.int l5)], [.int l5, .ref l1, .int l4], (sI w l1 (l5).toNatClampNeg ((l3 - l3 / 10 * 10))))) rfl).trans ?_
        refine (val_ial (w := (sI w l1 (l5).toNatClampNeg ((l3 - l3 / 10 * 10)))) rfl hk_l1 rfl (hy5 hc881 hc884 hc885)).trans ?_
        show val (171, d, 54, [some (.ref 108), some (.ref l1), some (.int l2), some (.int (l3 / 10)), some (.int l4), some (.int l5)], [.int (gI ((sI w l1 (l5).toNatClampNeg ((l3 - l3 / 10 * 10)))) l1 (l5).toNatClampNeg), .int l4], (sI w l1 (l5).toNatClampNeg ((l3 - l3 / 10 * 10)))) = _
        refine (val_g (c2 := (171, d, 55, [some (.ref 108), some (.ref l1), some (.int l2), some (.int (l3 / 10)), some (.int l4), some (.int l5)], [.int (l4 >>> ((gI ((sI w l1 (l5).toNatClampNeg ((l3 - l3 / 10 * 10)))) l1 (l5).toNatClampNeg) &&& 31))], (sI w l1 (l5).toNatClampNeg ((l3 - l3 / 10 * 10))))) rfl).trans ?_
        refine (val_g (c2 := (171, d, 56, [some (.ref 108), some (.ref l1), some (.int l2), some (.int (l3 / 10)), some (.int l4), some (.int l5)], [.int 1, .int (l4 >>> ((gI ((sI w l1 (l5).toNatClampNeg ((l3 - l3 / 10 * 10)))) l1 (l5).toNatClampNeg) &&& 31))], (sI w l1 (l5).toNatClampNeg ((l3 - l3 / 10 * 10))))) rfl).trans ?_
        refine (val_g (c2 := (171, d, 57, [some (.ref 108), some (.ref l1), some (.int l2), some (.int (l3 / 10)), some (.int l4), some (.int l5)], [.int ((l4 >>> ((gI ((sI w l1 (l5).toNatClampNeg ((l3 - l3 / 10 * 10)))) l1 (l5).toNatClampNeg) &&& 31)) &&& 1)], (sI w l1 (l5).toNatClampNeg ((l3 - l3 / 10 * 10))))) rfl).trans ?_
        refine (val_g (c2 := (171, d, 58, [some (.ref 108), some (.ref l1), some (.int l2), some (.int (l3 / 10)), some (.int l4), some (.int l5)], [.int 1, .int ((l4 >>> ((gI ((sI w l1 (l5).toNatClampNeg ((l3 - l3 / 10 * 10)))) l1 (l5).toNatClampNeg) &&& 31)) &&& 1)], (sI w l1 (l5).toNatClampNeg ((l3 - l3 / 10 * 10))))) rfl).trans ?_
        by_cases hc886 : ¬ ((l4 >>> ((gI ((sI w l1 (l5).toNatClampNeg ((l3 - l3 / 10 * 10)))) l1 (l5).toNatClampNeg) &&& 31)) &&& 1) = 1
        · refine ((val_ic_ne rfl).trans (if_pos hc886)).trans ?_
          show val (171, d, 63, [some (.ref 108), some (.ref l1), some (.int l2), some (.int (l3 / 10)), some (.int l4), some (.int l5)], [], (sI w l1 (l5).toNatClampNeg ((l3 - l3 / 10 * 10)))) = _
          refine Eq.trans ?_ (if_pos hc886).symm
          refine (val_g (c2 := (171, d, 65, [some (.ref 108), some (.ref l1), some (.int l2), some (.int (l3 / 10)), some (.int l4), some (.int l5)], [.int l4], (sI w l1 (l5).toNatClampNeg ((l3 - l3 / 10 * 10))))) rfl).trans ?_
          refine (val_g (c2 := (171, d, 66, [some (.ref 108), some (.ref l1), some (.int l2), some (.int (l3 / 10)), some (.int l4), some (.int l5)], [.int 1, .int l4], (sI w l1 (l5).toNatClampNeg ((l3 - l3 / 10 * 10))))) rfl).trans ?_
          refine (val_g (c2 := (171, d, 67, [some (.ref 108), some (.ref l1), some (.int l2), some (.int (l3 / 10)), some (.int l4), some (.int l5)], [.ref l1, .int 1, .int l4], (sI w l1 (l5).toNatClampNeg ((l3 - l3 / 10 * 10))))) rfl).trans ?_
          refine (val_g (c2 := (171, d, 69, [some (.ref 108), some (.ref l1), some (.int l2), some (.int (l3 / 10)), some (.int l4), some (.int l5)], [.int l5, .ref l1, .int 1, .int l4], (sI w l1 (l5).toNatClampNeg ((l3 - l3 / 10 * 10))))) rfl).trans ?_
          refine (val_ial (w := (sI w l1 (l5).toNatClampNeg ((l3 - l3 / 10 * 10)))) rfl hk_l1 rfl (hy6 hc881 hc884 hc885 hc886)).trans ?_
          show val (171, d, 70, [some (.ref 108), some (.ref l1), some (.int l2), some (.int (l3 / 10)), some (.int l4), some (.int l5)], [.int (gI ((sI w l1 (l5).toNatClampNeg ((l3 - l3 / 10 * 10)))) l1 (l5).toNatClampNeg), .int 1, .int l4], (sI w l1 (l5).toNatClampNeg ((l3 - l3 / 10 * 10)))) = _
          refine (val_g (c2 := (171, d, 71, [some (.ref 108), some (.ref l1), some (.int l2), some (.int (l3 / 10)), some (.int l4), some (.int l5)], [.int (1 <<< ((gI ((sI w l1 (l5).toNatClampNeg ((l3 - l3 / 10 * 10)))) l1 (l5).toNatClampNeg) &&& 31)), .int l4], (sI w l1 (l5).toNatClampNeg ((l3 - l3 / 10 * 10))))) rfl).trans ?_
          refine (val_g (c2 := (171, d, 72, [some (.ref 108), some (.ref l1), some (.int l2), some (.int (l3 / 10)), some (.int l4), some (.int l5)], [.int (l4 ||| (1 <<< ((gI ((sI w l1 (l5).toNatClampNeg ((l3 - l3 / 10 * 10)))) l1 (l5).toNatClampNeg) &&& 31)))], (sI w l1 (l5).toNatClampNeg ((l3 - l3 / 10 * 10))))) rfl).trans ?_
          refine (val_g (c2 := (171, d, 74, [some (.ref 108), some (.ref l1), some (.int l2), some (.int (l3 / 10)), some (.int (l4 ||| (1 <<< ((gI ((sI w l1 (l5).toNatClampNeg ((l3 - l3 / 10 * 10)))) l1 (l5).toNatClampNeg) &&& 31)))), some (.int l5)], [], (sI w l1 (l5).toNatClampNeg ((l3 - l3 / 10 * 10))))) rfl).trans ?_
          refine (val_g (c2 := (171, d, 77, [some (.ref 108), some (.ref l1), some (.int l2), some (.int (l3 / 10)), some (.int (l4 ||| (1 <<< ((gI ((sI w l1 (l5).toNatClampNeg ((l3 - l3 / 10 * 10)))) l1 (l5).toNatClampNeg) &&& 31)))), some (.int (l5 + (-1)))], [], (sI w l1 (l5).toNatClampNeg ((l3 - l3 / 10 * 10))))) rfl).trans ?_
          refine (val_g (c2 := (171, d, 11, [some (.ref 108), some (.ref l1), some (.int l2), some (.int (l3 / 10)), some (.int (l4 ||| (1 <<< ((gI ((sI w l1 (l5).toNatClampNeg ((l3 - l3 / 10 * 10)))) l1 (l5).toNatClampNeg) &&& 31)))), some (.int (l5 + (-1)))], [], (sI w l1 (l5).toNatClampNeg ((l3 - l3 / 10 * 10))))) rfl).trans ?_
          rfl
        · refine ((val_ic_ne rfl).trans (if_neg hc886)).trans ?_
          show val (171, d, 61, [some (.ref 108), some (.ref l1), some (.int l2), some (.int (l3 / 10)), some (.int l4), some (.int l5)], [], (sI w l1 (l5).toNatClampNeg ((l3 - l3 / 10 * 10)))) = _
          refine Eq.trans ?_ (if_neg hc886).symm
          refine (val_g (c2 := (171, d, 62, [some (.ref 108), some (.ref l1), some (.int l2), some (.int (l3 / 10)), some (.int l4), some (.int l5)], [.int 0], (sI w l1 (l5).toNatClampNeg ((l3 - l3 / 10 * 10))))) rfl).trans ?_
          exact val_r rfl
/-- BelfryHouseModel.asRow([I)I -/
theorem tr_172 (d : Nat) (w : Wd) (p0 : Nat)     : val (172, d, 0, [some (.ref 108), some (.ref p0), none, none], [], w) = val (172, d, 4, [some (.ref 108), some (.ref p0), some (.int 0), some (.int 1)], [], w) := by
  refine (val_g (c2 := (172, d, 1, [some (.ref 108), some (.ref p0), none, none], [.int 0], w)) rfl).trans ?_
  refine (val_g (c2 := (172, d, 2, [some (.ref 108), some (.ref p0), some (.int 0), none], [], w)) rfl).trans ?_
  refine (val_g (c2 := (172, d, 3, [some (.ref 108), some (.ref p0), some (.int 0), none], [.int 1], w)) rfl).trans ?_
  refine (val_g (c2 := (172, d, 4, [some (.ref 108), some (.ref p0), some (.int 0), some (.int 1)], [], w)) rfl).trans ?_
  rfl
theorem tr_172_4 (d : Nat) (w : Wd) (hW : Fix w) (l1 : Nat) (l2 : Int32) (l3 : Int32)    (m_l1 : Nat) (hk_l1 : wK w l1 = (20, m_l1)) (hy3 : (¬ ((gI w 108 0) < l3)) → inB l3 m_l1 = true) : val (172, d, 4, [some (.ref 108), some (.ref l1), some (.int l2), some (.int l3)], [], w) = (if (gI w 108 0) < l3 then some (some (.int l2), w) else val (172, d, 4, [some (.ref 108), some (.ref l1), some (.int ((10 * l2) + (gI w l1 (l3).toNatClampNeg))), some (.int (l3 + 1))], [], w)) := by
  refine (val_g (c2 := (172, d, 5, [some (.ref 108), some (.ref l1), some (.int l2), some (.int l3)], [.int l3], w)) rfl).trans ?_
  refine (val_g (c2 := (172, d, 6, [some (.ref 108), some (.ref l1), some (.int l2), some (.int l3)], [.ref 108, .int l3], w)) rfl).trans ?_
  refine (val_gf rfl (hW.k 108 (Nat.le_of_ble_eq_true rfl) (Nat.le_of_ble_eq_true rfl)) rfl).trans ?_
  show val (172, d, 9, [some (.ref 108), some (.ref l1), some (.int l2), some (.int l3)], [.int (gI w 108 0), .int l3], w) = _
  by_cases hc888 : (gI w 108 0) < l3
  · refine ((val_ic_gt rfl).trans (if_pos hc888)).trans ?_
    show val (172, d, 27, [some (.ref 108), some (.ref l1), some (.int l2), some (.int l3)], [], w) = _
    refine Eq.trans ?_ (if_pos hc888).symm
    refine (val_g (c2 := (172, d, 28, [some (.ref 108), some (.ref l1), some (.int l2), some (.int l3)], [.int l2], w)) rfl).trans ?_
    exact val_r rfl
  · refine ((val_ic_gt rfl).trans (if_neg hc888)).trans ?_
    show val (172, d, 12, [some (.ref 108), some (.ref l1), some (.int l2), some (.int l3)], [], w) = _
    refine Eq.trans ?_ (if_neg hc888).symm
    refine (val_g (c2 := (172, d, 14, [some (.ref 108), some (.ref l1), some (.int l2), some (.int l3)], [.int 10], w)) rfl).trans ?_
    refine (val_g (c2 := (172, d, 15, [some (.ref 108), some (.ref l1), some (.int l2), some (.int l3)], [.int l2, .int 10], w)) rfl).trans ?_
    refine (val_g (c2 := (172, d, 16, [some (.ref 108), some (.ref l1), some (.int l2), some (.int l3)], [.int (10 * l2)], w)) rfl).trans ?_
    refine (val_g (c2 := (172, d, 17, [some (.ref 108), some (.ref l1), some (.int l2), some (.int l3)], [.ref l1, .int (10 * l2)], w)) rfl).trans ?_
    refine (val_g (c2 := (172, d, 18, [some (.ref 108), some (.ref l1), some (.int l2), some (.int l3)], [.int l3, .ref l1, .int (10 * l2)], w)) rfl).trans ?_
    refine (val_ial rfl hk_l1 rfl (hy3 hc888)).trans ?_
    show val (172, d, 19, [some (.ref 108), some (.ref l1), some (.int l2), some (.int l3)], [.int (gI w l1 (l3).toNatClampNeg), .int (10 * l2)], w) = _
    refine (val_g (c2 := (172, d, 20, [some (.ref 108), some (.ref l1), some (.int l2), some (.int l3)], [.int ((10 * l2) + (gI w l1 (l3).toNatClampNeg))], w)) rfl).trans ?_
    refine (val_g (c2 := (172, d, 21, [some (.ref 108), some (.ref l1), some (.int ((10 * l2) + (gI w l1 (l3).toNatClampNeg))), some (.int l3)], [], w)) rfl).trans ?_
    refine (val_g (c2 := (172, d, 24, [some (.ref 108), some (.ref l1), some (.int ((10 * l2) + (gI w l1 (l3).toNatClampNeg))), some (.int (l3 + 1))], [], w)) rfl).trans ?_
    refine (val_g (c2 := (172, d, 4, [some (.ref 108), some (.ref l1), some (.int ((10 * l2) + (gI w l1 (l3).toNatClampNeg))), some (.int (l3 + 1))], [], w)) rfl).trans ?_
    rfl
/-- BelfryHouseModel.rounds()I -/
theorem tr_173 (d : Nat) (w : Wd)      : val (173, d, 0, [some (.ref 108), none, none], [], w) = val (173, d, 4, [some (.ref 108), some (.int 0), some (.int 1)], [], w) := by
  refine (val_g (c2 := (173, d, 1, [some (.ref 108), none, none], [.int 0], w)) rfl).trans ?_
  refine (val_g (c2 := (173, d, 2, [some (.ref 108), some (.int 0), none], [], w)) rfl).trans ?_
  refine (val_g (c2 := (173, d, 3, [some (.ref 108), some (.int 0), none], [.int 1], w)) rfl).trans ?_
  refine (val_g (c2 := (173, d, 4, [some (.ref 108), some (.int 0), some (.int 1)], [], w)) rfl).trans ?_
  rfl
theorem tr_173_4 (d : Nat) (w : Wd) (hW : Fix w) (l1 : Int32) (l2 : Int32)     : val (173, d, 4, [some (.ref 108), some (.int l1), some (.int l2)], [], w) = (if (gI w 108 0) < l2 then some (some (.int l1), w) else val (173, d, 4, [some (.ref 108), some (.int ((10 * l1) + l2)), some (.int (l2 + 1))], [], w)) := by
  refine (val_g (c2 := (173, d, 5, [some (.ref 108), some (.int l1), some (.int l2)], [.int l2], w)) rfl).trans ?_
  refine (val_g (c2 := (173, d, 6, [some (.ref 108), some (.int l1), some (.int l2)], [.ref 108, .int l2], w)) rfl).trans ?_
  refine (val_gf rfl (hW.k 108 (Nat.le_of_ble_eq_true rfl) (Nat.le_of_ble_eq_true rfl)) rfl).trans ?_
  show val (173, d, 9, [some (.ref 108), some (.int l1), some (.int l2)], [.int (gI w 108 0), .int l2], w) = _
  by_cases hc890 : (gI w 108 0) < l2
  · refine ((val_ic_gt rfl).trans (if_pos hc890)).trans ?_
    show val (173, d, 25, [some (.ref 108), some (.int l1), some (.int l2)], [], w) = _
    refine Eq.trans ?_ (if_pos hc890).symm
    refine (val_g (c2 := (173, d, 26, [some (.ref 108), some (.int l1), some (.int l2)], [.int l1], w)) rfl).trans ?_
    exact val_r rfl
  · refine ((val_ic_gt rfl).trans (if_neg hc890)).trans ?_
    show val (173, d, 12, [some (.ref 108), some (.int l1), some (.int l2)], [], w) = _
    refine Eq.trans ?_ (if_neg hc890).symm
    refine (val_g (c2 := (173, d, 14, [some (.ref 108), some (.int l1), some (.int l2)], [.int 10], w)) rfl).trans ?_
    refine (val_g (c2 := (173, d, 15, [some (.ref 108), some (.int l1), some (.int l2)], [.int l1, .int 10], w)) rfl).trans ?_
    refine (val_g (c2 := (173, d, 16, [some (.ref 108), some (.int l1), some (.int l2)], [.int (10 * l1)], w)) rfl).trans ?_
    refine (val_g (c2 := (173, d, 17, [some (.ref 108), some (.int l1), some (.int l2)], [.int l2, .int (10 * l1)], w)) rfl).trans ?_
    refine (val_g (c2 := (173, d, 18, [some (.ref 108), some (.int l1), some (.int l2)], [.int ((10 * l1) + l2)], w)) rfl).trans ?_
    refine (val_g (c2 := (173, d, 19, [some (.ref 108), some (.int ((10 * l1) + l2)), some (.int l2)], [], w)) rfl).trans ?_
    refine (val_g (c2 := (173, d, 22, [some (.ref 108), some (.int ((10 * l1) + l2)), some (.int (l2 + 1))], [], w)) rfl).trans ?_
    refine (val_g (c2 := (173, d, 4, [some (.ref 108), some (.int ((10 * l1) + l2)), some (.int (l2 + 1))], [], w)) rfl).trans ?_
    rfl
/-- BelfryHouseModel.times(II)I -/
theorem tr_174 (d : Nat) (w : Wd) (hW : Fix w) (x0 : Int32) (x1 : Int32)     : val (174, d + 1, 0, [some (.ref 108), some (.int x0), some (.int x1), none], [], w) = val (174, d + 1, 6, [some (.ref 108), some (.int x0), some (.int x1), none], [.int x0, .ref 109, .ref 108], w) := by
  refine (val_g (c2 := (174, d + 1, 1, [some (.ref 108), some (.int x0), some (.int x1), none], [.ref 108], w)) rfl).trans ?_
  refine (val_g (c2 := (174, d + 1, 2, [some (.ref 108), some (.int x0), some (.int x1), none], [.ref 108, .ref 108], w)) rfl).trans ?_
  refine (val_gf rfl (hW.k 108 (Nat.le_of_ble_eq_true rfl) (Nat.le_of_ble_eq_true rfl)) (fvR (hW.r 108 1 109 rfl))).trans ?_
  show val (174, d + 1, 5, [some (.ref 108), some (.int x0), some (.int x1), none], [.ref 109, .ref 108], w) = _
  refine (val_g (c2 := (174, d + 1, 6, [some (.ref 108), some (.int x0), some (.int x1), none], [.int x0, .ref 109, .ref 108], w)) rfl).trans ?_
  rfl
theorem tr_174_9 (d : Nat) (w : Wd) (hW : Fix w) (l1 : Int32) (l2 : Int32) (s0 : Int32)     : val (174, d + 1, 9, [some (.ref 108), some (.int l1), some (.int l2), none], [.int s0], w) = val (174, d + 1, 16, [some (.ref 108), some (.int l1), some (.int l2), none], [.int l2, .ref 110, .ref 108], w) := by
  refine (val_g (c2 := (174, d + 1, 10, [some (.ref 108), some (.int l1), some (.int l2), none], [], w)) rfl).trans ?_
  refine (val_g (c2 := (174, d + 1, 11, [some (.ref 108), some (.int l1), some (.int l2), none], [.ref 108], w)) rfl).trans ?_
  refine (val_g (c2 := (174, d + 1, 12, [some (.ref 108), some (.int l1), some (.int l2), none], [.ref 108, .ref 108], w)) rfl).trans ?_
  refine (val_gf rfl (hW.k 108 (Nat.le_of_ble_eq_true rfl) (Nat.le_of_ble_eq_true rfl)) (fvR (hW.r 108 2 110 rfl))).trans ?_
  show val (174, d + 1, 15, [some (.ref 108), some (.int l1), some (.int l2), none], [.ref 110, .ref 108], w) = _
  refine (val_g (c2 := (174, d + 1, 16, [some (.ref 108), some (.int l1), some (.int l2), none], [.int l2, .ref 110, .ref 108], w)) rfl).trans ?_
  rfl
theorem tr_174_19 (d : Nat) (w : Wd) (l1 : Int32) (l2 : Int32) (s0 : Int32)     : val (174, d + 1, 19, [some (.ref 108), some (.int l1), some (.int l2), none], [.int s0], w) = val (174, d + 1, 22, [some (.ref 108), some (.int l1), some (.int l2), some (.int 1)], [], w) := by
  refine (val_g (c2 := (174, d + 1, 20, [some (.ref 108), some (.int l1), some (.int l2), none], [], w)) rfl).trans ?_
  refine (val_g (c2 := (174, d + 1, 21, [some (.ref 108), some (.int l1), some (.int l2), none], [.int 1], w)) rfl).trans ?_
  refine (val_g (c2 := (174, d + 1, 22, [some (.ref 108), some (.int l1), some (.int l2), some (.int 1)], [], w)) rfl).trans ?_
  rfl
theorem tr_174_22 (d : Nat) (w : Wd) (hW : Fix w) (l1 : Int32) (l2 : Int32) (l3 : Int32)    (hy1 : (¬ ((gI w 108 0) < l3)) → inB l3 9 = true) (hy2 : (¬ ((gI w 108 0) < l3)) → inB ((gI w 110 (l3).toNatClampNeg)) 9 = true) : val (174, d + 1, 22, [some (.ref 108), some (.int l1), some (.int l2), some (.int l3)], [], w) = (if (gI w 108 0) < l3 then val (174, d + 1, 58, [some (.ref 108), some (.int l1), some (.int l2), some (.int l3)], [.ref 111, .ref 108], w) else val (174, d + 1, 22, [some (.ref 108), some (.int l1), some (.int l2), some (.int (l3 + 1))], [], (sI w 111 (l3).toNatClampNeg ((gI w 109 ((gI w 110 (l3).toNatClampNeg)).toNatClampNeg))))) := by
  refine (val_g (c2 := (174, d + 1, 23, [some (.ref 108), some (.int l1), some (.int l2), some (.int l3)], [.int l3], w)) rfl).trans ?_
  refine (val_g (c2 := (174, d + 1, 24, [some (.ref 108), some (.int l1), some (.int l2), some (.int l3)], [.ref 108, .int l3], w)) rfl).trans ?_
  refine (val_gf rfl (hW.k 108 (Nat.le_of_ble_eq_true rfl) (Nat.le_of_ble_eq_true rfl)) rfl).trans ?_
  show val (174, d + 1, 27, [some (.ref 108), some (.int l1), some (.int l2), some (.int l3)], [.int (gI w 108 0), .int l3], w) = _
  by_cases hc892 : (gI w 108 0) < l3
  · refine ((val_ic_gt rfl).trans (if_pos hc892)).trans ?_
    show val (174, d + 1, 53, [some (.ref 108), some (.int l1), some (.int l2), some (.int l3)], [], w) = _
    refine Eq.trans ?_ (if_pos hc892).symm
    refine (val_g (c2 := (174, d + 1, 54, [some (.ref 108), some (.int l1), some (.int l2), some (.int l3)], [.ref 108], w)) rfl).trans ?_
    refine (val_g (c2 := (174, d + 1, 55, [some (.ref 108), some (.int l1), some (.int l2), some (.int l3)], [.ref 108, .ref 108], w)) rfl).trans ?_
    refine (val_gf rfl (hW.k 108 (Nat.le_of_ble_eq_true rfl) (Nat.le_of_ble_eq_true rfl)) (fvR (hW.r 108 3 111 rfl))).trans ?_
    show val (174, d + 1, 58, [some (.ref 108), some (.int l1), some (.int l2), some (.int l3)], [.ref 111, .ref 108], w) = _
    rfl
  · refine ((val_ic_gt rfl).trans (if_neg hc892)).trans ?_
    show val (174, d + 1, 30, [some (.ref 108), some (.int l1), some (.int l2), some (.int l3)], [], w) = _
    refine Eq.trans ?_ (if_neg hc892).symm
    refine (val_g (c2 := (174, d + 1, 31, [some (.ref 108), some (.int l1), some (.int l2), some (.int l3)], [.ref 108], w)) rfl).trans ?_
    refine (val_gf rfl (hW.k 108 (Nat.le_of_ble_eq_true rfl) (Nat.le_of_ble_eq_true rfl)) (fvR (hW.r 108 3 111 rfl))).trans ?_
    show val (174, d + 1, 34, [some (.ref 108), some (.int l1), some (.int l2), some (.int l3)], [.ref 111], w) = _
    refine (val_g (c2 := (174, d + 1, 35, [some (.ref 108), some (.int l1), some (.int l2), some (.int l3)], [.int l3, .ref 111], w)) rfl).trans ?_
    refine (val_g (c2 := (174, d + 1, 36, [some (.ref 108), some (.int l1), some (.int l2), some (.int l3)], [.ref 108, .int l3, .ref 111], w)) rfl).trans ?_
    refine (val_gf rfl (hW.k 108 (Nat.le_of_ble_eq_true rfl) (Nat.le_of_ble_eq_true rfl)) (fvR (hW.r 108 1 109 rfl))).trans ?_
    show val (174, d + 1, 39, [some (.ref 108), some (.int l1), some (.int l2), some (.int l3)], [.ref 109, .int l3, .ref 111], w) = _
    refine (val_g (c2 := (174, d + 1, 40, [some (.ref 108), some (.int l1), some (.int l2), some (.int l3)], [.ref 108, .ref 109, .int l3, .ref 111], w)) rfl).trans ?_
    refine (val_gf rfl (hW.k 108 (Nat.le_of_ble_eq_true rfl) (Nat.le_of_ble_eq_true rfl)) (fvR (hW.r 108 2 110 rfl))).trans ?_
    show val (174, d + 1, 43, [some (.ref 108), some (.int l1), some (.int l2), some (.int l3)], [.ref 110, .ref 109, .int l3, .ref 111], w) = _
    refine (val_g (c2 := (174, d + 1, 44, [some (.ref 108), some (.int l1), some (.int l2), some (.int l3)], [.int l3, .ref 110, .ref 109, .int l3, .ref 111], w)) rfl).trans ?_
    refine (val_ial rfl (hW.k 110 (Nat.le_of_ble_eq_true rfl) (Nat.le_of_ble_eq_true rfl)) rfl (hy1 hc892)).trans ?_
    show val (174, d + 1, 45, [some (.ref 108), some (.int l1), some (.int l2), some (.int l3)], [.int (gI w 110 (l3).toNatClampNeg), .ref 109, .int l3, .ref 111], w) = _
    refine (val_ial rfl (hW.k 109 (Nat.le_of_ble_eq_true rfl) (Nat.le_of_ble_eq_true rfl)) rfl (hy2 hc892)).trans ?_
    show val (174, d + 1, 46, [some (.ref 108), some (.int l1), some (.int l2), some (.int l3)], [.int (gI w 109 ((gI w 110 (l3).toNatClampNeg)).toNatClampNeg), .int l3, .ref 111], w) = _
    refine (val_ias rfl (hW.k 111 (Nat.le_of_ble_eq_true rfl) (Nat.le_of_ble_eq_true rfl)) (hy1 hc892)).trans ?_
    show val (174, d + 1, 47, [some (.ref 108), some (.int l1), some (.int l2), some (.int l3)], [], (sI w 111 (l3).toNatClampNeg ((gI w 109 ((gI w 110 (l3).toNatClampNeg)).toNatClampNeg)))) = _
    refine (val_g (c2 := (174, d + 1, 50, [some (.ref 108), some (.int l1), some (.int l2), some (.int (l3 + 1))], [], (sI w 111 (l3).toNatClampNeg ((gI w 109 ((gI w 110 (l3).toNatClampNeg)).toNatClampNeg))))) rfl).trans ?_
    refine (val_g (c2 := (174, d + 1, 22, [some (.ref 108), some (.int l1), some (.int l2), some (.int (l3 + 1))], [], (sI w 111 (l3).toNatClampNeg ((gI w 109 ((gI w 110 (l3).toNatClampNeg)).toNatClampNeg))))) rfl).trans ?_
    rfl
theorem tr_174_61 (d : Nat) (w : Wd) (l1 : Int32) (l2 : Int32) (l3 : Int32) (s0 : Int32)     : val (174, d + 1, 61, [some (.ref 108), some (.int l1), some (.int l2), some (.int l3)], [.int s0], w) = some (some (.int s0), w) := by
  exact val_r rfl
/-- BelfryHouseModel.back(I)I -/
theorem tr_175 (d : Nat) (w : Wd) (hW : Fix w) (x0 : Int32)     : val (175, d + 1, 0, [some (.ref 108), some (.int x0), none], [], w) = val (175, d + 1, 6, [some (.ref 108), some (.int x0), none], [.int x0, .ref 109, .ref 108], w) := by
  refine (val_g (c2 := (175, d + 1, 1, [some (.ref 108), some (.int x0), none], [.ref 108], w)) rfl).trans ?_
  refine (val_g (c2 := (175, d + 1, 2, [some (.ref 108), some (.int x0), none], [.ref 108, .ref 108], w)) rfl).trans ?_
  refine (val_gf rfl (hW.k 108 (Nat.le_of_ble_eq_true rfl) (Nat.le_of_ble_eq_true rfl)) (fvR (hW.r 108 1 109 rfl))).trans ?_
  show val (175, d + 1, 5, [some (.ref 108), some (.int x0), none], [.ref 109, .ref 108], w) = _
  refine (val_g (c2 := (175, d + 1, 6, [some (.ref 108), some (.int x0), none], [.int x0, .ref 109, .ref 108], w)) rfl).trans ?_
  rfl
theorem tr_175_9 (d : Nat) (w : Wd) (l1 : Int32) (s0 : Int32)     : val (175, d + 1, 9, [some (.ref 108), some (.int l1), none], [.int s0], w) = val (175, d + 1, 12, [some (.ref 108), some (.int l1), some (.int 1)], [], w) := by
  refine (val_g (c2 := (175, d + 1, 10, [some (.ref 108), some (.int l1), none], [], w)) rfl).trans ?_
  refine (val_g (c2 := (175, d + 1, 11, [some (.ref 108), some (.int l1), none], [.int 1], w)) rfl).trans ?_
  refine (val_g (c2 := (175, d + 1, 12, [some (.ref 108), some (.int l1), some (.int 1)], [], w)) rfl).trans ?_
  rfl
theorem tr_175_12 (d : Nat) (w : Wd) (hW : Fix w) (l1 : Int32) (l2 : Int32)    (hy1 : (¬ ((gI w 108 0) < l2)) → inB l2 9 = true) (hy2 : (¬ ((gI w 108 0) < l2)) → inB ((gI w 109 (l2).toNatClampNeg)) 9 = true) : val (175, d + 1, 12, [some (.ref 108), some (.int l1), some (.int l2)], [], w) = (if (gI w 108 0) < l2 then val (175, d + 1, 43, [some (.ref 108), some (.int l1), some (.int l2)], [.ref 111, .ref 108], w) else val (175, d + 1, 12, [some (.ref 108), some (.int l1), some (.int (l2 + 1))], [], (sI w 111 ((gI w 109 (l2).toNatClampNeg)).toNatClampNeg l2))) := by
  refine (val_g (c2 := (175, d + 1, 13, [some (.ref 108), some (.int l1), some (.int l2)], [.int l2], w)) rfl).trans ?_
  refine (val_g (c2 := (175, d + 1, 14, [some (.ref 108), some (.int l1), some (.int l2)], [.ref 108, .int l2], w)) rfl).trans ?_
  refine (val_gf rfl (hW.k 108 (Nat.le_of_ble_eq_true rfl) (Nat.le_of_ble_eq_true rfl)) rfl).trans ?_
  show val (175, d + 1, 17, [some (.ref 108), some (.int l1), some (.int l2)], [.int (gI w 108 0), .int l2], w) = _
  by_cases hc894 : (gI w 108 0) < l2
  · refine ((val_ic_gt rfl).trans (if_pos hc894)).trans ?_
    show val (175, d + 1, 38, [some (.ref 108), some (.int l1), some (.int l2)], [], w) = _
    refine Eq.trans ?_ (if_pos hc894).symm
    refine (val_g (c2 := (175, d + 1, 39, [some (.ref 108), some (.int l1), some (.int l2)], [.ref 108], w)) rfl).trans ?_
    refine (val_g (c2 := (175, d + 1, 40, [some (.ref 108), some (.int l1), some (.int l2)], [.ref 108, .ref 108], w)) rfl).trans ?_
    refine (val_gf rfl (hW.k 108 (Nat.le_of_ble_eq_true rfl) (Nat.le_of_ble_eq_true rfl)) (fvR (hW.r 108 3 111 rfl))).trans ?_
    show val (175, d + 1, 43, [some (.ref 108), some (.int l1), some (.int l2)], [.ref 111, .ref 108], w) = _
    rfl
  · refine ((val_ic_gt rfl).trans (if_neg hc894)).trans ?_
    show val (175, d + 1, 20, [some (.ref 108), some (.int l1), some (.int l2)], [], w) = _
    refine Eq.trans ?_ (if_neg hc894).symm
    refine (val_g (c2 := (175, d + 1, 21, [some (.ref 108), some (.int l1), some (.int l2)], [.ref 108], w)) rfl).trans ?_
    refine (val_gf rfl (hW.k 108 (Nat.le_of_ble_eq_true rfl) (Nat.le_of_ble_eq_true rfl)) (fvR (hW.r 108 3 111 rfl))).trans ?_
    show val (175, d + 1, 24, [some (.ref 108), some (.int l1), some (.int l2)], [.ref 111], w) = _
    refine (val_g (c2 := (175, d + 1, 25, [some (.ref 108), some (.int l1), some (.int l2)], [.ref 108, .ref 111], w)) rfl).trans ?_
    refine (val_gf rfl (hW.k 108 (Nat.le_of_ble_eq_true rfl) (Nat.le_of_ble_eq_true rfl)) (fvR (hW.r 108 1 109 rfl))).trans ?_
    show val (175, d + 1, 28, [some (.ref 108), some (.int l1), some (.int l2)], [.ref 109, .ref 111], w) = _
    refine (val_g (c2 := (175, d + 1, 29, [some (.ref 108), some (.int l1), some (.int l2)], [.int l2, .ref 109, .ref 111], w)) rfl).trans ?_
    refine (val_ial rfl (hW.k 109 (Nat.le_of_ble_eq_true rfl) (Nat.le_of_ble_eq_true rfl)) rfl (hy1 hc894)).trans ?_
    show val (175, d + 1, 30, [some (.ref 108), some (.int l1), some (.int l2)], [.int (gI w 109 (l2).toNatClampNeg), .ref 111], w) = _
    refine (val_g (c2 := (175, d + 1, 31, [some (.ref 108), some (.int l1), some (.int l2)], [.int l2, .int (gI w 109 (l2).toNatClampNeg), .ref 111], w)) rfl).trans ?_
    refine (val_ias rfl (hW.k 111 (Nat.le_of_ble_eq_true rfl) (Nat.le_of_ble_eq_true rfl)) (hy2 hc894)).trans ?_
    show val (175, d + 1, 32, [some (.ref 108), some (.int l1), some (.int l2)], [], (sI w 111 ((gI w 109 (l2).toNatClampNeg)).toNatClampNeg l2)) = _
    refine (val_g (c2 := (175, d + 1, 35, [some (.ref 108), some (.int l1), some (.int (l2 + 1))], [], (sI w 111 ((gI w 109 (l2).toNatClampNeg)).toNatClampNeg l2))) rfl).trans ?_
    refine (val_g (c2 := (175, d + 1, 12, [some (.ref 108), some (.int l1), some (.int (l2 + 1))], [], (sI w 111 ((gI w 109 (l2).toNatClampNeg)).toNatClampNeg l2))) rfl).trans ?_
    rfl
theorem tr_175_46 (d : Nat) (w : Wd) (l1 : Int32) (l2 : Int32) (s0 : Int32)     : val (175, d + 1, 46, [some (.ref 108), some (.int l1), some (.int l2)], [.int s0], w) = some (some (.int s0), w) := by
  exact val_r rfl
/-- BelfryHouseModel.isRow(I)Z -/
theorem tr_176 (d : Nat) (w : Wd) (hW : Fix w) (x0 : Int32)     : val (176, d + 1, 0, [some (.ref 108), some (.int x0)], [], w) = val (176, d + 1, 6, [some (.ref 108), some (.int x0)], [.int x0, .ref 109, .ref 108], w) := by
  refine (val_g (c2 := (176, d + 1, 1, [some (.ref 108), some (.int x0)], [.ref 108], w)) rfl).trans ?_
  refine (val_g (c2 := (176, d + 1, 2, [some (.ref 108), some (.int x0)], [.ref 108, .ref 108], w)) rfl).trans ?_
  refine (val_gf rfl (hW.k 108 (Nat.le_of_ble_eq_true rfl) (Nat.le_of_ble_eq_true rfl)) (fvR (hW.r 108 1 109 rfl))).trans ?_
  show val (176, d + 1, 5, [some (.ref 108), some (.int x0)], [.ref 109, .ref 108], w) = _
  refine (val_g (c2 := (176, d + 1, 6, [some (.ref 108), some (.int x0)], [.int x0, .ref 109, .ref 108], w)) rfl).trans ?_
  rfl
theorem tr_176_9 (d : Nat) (w : Wd) (l1 : Int32) (s0 : Int32)    (hy1 : narB 1 s0 = true) : val (176, d + 1, 9, [some (.ref 108), some (.int l1)], [.int s0], w) = some (some (.int s0), w) := by
  exact val_r (if_pos hy1)
/-- BelfryHouseModel.product(II)I -/
theorem tr_177 (d : Nat) (w : Wd) (x0 : Int32) (x1 : Int32)     : val (177, d + 2, 0, [some (.ref 108), some (.int x0), some (.int x1)], [], w) = val (177, d + 2, 2, [some (.ref 108), some (.int x0), some (.int x1)], [.int x0, .ref 108], w) := by
  refine (val_g (c2 := (177, d + 2, 1, [some (.ref 108), some (.int x0), some (.int x1)], [.ref 108], w)) rfl).trans ?_
  refine (val_g (c2 := (177, d + 2, 2, [some (.ref 108), some (.int x0), some (.int x1)], [.int x0, .ref 108], w)) rfl).trans ?_
  rfl
theorem tr_177_5 (d : Nat) (w : Wd) (l1 : Int32) (l2 : Int32) (s0 : Int32)     : val (177, d + 2, 5, [some (.ref 108), some (.int l1), some (.int l2)], [.int s0], w) = (if s0 = 0 then some (some (.int (-1)), w) else val (177, d + 2, 10, [some (.ref 108), some (.int l1), some (.int l2)], [.int l2, .ref 108], w)) := by
  by_cases hc897 : s0 = 0
  · refine ((val_if_eq rfl).trans (if_pos hc897)).trans ?_
    show val (177, d + 2, 25, [some (.ref 108), some (.int l1), some (.int l2)], [], w) = _
    refine Eq.trans ?_ (if_pos hc897).symm
    refine (val_g (c2 := (177, d + 2, 26, [some (.ref 108), some (.int l1), some (.int l2)], [.int (-1)], w)) rfl).trans ?_
    exact val_r rfl
  · refine ((val_if_eq rfl).trans (if_neg hc897)).trans ?_
    show val (177, d + 2, 8, [some (.ref 108), some (.int l1), some (.int l2)], [], w) = _
    refine Eq.trans ?_ (if_neg hc897).symm
    refine (val_g (c2 := (177, d + 2, 9, [some (.ref 108), some (.int l1), some (.int l2)], [.ref 108], w)) rfl).trans ?_
    refine (val_g (c2 := (177, d + 2, 10, [some (.ref 108), some (.int l1), some (.int l2)], [.int l2, .ref 108], w)) rfl).trans ?_
    rfl
theorem tr_177_13 (d : Nat) (w : Wd) (l1 : Int32) (l2 : Int32) (s0 : Int32)     : val (177, d + 2, 13, [some (.ref 108), some (.int l1), some (.int l2)], [.int s0], w) = (if s0 = 0 then some (some (.int (-1)), w) else val (177, d + 2, 19, [some (.ref 108), some (.int l1), some (.int l2)], [.int l2, .int l1, .ref 108], w)) := by
  by_cases hc898 : s0 = 0
  · refine ((val_if_eq rfl).trans (if_pos hc898)).trans ?_
    show val (177, d + 2, 25, [some (.ref 108), some (.int l1), some (.int l2)], [], w) = _
    refine Eq.trans ?_ (if_pos hc898).symm
    refine (val_g (c2 := (177, d + 2, 26, [some (.ref 108), some (.int l1), some (.int l2)], [.int (-1)], w)) rfl).trans ?_
    exact val_r rfl
  · refine ((val_if_eq rfl).trans (if_neg hc898)).trans ?_
    show val (177, d + 2, 16, [some (.ref 108), some (.int l1), some (.int l2)], [], w) = _
    refine Eq.trans ?_ (if_neg hc898).symm
    refine (val_g (c2 := (177, d + 2, 17, [some (.ref 108), some (.int l1), some (.int l2)], [.ref 108], w)) rfl).trans ?_
    refine (val_g (c2 := (177, d + 2, 18, [some (.ref 108), some (.int l1), some (.int l2)], [.int l1, .ref 108], w)) rfl).trans ?_
    refine (val_g (c2 := (177, d + 2, 19, [some (.ref 108), some (.int l1), some (.int l2)], [.int l2, .int l1, .ref 108], w)) rfl).trans ?_
    rfl
theorem tr_177_22 (d : Nat) (w : Wd) (l1 : Int32) (l2 : Int32) (s0 : Int32)     : val (177, d + 2, 22, [some (.ref 108), some (.int l1), some (.int l2)], [.int s0], w) = some (some (.int s0), w) := by
  refine (val_g (c2 := (177, d + 2, 26, [some (.ref 108), some (.int l1), some (.int l2)], [.int s0], w)) rfl).trans ?_
  exact val_r rfl
/-- BelfryHouseModel.inverse(I)I -/
theorem tr_178 (d : Nat) (w : Wd) (x0 : Int32)     : val (178, d + 2, 0, [some (.ref 108), some (.int x0)], [], w) = val (178, d + 2, 2, [some (.ref 108), some (.int x0)], [.int x0, .ref 108], w) := by
  refine (val_g (c2 := (178, d + 2, 1, [some (.ref 108), some (.int x0)], [.ref 108], w)) rfl).trans ?_
  refine (val_g (c2 := (178, d + 2, 2, [some (.ref 108), some (.int x0)], [.int x0, .ref 108], w)) rfl).trans ?_
  rfl
theorem tr_178_5 (d : Nat) (w : Wd) (l1 : Int32) (s0 : Int32)     : val (178, d + 2, 5, [some (.ref 108), some (.int l1)], [.int s0], w) = (if s0 = 0 then some (some (.int (-1)), w) else val (178, d + 2, 10, [some (.ref 108), some (.int l1)], [.int l1, .ref 108], w)) := by
  by_cases hc900 : s0 = 0
  · refine ((val_if_eq rfl).trans (if_pos hc900)).trans ?_
    show val (178, d + 2, 16, [some (.ref 108), some (.int l1)], [], w) = _
    refine Eq.trans ?_ (if_pos hc900).symm
    refine (val_g (c2 := (178, d + 2, 17, [some (.ref 108), some (.int l1)], [.int (-1)], w)) rfl).trans ?_
    exact val_r rfl
  · refine ((val_if_eq rfl).trans (if_neg hc900)).trans ?_
    show val (178, d + 2, 8, [some (.ref 108), some (.int l1)], [], w) = _
    refine Eq.trans ?_ (if_neg hc900).symm
    refine (val_g (c2 := (178, d + 2, 9, [some (.ref 108), some (.int l1)], [.ref 108], w)) rfl).trans ?_
    refine (val_g (c2 := (178, d + 2, 10, [some (.ref 108), some (.int l1)], [.int l1, .ref 108], w)) rfl).trans ?_
    rfl
theorem tr_178_13 (d : Nat) (w : Wd) (l1 : Int32) (s0 : Int32)     : val (178, d + 2, 13, [some (.ref 108), some (.int l1)], [.int s0], w) = some (some (.int s0), w) := by
  refine (val_g (c2 := (178, d + 2, 17, [some (.ref 108), some (.int l1)], [.int s0], w)) rfl).trans ?_
  exact val_r rfl
/-- BelfryHouseModel.rank(I)I -/
theorem tr_179 (d : Nat) (w : Wd) (hW : Fix w) (x0 : Int32)     : val (179, d + 1, 0, [some (.ref 108), some (.int x0), none, none, none, none], [], w) = val (179, d + 1, 6, [some (.ref 108), some (.int x0), none, none, none, none], [.int x0, .ref 109, .ref 108], w) := by
  refine (val_g (c2 := (179, d + 1, 1, [some (.ref 108), some (.int x0), none, none, none, none], [.ref 108], w)) rfl).trans ?_
  refine (val_g (c2 := (179, d + 1, 2, [some (.ref 108), some (.int x0), none, none, none, none], [.ref 108, .ref 108], w)) rfl).trans ?_
  refine (val_gf rfl (hW.k 108 (Nat.le_of_ble_eq_true rfl) (Nat.le_of_ble_eq_true rfl)) (fvR (hW.r 108 1 109 rfl))).trans ?_
  show val (179, d + 1, 5, [some (.ref 108), some (.int x0), none, none, none, none], [.ref 109, .ref 108], w) = _
  refine (val_g (c2 := (179, d + 1, 6, [some (.ref 108), some (.int x0), none, none, none, none], [.int x0, .ref 109, .ref 108], w)) rfl).trans ?_
  rfl
theorem tr_179_9 (d : Nat) (w : Wd) (l1 : Int32) (s0 : Int32)     : val (179, d + 1, 9, [some (.ref 108), some (.int l1), none, none, none, none], [.int s0], w) = val (179, d + 1, 14, [some (.ref 108), some (.int l1), some (.int 0), some (.int 1), none, none], [], w) := by
  refine (val_g (c2 := (179, d + 1, 10, [some (.ref 108), some (.int l1), none, none, none, none], [], w)) rfl).trans ?_
  refine (val_g (c2 := (179, d + 1, 11, [some (.ref 108), some (.int l1), none, none, none, none], [.int 0], w)) rfl).trans ?_
  refine (val_g (c2 := (179, d + 1, 12, [some (.ref 108), some (.int l1), some (.int 0), none, none, none], [], w)) rfl).trans ?_
  refine (val_g (c2 := (179, d + 1, 13, [some (.ref 108), some (.int l1), some (.int 0), none, none, none], [.int 1], w)) rfl).trans ?_
  refine (val_g (c2 := (179, d + 1, 14, [some (.ref 108), some (.int l1), some (.int 0), some (.int 1), none, none], [], w)) rfl).trans ?_
  rfl
theorem tr_179_14 (d : Nat) (w : Wd) (hW : Fix w) (l1 : Int32) (l2 : Int32) (l3 : Int32) (l4 : Option Value) (l5 : Option Value)    : val (179, d + 1, 14, [some (.ref 108), some (.int l1), some (.int l2), some (.int l3), l4, l5], [], w) = (if (gI w 108 0) < l3 then some (some (.int l2), w) else val (179, d + 1, 30, [some (.ref 108), some (.int l1), some (.int l2), some (.int l3), some (.int 0), some (.int (l3 + 1))], [], w)) := by
  refine (val_g (c2 := (179, d + 1, 15, [some (.ref 108), some (.int l1), some (.int l2), some (.int l3), l4, l5], [.int l3], w)) rfl).trans ?_
  refine (val_g (c2 := (179, d + 1, 16, [some (.ref 108), some (.int l1), some (.int l2), some (.int l3), l4, l5], [.ref 108, .int l3], w)) rfl).trans ?_
  refine (val_gf rfl (hW.k 108 (Nat.le_of_ble_eq_true rfl) (Nat.le_of_ble_eq_true rfl)) rfl).trans ?_
  show val (179, d + 1, 19, [some (.ref 108), some (.int l1), some (.int l2), some (.int l3), l4, l5], [.int (gI w 108 0), .int l3], w) = _
  by_cases hc905 : (gI w 108 0) < l3
  · refine ((val_ic_gt rfl).trans (if_pos hc905)).trans ?_
    show val (179, d + 1, 91, [some (.ref 108), some (.int l1), some (.int l2), some (.int l3), l4, l5], [], w) = _
    refine Eq.trans ?_ (if_pos hc905).symm
    refine (val_g (c2 := (179, d + 1, 92, [some (.ref 108), some (.int l1), some (.int l2), some (.int l3), l4, l5], [.int l2], w)) rfl).trans ?_
    exact val_r rfl
  · refine ((val_ic_gt rfl).trans (if_neg hc905)).trans ?_
    show val (179, d + 1, 22, [some (.ref 108), some (.int l1), some (.int l2), some (.int l3), l4, l5], [], w) = _
    refine Eq.trans ?_ (if_neg hc905).symm
    refine (val_g (c2 := (179, d + 1, 23, [some (.ref 108), some (.int l1), some (.int l2), some (.int l3), l4, l5], [.int 0], w)) rfl).trans ?_
    refine (val_g (c2 := (179, d + 1, 25, [some (.ref 108), some (.int l1), some (.int l2), some (.int l3), some (.int 0), l5], [], w)) rfl).trans ?_
    refine (val_g (c2 := (179, d + 1, 26, [some (.ref 108), some (.int l1), some (.int l2), some (.int l3), some (.int 0), l5], [.int l3], w)) rfl).trans ?_
    refine (val_g (c2 := (179, d + 1, 27, [some (.ref 108), some (.int l1), some (.int l2), some (.int l3), some (.int 0), l5], [.int 1, .int l3], w)) rfl).trans ?_
    refine (val_g (c2 := (179, d + 1, 28, [some (.ref 108), some (.int l1), some (.int l2), some (.int l3), some (.int 0), l5], [.int (l3 + 1)], w)) rfl).trans ?_
    refine (val_g (c2 := (179, d + 1, 30, [some (.ref 108), some (.int l1), some (.int l2), some (.int l3), some (.int 0), some (.int (l3 + 1))], [], w)) rfl).trans ?_
    rfl
theorem tr_179_30 (d : Nat) (w : Wd) (hW : Fix w) (l1 : Int32) (l2 : Int32) (l3 : Int32) (l4 : Int32) (l5 : Int32)    (hy1 : (¬ ((gI w 108 0) < l5)) → inB l5 9 = true) (hy2 : (¬ ((gI w 108 0) < l5)) → inB l3 9 = true) : val (179, d + 1, 30, [some (.ref 108), some (.int l1), some (.int l2), some (.int l3), some (.int l4), some (.int l5)], [], w) = (if (gI w 108 0) < l5 then val (179, d + 1, 14, [some (.ref 108), some (.int l1), some (.int ((l2 * (((gI w 108 0) + 1) - l3)) + l4)), some (.int (l3 + 1)), some (.int l4), some (.int l5)], [], w) else (if (gI w 109 (l3).toNatClampNeg) ≤ (gI w 109 (l5).toNatClampNeg) then val (179, d + 1, 30, [some (.ref 108), some (.int l1), some (.int l2), some (.int l3), some (.int (l4 + 0)), some (.int (l5 + 1))], [], w) else val (179, d + 1, 30, [some (.ref 108), some (.int l1), some (.int l2), some (.int l3), some (.int (l4 + 1)), some (.int (l5 + 1))], [], w))) := by
  refine (val_g (c2 := (179, d + 1, 32, [some (.ref 108), some (.int l1), some (.int l2), some (.int l3), some (.int l4), some (.int l5)], [.int l5], w)) rfl).trans ?_
  refine (val_g (c2 := (179, d + 1, 33, [some (.ref 108), some (.int l1), some (.int l2), some (.int l3), some (.int l4), some (.int l5)], [.ref 108, .int l5], w)) rfl).trans ?_
  refine (val_gf rfl (hW.k 108 (Nat.le_of_ble_eq_true rfl) (Nat.le_of_ble_eq_true rfl)) rfl).trans ?_
  show val (179, d + 1, 36, [some (.ref 108), some (.int l1), some (.int l2), some (.int l3), some (.int l4), some (.int l5)], [.int (gI w 108 0), .int l5], w) = _
  by_cases hc906 : (gI w 108 0) < l5
  · refine ((val_ic_gt rfl).trans (if_pos hc906)).trans ?_
    show val (179, d + 1, 71, [some (.ref 108), some (.int l1), some (.int l2), some (.int l3), some (.int l4), some (.int l5)], [], w) = _
    refine Eq.trans ?_ (if_pos hc906).symm
    refine (val_g (c2 := (179, d + 1, 72, [some (.ref 108), some (.int l1), some (.int l2), some (.int l3), some (.int l4), some (.int l5)], [.int l2], w)) rfl).trans ?_
    refine (val_g (c2 := (179, d + 1, 73, [some (.ref 108), some (.int l1), some (.int l2), some (.int l3), some (.int l4), some (.int l5)], [.ref 108, .int l2], w)) rfl).trans ?_
    refine (val_gf rfl (hW.k 108 (Nat.le_of_ble_eq_true rfl) (Nat.le_of_ble_eq_true rfl)) rfl).trans ?_
    show val (179, d + 1, 76, [some (.ref 108), some (.int l1), some (.int l2), some (.int l3), some (.int l4), some (.int l5)], [.int (gI w 108 0), .int l2], w) = _
    refine (val_g (c2 := (179, d + 1, 77, [some (.ref 108), some (.int l1), some (.int l2), some (.int l3), some (.int l4), some (.int l5)], [.int 1, .int (gI w 108 0), .int l2], w)) rfl).trans ?_
    refine (val_g (c2 := (179, d + 1, 78, [some (.ref 108), some (.int l1), some (.int l2), some (.int l3), some (.int l4), some (.int l5)], [.int ((gI w 108 0) + 1), .int l2], w)) rfl).trans ?_
    refine (val_g (c2 := (179, d + 1, 79, [some (.ref 108), some (.int l1), some (.int l2), some (.int l3), some (.int l4), some (.int l5)], [.int l3, .int ((gI w 108 0) + 1), .int l2], w)) rfl).trans ?_
    refine (val_g (c2 := (179, d + 1, 80, [some (.ref 108), some (.int l1), some (.int l2), some (.int l3), some (.int l4), some (.int l5)], [.int (((gI w 108 0) + 1) - l3), .int l2], w)) rfl).trans ?_
    refine (val_g (c2 := (179, d + 1, 81, [some (.ref 108), some (.int l1), some (.int l2), some (.int l3), some (.int l4), some (.int l5)], [.int (l2 * (((gI w 108 0) + 1) - l3))], w)) rfl).trans ?_
    refine (val_g (c2 := (179, d + 1, 83, [some (.ref 108), some (.int l1), some (.int l2), some (.int l3), some (.int l4), some (.int l5)], [.int l4, .int (l2 * (((gI w 108 0) + 1) - l3))], w)) rfl).trans ?_
    refine (val_g (c2 := (179, d + 1, 84, [some (.ref 108), some (.int l1), some (.int l2), some (.int l3), some (.int l4), some (.int l5)], [.int ((l2 * (((gI w 108 0) + 1) - l3)) + l4)], w)) rfl).trans ?_
    refine (val_g (c2 := (179, d + 1, 85, [some (.ref 108), some (.int l1), some (.int ((l2 * (((gI w 108 0) + 1) - l3)) + l4)), some (.int l3), some (.int l4), some (.int l5)], [], w)) rfl).trans ?_
    refine (val_g (c2 := (179, d + 1, 88, [some (.ref 108), some (.int l1), some (.int ((l2 * (((gI w 108 0) + 1) - l3)) + l4)), some (.int (l3 + 1)), some (.int l4), some (.int l5)], [], w)) rfl).trans ?_
    refine (val_g (c2 := (179, d + 1, 14, [some (.ref 108), some (.int l1), some (.int ((l2 * (((gI w 108 0) + 1) - l3)) + l4)), some (.int (l3 + 1)), some (.int l4), some (.int l5)], [], w)) rfl).trans ?_
    rfl
  · refine ((val_ic_gt rfl).trans (if_neg hc906)).trans ?_
    show val (179, d + 1, 39, [some (.ref 108), some (.int l1), some (.int l2), some (.int l3), some (.int l4), some (.int l5)], [], w) = _
    refine Eq.trans ?_ (if_neg hc906).symm
    refine (val_g (c2 := (179, d + 1, 41, [some (.ref 108), some (.int l1), some (.int l2), some (.int l3), some (.int l4), some (.int l5)], [.int l4], w)) rfl).trans ?_
    refine (val_g (c2 := (179, d + 1, 42, [some (.ref 108), some (.int l1), some (.int l2), some (.int l3), some (.int l4), some (.int l5)], [.ref 108, .int l4], w)) rfl).trans ?_
    refine (val_gf rfl (hW.k 108 (Nat.le_of_ble_eq_true rfl) (Nat.le_of_ble_eq_true rfl)) (fvR (hW.r 108 1 109 rfl))).trans ?_
    show val (179, d + 1, 45, [some (.ref 108), some (.int l1), some (.int l2), some (.int l3), some (.int l4), some (.int l5)], [.ref 109, .int l4], w) = _
    refine (val_g (c2 := (179, d + 1, 47, [some (.ref 108), some (.int l1), some (.int l2), some (.int l3), some (.int l4), some (.int l5)], [.int l5, .ref 109, .int l4], w)) rfl).trans ?_
    refine (val_ial rfl (hW.k 109 (Nat.le_of_ble_eq_true rfl) (Nat.le_of_ble_eq_true rfl)) rfl (hy1 hc906)).trans ?_
    show val (179, d + 1, 48, [some (.ref 108), some (.int l1), some (.int l2), some (.int l3), some (.int l4), some (.int l5)], [.int (gI w 109 (l5).toNatClampNeg), .int l4], w) = _
    refine (val_g (c2 := (179, d + 1, 49, [some (.ref 108), some (.int l1), some (.int l2), some (.int l3), some (.int l4), some (.int l5)], [.ref 108, .int (gI w 109 (l5).toNatClampNeg), .int l4], w)) rfl).trans ?_
    refine (val_gf rfl (hW.k 108 (Nat.le_of_ble_eq_true rfl) (Nat.le_of_ble_eq_true rfl)) (fvR (hW.r 108 1 109 rfl))).trans ?_
    show val (179, d + 1, 52, [some (.ref 108), some (.int l1), some (.int l2), some (.int l3), some (.int l4), some (.int l5)], [.ref 109, .int (gI w 109 (l5).toNatClampNeg), .int l4], w) = _
    refine (val_g (c2 := (179, d + 1, 53, [some (.ref 108), some (.int l1), some (.int l2), some (.int l3), some (.int l4), some (.int l5)], [.int l3, .ref 109, .int (gI w 109 (l5).toNatClampNeg), .int l4], w)) rfl).trans ?_
    refine (val_ial rfl (hW.k 109 (Nat.le_of_ble_eq_true rfl) (Nat.le_of_ble_eq_true rfl)) rfl (hy2 hc906)).trans ?_
    show val (179, d + 1, 54, [some (.ref 108), some (.int l1), some (.int l2), some (.int l3), some (.int l4), some (.int l5)], [.int (gI w 109 (l3).toNatClampNeg), .int (gI w 109 (l5).toNatClampNeg), .int l4], w) = _
    by_cases hc907 : (gI w 109 (l3).toNatClampNeg) ≤ (gI w 109 (l5).toNatClampNeg)
    · refine ((val_ic_ge rfl).trans (if_pos hc907)).trans ?_
      show val (179, d + 1, 61, [some (.ref 108), some (.int l1), some (.int l2), some (.int l3), some (.int l4), some (.int l5)], [.int l4], w) = _
      refine Eq.trans ?_ (if_pos hc907).symm
      refine (val_g (c2 := (179, d + 1, 62, [some (.ref 108), some (.int l1), some (.int l2), some (.int l3), some (.int l4), some (.int l5)], [.int 0, .int l4], w)) rfl).trans ?_
      refine (val_g (c2 := (179, d + 1, 63, [some (.ref 108), some (.int l1), some (.int l2), some (.int l3), some (.int l4), some (.int l5)], [.int (l4 + 0)], w)) rfl).trans ?_
      refine (val_g (c2 := (179, d + 1, 65, [some (.ref 108), some (.int l1), some (.int l2), some (.int l3), some (.int (l4 + 0)), some (.int l5)], [], w)) rfl).trans ?_
      refine (val_g (c2 := (179, d + 1, 68, [some (.ref 108), some (.int l1), some (.int l2), some (.int l3), some (.int (l4 + 0)), some (.int (l5 + 1))], [], w)) rfl).trans ?_
      refine (val_g (c2 := (179, d + 1, 30, [some (.ref 108), some (.int l1), some (.int l2), some (.int l3), some (.int (l4 + 0)), some (.int (l5 + 1))], [], w)) rfl).trans ?_
      rfl
    · refine ((val_ic_ge rfl).trans (if_neg hc907)).trans ?_
      show val (179, d + 1, 57, [some (.ref 108), some (.int l1), some (.int l2), some (.int l3), some (.int l4), some (.int l5)], [.int l4], w) = _
      refine Eq.trans ?_ (if_neg hc907).symm
      refine (val_g (c2 := (179, d + 1, 58, [some (.ref 108), some (.int l1), some (.int l2), some (.int l3), some (.int l4), some (.int l5)], [.int 1, .int l4], w)) rfl).trans ?_
      refine (val_g (c2 := (179, d + 1, 62, [some (.ref 108), some (.int l1), some (.int l2), some (.int l3), some (.int l4), some (.int l5)], [.int 1, .int l4], w)) rfl).trans ?_
      refine (val_g (c2 := (179, d + 1, 63, [some (.ref 108), some (.int l1), some (.int l2), some (.int l3), some (.int l4), some (.int l5)], [.int (l4 + 1)], w)) rfl).trans ?_
      refine (val_g (c2 := (179, d + 1, 65, [some (.ref 108), some (.int l1), some (.int l2), some (.int l3), some (.int (l4 + 1)), some (.int l5)], [], w)) rfl).trans ?_
      refine (val_g (c2 := (179, d + 1, 68, [some (.ref 108), some (.int l1), some (.int l2), some (.int l3), some (.int (l4 + 1)), some (.int (l5 + 1))], [], w)) rfl).trans ?_
      refine (val_g (c2 := (179, d + 1, 30, [some (.ref 108), some (.int l1), some (.int l2), some (.int l3), some (.int (l4 + 1)), some (.int (l5 + 1))], [], w)) rfl).trans ?_
      rfl
/-- BelfryHouseModel.isEven(I)Z -/
theorem tr_180 (d : Nat) (w : Wd) (hW : Fix w) (x0 : Int32)     : val (180, d + 1, 0, [some (.ref 108), some (.int x0), none, none, none], [], w) = val (180, d + 1, 6, [some (.ref 108), some (.int x0), none, none, none], [.int x0, .ref 109, .ref 108], w) := by
  refine (val_g (c2 := (180, d + 1, 1, [some (.ref 108), some (.int x0), none, none, none], [.ref 108], w)) rfl).trans ?_
  refine (val_g (c2 := (180, d + 1, 2, [some (.ref 108), some (.int x0), none, none, none], [.ref 108, .ref 108], w)) rfl).trans ?_
  refine (val_gf rfl (hW.k 108 (Nat.le_of_ble_eq_true rfl) (Nat.le_of_ble_eq_true rfl)) (fvR (hW.r 108 1 109 rfl))).trans ?_
  show val (180, d + 1, 5, [some (.ref 108), some (.int x0), none, none, none], [.ref 109, .ref 108], w) = _
  refine (val_g (c2 := (180, d + 1, 6, [some (.ref 108), some (.int x0), none, none, none], [.int x0, .ref 109, .ref 108], w)) rfl).trans ?_
  rfl
theorem tr_180_9 (d : Nat) (w : Wd) (l1 : Int32) (s0 : Int32)     : val (180, d + 1, 9, [some (.ref 108), some (.int l1), none, none, none], [.int s0], w) = val (180, d + 1, 14, [some (.ref 108), some (.int l1), some (.int 0), some (.int 1), none], [], w) := by
  refine (val_g (c2 := (180, d + 1, 10, [some (.ref 108), some (.int l1), none, none, none], [], w)) rfl).trans ?_
  refine (val_g (c2 := (180, d + 1, 11, [some (.ref 108), some (.int l1), none, none, none], [.int 0], w)) rfl).trans ?_
  refine (val_g (c2 := (180, d + 1, 12, [some (.ref 108), some (.int l1), some (.int 0), none, none], [], w)) rfl).trans ?_
  refine (val_g (c2 := (180, d + 1, 13, [some (.ref 108), some (.int l1), some (.int 0), none, none], [.int 1], w)) rfl).trans ?_
  refine (val_g (c2 := (180, d + 1, 14, [some (.ref 108), some (.int l1), some (.int 0), some (.int 1), none], [], w)) rfl).trans ?_
  rfl
theorem tr_180_14 (d : Nat) (w : Wd) (hW : Fix w) (l1 : Int32) (l2 : Int32) (l3 : Int32) (l4 : Option Value)    : val (180, d + 1, 14, [some (.ref 108), some (.int l1), some (.int l2), some (.int l3), l4], [], w) = (if (gI w 108 0) < l3 then (if ¬ (l2 - l2 / 2 * 2) = 0 then some (some (.int 0), w) else some (some (.int 1), w)) else val (180, d + 1, 27, [some (.ref 108), some (.int l1), some (.int l2), some (.int l3), some (.int (l3 + 1))], [], w)) := by
  refine (val_g (c2 := (180, d + 1, 15, [some (.ref 108), some (.int l1), some (.int l2), some (.int l3), l4], [.int l3], w)) rfl).trans ?_
  refine (val_g (c2 := (180, d + 1, 16, [some (.ref 108), some (.int l1), some (.int l2), some (.int l3), l4], [.ref 108, .int l3], w)) rfl).trans ?_
  refine (val_gf rfl (hW.k 108 (Nat.le_of_ble_eq_true rfl) (Nat.le_of_ble_eq_true rfl)) rfl).trans ?_
  show val (180, d + 1, 19, [some (.ref 108), some (.int l1), some (.int l2), some (.int l3), l4], [.int (gI w 108 0), .int l3], w) = _
  by_cases hc914 : (gI w 108 0) < l3
  · refine ((val_ic_gt rfl).trans (if_pos hc914)).trans ?_
    show val (180, d + 1, 72, [some (.ref 108), some (.int l1), some (.int l2), some (.int l3), l4], [], w) = _
    refine Eq.trans ?_ (if_pos hc914).symm
    refine (val_g (c2 := (180, d + 1, 73, [some (.ref 108), some (.int l1), some (.int l2), some (.int l3), l4], [.int l2], w)) rfl).trans ?_
    refine (val_g (c2 := (180, d + 1, 74, [some (.ref 108), some (.int l1), some (.int l2), some (.int l3), l4], [.int 2, .int l2], w)) rfl).trans ?_
    refine (val_irem rfl (by decide)).trans ?_
    show val (180, d + 1, 75, [some (.ref 108), some (.int l1), some (.int l2), some (.int l3), l4], [.int (l2 - l2 / 2 * 2)], w) = _
    by_cases hc915 : ¬ (l2 - l2 / 2 * 2) = 0
    · refine ((val_if_ne rfl).trans (if_pos hc915)).trans ?_
      show val (180, d + 1, 82, [some (.ref 108), some (.int l1), some (.int l2), some (.int l3), l4], [], w) = _
      refine Eq.trans ?_ (if_pos hc915).symm
      refine (val_g (c2 := (180, d + 1, 83, [some (.ref 108), some (.int l1), some (.int l2), some (.int l3), l4], [.int 0], w)) rfl).trans ?_
      exact val_r rfl
    · refine ((val_if_ne rfl).trans (if_neg hc915)).trans ?_
      show val (180, d + 1, 78, [some (.ref 108), some (.int l1), some (.int l2), some (.int l3), l4], [], w) = _
      refine Eq.trans ?_ (if_neg hc915).symm
      refine (val_g (c2 := (180, d + 1, 79, [some (.ref 108), some (.int l1), some (.int l2), some (.int l3), l4], [.int 1], w)) rfl).trans ?_
      refine (val_g (c2 := (180, d + 1, 83, [some (.ref 108), some (.int l1), some (.int l2), some (.int l3), l4], [.int 1], w)) rfl).trans ?_
      exact val_r rfl
  · refine ((val_ic_gt rfl).trans (if_neg hc914)).trans ?_
    show val (180, d + 1, 22, [some (.ref 108), some (.int l1), some (.int l2), some (.int l3), l4], [], w) = _
    refine Eq.trans ?_ (if_neg hc914).symm
    refine (val_g (c2 := (180, d + 1, 23, [some (.ref 108), some (.int l1), some (.int l2), some (.int l3), l4], [.int l3], w)) rfl).trans ?_
    refine (val_g (c2 := (180, d + 1, 24, [some (.ref 108), some (.int l1), some (.int l2), some (.int l3), l4], [.int 1, .int l3], w)) rfl).trans ?_
    refine (val_g (c2 := (180, d + 1, 25, [some (.ref 108), some (.int l1), some (.int l2), some (.int l3), l4], [.int (l3 + 1)], w)) rfl).trans ?_
    refine (val_g (c2 := (180, d + 1, 27, [some (.ref 108), some (.int l1), some (.int l2), some (.int l3), some (.int (l3 + 1))], [], w)) rfl).trans ?_
    rfl
theorem tr_180_27 (d : Nat) (w : Wd) (hW : Fix w) (l1 : Int32) (l2 : Int32) (l3 : Int32) (l4 : Int32)    (hy1 : (¬ ((gI w 108 0) < l4)) → inB l3 9 = true) (hy2 : (¬ ((gI w 108 0) < l4)) → inB l4 9 = true) : val (180, d + 1, 27, [some (.ref 108), some (.int l1), some (.int l2), some (.int l3), some (.int l4)], [], w) = (if (gI w 108 0) < l4 then val (180, d + 1, 14, [some (.ref 108), some (.int l1), some (.int l2), some (.int (l3 + 1)), some (.int l4)], [], w) else (if (gI w 109 (l3).toNatClampNeg) ≤ (gI w 109 (l4).toNatClampNeg) then val (180, d + 1, 27, [some (.ref 108), some (.int l1), some (.int (l2 + 0)), some (.int l3), some (.int (l4 + 1))], [], w) else val (180, d + 1, 27, [some (.ref 108), some (.int l1), some (.int (l2 + 1)), some (.int l3), some (.int (l4 + 1))], [], w))) := by
  refine (val_g (c2 := (180, d + 1, 29, [some (.ref 108), some (.int l1), some (.int l2), some (.int l3), some (.int l4)], [.int l4], w)) rfl).trans ?_
  refine (val_g (c2 := (180, d + 1, 30, [some (.ref 108), some (.int l1), some (.int l2), some (.int l3), some (.int l4)], [.ref 108, .int l4], w)) rfl).trans ?_
  refine (val_gf rfl (hW.k 108 (Nat.le_of_ble_eq_true rfl) (Nat.le_of_ble_eq_true rfl)) rfl).trans ?_
  show val (180, d + 1, 33, [some (.ref 108), some (.int l1), some (.int l2), some (.int l3), some (.int l4)], [.int (gI w 108 0), .int l4], w) = _
  by_cases hc916 : (gI w 108 0) < l4
  · refine ((val_ic_gt rfl).trans (if_pos hc916)).trans ?_
    show val (180, d + 1, 66, [some (.ref 108), some (.int l1), some (.int l2), some (.int l3), some (.int l4)], [], w) = _
    refine Eq.trans ?_ (if_pos hc916).symm
    refine (val_g (c2 := (180, d + 1, 69, [some (.ref 108), some (.int l1), some (.int l2), some (.int (l3 + 1)), some (.int l4)], [], w)) rfl).trans ?_
    refine (val_g (c2 := (180, d + 1, 14, [some (.ref 108), some (.int l1), some (.int l2), some (.int (l3 + 1)), some (.int l4)], [], w)) rfl).trans ?_
    rfl
  · refine ((val_ic_gt rfl).trans (if_neg hc916)).trans ?_
    show val (180, d + 1, 36, [some (.ref 108), some (.int l1), some (.int l2), some (.int l3), some (.int l4)], [], w) = _
    refine Eq.trans ?_ (if_neg hc916).symm
    refine (val_g (c2 := (180, d + 1, 37, [some (.ref 108), some (.int l1), some (.int l2), some (.int l3), some (.int l4)], [.int l2], w)) rfl).trans ?_
    refine (val_g (c2 := (180, d + 1, 38, [some (.ref 108), some (.int l1), some (.int l2), some (.int l3), some (.int l4)], [.ref 108, .int l2], w)) rfl).trans ?_
    refine (val_gf rfl (hW.k 108 (Nat.le_of_ble_eq_true rfl) (Nat.le_of_ble_eq_true rfl)) (fvR (hW.r 108 1 109 rfl))).trans ?_
    show val (180, d + 1, 41, [some (.ref 108), some (.int l1), some (.int l2), some (.int l3), some (.int l4)], [.ref 109, .int l2], w) = _
    refine (val_g (c2 := (180, d + 1, 42, [some (.ref 108), some (.int l1), some (.int l2), some (.int l3), some (.int l4)], [.int l3, .ref 109, .int l2], w)) rfl).trans ?_
    refine (val_ial rfl (hW.k 109 (Nat.le_of_ble_eq_true rfl) (Nat.le_of_ble_eq_true rfl)) rfl (hy1 hc916)).trans ?_
    show val (180, d + 1, 43, [some (.ref 108), some (.int l1), some (.int l2), some (.int l3), some (.int l4)], [.int (gI w 109 (l3).toNatClampNeg), .int l2], w) = _
    refine (val_g (c2 := (180, d + 1, 44, [some (.ref 108), some (.int l1), some (.int l2), some (.int l3), some (.int l4)], [.ref 108, .int (gI w 109 (l3).toNatClampNeg), .int l2], w)) rfl).trans ?_
    refine (val_gf rfl (hW.k 108 (Nat.le_of_ble_eq_true rfl) (Nat.le_of_ble_eq_true rfl)) (fvR (hW.r 108 1 109 rfl))).trans ?_
    show val (180, d + 1, 47, [some (.ref 108), some (.int l1), some (.int l2), some (.int l3), some (.int l4)], [.ref 109, .int (gI w 109 (l3).toNatClampNeg), .int l2], w) = _
    refine (val_g (c2 := (180, d + 1, 49, [some (.ref 108), some (.int l1), some (.int l2), some (.int l3), some (.int l4)], [.int l4, .ref 109, .int (gI w 109 (l3).toNatClampNeg), .int l2], w)) rfl).trans ?_
    refine (val_ial rfl (hW.k 109 (Nat.le_of_ble_eq_true rfl) (Nat.le_of_ble_eq_true rfl)) rfl (hy2 hc916)).trans ?_
    show val (180, d + 1, 50, [some (.ref 108), some (.int l1), some (.int l2), some (.int l3), some (.int l4)], [.int (gI w 109 (l4).toNatClampNeg), .int (gI w 109 (l3).toNatClampNeg), .int l2], w) = _
    by_cases hc917 : (gI w 109 (l3).toNatClampNeg) ≤ (gI w 109 (l4).toNatClampNeg)
    · refine ((val_ic_le rfl).trans (if_pos hc917)).trans ?_
      show val (180, d + 1, 57, [some (.ref 108), some (.int l1), some (.int l2), some (.int l3), some (.int l4)], [.int l2], w) = _
      refine Eq.trans ?_ (if_pos hc917).symm
      refine (val_g (c2 := (180, d + 1, 58, [some (.ref 108), some (.int l1), some (.int l2), some (.int l3), some (.int l4)], [.int 0, .int l2], w)) rfl).trans ?_
      refine (val_g (c2 := (180, d + 1, 59, [some (.ref 108), some (.int l1), some (.int l2), some (.int l3), some (.int l4)], [.int (l2 + 0)], w)) rfl).trans ?_
      refine (val_g (c2 := (180, d + 1, 60, [some (.ref 108), some (.int l1), some (.int (l2 + 0)), some (.int l3), some (.int l4)], [], w)) rfl).trans ?_
      refine (val_g (c2 := (180, d + 1, 63, [some (.ref 108), some (.int l1), some (.int (l2 + 0)), some (.int l3), some (.int (l4 + 1))], [], w)) rfl).trans ?_
      refine (val_g (c2 := (180, d + 1, 27, [some (.ref 108), some (.int l1), some (.int (l2 + 0)), some (.int l3), some (.int (l4 + 1))], [], w)) rfl).trans ?_
      rfl
    · refine ((val_ic_le rfl).trans (if_neg hc917)).trans ?_
      show val (180, d + 1, 53, [some (.ref 108), some (.int l1), some (.int l2), some (.int l3), some (.int l4)], [.int l2], w) = _
      refine Eq.trans ?_ (if_neg hc917).symm
      refine (val_g (c2 := (180, d + 1, 54, [some (.ref 108), some (.int l1), some (.int l2), some (.int l3), some (.int l4)], [.int 1, .int l2], w)) rfl).trans ?_
      refine (val_g (c2 := (180, d + 1, 58, [some (.ref 108), some (.int l1), some (.int l2), some (.int l3), some (.int l4)], [.int 1, .int l2], w)) rfl).trans ?_
      refine (val_g (c2 := (180, d + 1, 59, [some (.ref 108), some (.int l1), some (.int l2), some (.int l3), some (.int l4)], [.int (l2 + 1)], w)) rfl).trans ?_
      refine (val_g (c2 := (180, d + 1, 60, [some (.ref 108), some (.int l1), some (.int (l2 + 1)), some (.int l3), some (.int l4)], [], w)) rfl).trans ?_
      refine (val_g (c2 := (180, d + 1, 63, [some (.ref 108), some (.int l1), some (.int (l2 + 1)), some (.int l3), some (.int (l4 + 1))], [], w)) rfl).trans ?_
      refine (val_g (c2 := (180, d + 1, 27, [some (.ref 108), some (.int l1), some (.int (l2 + 1)), some (.int l3), some (.int (l4 + 1))], [], w)) rfl).trans ?_
      rfl
/-- BelfryHouseModel.told(II)I -/
theorem tr_181 (d : Nat) (w : Wd) (x0 : Int32) (x1 : Int32)     : val (181, d + 2, 0, [some (.ref 108), some (.int x0), some (.int x1), none, none], [], w) = val (181, d + 2, 2, [some (.ref 108), some (.int x0), some (.int x1), none, none], [.int x0, .ref 108], w) := by
  refine (val_g (c2 := (181, d + 2, 1, [some (.ref 108), some (.int x0), some (.int x1), none, none], [.ref 108], w)) rfl).trans ?_
  refine (val_g (c2 := (181, d + 2, 2, [some (.ref 108), some (.int x0), some (.int x1), none, none], [.int x0, .ref 108], w)) rfl).trans ?_
  rfl
theorem tr_181_5 (d : Nat) (w : Wd) (l1 : Int32) (l2 : Int32) (s0 : Int32)     : val (181, d + 2, 5, [some (.ref 108), some (.int l1), some (.int l2), none, none], [.int s0], w) = (if s0 = 0 then some (some (.int (-1)), w) else (if l2 < 0 then some (some (.int (-1)), w) else (if l2 ≤ 2 then (if ¬ l2 = 1 then (if ¬ l2 = 2 then val (181, d + 2, 54, [some (.ref 108), some (.int l1), some (.int l2), some (.int 1), some (.int l1)], [], w) else val (181, d + 2, 37, [some (.ref 108), some (.int l1), some (.int l2), none, none], [.int l1, .ref 108], w)) else val (181, d + 2, 26, [some (.ref 108), some (.int l1), some (.int l2), none, none], [.int l1, .ref 108], w)) else some (some (.int (-1)), w)))) := by
  by_cases hc925 : s0 = 0
  · refine ((val_if_eq rfl).trans (if_pos hc925)).trans ?_
    show val (181, d + 2, 17, [some (.ref 108), some (.int l1), some (.int l2), none, none], [], w) = _
    refine Eq.trans ?_ (if_pos hc925).symm
    refine (val_g (c2 := (181, d + 2, 18, [some (.ref 108), some (.int l1), some (.int l2), none, none], [.int (-1)], w)) rfl).trans ?_
    exact val_r rfl
  · refine ((val_if_eq rfl).trans (if_neg hc925)).trans ?_
    show val (181, d + 2, 8, [some (.ref 108), some (.int l1), some (.int l2), none, none], [], w) = _
    refine Eq.trans ?_ (if_neg hc925).symm
    refine (val_g (c2 := (181, d + 2, 9, [some (.ref 108), some (.int l1), some (.int l2), none, none], [.int l2], w)) rfl).trans ?_
    by_cases hc926 : l2 < 0
    · refine ((val_if_lt rfl).trans (if_pos hc926)).trans ?_
      show val (181, d + 2, 17, [some (.ref 108), some (.int l1), some (.int l2), none, none], [], w) = _
      refine Eq.trans ?_ (if_pos hc926).symm
      refine (val_g (c2 := (181, d + 2, 18, [some (.ref 108), some (.int l1), some (.int l2), none, none], [.int (-1)], w)) rfl).trans ?_
      exact val_r rfl
    · refine ((val_if_lt rfl).trans (if_neg hc926)).trans ?_
      show val (181, d + 2, 12, [some (.ref 108), some (.int l1), some (.int l2), none, none], [], w) = _
      refine Eq.trans ?_ (if_neg hc926).symm
      refine (val_g (c2 := (181, d + 2, 13, [some (.ref 108), some (.int l1), some (.int l2), none, none], [.int l2], w)) rfl).trans ?_
      refine (val_g (c2 := (181, d + 2, 14, [some (.ref 108), some (.int l1), some (.int l2), none, none], [.int 2, .int l2], w)) rfl).trans ?_
      by_cases hc927 : l2 ≤ 2
      · refine ((val_ic_le rfl).trans (if_pos hc927)).trans ?_
        show val (181, d + 2, 19, [some (.ref 108), some (.int l1), some (.int l2), none, none], [], w) = _
        refine Eq.trans ?_ (if_pos hc927).symm
        refine (val_g (c2 := (181, d + 2, 20, [some (.ref 108), some (.int l1), some (.int l2), none, none], [.int l2], w)) rfl).trans ?_
        refine (val_g (c2 := (181, d + 2, 21, [some (.ref 108), some (.int l1), some (.int l2), none, none], [.int 1, .int l2], w)) rfl).trans ?_
        by_cases hc928 : ¬ l2 = 1
        · refine ((val_ic_ne rfl).trans (if_pos hc928)).trans ?_
          show val (181, d + 2, 30, [some (.ref 108), some (.int l1), some (.int l2), none, none], [], w) = _
          refine Eq.trans ?_ (if_pos hc928).symm
          refine (val_g (c2 := (181, d + 2, 31, [some (.ref 108), some (.int l1), some (.int l2), none, none], [.int l2], w)) rfl).trans ?_
          refine (val_g (c2 := (181, d + 2, 32, [some (.ref 108), some (.int l1), some (.int l2), none, none], [.int 2, .int l2], w)) rfl).trans ?_
          by_cases hc929 : ¬ l2 = 2
          · refine ((val_ic_ne rfl).trans (if_pos hc929)).trans ?_
            show val (181, d + 2, 49, [some (.ref 108), some (.int l1), some (.int l2), none, none], [], w) = _
            refine Eq.trans ?_ (if_pos hc929).symm
            refine (val_g (c2 := (181, d + 2, 50, [some (.ref 108), some (.int l1), some (.int l2), none, none], [.int 1], w)) rfl).trans ?_
            refine (val_g (c2 := (181, d + 2, 51, [some (.ref 108), some (.int l1), some (.int l2), some (.int 1), none], [], w)) rfl).trans ?_
            refine (val_g (c2 := (181, d + 2, 52, [some (.ref 108), some (.int l1), some (.int l2), some (.int 1), none], [.int l1], w)) rfl).trans ?_
            refine (val_g (c2 := (181, d + 2, 54, [some (.ref 108), some (.int l1), some (.int l2), some (.int 1), some (.int l1)], [], w)) rfl).trans ?_
            rfl
          · refine ((val_ic_ne rfl).trans (if_neg hc929)).trans ?_
            show val (181, d + 2, 35, [some (.ref 108), some (.int l1), some (.int l2), none, none], [], w) = _
            refine Eq.trans ?_ (if_neg hc929).symm
            refine (val_g (c2 := (181, d + 2, 36, [some (.ref 108), some (.int l1), some (.int l2), none, none], [.ref 108], w)) rfl).trans ?_
            refine (val_g (c2 := (181, d + 2, 37, [some (.ref 108), some (.int l1), some (.int l2), none, none], [.int l1, .ref 108], w)) rfl).trans ?_
            rfl
        · refine ((val_ic_ne rfl).trans (if_neg hc928)).trans ?_
          show val (181, d + 2, 24, [some (.ref 108), some (.int l1), some (.int l2), none, none], [], w) = _
          refine Eq.trans ?_ (if_neg hc928).symm
          refine (val_g (c2 := (181, d + 2, 25, [some (.ref 108), some (.int l1), some (.int l2), none, none], [.ref 108], w)) rfl).trans ?_
          refine (val_g (c2 := (181, d + 2, 26, [some (.ref 108), some (.int l1), some (.int l2), none, none], [.int l1, .ref 108], w)) rfl).trans ?_
          rfl
      · refine ((val_ic_le rfl).trans (if_neg hc927)).trans ?_
        show val (181, d + 2, 17, [some (.ref 108), some (.int l1), some (.int l2), none, none], [], w) = _
        refine Eq.trans ?_ (if_neg hc927).symm
        refine (val_g (c2 := (181, d + 2, 18, [some (.ref 108), some (.int l1), some (.int l2), none, none], [.int (-1)], w)) rfl).trans ?_
        exact val_r rfl
theorem tr_181_29 (d : Nat) (w : Wd) (l1 : Int32) (l2 : Int32) (s0 : Int32)     : val (181, d + 2, 29, [some (.ref 108), some (.int l1), some (.int l2), none, none], [.int s0], w) = some (some (.int s0), w) := by
  exact val_r rfl
theorem tr_181_40 (d : Nat) (w : Wd) (l1 : Int32) (l2 : Int32) (s0 : Int32)     : val (181, d + 2, 40, [some (.ref 108), some (.int l1), some (.int l2), none, none], [.int s0], w) = (if s0 = 0 then some (some (.int 0), w) else some (some (.int 1), w)) := by
  by_cases hc930 : s0 = 0
  · refine ((val_if_eq rfl).trans (if_pos hc930)).trans ?_
    show val (181, d + 2, 47, [some (.ref 108), some (.int l1), some (.int l2), none, none], [], w) = _
    refine Eq.trans ?_ (if_pos hc930).symm
    refine (val_g (c2 := (181, d + 2, 48, [some (.ref 108), some (.int l1), some (.int l2), none, none], [.int 0], w)) rfl).trans ?_
    exact val_r rfl
  · refine ((val_if_eq rfl).trans (if_neg hc930)).trans ?_
    show val (181, d + 2, 43, [some (.ref 108), some (.int l1), some (.int l2), none, none], [], w) = _
    refine Eq.trans ?_ (if_neg hc930).symm
    refine (val_g (c2 := (181, d + 2, 44, [some (.ref 108), some (.int l1), some (.int l2), none, none], [.int 1], w)) rfl).trans ?_
    refine (val_g (c2 := (181, d + 2, 48, [some (.ref 108), some (.int l1), some (.int l2), none, none], [.int 1], w)) rfl).trans ?_
    exact val_r rfl
theorem tr_181_54 (d : Nat) (w : Wd) (l1 : Int32) (l2 : Int32) (l3 : Int32) (l4 : Int32)     : val (181, d + 2, 54, [some (.ref 108), some (.int l1), some (.int l2), some (.int l3), some (.int l4)], [], w) = val (181, d + 2, 57, [some (.ref 108), some (.int l1), some (.int l2), some (.int l3), some (.int l4)], [.ref 108, .int l4], w) := by
  refine (val_g (c2 := (181, d + 2, 56, [some (.ref 108), some (.int l1), some (.int l2), some (.int l3), some (.int l4)], [.int l4], w)) rfl).trans ?_
  refine (val_g (c2 := (181, d + 2, 57, [some (.ref 108), some (.int l1), some (.int l2), some (.int l3), some (.int l4)], [.ref 108, .int l4], w)) rfl).trans ?_
  rfl
theorem tr_181_60 (d : Nat) (w : Wd) (l1 : Int32) (l2 : Int32) (l3 : Int32) (l4 : Int32) (s0 : Int32) (s1 : Int32)     : val (181, d + 2, 60, [some (.ref 108), some (.int l1), some (.int l2), some (.int l3), some (.int l4)], [.int s0, .int s1], w) = (if s1 = s0 then some (some (.int l3), w) else val (181, d + 2, 67, [some (.ref 108), some (.int l1), some (.int l2), some (.int l3), some (.int l4)], [.int l1, .int l4, .ref 108], w)) := by
  by_cases hc931 : s1 = s0
  · refine ((val_ic_eq rfl).trans (if_pos hc931)).trans ?_
    show val (181, d + 2, 78, [some (.ref 108), some (.int l1), some (.int l2), some (.int l3), some (.int l4)], [], w) = _
    refine Eq.trans ?_ (if_pos hc931).symm
    refine (val_g (c2 := (181, d + 2, 79, [some (.ref 108), some (.int l1), some (.int l2), some (.int l3), some (.int l4)], [.int l3], w)) rfl).trans ?_
    exact val_r rfl
  · refine ((val_ic_eq rfl).trans (if_neg hc931)).trans ?_
    show val (181, d + 2, 63, [some (.ref 108), some (.int l1), some (.int l2), some (.int l3), some (.int l4)], [], w) = _
    refine Eq.trans ?_ (if_neg hc931).symm
    refine (val_g (c2 := (181, d + 2, 64, [some (.ref 108), some (.int l1), some (.int l2), some (.int l3), some (.int l4)], [.ref 108], w)) rfl).trans ?_
    refine (val_g (c2 := (181, d + 2, 66, [some (.ref 108), some (.int l1), some (.int l2), some (.int l3), some (.int l4)], [.int l4, .ref 108], w)) rfl).trans ?_
    refine (val_g (c2 := (181, d + 2, 67, [some (.ref 108), some (.int l1), some (.int l2), some (.int l3), some (.int l4)], [.int l1, .int l4, .ref 108], w)) rfl).trans ?_
    rfl
theorem tr_181_70 (d : Nat) (w : Wd) (l1 : Int32) (l2 : Int32) (l3 : Int32) (l4 : Int32) (s0 : Int32)     : val (181, d + 2, 70, [some (.ref 108), some (.int l1), some (.int l2), some (.int l3), some (.int l4)], [.int s0], w) = val (181, d + 2, 54, [some (.ref 108), some (.int l1), some (.int l2), some (.int (l3 + 1)), some (.int s0)], [], w) := by
  refine (val_g (c2 := (181, d + 2, 72, [some (.ref 108), some (.int l1), some (.int l2), some (.int l3), some (.int s0)], [], w)) rfl).trans ?_
  refine (val_g (c2 := (181, d + 2, 75, [some (.ref 108), some (.int l1), some (.int l2), some (.int (l3 + 1)), some (.int s0)], [], w)) rfl).trans ?_
  refine (val_g (c2 := (181, d + 2, 54, [some (.ref 108), some (.int l1), some (.int l2), some (.int (l3 + 1)), some (.int s0)], [], w)) rfl).trans ?_
  rfl
/-- BelfryHouseModel.all()I -/
theorem tr_182 (d : Nat) (w : Wd)      : val (182, d, 0, [some (.ref 108), none, none], [], w) = val (182, d, 4, [some (.ref 108), some (.int 1), some (.int 2)], [], w) := by
  refine (val_g (c2 := (182, d, 1, [some (.ref 108), none, none], [.int 1], w)) rfl).trans ?_
  refine (val_g (c2 := (182, d, 2, [some (.ref 108), some (.int 1), none], [], w)) rfl).trans ?_
  refine (val_g (c2 := (182, d, 3, [some (.ref 108), some (.int 1), none], [.int 2], w)) rfl).trans ?_
  refine (val_g (c2 := (182, d, 4, [some (.ref 108), some (.int 1), some (.int 2)], [], w)) rfl).trans ?_
  rfl
theorem tr_182_4 (d : Nat) (w : Wd) (hW : Fix w) (l1 : Int32) (l2 : Int32)     : val (182, d, 4, [some (.ref 108), some (.int l1), some (.int l2)], [], w) = (if (gI w 108 0) < l2 then some (some (.int l1), w) else val (182, d, 4, [some (.ref 108), some (.int (l1 * l2)), some (.int (l2 + 1))], [], w)) := by
  refine (val_g (c2 := (182, d, 5, [some (.ref 108), some (.int l1), some (.int l2)], [.int l2], w)) rfl).trans ?_
  refine (val_g (c2 := (182, d, 6, [some (.ref 108), some (.int l1), some (.int l2)], [.ref 108, .int l2], w)) rfl).trans ?_
  refine (val_gf rfl (hW.k 108 (Nat.le_of_ble_eq_true rfl) (Nat.le_of_ble_eq_true rfl)) rfl).trans ?_
  show val (182, d, 9, [some (.ref 108), some (.int l1), some (.int l2)], [.int (gI w 108 0), .int l2], w) = _
  by_cases hc933 : (gI w 108 0) < l2
  · refine ((val_ic_gt rfl).trans (if_pos hc933)).trans ?_
    show val (182, d, 22, [some (.ref 108), some (.int l1), some (.int l2)], [], w) = _
    refine Eq.trans ?_ (if_pos hc933).symm
    refine (val_g (c2 := (182, d, 23, [some (.ref 108), some (.int l1), some (.int l2)], [.int l1], w)) rfl).trans ?_
    exact val_r rfl
  · refine ((val_ic_gt rfl).trans (if_neg hc933)).trans ?_
    show val (182, d, 12, [some (.ref 108), some (.int l1), some (.int l2)], [], w) = _
    refine Eq.trans ?_ (if_neg hc933).symm
    refine (val_g (c2 := (182, d, 13, [some (.ref 108), some (.int l1), some (.int l2)], [.int l1], w)) rfl).trans ?_
    refine (val_g (c2 := (182, d, 14, [some (.ref 108), some (.int l1), some (.int l2)], [.int l2, .int l1], w)) rfl).trans ?_
    refine (val_g (c2 := (182, d, 15, [some (.ref 108), some (.int l1), some (.int l2)], [.int (l1 * l2)], w)) rfl).trans ?_
    refine (val_g (c2 := (182, d, 16, [some (.ref 108), some (.int (l1 * l2)), some (.int l2)], [], w)) rfl).trans ?_
    refine (val_g (c2 := (182, d, 19, [some (.ref 108), some (.int (l1 * l2)), some (.int (l2 + 1))], [], w)) rfl).trans ?_
    refine (val_g (c2 := (182, d, 4, [some (.ref 108), some (.int (l1 * l2)), some (.int (l2 + 1))], [], w)) rfl).trans ?_
    rfl
/-- BelfryHouseModel.ofRank(I)I -/
theorem tr_183 (d : Nat) (w : Wd) (x0 : Int32)     : val (183, d + 1, 0, [some (.ref 108), some (.int x0), none, none, none, none, none, none, none], [], w) = val (183, d + 1, 3, [some (.ref 108), some (.int x0), some (.int x0), none, none, none, none, none, none], [.ref 108], w) := by
  refine (val_g (c2 := (183, d + 1, 1, [some (.ref 108), some (.int x0), none, none, none, none, none, none, none], [.int x0], w)) rfl).trans ?_
  refine (val_g (c2 := (183, d + 1, 2, [some (.ref 108), some (.int x0), some (.int x0), none, none, none, none, none, none], [], w)) rfl).trans ?_
  refine (val_g (c2 := (183, d + 1, 3, [some (.ref 108), some (.int x0), some (.int x0), none, none, none, none, none, none], [.ref 108], w)) rfl).trans ?_
  rfl
theorem tr_183_6 (d : Nat) (w : Wd) (l1 : Int32) (l2 : Int32) (s0 : Int32)     : val (183, d + 1, 6, [some (.ref 108), some (.int l1), some (.int l2), none, none, none, none, none, none], [.int s0], w) = val (183, d + 1, 16, [some (.ref 108), some (.int l1), some (.int l2), some (.int s0), some (.int 0), some (.int 0), some (.int 1), none, none], [], w) := by
  refine (val_g (c2 := (183, d + 1, 7, [some (.ref 108), some (.int l1), some (.int l2), some (.int s0), none, none, none, none, none], [], w)) rfl).trans ?_
  refine (val_g (c2 := (183, d + 1, 8, [some (.ref 108), some (.int l1), some (.int l2), some (.int s0), none, none, none, none, none], [.int 0], w)) rfl).trans ?_
  refine (val_g (c2 := (183, d + 1, 10, [some (.ref 108), some (.int l1), some (.int l2), some (.int s0), some (.int 0), none, none, none, none], [], w)) rfl).trans ?_
  refine (val_g (c2 := (183, d + 1, 11, [some (.ref 108), some (.int l1), some (.int l2), some (.int s0), some (.int 0), none, none, none, none], [.int 0], w)) rfl).trans ?_
  refine (val_g (c2 := (183, d + 1, 13, [some (.ref 108), some (.int l1), some (.int l2), some (.int s0), some (.int 0), some (.int 0), none, none, none], [], w)) rfl).trans ?_
  refine (val_g (c2 := (183, d + 1, 14, [some (.ref 108), some (.int l1), some (.int l2), some (.int s0), some (.int 0), some (.int 0), none, none, none], [.int 1], w)) rfl).trans ?_
  refine (val_g (c2 := (183, d + 1, 16, [some (.ref 108), some (.int l1), some (.int l2), some (.int s0), some (.int 0), some (.int 0), some (.int 1), none, none], [], w)) rfl).trans ?_
  rfl
theorem tr_183_16 (d : Nat) (w : Wd) (hW : Fix w) (l1 : Int32) (l2 : Int32) (l3 : Int32) (l4 : Int32) (l5 : Int32) (l6 : Int32) (l7 : Option Value) (l8 : Option Value)   (hy1 : (¬ ((gI w 108 0) < l6)) → ¬ (((gI w 108 0) + 1) - l6) = 0) (hy2 : (¬ ((gI w 108 0) < l6)) → ¬ (l3 / (((gI w 108 0) + 1) - l6)) = 0) : val (183, d + 1, 16, [some (.ref 108), some (.int l1), some (.int l2), some (.int l3), some (.int l4), some (.int l5), some (.int l6), l7, l8], [], w) = (if (gI w 108 0) < l6 then some (some (.int l5), w) else val (183, d + 1, 49, [some (.ref 108), some (.int l1), some (.int (l2 - l2 / (l3 / (((gI w 108 0) + 1) - l6)) * (l3 / (((gI w 108 0) + 1) - l6)))), some (.int (l3 / (((gI w 108 0) + 1) - l6))), some (.int l4), some (.int l5), some (.int l6), some (.int (l2 / (l3 / (((gI w 108 0) + 1) - l6)))), some (.int 1)], [], w)) := by
  refine (val_g (c2 := (183, d + 1, 18, [some (.ref 108), some (.int l1), some (.int l2), some (.int l3), some (.int l4), some (.int l5), some (.int l6), l7, l8], [.int l6], w)) rfl).trans ?_
  refine (val_g (c2 := (183, d + 1, 19, [some (.ref 108), some (.int l1), some (.int l2), some (.int l3), some (.int l4), some (.int l5), some (.int l6), l7, l8], [.ref 108, .int l6], w)) rfl).trans ?_
  refine (val_gf rfl (hW.k 108 (Nat.le_of_ble_eq_true rfl) (Nat.le_of_ble_eq_true rfl)) rfl).trans ?_
  show val (183, d + 1, 22, [some (.ref 108), some (.int l1), some (.int l2), some (.int l3), some (.int l4), some (.int l5), some (.int l6), l7, l8], [.int (gI w 108 0), .int l6], w) = _
  by_cases hc940 : (gI w 108 0) < l6
  · refine ((val_ic_gt rfl).trans (if_pos hc940)).trans ?_
    show val (183, d + 1, 117, [some (.ref 108), some (.int l1), some (.int l2), some (.int l3), some (.int l4), some (.int l5), some (.int l6), l7, l8], [], w) = _
    refine Eq.trans ?_ (if_pos hc940).symm
    refine (val_g (c2 := (183, d + 1, 119, [some (.ref 108), some (.int l1), some (.int l2), some (.int l3), some (.int l4), some (.int l5), some (.int l6), l7, l8], [.int l5], w)) rfl).trans ?_
    exact val_r rfl
  · refine ((val_ic_gt rfl).trans (if_neg hc940)).trans ?_
    show val (183, d + 1, 25, [some (.ref 108), some (.int l1), some (.int l2), some (.int l3), some (.int l4), some (.int l5), some (.int l6), l7, l8], [], w) = _
    refine Eq.trans ?_ (if_neg hc940).symm
    refine (val_g (c2 := (183, d + 1, 26, [some (.ref 108), some (.int l1), some (.int l2), some (.int l3), some (.int l4), some (.int l5), some (.int l6), l7, l8], [.int l3], w)) rfl).trans ?_
    refine (val_g (c2 := (183, d + 1, 27, [some (.ref 108), some (.int l1), some (.int l2), some (.int l3), some (.int l4), some (.int l5), some (.int l6), l7, l8], [.ref 108, .int l3], w)) rfl).trans ?_
    refine (val_gf rfl (hW.k 108 (Nat.le_of_ble_eq_true rfl) (Nat.le_of_ble_eq_true rfl)) rfl).trans ?_
    show val (183, d + 1, 30, [some (.ref 108), some (.int l1), some (.int l2), some (.int l3), some (.int l4), some (.int l5), some (.int l6), l7, l8], [.int (gI w 108 0), .int l3], w) = _
    refine (val_g (c2 := (183, d + 1, 31, [some (.ref 108), some (.int l1), some (.int l2), some (.int l3), some (.int l4), some (.int l5), some (.int l6), l7, l8], [.int 1, .int (gI w 108 0), .int l3], w)) rfl).trans ?_
    refine (val_g (c2 := (183, d + 1, 32, [some (.ref 108), some (.int l1), some (.int l2), some (.int l3), some (.int l4), some (.int l5), some (.int l6), l7, l8], [.int ((gI w 108 0) + 1), .int l3], w)) rfl).trans ?_
    refine (val_g (c2 := (183, d + 1, 34, [some (.ref 108), some (.int l1), some (.int l2), some (.int l3), some (.int l4), some (.int l5), some (.int l6), l7, l8], [.int l6, .int ((gI w 108 0) + 1), .int l3], w)) rfl).trans ?_
    refine (val_g (c2 := (183, d + 1, 35, [some (.ref 108), some (.int l1), some (.int l2), some (.int l3), some (.int l4), some (.int l5), some (.int l6), l7, l8], [.int (((gI w 108 0) + 1) - l6), .int l3], w)) rfl).trans ?_
    refine (val_idiv rfl (hy1 hc940)).trans ?_
    show val (183, d + 1, 36, [some (.ref 108), some (.int l1), some (.int l2), some (.int l3), some (.int l4), some (.int l5), some (.int l6), l7, l8], [.int (l3 / (((gI w 108 0) + 1) - l6))], w) = _
    refine (val_g (c2 := (183, d + 1, 37, [some (.ref 108), some (.int l1), some (.int l2), some (.int (l3 / (((gI w 108 0) + 1) - l6))), some (.int l4), some (.int l5), some (.int l6), l7, l8], [], w)) rfl).trans ?_
    refine (val_g (c2 := (183, d + 1, 38, [some (.ref 108), some (.int l1), some (.int l2), some (.int (l3 / (((gI w 108 0) + 1) - l6))), some (.int l4), some (.int l5), some (.int l6), l7, l8], [.int l2], w)) rfl).trans ?_
    refine (val_g (c2 := (183, d + 1, 39, [some (.ref 108), some (.int l1), some (.int l2), some (.int (l3 / (((gI w 108 0) + 1) - l6))), some (.int l4), some (.int l5), some (.int l6), l7, l8], [.int (l3 / (((gI w 108 0) + 1) - l6)), .int l2], w)) rfl).trans ?_
    refine (val_idiv rfl (hy2 hc940)).trans ?_
    show val (183, d + 1, 40, [some (.ref 108), some (.int l1), some (.int l2), some (.int (l3 / (((gI w 108 0) + 1) - l6))), some (.int l4), some (.int l5), some (.int l6), l7, l8], [.int (l2 / (l3 / (((gI w 108 0) + 1) - l6)))], w) = _
    refine (val_g (c2 := (183, d + 1, 42, [some (.ref 108), some (.int l1), some (.int l2), some (.int (l3 / (((gI w 108 0) + 1) - l6))), some (.int l4), some (.int l5), some (.int l6), some (.int (l2 / (l3 / (((gI w 108 0) + 1) - l6)))), l8], [], w)) rfl).trans ?_
    refine (val_g (c2 := (183, d + 1, 43, [some (.ref 108), some (.int l1), some (.int l2), some (.int (l3 / (((gI w 108 0) + 1) - l6))), some (.int l4), some (.int l5), some (.int l6), some (.int (l2 / (l3 / (((gI w 108 0) + 1) - l6)))), l8], [.int l2], w)) rfl).trans ?_
    refine (val_g (c2 := (183, d + 1, 44, [some (.ref 108), some (.int l1), some (.int l2), some (.int (l3 / (((gI w 108 0) + 1) - l6))), some (.int l4), some (.int l5), some (.int l6), some (.int (l2 / (l3 / (((gI w 108 0) + 1) - l6)))), l8], [.int (l3 / (((gI w 108 0) + 1) - l6)), .int l2], w)) rfl).trans ?_
    refine (val_irem rfl (hy2 hc940)).trans ?_
    show val (183, d + 1, 45, [some (.ref 108), some (.int l1), some (.int l2), some (.int (l3 / (((gI w 108 0) + 1) - l6))), some (.int l4), some (.int l5), some (.int l6), some (.int (l2 / (l3 / (((gI w 108 0) + 1) - l6)))), l8], [.int (l2 - l2 / (l3 / (((gI w 108 0) + 1) - l6)) * (l3 / (((gI w 108 0) + 1) - l6)))], w) = _
    refine (val_g (c2 := (183, d + 1, 46, [some (.ref 108), some (.int l1), some (.int (l2 - l2 / (l3 / (((gI w 108 0) + 1) - l6)) * (l3 / (((gI w 108 0) + 1) - l6)))), some (.int (l3 / (((gI w 108 0) + 1) - l6))), some (.int l4), some (.int l5), some (.int l6), some (.int (l2 / (l3 / (((gI w 108 0) + 1) - l6)))), l8], [], w)) rfl).trans ?_
    refine (val_g (c2 := (183, d + 1, 47, [some (.ref 108), some (.int l1), some (.int (l2 - l2 / (l3 / (((gI w 108 0) + 1) - l6)) * (l3 / (((gI w 108 0) + 1) - l6)))), some (.int (l3 / (((gI w 108 0) + 1) - l6))), some (.int l4), some (.int l5), some (.int l6), some (.int (l2 / (l3 / (((gI w 108 0) + 1) - l6)))), l8], [.int 1], w)) rfl).trans ?_
    refine (val_g (c2 := (183, d + 1, 49, [some (.ref 108), some (.int l1), some (.int (l2 - l2 / (l3 / (((gI w 108 0) + 1) - l6)) * (l3 / (((gI w 108 0) + 1) - l6)))), some (.int (l3 / (((gI w 108 0) + 1) - l6))), some (.int l4), some (.int l5), some (.int l6), some (.int (l2 / (l3 / (((gI w 108 0) + 1) - l6)))), some (.int 1)], [], w)) rfl).trans ?_
    rfl
theorem tr_183_49 (d : Nat) (w : Wd) (l1 : Int32) (l2 : Int32) (l3 : Int32) (l4 : Int32) (l5 : Int32) (l6 : Int32) (l7 : Int32) (l8 : Int32)     : val (183, d + 1, 49, [some (.ref 108), some (.int l1), some (.int l2), some (.int l3), some (.int l4), some (.int l5), some (.int l6), some (.int l7), some (.int l8)], [], w) = (if ((l4 >>> (l8 &&& 31)) &&& 1) = 1 then (if ¬ ((l4 >>> (l8 &&& 31)) &&& 1) = 1 then val (183, d + 1, 49, [some (.ref 108), some (.int l1), some (.int l2), some (.int l3), some (.int l4), some (.int l5), some (.int l6), some (.int (l7 - 1)), some (.int (l8 + 1))], [], w) else val (183, d + 1, 49, [some (.ref 108), some (.int l1), some (.int l2), some (.int l3), some (.int l4), some (.int l5), some (.int l6), some (.int (l7 - 0)), some (.int (l8 + 1))], [], w)) else (if l7 ≤ 0 then val (183, d + 1, 16, [some (.ref 108), some (.int l1), some (.int l2), some (.int l3), some (.int (l4 ||| (1 <<< (l8 &&& 31)))), some (.int ((10 * l5) + l8)), some (.int (l6 + 1)), some (.int l7), some (.int l8)], [], w) else (if ¬ ((l4 >>> (l8 &&& 31)) &&& 1) = 1 then val (183, d + 1, 49, [some (.ref 108), some (.int l1), some (.int l2), some (.int l3), some (.int l4), some (.int l5), some (.int l6), some (.int (l7 - 1)), some (.int (l8 + 1))], [], w) else val (183, d + 1, 49, [some (.ref 108), some (.int l1), some (.int l2), some (.int l3), some (.int l4), some (.int l5), some (.int l6), some (.int (l7 - 0)), some (.int (l8 + 1))], [], w)))) := by
  refine (val_g (c2 := (183, d + 1, 51, [some (.ref 108), some (.int l1), some (.int l2), some (.int l3), some (.int l4), some (.int l5), some (.int l6), some (.int l7), some (.int l8)], [.int l4], w)) rfl).trans ?_
  refine (val_g (c2 := (183, d + 1, 53, [some (.ref 108), some (.int l1), some (.int l2), some (.int l3), some (.int l4), some (.int l5), some (.int l6), some (.int l7), some (.int l8)], [.int l8, .int l4], w)) rfl).trans ?_
  refine (val_g (c2 := (183, d + 1, 54, [some (.ref 108), some (.int l1), some (.int l2), some (.int l3), some (.int l4), some (.int l5), some (.int l6), some (.int l7), some (.int l8)], [.int (l4 >>> (l8 &&& 31))], w)) rfl).trans ?_
  refine (val_g (c2 := (183, d + 1, 55, [some (.ref 108), some (.int l1), some (.int l2), some (.int l3), some (.int l4), some (.int l5), some (.int l6), some (.int l7), some (.int l8)], [.int 1, .int (l4 >>> (l8 &&& 31))], w)) rfl).trans ?_
  refine (val_g (c2 := (183, d + 1, 56, [some (.ref 108), some (.int l1), some (.int l2), some (.int l3), some (.int l4), some (.int l5), some (.int l6), some (.int l7), some (.int l8)], [.int ((l4 >>> (l8 &&& 31)) &&& 1)], w)) rfl).trans ?_
  refine (val_g (c2 := (183, d + 1, 57, [some (.ref 108), some (.int l1), some (.int l2), some (.int l3), some (.int l4), some (.int l5), some (.int l6), some (.int l7), some (.int l8)], [.int 1, .int ((l4 >>> (l8 &&& 31)) &&& 1)], w)) rfl).trans ?_
  by_cases hc941 : ((l4 >>> (l8 &&& 31)) &&& 1) = 1
  · refine ((val_ic_eq rfl).trans (if_pos hc941)).trans ?_
    show val (183, d + 1, 65, [some (.ref 108), some (.int l1), some (.int l2), some (.int l3), some (.int l4), some (.int l5), some (.int l6), some (.int l7), some (.int l8)], [], w) = _
    refine Eq.trans ?_ (if_pos hc941).symm
    refine (val_g (c2 := (183, d + 1, 67, [some (.ref 108), some (.int l1), some (.int l2), some (.int l3), some (.int l4), some (.int l5), some (.int l6), some (.int l7), some (.int l8)], [.int l7], w)) rfl).trans ?_
    refine (val_g (c2 := (183, d + 1, 69, [some (.ref 108), some (.int l1), some (.int l2), some (.int l3), some (.int l4), some (.int l5), some (.int l6), some (.int l7), some (.int l8)], [.int l4, .int l7], w)) rfl).trans ?_
    refine (val_g (c2 := (183, d + 1, 71, [some (.ref 108), some (.int l1), some (.int l2), some (.int l3), some (.int l4), some (.int l5), some (.int l6), some (.int l7), some (.int l8)], [.int l8, .int l4, .int l7], w)) rfl).trans ?_
    refine (val_g (c2 := (183, d + 1, 72, [some (.ref 108), some (.int l1), some (.int l2), some (.int l3), some (.int l4), some (.int l5), some (.int l6), some (.int l7), some (.int l8)], [.int (l4 >>> (l8 &&& 31)), .int l7], w)) rfl).trans ?_
    refine (val_g (c2 := (183, d + 1, 73, [some (.ref 108), some (.int l1), some (.int l2), some (.int l3), some (.int l4), some (.int l5), some (.int l6), some (.int l7), some (.int l8)], [.int 1, .int (l4 >>> (l8 &&& 31)), .int l7], w)) rfl).trans ?_
    refine (val_g (c2 := (183, d + 1, 74, [some (.ref 108), some (.int l1), some (.int l2), some (.int l3), some (.int l4), some (.int l5), some (.int l6), some (.int l7), some (.int l8)], [.int ((l4 >>> (l8 &&& 31)) &&& 1), .int l7], w)) rfl).trans ?_
    refine (val_g (c2 := (183, d + 1, 75, [some (.ref 108), some (.int l1), some (.int l2), some (.int l3), some (.int l4), some (.int l5), some (.int l6), some (.int l7), some (.int l8)], [.int 1, .int ((l4 >>> (l8 &&& 31)) &&& 1), .int l7], w)) rfl).trans ?_
    by_cases hc942 : ¬ ((l4 >>> (l8 &&& 31)) &&& 1) = 1
    · refine ((val_ic_ne rfl).trans (if_pos hc942)).trans ?_
      show val (183, d + 1, 82, [some (.ref 108), some (.int l1), some (.int l2), some (.int l3), some (.int l4), some (.int l5), some (.int l6), some (.int l7), some (.int l8)], [.int l7], w) = _
      refine Eq.trans ?_ (if_pos hc942).symm
      refine (val_g (c2 := (183, d + 1, 83, [some (.ref 108), some (.int l1), some (.int l2), some (.int l3), some (.int l4), some (.int l5), some (.int l6), some (.int l7), some (.int l8)], [.int 1, .int l7], w)) rfl).trans ?_
      refine (val_g (c2 := (183, d + 1, 84, [some (.ref 108), some (.int l1), some (.int l2), some (.int l3), some (.int l4), some (.int l5), some (.int l6), some (.int l7), some (.int l8)], [.int (l7 - 1)], w)) rfl).trans ?_
      refine (val_g (c2 := (183, d + 1, 86, [some (.ref 108), some (.int l1), some (.int l2), some (.int l3), some (.int l4), some (.int l5), some (.int l6), some (.int (l7 - 1)), some (.int l8)], [], w)) rfl).trans ?_
      refine (val_g (c2 := (183, d + 1, 89, [some (.ref 108), some (.int l1), some (.int l2), some (.int l3), some (.int l4), some (.int l5), some (.int l6), some (.int (l7 - 1)), some (.int (l8 + 1))], [], w)) rfl).trans ?_
      refine (val_g (c2 := (183, d + 1, 49, [some (.ref 108), some (.int l1), some (.int l2), some (.int l3), some (.int l4), some (.int l5), some (.int l6), some (.int (l7 - 1)), some (.int (l8 + 1))], [], w)) rfl).trans ?_
      rfl
    · refine ((val_ic_ne rfl).trans (if_neg hc942)).trans ?_
      show val (183, d + 1, 78, [some (.ref 108), some (.int l1), some (.int l2), some (.int l3), some (.int l4), some (.int l5), some (.int l6), some (.int l7), some (.int l8)], [.int l7], w) = _
      refine Eq.trans ?_ (if_neg hc942).symm
      refine (val_g (c2 := (183, d + 1, 79, [some (.ref 108), some (.int l1), some (.int l2), some (.int l3), some (.int l4), some (.int l5), some (.int l6), some (.int l7), some (.int l8)], [.int 0, .int l7], w)) rfl).trans ?_
      refine (val_g (c2 := (183, d + 1, 83, [some (.ref 108), some (.int l1), some (.int l2), some (.int l3), some (.int l4), some (.int l5), some (.int l6), some (.int l7), some (.int l8)], [.int 0, .int l7], w)) rfl).trans ?_
      refine (val_g (c2 := (183, d + 1, 84, [some (.ref 108), some (.int l1), some (.int l2), some (.int l3), some (.int l4), some (.int l5), some (.int l6), some (.int l7), some (.int l8)], [.int (l7 - 0)], w)) rfl).trans ?_
      refine (val_g (c2 := (183, d + 1, 86, [some (.ref 108), some (.int l1), some (.int l2), some (.int l3), some (.int l4), some (.int l5), some (.int l6), some (.int (l7 - 0)), some (.int l8)], [], w)) rfl).trans ?_
      refine (val_g (c2 := (183, d + 1, 89, [some (.ref 108), some (.int l1), some (.int l2), some (.int l3), some (.int l4), some (.int l5), some (.int l6), some (.int (l7 - 0)), some (.int (l8 + 1))], [], w)) rfl).trans ?_
      refine (val_g (c2 := (183, d + 1, 49, [some (.ref 108), some (.int l1), some (.int l2), some (.int l3), some (.int l4), some (.int l5), some (.int l6), some (.int (l7 - 0)), some (.int (l8 + 1))], [], w)) rfl).trans ?_
      rfl
  · refine ((val_ic_eq rfl).trans (if_neg hc941)).trans ?_
    show val (183, d + 1, 60, [some (.ref 108), some (.int l1), some (.int l2), some (.int l3), some (.int l4), some (.int l5), some (.int l6), some (.int l7), some (.int l8)], [], w) = _
    refine Eq.trans ?_ (if_neg hc941).symm
    refine (val_g (c2 := (183, d + 1, 62, [some (.ref 108), some (.int l1), some (.int l2), some (.int l3), some (.int l4), some (.int l5), some (.int l6), some (.int l7), some (.int l8)], [.int l7], w)) rfl).trans ?_
    by_cases hc943 : l7 ≤ 0
    · refine ((val_if_le rfl).trans (if_pos hc943)).trans ?_
      show val (183, d + 1, 92, [some (.ref 108), some (.int l1), some (.int l2), some (.int l3), some (.int l4), some (.int l5), some (.int l6), some (.int l7), some (.int l8)], [], w) = _
      refine Eq.trans ?_ (if_pos hc943).symm
      refine (val_g (c2 := (183, d + 1, 94, [some (.ref 108), some (.int l1), some (.int l2), some (.int l3), some (.int l4), some (.int l5), some (.int l6), some (.int l7), some (.int l8)], [.int l4], w)) rfl).trans ?_
      refine (val_g (c2 := (183, d + 1, 95, [some (.ref 108), some (.int l1), some (.int l2), some (.int l3), some (.int l4), some (.int l5), some (.int l6), some (.int l7), some (.int l8)], [.int 1, .int l4], w)) rfl).trans ?_
      refine (val_g (c2 := (183, d + 1, 97, [some (.ref 108), some (.int l1), some (.int l2), some (.int l3), some (.int l4), some (.int l5), some (.int l6), some (.int l7), some (.int l8)], [.int l8, .int 1, .int l4], w)) rfl).trans ?_
      refine (val_g (c2 := (183, d + 1, 98, [some (.ref 108), some (.int l1), some (.int l2), some (.int l3), some (.int l4), some (.int l5), some (.int l6), some (.int l7), some (.int l8)], [.int (1 <<< (l8 &&& 31)), .int l4], w)) rfl).trans ?_
      refine (val_g (c2 := (183, d + 1, 99, [some (.ref 108), some (.int l1), some (.int l2), some (.int l3), some (.int l4), some (.int l5), some (.int l6), some (.int l7), some (.int l8)], [.int (l4 ||| (1 <<< (l8 &&& 31)))], w)) rfl).trans ?_
      refine (val_g (c2 := (183, d + 1, 101, [some (.ref 108), some (.int l1), some (.int l2), some (.int l3), some (.int (l4 ||| (1 <<< (l8 &&& 31)))), some (.int l5), some (.int l6), some (.int l7), some (.int l8)], [], w)) rfl).trans ?_
      refine (val_g (c2 := (183, d + 1, 103, [some (.ref 108), some (.int l1), some (.int l2), some (.int l3), some (.int (l4 ||| (1 <<< (l8 &&& 31)))), some (.int l5), some (.int l6), some (.int l7), some (.int l8)], [.int 10], w)) rfl).trans ?_
      refine (val_g (c2 := (183, d + 1, 105, [some (.ref 108), some (.int l1), some (.int l2), some (.int l3), some (.int (l4 ||| (1 <<< (l8 &&& 31)))), some (.int l5), some (.int l6), some (.int l7), some (.int l8)], [.int l5, .int 10], w)) rfl).trans ?_
      refine (val_g (c2 := (183, d + 1, 106, [some (.ref 108), some (.int l1), some (.int l2), some (.int l3), some (.int (l4 ||| (1 <<< (l8 &&& 31)))), some (.int l5), some (.int l6), some (.int l7), some (.int l8)], [.int (10 * l5)], w)) rfl).trans ?_
      refine (val_g (c2 := (183, d + 1, 108, [some (.ref 108), some (.int l1), some (.int l2), some (.int l3), some (.int (l4 ||| (1 <<< (l8 &&& 31)))), some (.int l5), some (.int l6), some (.int l7), some (.int l8)], [.int l8, .int (10 * l5)], w)) rfl).trans ?_
      refine (val_g (c2 := (183, d + 1, 109, [some (.ref 108), some (.int l1), some (.int l2), some (.int l3), some (.int (l4 ||| (1 <<< (l8 &&& 31)))), some (.int l5), some (.int l6), some (.int l7), some (.int l8)], [.int ((10 * l5) + l8)], w)) rfl).trans ?_
      refine (val_g (c2 := (183, d + 1, 111, [some (.ref 108), some (.int l1), some (.int l2), some (.int l3), some (.int (l4 ||| (1 <<< (l8 &&& 31)))), some (.int ((10 * l5) + l8)), some (.int l6), some (.int l7), some (.int l8)], [], w)) rfl).trans ?_
      refine (val_g (c2 := (183, d + 1, 114, [some (.ref 108), some (.int l1), some (.int l2), some (.int l3), some (.int (l4 ||| (1 <<< (l8 &&& 31)))), some (.int ((10 * l5) + l8)), some (.int (l6 + 1)), some (.int l7), some (.int l8)], [], w)) rfl).trans ?_
      refine (val_g (c2 := (183, d + 1, 16, [some (.ref 108), some (.int l1), some (.int l2), some (.int l3), some (.int (l4 ||| (1 <<< (l8 &&& 31)))), some (.int ((10 * l5) + l8)), some (.int (l6 + 1)), some (.int l7), some (.int l8)], [], w)) rfl).trans ?_
      rfl
    · refine ((val_if_le rfl).trans (if_neg hc943)).trans ?_
      show val (183, d + 1, 65, [some (.ref 108), some (.int l1), some (.int l2), some (.int l3), some (.int l4), some (.int l5), some (.int l6), some (.int l7), some (.int l8)], [], w) = _
      refine Eq.trans ?_ (if_neg hc943).symm
      refine (val_g (c2 := (183, d + 1, 67, [some (.ref 108), some (.int l1), some (.int l2), some (.int l3), some (.int l4), some (.int l5), some (.int l6), some (.int l7), some (.int l8)], [.int l7], w)) rfl).trans ?_
      refine (val_g (c2 := (183, d + 1, 69, [some (.ref 108), some (.int l1), some (.int l2), some (.int l3), some (.int l4), some (.int l5), some (.int l6), some (.int l7), some (.int l8)], [.int l4, .int l7], w)) rfl).trans ?_
      refine (val_g (c2 := (183, d + 1, 71, [some (.ref 108), some (.int l1), some (.int l2), some (.int l3), some (.int l4), some (.int l5), some (.int l6), some (.int l7), some (.int l8)], [.int l8, .int l4, .int l7], w)) rfl).trans ?_
      refine (val_g (c2 := (183, d + 1, 72, [some (.ref 108), some (.int l1), some (.int l2), some (.int l3), some (.int l4), some (.int l5), some (.int l6), some (.int l7), some (.int l8)], [.int (l4 >>> (l8 &&& 31)), .int l7], w)) rfl).trans ?_
      refine (val_g (c2 := (183, d + 1, 73, [some (.ref 108), some (.int l1), some (.int l2), some (.int l3), some (.int l4), some (.int l5), some (.int l6), some (.int l7), some (.int l8)], [.int 1, .int (l4 >>> (l8 &&& 31)), .int l7], w)) rfl).trans ?_
      refine (val_g (c2 := (183, d + 1, 74, [some (.ref 108), some (.int l1), some (.int l2), some (.int l3), some (.int l4), some (.int l5), some (.int l6), some (.int l7), some (.int l8)], [.int ((l4 >>> (l8 &&& 31)) &&& 1), .int l7], w)) rfl).trans ?_
      refine (val_g (c2 := (183, d + 1, 75, [some (.ref 108), some (.int l1), some (.int l2), some (.int l3), some (.int l4), some (.int l5), some (.int l6), some (.int l7), some (.int l8)], [.int 1, .int ((l4 >>> (l8 &&& 31)) &&& 1), .int l7], w)) rfl).trans ?_
      by_cases hc944 : ¬ ((l4 >>> (l8 &&& 31)) &&& 1) = 1
      · refine ((val_ic_ne rfl).trans (if_pos hc944)).trans ?_
        show val (183, d + 1, 82, [some (.ref 108), some (.int l1), some (.int l2), some (.int l3), some (.int l4), some (.int l5), some (.int l6), some (.int l7), some (.int l8)], [.int l7], w) = _
        refine Eq.trans ?_ (if_pos hc944).symm
        refine (val_g (c2 := (183, d + 1, 83, [some (.ref 108), some (.int l1), some (.int l2), some (.int l3), some (.int l4), some (.int l5), some (.int l6), some (.int l7), some (.int l8)], [.int 1, .int l7], w)) rfl).trans ?_
        refine (val_g (c2 := (183, d + 1, 84, [some (.ref 108), some (.int l1), some (.int l2), some (.int l3), some (.int l4), some (.int l5), some (.int l6), some (.int l7), some (.int l8)], [.int (l7 - 1)], w)) rfl).trans ?_
        refine (val_g (c2 := (183, d + 1, 86, [some (.ref 108), some (.int l1), some (.int l2), some (.int l3), some (.int l4), some (.int l5), some (.int l6), some (.int (l7 - 1)), some (.int l8)], [], w)) rfl).trans ?_
        refine (val_g (c2 := (183, d + 1, 89, [some (.ref 108), some (.int l1), some (.int l2), some (.int l3), some (.int l4), some (.int l5), some (.int l6), some (.int (l7 - 1)), some (.int (l8 + 1))], [], w)) rfl).trans ?_
        refine (val_g (c2 := (183, d + 1, 49, [some (.ref 108), some (.int l1), some (.int l2), some (.int l3), some (.int l4), some (.int l5), some (.int l6), some (.int (l7 - 1)), some (.int (l8 + 1))], [], w)) rfl).trans ?_
        rfl
      · refine ((val_ic_ne rfl).trans (if_neg hc944)).trans ?_
        show val (183, d + 1, 78, [some (.ref 108), some (.int l1), some (.int l2), some (.int l3), some (.int l4), some (.int l5), some (.int l6), some (.int l7), some (.int l8)], [.int l7], w) = _
        refine Eq.trans ?_ (if_neg hc944).symm
        refine (val_g (c2 := (183, d + 1, 79, [some (.ref 108), some (.int l1), some (.int l2), some (.int l3), some (.int l4), some (.int l5), some (.int l6), some (.int l7), some (.int l8)], [.int 0, .int l7], w)) rfl).trans ?_
        refine (val_g (c2 := (183, d + 1, 83, [some (.ref 108), some (.int l1), some (.int l2), some (.int l3), some (.int l4), some (.int l5), some (.int l6), some (.int l7), some (.int l8)], [.int 0, .int l7], w)) rfl).trans ?_
        refine (val_g (c2 := (183, d + 1, 84, [some (.ref 108), some (.int l1), some (.int l2), some (.int l3), some (.int l4), some (.int l5), some (.int l6), some (.int l7), some (.int l8)], [.int (l7 - 0)], w)) rfl).trans ?_
        refine (val_g (c2 := (183, d + 1, 86, [some (.ref 108), some (.int l1), some (.int l2), some (.int l3), some (.int l4), some (.int l5), some (.int l6), some (.int (l7 - 0)), some (.int l8)], [], w)) rfl).trans ?_
        refine (val_g (c2 := (183, d + 1, 89, [some (.ref 108), some (.int l1), some (.int l2), some (.int l3), some (.int l4), some (.int l5), some (.int l6), some (.int (l7 - 0)), some (.int (l8 + 1))], [], w)) rfl).trans ?_
        refine (val_g (c2 := (183, d + 1, 49, [some (.ref 108), some (.int l1), some (.int l2), some (.int l3), some (.int l4), some (.int l5), some (.int l6), some (.int (l7 - 0)), some (.int (l8 + 1))], [], w)) rfl).trans ?_
        rfl
/-- BelfryHouseModel.ranked(I)I -/
theorem tr_184 (d : Nat) (w : Wd) (x0 : Int32)     : val (184, d + 2, 0, [some (.ref 108), some (.int x0)], [], w) = (if x0 < 0 then val (184, d + 2, 21, [some (.ref 108), some (.int x0)], [.int (-1)], w) else val (184, d + 2, 6, [some (.ref 108), some (.int x0)], [.ref 108, .int x0], w)) := by
  refine (val_g (c2 := (184, d + 2, 1, [some (.ref 108), some (.int x0)], [.int x0], w)) rfl).trans ?_
  by_cases hc947 : x0 < 0
  · refine ((val_if_lt rfl).trans (if_pos hc947)).trans ?_
    show val (184, d + 2, 12, [some (.ref 108), some (.int x0)], [], w) = _
    refine Eq.trans ?_ (if_pos hc947).symm
    refine (val_g (c2 := (184, d + 2, 13, [some (.ref 108), some (.int x0)], [.int (-1)], w)) rfl).trans ?_
    refine (val_g (c2 := (184, d + 2, 21, [some (.ref 108), some (.int x0)], [.int (-1)], w)) rfl).trans ?_
    rfl
  · refine ((val_if_lt rfl).trans (if_neg hc947)).trans ?_
    show val (184, d + 2, 4, [some (.ref 108), some (.int x0)], [], w) = _
    refine Eq.trans ?_ (if_neg hc947).symm
    refine (val_g (c2 := (184, d + 2, 5, [some (.ref 108), some (.int x0)], [.int x0], w)) rfl).trans ?_
    refine (val_g (c2 := (184, d + 2, 6, [some (.ref 108), some (.int x0)], [.ref 108, .int x0], w)) rfl).trans ?_
    rfl
theorem tr_184_9 (d : Nat) (w : Wd) (l1 : Int32) (s0 : Int32) (s1 : Int32)     : val (184, d + 2, 9, [some (.ref 108), some (.int l1)], [.int s0, .int s1], w) = (if s1 < s0 then val (184, d + 2, 18, [some (.ref 108), some (.int l1)], [.int l1, .ref 108], w) else val (184, d + 2, 21, [some (.ref 108), some (.int l1)], [.int (-1)], w)) := by
  by_cases hc948 : s1 < s0
  · refine ((val_ic_lt rfl).trans (if_pos hc948)).trans ?_
    show val (184, d + 2, 16, [some (.ref 108), some (.int l1)], [], w) = _
    refine Eq.trans ?_ (if_pos hc948).symm
    refine (val_g (c2 := (184, d + 2, 17, [some (.ref 108), some (.int l1)], [.ref 108], w)) rfl).trans ?_
    refine (val_g (c2 := (184, d + 2, 18, [some (.ref 108), some (.int l1)], [.int l1, .ref 108], w)) rfl).trans ?_
    rfl
  · refine ((val_ic_lt rfl).trans (if_neg hc948)).trans ?_
    show val (184, d + 2, 12, [some (.ref 108), some (.int l1)], [], w) = _
    refine Eq.trans ?_ (if_neg hc948).symm
    refine (val_g (c2 := (184, d + 2, 13, [some (.ref 108), some (.int l1)], [.int (-1)], w)) rfl).trans ?_
    refine (val_g (c2 := (184, d + 2, 21, [some (.ref 108), some (.int l1)], [.int (-1)], w)) rfl).trans ?_
    rfl
theorem tr_184_21 (d : Nat) (w : Wd) (l1 : Int32) (s0 : Int32)     : val (184, d + 2, 21, [some (.ref 108), some (.int l1)], [.int s0], w) = some (some (.int s0), w) := by
  exact val_r rfl
/-- BelfryHouseModel.feed(IJ)I -/
theorem tr_185 (d : Nat) (w : Wd) (hW : Fix w) (x0 : Int32) (x1 : Int64)     : val (185, d, 0, [some (.ref 108), some (.int x0), some (.long x1), none, none], [], w) = (if x0 < 1 then some (some (.int (-1)), w) else (if x0 ≤ 8 then (if ((gI w 108 5) + x0) ≤ 600 then val (185, d, 31, [some (.ref 108), some (.int x0), some (.long x1), none, some (.int 0)], [], w) else some (some (.int (-3)), w)) else some (some (.int (-1)), w))) := by
  refine (val_g (c2 := (185, d, 1, [some (.ref 108), some (.int x0), some (.long x1), none, none], [.int x0], w)) rfl).trans ?_
  refine (val_g (c2 := (185, d, 2, [some (.ref 108), some (.int x0), some (.long x1), none, none], [.int 1, .int x0], w)) rfl).trans ?_
  by_cases hc953 : x0 < 1
  · refine ((val_ic_lt rfl).trans (if_pos hc953)).trans ?_
    show val (185, d, 11, [some (.ref 108), some (.int x0), some (.long x1), none, none], [], w) = _
    refine Eq.trans ?_ (if_pos hc953).symm
    refine (val_g (c2 := (185, d, 12, [some (.ref 108), some (.int x0), some (.long x1), none, none], [.int (-1)], w)) rfl).trans ?_
    exact val_r rfl
  · refine ((val_ic_lt rfl).trans (if_neg hc953)).trans ?_
    show val (185, d, 5, [some (.ref 108), some (.int x0), some (.long x1), none, none], [], w) = _
    refine Eq.trans ?_ (if_neg hc953).symm
    refine (val_g (c2 := (185, d, 6, [some (.ref 108), some (.int x0), some (.long x1), none, none], [.int x0], w)) rfl).trans ?_
    refine (val_g (c2 := (185, d, 8, [some (.ref 108), some (.int x0), some (.long x1), none, none], [.int 8, .int x0], w)) rfl).trans ?_
    by_cases hc954 : x0 ≤ 8
    · refine ((val_ic_le rfl).trans (if_pos hc954)).trans ?_
      show val (185, d, 13, [some (.ref 108), some (.int x0), some (.long x1), none, none], [], w) = _
      refine Eq.trans ?_ (if_pos hc954).symm
      refine (val_g (c2 := (185, d, 14, [some (.ref 108), some (.int x0), some (.long x1), none, none], [.ref 108], w)) rfl).trans ?_
      refine (val_gf rfl (hW.k 108 (Nat.le_of_ble_eq_true rfl) (Nat.le_of_ble_eq_true rfl)) rfl).trans ?_
      show val (185, d, 17, [some (.ref 108), some (.int x0), some (.long x1), none, none], [.int (gI w 108 5)], w) = _
      refine (val_g (c2 := (185, d, 18, [some (.ref 108), some (.int x0), some (.long x1), none, none], [.int x0, .int (gI w 108 5)], w)) rfl).trans ?_
      refine (val_g (c2 := (185, d, 19, [some (.ref 108), some (.int x0), some (.long x1), none, none], [.int ((gI w 108 5) + x0)], w)) rfl).trans ?_
      refine (val_g (c2 := (185, d, 22, [some (.ref 108), some (.int x0), some (.long x1), none, none], [.int 600, .int ((gI w 108 5) + x0)], w)) rfl).trans ?_
      by_cases hc955 : ((gI w 108 5) + x0) ≤ 600
      · refine ((val_ic_le rfl).trans (if_pos hc955)).trans ?_
        show val (185, d, 28, [some (.ref 108), some (.int x0), some (.long x1), none, none], [], w) = _
        refine Eq.trans ?_ (if_pos hc955).symm
        refine (val_g (c2 := (185, d, 29, [some (.ref 108), some (.int x0), some (.long x1), none, none], [.int 0], w)) rfl).trans ?_
        refine (val_g (c2 := (185, d, 31, [some (.ref 108), some (.int x0), some (.long x1), none, some (.int 0)], [], w)) rfl).trans ?_
        rfl
      · refine ((val_ic_le rfl).trans (if_neg hc955)).trans ?_
        show val (185, d, 25, [some (.ref 108), some (.int x0), some (.long x1), none, none], [], w) = _
        refine Eq.trans ?_ (if_neg hc955).symm
        refine (val_g (c2 := (185, d, 27, [some (.ref 108), some (.int x0), some (.long x1), none, none], [.int (-3)], w)) rfl).trans ?_
        exact val_r rfl
    · refine ((val_ic_le rfl).trans (if_neg hc954)).trans ?_
      show val (185, d, 11, [some (.ref 108), some (.int x0), some (.long x1), none, none], [], w) = _
      refine Eq.trans ?_ (if_neg hc954).symm
      refine (val_g (c2 := (185, d, 12, [some (.ref 108), some (.int x0), some (.long x1), none, none], [.int (-1)], w)) rfl).trans ?_
      exact val_r rfl
theorem tr_185_31 (d : Nat) (w : Wd) (hW : Fix w) (l1 : Int32) (l2 : Int64) (l4 : Int32)    (hy1 : (¬ (l1 ≤ l4)) → inB ((gI w 108 5)) 600 = true) : val (185, d, 31, [some (.ref 108), some (.int l1), some (.long l2), none, some (.int l4)], [], w) = (if l1 ≤ l4 then some (some (.int (gI w 108 5)), w) else val (185, d, 31, [some (.ref 108), some (.int l1), some (.long l2), none, some (.int (l4 + 1))], [], (sI ((sI w 112 ((gI w 108 5)).toNatClampNeg ((vp_nar .byte ((Int8.toInt32 (Int32.toInt8 ((Int64.toInt32 ((shrL l2 ((8 * l4))))))))))))) 108 5 (((gI ((sI w 112 ((gI w 108 5)).toNatClampNeg ((vp_nar .byte ((Int8.toInt32 (Int32.toInt8 ((Int64.toInt32 ((shrL l2 ((8 * l4))))))))))))) 108 5) + 1))))) := by
  refine (val_g (c2 := (185, d, 33, [some (.ref 108), some (.int l1), some (.long l2), none, some (.int l4)], [.int l4], w)) rfl).trans ?_
  refine (val_g (c2 := (185, d, 34, [some (.ref 108), some (.int l1), some (.long l2), none, some (.int l4)], [.int l1, .int l4], w)) rfl).trans ?_
  by_cases hc956 : l1 ≤ l4
  · refine ((val_ic_ge rfl).trans (if_pos hc956)).trans ?_
    show val (185, d, 71, [some (.ref 108), some (.int l1), some (.long l2), none, some (.int l4)], [], w) = _
    refine Eq.trans ?_ (if_pos hc956).symm
    refine (val_g (c2 := (185, d, 72, [some (.ref 108), some (.int l1), some (.long l2), none, some (.int l4)], [.ref 108], w)) rfl).trans ?_
    refine (val_gf rfl (hW.k 108 (Nat.le_of_ble_eq_true rfl) (Nat.le_of_ble_eq_true rfl)) rfl).trans ?_
    show val (185, d, 75, [some (.ref 108), some (.int l1), some (.long l2), none, some (.int l4)], [.int (gI w 108 5)], w) = _
    exact val_r rfl
  · refine ((val_ic_ge rfl).trans (if_neg hc956)).trans ?_
    show val (185, d, 37, [some (.ref 108), some (.int l1), some (.long l2), none, some (.int l4)], [], w) = _
    refine Eq.trans ?_ (if_neg hc956).symm
    refine (val_g (c2 := (185, d, 38, [some (.ref 108), some (.int l1), some (.long l2), none, some (.int l4)], [.ref 108], w)) rfl).trans ?_
    refine (val_gf rfl (hW.k 108 (Nat.le_of_ble_eq_true rfl) (Nat.le_of_ble_eq_true rfl)) (fvR (hW.r 108 4 112 rfl))).trans ?_
    show val (185, d, 41, [some (.ref 108), some (.int l1), some (.long l2), none, some (.int l4)], [.ref 112], w) = _
    refine (val_g (c2 := (185, d, 42, [some (.ref 108), some (.int l1), some (.long l2), none, some (.int l4)], [.ref 108, .ref 112], w)) rfl).trans ?_
    refine (val_gf rfl (hW.k 108 (Nat.le_of_ble_eq_true rfl) (Nat.le_of_ble_eq_true rfl)) rfl).trans ?_
    show val (185, d, 45, [some (.ref 108), some (.int l1), some (.long l2), none, some (.int l4)], [.int (gI w 108 5), .ref 112], w) = _
    refine (val_g (c2 := (185, d, 46, [some (.ref 108), some (.int l1), some (.long l2), none, some (.int l4)], [.long l2, .int (gI w 108 5), .ref 112], w)) rfl).trans ?_
    refine (val_g (c2 := (185, d, 48, [some (.ref 108), some (.int l1), some (.long l2), none, some (.int l4)], [.int 8, .long l2, .int (gI w 108 5), .ref 112], w)) rfl).trans ?_
    refine (val_g (c2 := (185, d, 50, [some (.ref 108), some (.int l1), some (.long l2), none, some (.int l4)], [.int l4, .int 8, .long l2, .int (gI w 108 5), .ref 112], w)) rfl).trans ?_
    refine (val_g (c2 := (185, d, 51, [some (.ref 108), some (.int l1), some (.long l2), none, some (.int l4)], [.int (8 * l4), .long l2, .int (gI w 108 5), .ref 112], w)) rfl).trans ?_
    refine (val_g (c2 := (185, d, 52, [some (.ref 108), some (.int l1), some (.long l2), none, some (.int l4)], [.long (shrL l2 ((8 * l4))), .int (gI w 108 5), .ref 112], w)) rfl).trans ?_
    refine (val_g (c2 := (185, d, 53, [some (.ref 108), some (.int l1), some (.long l2), none, some (.int l4)], [.int (Int64.toInt32 ((shrL l2 ((8 * l4))))), .int (gI w 108 5), .ref 112], w)) rfl).trans ?_
    refine (val_g (c2 := (185, d, 54, [some (.ref 108), some (.int l1), some (.long l2), none, some (.int l4)], [.int (Int8.toInt32 (Int32.toInt8 ((Int64.toInt32 ((shrL l2 ((8 * l4)))))))), .int (gI w 108 5), .ref 112], w)) rfl).trans ?_
    refine (val_basB rfl (hW.k 112 (Nat.le_of_ble_eq_true rfl) (Nat.le_of_ble_eq_true rfl)) (hy1 hc956)).trans ?_
    show val (185, d, 55, [some (.ref 108), some (.int l1), some (.long l2), none, some (.int l4)], [], (sI w 112 ((gI w 108 5)).toNatClampNeg ((vp_nar .byte ((Int8.toInt32 (Int32.toInt8 ((Int64.toInt32 ((shrL l2 ((8 * l4))))))))))))) = _
    refine (val_g (c2 := (185, d, 56, [some (.ref 108), some (.int l1), some (.long l2), none, some (.int l4)], [.ref 108], (sI w 112 ((gI w 108 5)).toNatClampNeg ((vp_nar .byte ((Int8.toInt32 (Int32.toInt8 ((Int64.toInt32 ((shrL l2 ((8 * l4)))))))))))))) rfl).trans ?_
    refine (val_g (c2 := (185, d, 57, [some (.ref 108), some (.int l1), some (.long l2), none, some (.int l4)], [.ref 108, .ref 108], (sI w 112 ((gI w 108 5)).toNatClampNeg ((vp_nar .byte ((Int8.toInt32 (Int32.toInt8 ((Int64.toInt32 ((shrL l2 ((8 * l4)))))))))))))) rfl).trans ?_
    refine (val_gf (w := (sI w 112 ((gI w 108 5)).toNatClampNeg ((vp_nar .byte ((Int8.toInt32 (Int32.toInt8 ((Int64.toInt32 ((shrL l2 ((8 * l4))))))))))))) rfl (hW.k 108 (Nat.le_of_ble_eq_true rfl) (Nat.le_of_ble_eq_true rfl)) rfl).trans ?_
    show val (185, d, 60, [some (.ref 108), some (.int l1), some (.long l2), none, some (.int l4)], [.int (gI ((sI w 112 ((gI w 108 5)).toNatClampNeg ((vp_nar .byte ((Int8.toInt32 (Int32.toInt8 ((Int64.toInt32 ((shrL l2 ((8 * l4))))))))))))) 108 5), .ref 108], (sI w 112 ((gI w 108 5)).toNatClampNeg ((vp_nar .byte ((Int8.toInt32 (Int32.toInt8 ((Int64.toInt32 ((shrL l2 ((8 * l4))))))))))))) = _
    refine (val_g (c2 := (185, d, 61, [some (.ref 108), some (.int l1), some (.long l2), none, some (.int l4)], [.int 1, .int (gI ((sI w 112 ((gI w 108 5)).toNatClampNeg ((vp_nar .byte ((Int8.toInt32 (Int32.toInt8 ((Int64.toInt32 ((shrL l2 ((8 * l4))))))))))))) 108 5), .ref 108], (sI w 112 ((gI w 108 5)).toNatClampNeg ((vp_nar .byte ((Int8.toInt32 (Int32.toInt8 ((Int64.toInt32 ((shrL l2 ((8 * l4)))))))))))))) rfl).trans ?_
    refine (val_g (c2 := (185, d, 62, [some (.ref 108), some (.int l1), some (.long l2), none, some (.int l4)], [.int ((gI ((sI w 112 ((gI w 108 5)).toNatClampNeg ((vp_nar .byte ((Int8.toInt32 (Int32.toInt8 ((Int64.toInt32 ((shrL l2 ((8 * l4))))))))))))) 108 5) + 1), .ref 108], (sI w 112 ((gI w 108 5)).toNatClampNeg ((vp_nar .byte ((Int8.toInt32 (Int32.toInt8 ((Int64.toInt32 ((shrL l2 ((8 * l4)))))))))))))) rfl).trans ?_
    refine (val_pf (w := (sI w 112 ((gI w 108 5)).toNatClampNeg ((vp_nar .byte ((Int8.toInt32 (Int32.toInt8 ((Int64.toInt32 ((shrL l2 ((8 * l4))))))))))))) rfl (hW.k 108 (Nat.le_of_ble_eq_true rfl) (Nat.le_of_ble_eq_true rfl)) rfl).trans ?_
    show val (185, d, 65, [some (.ref 108), some (.int l1), some (.long l2), none, some (.int l4)], [], (sI ((sI w 112 ((gI w 108 5)).toNatClampNeg ((vp_nar .byte ((Int8.toInt32 (Int32.toInt8 ((Int64.toInt32 ((shrL l2 ((8 * l4))))))))))))) 108 5 (((gI ((sI w 112 ((gI w 108 5)).toNatClampNeg ((vp_nar .byte ((Int8.toInt32 (Int32.toInt8 ((Int64.toInt32 ((shrL l2 ((8 * l4))))))))))))) 108 5) + 1)))) = _
    refine (val_g (c2 := (185, d, 68, [some (.ref 108), some (.int l1), some (.long l2), none, some (.int (l4 + 1))], [], (sI ((sI w 112 ((gI w 108 5)).toNatClampNeg ((vp_nar .byte ((Int8.toInt32 (Int32.toInt8 ((Int64.toInt32 ((shrL l2 ((8 * l4))))))))))))) 108 5 (((gI ((sI w 112 ((gI w 108 5)).toNatClampNeg ((vp_nar .byte ((Int8.toInt32 (Int32.toInt8 ((Int64.toInt32 ((shrL l2 ((8 * l4))))))))))))) 108 5) + 1))))) rfl).trans ?_
    refine (val_g (c2 := (185, d, 31, [some (.ref 108), some (.int l1), some (.long l2), none, some (.int (l4 + 1))], [], (sI ((sI w 112 ((gI w 108 5)).toNatClampNeg ((vp_nar .byte ((Int8.toInt32 (Int32.toInt8 ((Int64.toInt32 ((shrL l2 ((8 * l4))))))))))))) 108 5 (((gI ((sI w 112 ((gI w 108 5)).toNatClampNeg ((vp_nar .byte ((Int8.toInt32 (Int32.toInt8 ((Int64.toInt32 ((shrL l2 ((8 * l4))))))))))))) 108 5) + 1))))) rfl).trans ?_
    rfl
/-- BelfryHouseModel.next()V -/
theorem tr_186 (d : Nat) (w : Wd) (hW : Fix w)      : val (186, d, 0, [some (.ref 108), none, none, none], [], w) = val (186, d, 5, [some (.ref 108), some (.int (gI w 108 8)), none, none], [], w) := by
  refine (val_g (c2 := (186, d, 1, [some (.ref 108), none, none, none], [.ref 108], w)) rfl).trans ?_
  refine (val_gf rfl (hW.k 108 (Nat.le_of_ble_eq_true rfl) (Nat.le_of_ble_eq_true rfl)) rfl).trans ?_
  show val (186, d, 4, [some (.ref 108), none, none, none], [.int (gI w 108 8)], w) = _
  refine (val_g (c2 := (186, d, 5, [some (.ref 108), some (.int (gI w 108 8)), none, none], [], w)) rfl).trans ?_
  rfl
theorem tr_186_5 (d : Nat) (w : Wd) (hW : Fix w) (l1 : Int32)    (hy1 : (¬ ((gI w 108 5) ≤ l1)) → inB l1 600 = true) (hy2 : (¬ ((gI w 108 5) ≤ l1)) → (¬ ((gI w 112 (l1).toNatClampNeg) = 32)) → inB l1 600 = true) : val (186, d, 5, [some (.ref 108), some (.int l1), none, none], [], w) = (if (gI w 108 5) ≤ l1 then val (186, d, 41, [some (.ref 108), some (.int l1), none, none], [], w) else (if (gI w 112 (l1).toNatClampNeg) = 32 then val (186, d, 35, [some (.ref 108), some (.int l1), none, none], [], w) else (if ¬ (gI w 112 (l1).toNatClampNeg) = 10 then val (186, d, 41, [some (.ref 108), some (.int l1), none, none], [], w) else val (186, d, 35, [some (.ref 108), some (.int l1), none, none], [], w)))) := by
  refine (val_g (c2 := (186, d, 6, [some (.ref 108), some (.int l1), none, none], [.int l1], w)) rfl).trans ?_
  refine (val_g (c2 := (186, d, 7, [some (.ref 108), some (.int l1), none, none], [.ref 108, .int l1], w)) rfl).trans ?_
  refine (val_gf rfl (hW.k 108 (Nat.le_of_ble_eq_true rfl) (Nat.le_of_ble_eq_true rfl)) rfl).trans ?_
  show val (186, d, 10, [some (.ref 108), some (.int l1), none, none], [.int (gI w 108 5), .int l1], w) = _
  by_cases hc1027 : (gI w 108 5) ≤ l1
  · refine ((val_ic_ge rfl).trans (if_pos hc1027)).trans ?_
    show val (186, d, 41, [some (.ref 108), some (.int l1), none, none], [], w) = _
    refine Eq.trans ?_ (if_pos hc1027).symm
    rfl
  · refine ((val_ic_ge rfl).trans (if_neg hc1027)).trans ?_
    show val (186, d, 13, [some (.ref 108), some (.int l1), none, none], [], w) = _
    refine Eq.trans ?_ (if_neg hc1027).symm
    refine (val_g (c2 := (186, d, 14, [some (.ref 108), some (.int l1), none, none], [.ref 108], w)) rfl).trans ?_
    refine (val_gf rfl (hW.k 108 (Nat.le_of_ble_eq_true rfl) (Nat.le_of_ble_eq_true rfl)) (fvR (hW.r 108 4 112 rfl))).trans ?_
    show val (186, d, 17, [some (.ref 108), some (.int l1), none, none], [.ref 112], w) = _
    refine (val_g (c2 := (186, d, 18, [some (.ref 108), some (.int l1), none, none], [.int l1, .ref 112], w)) rfl).trans ?_
    refine (val_bal rfl (hW.k 112 (Nat.le_of_ble_eq_true rfl) (Nat.le_of_ble_eq_true rfl)) rfl (hy1 hc1027)).trans ?_
    show val (186, d, 19, [some (.ref 108), some (.int l1), none, none], [.int (gI w 112 (l1).toNatClampNeg)], w) = _
    refine (val_g (c2 := (186, d, 21, [some (.ref 108), some (.int l1), none, none], [.int 32, .int (gI w 112 (l1).toNatClampNeg)], w)) rfl).trans ?_
    by_cases hc1028 : (gI w 112 (l1).toNatClampNeg) = 32
    · refine ((val_ic_eq rfl).trans (if_pos hc1028)).trans ?_
      show val (186, d, 35, [some (.ref 108), some (.int l1), none, none], [], w) = _
      refine Eq.trans ?_ (if_pos hc1028).symm
      rfl
    · refine ((val_ic_eq rfl).trans (if_neg hc1028)).trans ?_
      show val (186, d, 24, [some (.ref 108), some (.int l1), none, none], [], w) = _
      refine Eq.trans ?_ (if_neg hc1028).symm
      refine (val_g (c2 := (186, d, 25, [some (.ref 108), some (.int l1), none, none], [.ref 108], w)) rfl).trans ?_
      refine (val_gf rfl (hW.k 108 (Nat.le_of_ble_eq_true rfl) (Nat.le_of_ble_eq_true rfl)) (fvR (hW.r 108 4 112 rfl))).trans ?_
      show val (186, d, 28, [some (.ref 108), some (.int l1), none, none], [.ref 112], w) = _
      refine (val_g (c2 := (186, d, 29, [some (.ref 108), some (.int l1), none, none], [.int l1, .ref 112], w)) rfl).trans ?_
      refine (val_bal rfl (hW.k 112 (Nat.le_of_ble_eq_true rfl) (Nat.le_of_ble_eq_true rfl)) rfl (hy2 hc1027 hc1028)).trans ?_
      show val (186, d, 30, [some (.ref 108), some (.int l1), none, none], [.int (gI w 112 (l1).toNatClampNeg)], w) = _
      refine (val_g (c2 := (186, d, 32, [some (.ref 108), some (.int l1), none, none], [.int 10, .int (gI w 112 (l1).toNatClampNeg)], w)) rfl).trans ?_
      by_cases hc1029 : ¬ (gI w 112 (l1).toNatClampNeg) = 10
      · refine ((val_ic_ne rfl).trans (if_pos hc1029)).trans ?_
        show val (186, d, 41, [some (.ref 108), some (.int l1), none, none], [], w) = _
        refine Eq.trans ?_ (if_pos hc1029).symm
        rfl
      · refine ((val_ic_ne rfl).trans (if_neg hc1029)).trans ?_
        show val (186, d, 35, [some (.ref 108), some (.int l1), none, none], [], w) = _
        refine Eq.trans ?_ (if_neg hc1029).symm
        rfl
theorem tr_186_35 (d : Nat) (w : Wd) (l1 : Int32)     : val (186, d, 35, [some (.ref 108), some (.int l1), none, none], [], w) = val (186, d, 5, [some (.ref 108), some (.int (l1 + 1)), none, none], [], w) := by
  refine (val_g (c2 := (186, d, 38, [some (.ref 108), some (.int (l1 + 1)), none, none], [], w)) rfl).trans ?_
  refine (val_g (c2 := (186, d, 5, [some (.ref 108), some (.int (l1 + 1)), none, none], [], w)) rfl).trans ?_
  rfl
theorem tr_186_41 (d : Nat) (w : Wd) (hW : Fix w) (l1 : Int32)    (hy1 : (¬ l1 = (gI ((sI ((sI ((sI w 108 7 l1)) 108 8 l1)) 108 6 0)) 108 5)) → inB l1 600 = true) : val (186, d, 41, [some (.ref 108), some (.int l1), none, none], [], w) = (if ¬ l1 = (gI ((sI ((sI ((sI w 108 7 l1)) 108 8 l1)) 108 6 0)) 108 5) then (if (gI ((sI ((sI ((sI w 108 7 l1)) 108 8 l1)) 108 6 0)) 112 (l1).toNatClampNeg) < 97 then val (186, d, 154, [some (.ref 108), some (.int l1), some (.int (gI ((sI ((sI ((sI w 108 7 l1)) 108 8 l1)) 108 6 0)) 112 (l1).toNatClampNeg)), none], [], (sI ((sI ((sI ((sI w 108 7 l1)) 108 8 l1)) 108 6 0)) 108 8 (((gI ((sI ((sI ((sI w 108 7 l1)) 108 8 l1)) 108 6 0)) 108 8) + 1)))) else (if 122 < (gI ((sI ((sI ((sI w 108 7 l1)) 108 8 l1)) 108 6 0)) 112 (l1).toNatClampNeg) then val (186, d, 154, [some (.ref 108), some (.int l1), some (.int (gI ((sI ((sI ((sI w 108 7 l1)) 108 8 l1)) 108 6 0)) 112 (l1).toNatClampNeg)), none], [], (sI ((sI ((sI ((sI w 108 7 l1)) 108 8 l1)) 108 6 0)) 108 8 (((gI ((sI ((sI ((sI w 108 7 l1)) 108 8 l1)) 108 6 0)) 108 8) + 1)))) else val (186, d, 94, [some (.ref 108), some (.int l1), some (.int (gI ((sI ((sI ((sI w 108 7 l1)) 108 8 l1)) 108 6 0)) 112 (l1).toNatClampNeg)), none], [], (sI ((sI ((sI ((sI w 108 7 l1)) 108 8 l1)) 108 6 0)) 108 8 (((gI ((sI ((sI ((sI w 108 7 l1)) 108 8 l1)) 108 6 0)) 108 8) + 1)))))) else some (none, (sI ((sI ((sI w 108 7 l1)) 108 8 l1)) 108 6 0))) := by
  refine (val_g (c2 := (186, d, 42, [some (.ref 108), some (.int l1), none, none], [.ref 108], w)) rfl).trans ?_
  refine (val_g (c2 := (186, d, 43, [some (.ref 108), some (.int l1), none, none], [.int l1, .ref 108], w)) rfl).trans ?_
  refine (val_pf rfl (hW.k 108 (Nat.le_of_ble_eq_true rfl) (Nat.le_of_ble_eq_true rfl)) rfl).trans ?_
  show val (186, d, 46, [some (.ref 108), some (.int l1), none, none], [], (sI w 108 7 l1)) = _
  refine (val_g (c2 := (186, d, 47, [some (.ref 108), some (.int l1), none, none], [.ref 108], (sI w 108 7 l1))) rfl).trans ?_
  refine (val_g (c2 := (186, d, 48, [some (.ref 108), some (.int l1), none, none], [.int l1, .ref 108], (sI w 108 7 l1))) rfl).trans ?_
  refine (val_pf (w := (sI w 108 7 l1)) rfl (hW.k 108 (Nat.le_of_ble_eq_true rfl) (Nat.le_of_ble_eq_true rfl)) rfl).trans ?_
  show val (186, d, 51, [some (.ref 108), some (.int l1), none, none], [], (sI ((sI w 108 7 l1)) 108 8 l1)) = _
  refine (val_g (c2 := (186, d, 52, [some (.ref 108), some (.int l1), none, none], [.ref 108], (sI ((sI w 108 7 l1)) 108 8 l1))) rfl).trans ?_
  refine (val_g (c2 := (186, d, 53, [some (.ref 108), some (.int l1), none, none], [.int 0, .ref 108], (sI ((sI w 108 7 l1)) 108 8 l1))) rfl).trans ?_
  refine (val_pf (w := (sI ((sI w 108 7 l1)) 108 8 l1)) rfl (hW.k 108 (Nat.le_of_ble_eq_true rfl) (Nat.le_of_ble_eq_true rfl)) rfl).trans ?_
  show val (186, d, 56, [some (.ref 108), some (.int l1), none, none], [], (sI ((sI ((sI w 108 7 l1)) 108 8 l1)) 108 6 0)) = _
  refine (val_g (c2 := (186, d, 57, [some (.ref 108), some (.int l1), none, none], [.int l1], (sI ((sI ((sI w 108 7 l1)) 108 8 l1)) 108 6 0))) rfl).trans ?_
  refine (val_g (c2 := (186, d, 58, [some (.ref 108), some (.int l1), none, none], [.ref 108, .int l1], (sI ((sI ((sI w 108 7 l1)) 108 8 l1)) 108 6 0))) rfl).trans ?_
  refine (val_gf (w := (sI ((sI ((sI w 108 7 l1)) 108 8 l1)) 108 6 0)) rfl (hW.k 108 (Nat.le_of_ble_eq_true rfl) (Nat.le_of_ble_eq_true rfl)) rfl).trans ?_
  show val (186, d, 61, [some (.ref 108), some (.int l1), none, none], [.int (gI ((sI ((sI ((sI w 108 7 l1)) 108 8 l1)) 108 6 0)) 108 5), .int l1], (sI ((sI ((sI w 108 7 l1)) 108 8 l1)) 108 6 0)) = _
  by_cases hc1030 : ¬ l1 = (gI ((sI ((sI ((sI w 108 7 l1)) 108 8 l1)) 108 6 0)) 108 5)
  · refine ((val_ic_ne rfl).trans (if_pos hc1030)).trans ?_
    show val (186, d, 65, [some (.ref 108), some (.int l1), none, none], [], (sI ((sI ((sI w 108 7 l1)) 108 8 l1)) 108 6 0)) = _
    refine Eq.trans ?_ (if_pos hc1030).symm
    refine (val_g (c2 := (186, d, 66, [some (.ref 108), some (.int l1), none, none], [.ref 108], (sI ((sI ((sI w 108 7 l1)) 108 8 l1)) 108 6 0))) rfl).trans ?_
    refine (val_gf (w := (sI ((sI ((sI w 108 7 l1)) 108 8 l1)) 108 6 0)) rfl (hW.k 108 (Nat.le_of_ble_eq_true rfl) (Nat.le_of_ble_eq_true rfl)) (fvR (hW.r 108 4 112 rfl))).trans ?_
    show val (186, d, 69, [some (.ref 108), some (.int l1), none, none], [.ref 112], (sI ((sI ((sI w 108 7 l1)) 108 8 l1)) 108 6 0)) = _
    refine (val_g (c2 := (186, d, 70, [some (.ref 108), some (.int l1), none, none], [.int l1, .ref 112], (sI ((sI ((sI w 108 7 l1)) 108 8 l1)) 108 6 0))) rfl).trans ?_
    refine (val_bal (w := (sI ((sI ((sI w 108 7 l1)) 108 8 l1)) 108 6 0)) rfl (hW.k 112 (Nat.le_of_ble_eq_true rfl) (Nat.le_of_ble_eq_true rfl)) rfl (hy1 hc1030)).trans ?_
    show val (186, d, 71, [some (.ref 108), some (.int l1), none, none], [.int (gI ((sI ((sI ((sI w 108 7 l1)) 108 8 l1)) 108 6 0)) 112 (l1).toNatClampNeg)], (sI ((sI ((sI w 108 7 l1)) 108 8 l1)) 108 6 0)) = _
    refine (val_g (c2 := (186, d, 72, [some (.ref 108), some (.int l1), some (.int (gI ((sI ((sI ((sI w 108 7 l1)) 108 8 l1)) 108 6 0)) 112 (l1).toNatClampNeg)), none], [], (sI ((sI ((sI w 108 7 l1)) 108 8 l1)) 108 6 0))) rfl).trans ?_
    refine (val_g (c2 := (186, d, 73, [some (.ref 108), some (.int l1), some (.int (gI ((sI ((sI ((sI w 108 7 l1)) 108 8 l1)) 108 6 0)) 112 (l1).toNatClampNeg)), none], [.ref 108], (sI ((sI ((sI w 108 7 l1)) 108 8 l1)) 108 6 0))) rfl).trans ?_
    refine (val_g (c2 := (186, d, 74, [some (.ref 108), some (.int l1), some (.int (gI ((sI ((sI ((sI w 108 7 l1)) 108 8 l1)) 108 6 0)) 112 (l1).toNatClampNeg)), none], [.ref 108, .ref 108], (sI ((sI ((sI w 108 7 l1)) 108 8 l1)) 108 6 0))) rfl).trans ?_
    refine (val_gf (w := (sI ((sI ((sI w 108 7 l1)) 108 8 l1)) 108 6 0)) rfl (hW.k 108 (Nat.le_of_ble_eq_true rfl) (Nat.le_of_ble_eq_true rfl)) rfl).trans ?_
    show val (186, d, 77, [some (.ref 108), some (.int l1), some (.int (gI ((sI ((sI ((sI w 108 7 l1)) 108 8 l1)) 108 6 0)) 112 (l1).toNatClampNeg)), none], [.int (gI ((sI ((sI ((sI w 108 7 l1)) 108 8 l1)) 108 6 0)) 108 8), .ref 108], (sI ((sI ((sI w 108 7 l1)) 108 8 l1)) 108 6 0)) = _
    refine (val_g (c2 := (186, d, 78, [some (.ref 108), some (.int l1), some (.int (gI ((sI ((sI ((sI w 108 7 l1)) 108 8 l1)) 108 6 0)) 112 (l1).toNatClampNeg)), none], [.int 1, .int (gI ((sI ((sI ((sI w 108 7 l1)) 108 8 l1)) 108 6 0)) 108 8), .ref 108], (sI ((sI ((sI w 108 7 l1)) 108 8 l1)) 108 6 0))) rfl).trans ?_
    refine (val_g (c2 := (186, d, 79, [some (.ref 108), some (.int l1), some (.int (gI ((sI ((sI ((sI w 108 7 l1)) 108 8 l1)) 108 6 0)) 112 (l1).toNatClampNeg)), none], [.int ((gI ((sI ((sI ((sI w 108 7 l1)) 108 8 l1)) 108 6 0)) 108 8) + 1), .ref 108], (sI ((sI ((sI w 108 7 l1)) 108 8 l1)) 108 6 0))) rfl).trans ?_
    refine (val_pf (w := (sI ((sI ((sI w 108 7 l1)) 108 8 l1)) 108 6 0)) rfl (hW.k 108 (Nat.le_of_ble_eq_true rfl) (Nat.le_of_ble_eq_true rfl)) rfl).trans ?_
    show val (186, d, 82, [some (.ref 108), some (.int l1), some (.int (gI ((sI ((sI ((sI w 108 7 l1)) 108 8 l1)) 108 6 0)) 112 (l1).toNatClampNeg)), none], [], (sI ((sI ((sI ((sI w 108 7 l1)) 108 8 l1)) 108 6 0)) 108 8 (((gI ((sI ((sI ((sI w 108 7 l1)) 108 8 l1)) 108 6 0)) 108 8) + 1)))) = _
    refine (val_g (c2 := (186, d, 83, [some (.ref 108), some (.int l1), some (.int (gI ((sI ((sI ((sI w 108 7 l1)) 108 8 l1)) 108 6 0)) 112 (l1).toNatClampNeg)), none], [.int (gI ((sI ((sI ((sI w 108 7 l1)) 108 8 l1)) 108 6 0)) 112 (l1).toNatClampNeg)], (sI ((sI ((sI ((sI w 108 7 l1)) 108 8 l1)) 108 6 0)) 108 8 (((gI ((sI ((sI ((sI w 108 7 l1)) 108 8 l1)) 108 6 0)) 108 8) + 1))))) rfl).trans ?_
    refine (val_g (c2 := (186, d, 85, [some (.ref 108), some (.int l1), some (.int (gI ((sI ((sI ((sI w 108 7 l1)) 108 8 l1)) 108 6 0)) 112 (l1).toNatClampNeg)), none], [.int 97, .int (gI ((sI ((sI ((sI w 108 7 l1)) 108 8 l1)) 108 6 0)) 112 (l1).toNatClampNeg)], (sI ((sI ((sI ((sI w 108 7 l1)) 108 8 l1)) 108 6 0)) 108 8 (((gI ((sI ((sI ((sI w 108 7 l1)) 108 8 l1)) 108 6 0)) 108 8) + 1))))) rfl).trans ?_
    by_cases hc1031 : (gI ((sI ((sI ((sI w 108 7 l1)) 108 8 l1)) 108 6 0)) 112 (l1).toNatClampNeg) < 97
    · refine ((val_ic_lt rfl).trans (if_pos hc1031)).trans ?_
      show val (186, d, 154, [some (.ref 108), some (.int l1), some (.int (gI ((sI ((sI ((sI w 108 7 l1)) 108 8 l1)) 108 6 0)) 112 (l1).toNatClampNeg)), none], [], (sI ((sI ((sI ((sI w 108 7 l1)) 108 8 l1)) 108 6 0)) 108 8 (((gI ((sI ((sI ((sI w 108 7 l1)) 108 8 l1)) 108 6 0)) 108 8) + 1)))) = _
      refine Eq.trans ?_ (if_pos hc1031).symm
      rfl
    · refine ((val_ic_lt rfl).trans (if_neg hc1031)).trans ?_
      show val (186, d, 88, [some (.ref 108), some (.int l1), some (.int (gI ((sI ((sI ((sI w 108 7 l1)) 108 8 l1)) 108 6 0)) 112 (l1).toNatClampNeg)), none], [], (sI ((sI ((sI ((sI w 108 7 l1)) 108 8 l1)) 108 6 0)) 108 8 (((gI ((sI ((sI ((sI w 108 7 l1)) 108 8 l1)) 108 6 0)) 108 8) + 1)))) = _
      refine Eq.trans ?_ (if_neg hc1031).symm
      refine (val_g (c2 := (186, d, 89, [some (.ref 108), some (.int l1), some (.int (gI ((sI ((sI ((sI w 108 7 l1)) 108 8 l1)) 108 6 0)) 112 (l1).toNatClampNeg)), none], [.int (gI ((sI ((sI ((sI w 108 7 l1)) 108 8 l1)) 108 6 0)) 112 (l1).toNatClampNeg)], (sI ((sI ((sI ((sI w 108 7 l1)) 108 8 l1)) 108 6 0)) 108 8 (((gI ((sI ((sI ((sI w 108 7 l1)) 108 8 l1)) 108 6 0)) 108 8) + 1))))) rfl).trans ?_
      refine (val_g (c2 := (186, d, 91, [some (.ref 108), some (.int l1), some (.int (gI ((sI ((sI ((sI w 108 7 l1)) 108 8 l1)) 108 6 0)) 112 (l1).toNatClampNeg)), none], [.int 122, .int (gI ((sI ((sI ((sI w 108 7 l1)) 108 8 l1)) 108 6 0)) 112 (l1).toNatClampNeg)], (sI ((sI ((sI ((sI w 108 7 l1)) 108 8 l1)) 108 6 0)) 108 8 (((gI ((sI ((sI ((sI w 108 7 l1)) 108 8 l1)) 108 6 0)) 108 8) + 1))))) rfl).trans ?_
      by_cases hc1032 : 122 < (gI ((sI ((sI ((sI w 108 7 l1)) 108 8 l1)) 108 6 0)) 112 (l1).toNatClampNeg)
      · refine ((val_ic_gt rfl).trans (if_pos hc1032)).trans ?_
        show val (186, d, 154, [some (.ref 108), some (.int l1), some (.int (gI ((sI ((sI ((sI w 108 7 l1)) 108 8 l1)) 108 6 0)) 112 (l1).toNatClampNeg)), none], [], (sI ((sI ((sI ((sI w 108 7 l1)) 108 8 l1)) 108 6 0)) 108 8 (((gI ((sI ((sI ((sI w 108 7 l1)) 108 8 l1)) 108 6 0)) 108 8) + 1)))) = _
        refine Eq.trans ?_ (if_pos hc1032).symm
        rfl
      · refine ((val_ic_gt rfl).trans (if_neg hc1032)).trans ?_
        show val (186, d, 94, [some (.ref 108), some (.int l1), some (.int (gI ((sI ((sI ((sI w 108 7 l1)) 108 8 l1)) 108 6 0)) 112 (l1).toNatClampNeg)), none], [], (sI ((sI ((sI ((sI w 108 7 l1)) 108 8 l1)) 108 6 0)) 108 8 (((gI ((sI ((sI ((sI w 108 7 l1)) 108 8 l1)) 108 6 0)) 108 8) + 1)))) = _
        refine Eq.trans ?_ (if_neg hc1032).symm
        rfl
  · refine ((val_ic_ne rfl).trans (if_neg hc1030)).trans ?_
    show val (186, d, 64, [some (.ref 108), some (.int l1), none, none], [], (sI ((sI ((sI w 108 7 l1)) 108 8 l1)) 108 6 0)) = _
    refine Eq.trans ?_ (if_neg hc1030).symm
    exact val_r rfl
theorem tr_186_94 (d : Nat) (w : Wd) (hW : Fix w) (l1 : Int32) (l2 : Int32)    (hy1 : (¬ ((gI w 108 5) ≤ (gI w 108 8))) → inB ((gI w 108 8)) 600 = true) (hy2 : (¬ ((gI w 108 5) ≤ (gI w 108 8))) → (¬ ((gI w 112 ((gI w 108 8)).toNatClampNeg) < 97)) → inB ((gI w 108 8)) 600 = true) : val (186, d, 94, [some (.ref 108), some (.int l1), some (.int l2), none], [], w) = (if (gI w 108 5) ≤ (gI w 108 8) then val (186, d, 146, [some (.ref 108), some (.int l1), some (.int l2), none], [], w) else (if (gI w 112 ((gI w 108 8)).toNatClampNeg) < 97 then val (186, d, 146, [some (.ref 108), some (.int l1), some (.int l2), none], [], w) else (if 122 < (gI w 112 ((gI w 108 8)).toNatClampNeg) then val (186, d, 146, [some (.ref 108), some (.int l1), some (.int l2), none], [], w) else val (186, d, 94, [some (.ref 108), some (.int l1), some (.int l2), none], [], (sI w 108 8 (((gI w 108 8) + 1))))))) := by
  refine (val_g (c2 := (186, d, 95, [some (.ref 108), some (.int l1), some (.int l2), none], [.ref 108], w)) rfl).trans ?_
  refine (val_gf rfl (hW.k 108 (Nat.le_of_ble_eq_true rfl) (Nat.le_of_ble_eq_true rfl)) rfl).trans ?_
  show val (186, d, 98, [some (.ref 108), some (.int l1), some (.int l2), none], [.int (gI w 108 8)], w) = _
  refine (val_g (c2 := (186, d, 99, [some (.ref 108), some (.int l1), some (.int l2), none], [.ref 108, .int (gI w 108 8)], w)) rfl).trans ?_
  refine (val_gf rfl (hW.k 108 (Nat.le_of_ble_eq_true rfl) (Nat.le_of_ble_eq_true rfl)) rfl).trans ?_
  show val (186, d, 102, [some (.ref 108), some (.int l1), some (.int l2), none], [.int (gI w 108 5), .int (gI w 108 8)], w) = _
  by_cases hc1033 : (gI w 108 5) ≤ (gI w 108 8)
  · refine ((val_ic_ge rfl).trans (if_pos hc1033)).trans ?_
    show val (186, d, 146, [some (.ref 108), some (.int l1), some (.int l2), none], [], w) = _
    refine Eq.trans ?_ (if_pos hc1033).symm
    rfl
  · refine ((val_ic_ge rfl).trans (if_neg hc1033)).trans ?_
    show val (186, d, 105, [some (.ref 108), some (.int l1), some (.int l2), none], [], w) = _
    refine Eq.trans ?_ (if_neg hc1033).symm
    refine (val_g (c2 := (186, d, 106, [some (.ref 108), some (.int l1), some (.int l2), none], [.ref 108], w)) rfl).trans ?_
    refine (val_gf rfl (hW.k 108 (Nat.le_of_ble_eq_true rfl) (Nat.le_of_ble_eq_true rfl)) (fvR (hW.r 108 4 112 rfl))).trans ?_
    show val (186, d, 109, [some (.ref 108), some (.int l1), some (.int l2), none], [.ref 112], w) = _
    refine (val_g (c2 := (186, d, 110, [some (.ref 108), some (.int l1), some (.int l2), none], [.ref 108, .ref 112], w)) rfl).trans ?_
    refine (val_gf rfl (hW.k 108 (Nat.le_of_ble_eq_true rfl) (Nat.le_of_ble_eq_true rfl)) rfl).trans ?_
    show val (186, d, 113, [some (.ref 108), some (.int l1), some (.int l2), none], [.int (gI w 108 8), .ref 112], w) = _
    refine (val_bal rfl (hW.k 112 (Nat.le_of_ble_eq_true rfl) (Nat.le_of_ble_eq_true rfl)) rfl (hy1 hc1033)).trans ?_
    show val (186, d, 114, [some (.ref 108), some (.int l1), some (.int l2), none], [.int (gI w 112 ((gI w 108 8)).toNatClampNeg)], w) = _
    refine (val_g (c2 := (186, d, 116, [some (.ref 108), some (.int l1), some (.int l2), none], [.int 97, .int (gI w 112 ((gI w 108 8)).toNatClampNeg)], w)) rfl).trans ?_
    by_cases hc1034 : (gI w 112 ((gI w 108 8)).toNatClampNeg) < 97
    · refine ((val_ic_lt rfl).trans (if_pos hc1034)).trans ?_
      show val (186, d, 146, [some (.ref 108), some (.int l1), some (.int l2), none], [], w) = _
      refine Eq.trans ?_ (if_pos hc1034).symm
      rfl
    · refine ((val_ic_lt rfl).trans (if_neg hc1034)).trans ?_
      show val (186, d, 119, [some (.ref 108), some (.int l1), some (.int l2), none], [], w) = _
      refine Eq.trans ?_ (if_neg hc1034).symm
      refine (val_g (c2 := (186, d, 120, [some (.ref 108), some (.int l1), some (.int l2), none], [.ref 108], w)) rfl).trans ?_
      refine (val_gf rfl (hW.k 108 (Nat.le_of_ble_eq_true rfl) (Nat.le_of_ble_eq_true rfl)) (fvR (hW.r 108 4 112 rfl))).trans ?_
      show val (186, d, 123, [some (.ref 108), some (.int l1), some (.int l2), none], [.ref 112], w) = _
      refine (val_g (c2 := (186, d, 124, [some (.ref 108), some (.int l1), some (.int l2), none], [.ref 108, .ref 112], w)) rfl).trans ?_
      refine (val_gf rfl (hW.k 108 (Nat.le_of_ble_eq_true rfl) (Nat.le_of_ble_eq_true rfl)) rfl).trans ?_
      show val (186, d, 127, [some (.ref 108), some (.int l1), some (.int l2), none], [.int (gI w 108 8), .ref 112], w) = _
      refine (val_bal rfl (hW.k 112 (Nat.le_of_ble_eq_true rfl) (Nat.le_of_ble_eq_true rfl)) rfl (hy2 hc1033 hc1034)).trans ?_
      show val (186, d, 128, [some (.ref 108), some (.int l1), some (.int l2), none], [.int (gI w 112 ((gI w 108 8)).toNatClampNeg)], w) = _
      refine (val_g (c2 := (186, d, 130, [some (.ref 108), some (.int l1), some (.int l2), none], [.int 122, .int (gI w 112 ((gI w 108 8)).toNatClampNeg)], w)) rfl).trans ?_
      by_cases hc1035 : 122 < (gI w 112 ((gI w 108 8)).toNatClampNeg)
      · refine ((val_ic_gt rfl).trans (if_pos hc1035)).trans ?_
        show val (186, d, 146, [some (.ref 108), some (.int l1), some (.int l2), none], [], w) = _
        refine Eq.trans ?_ (if_pos hc1035).symm
        rfl
      · refine ((val_ic_gt rfl).trans (if_neg hc1035)).trans ?_
        show val (186, d, 133, [some (.ref 108), some (.int l1), some (.int l2), none], [], w) = _
        refine Eq.trans ?_ (if_neg hc1035).symm
        refine (val_g (c2 := (186, d, 134, [some (.ref 108), some (.int l1), some (.int l2), none], [.ref 108], w)) rfl).trans ?_
        refine (val_g (c2 := (186, d, 135, [some (.ref 108), some (.int l1), some (.int l2), none], [.ref 108, .ref 108], w)) rfl).trans ?_
        refine (val_gf rfl (hW.k 108 (Nat.le_of_ble_eq_true rfl) (Nat.le_of_ble_eq_true rfl)) rfl).trans ?_
        show val (186, d, 138, [some (.ref 108), some (.int l1), some (.int l2), none], [.int (gI w 108 8), .ref 108], w) = _
        refine (val_g (c2 := (186, d, 139, [some (.ref 108), some (.int l1), some (.int l2), none], [.int 1, .int (gI w 108 8), .ref 108], w)) rfl).trans ?_
        refine (val_g (c2 := (186, d, 140, [some (.ref 108), some (.int l1), some (.int l2), none], [.int ((gI w 108 8) + 1), .ref 108], w)) rfl).trans ?_
        refine (val_pf rfl (hW.k 108 (Nat.le_of_ble_eq_true rfl) (Nat.le_of_ble_eq_true rfl)) rfl).trans ?_
        show val (186, d, 143, [some (.ref 108), some (.int l1), some (.int l2), none], [], (sI w 108 8 (((gI w 108 8) + 1)))) = _
        refine (val_g (c2 := (186, d, 94, [some (.ref 108), some (.int l1), some (.int l2), none], [], (sI w 108 8 (((gI w 108 8) + 1))))) rfl).trans ?_
        rfl
theorem tr_186_146 (d : Nat) (w : Wd) (hW : Fix w) (l1 : Int32) (l2 : Int32)     : val (186, d, 146, [some (.ref 108), some (.int l1), some (.int l2), none], [], w) = val (186, d, 330, [some (.ref 108), some (.int l1), some (.int l2), none], [], (sI w 108 6 1)) := by
  refine (val_g (c2 := (186, d, 147, [some (.ref 108), some (.int l1), some (.int l2), none], [.ref 108], w)) rfl).trans ?_
  refine (val_g (c2 := (186, d, 148, [some (.ref 108), some (.int l1), some (.int l2), none], [.int 1, .ref 108], w)) rfl).trans ?_
  refine (val_pf rfl (hW.k 108 (Nat.le_of_ble_eq_true rfl) (Nat.le_of_ble_eq_true rfl)) rfl).trans ?_
  show val (186, d, 151, [some (.ref 108), some (.int l1), some (.int l2), none], [], (sI w 108 6 1)) = _
  refine (val_g (c2 := (186, d, 330, [some (.ref 108), some (.int l1), some (.int l2), none], [], (sI w 108 6 1))) rfl).trans ?_
  rfl
theorem tr_186_154 (d : Nat) (w : Wd) (l1 : Int32) (l2 : Int32)     : val (186, d, 154, [some (.ref 108), some (.int l1), some (.int l2), none], [], w) = (if l2 < 48 then val (186, d, 297, [some (.ref 108), some (.int l1), some (.int l2), none], [], w) else (if 57 < l2 then val (186, d, 297, [some (.ref 108), some (.int l1), some (.int l2), none], [], w) else val (186, d, 166, [some (.ref 108), some (.int l1), some (.int l2), none], [], w))) := by
  refine (val_g (c2 := (186, d, 155, [some (.ref 108), some (.int l1), some (.int l2), none], [.int l2], w)) rfl).trans ?_
  refine (val_g (c2 := (186, d, 157, [some (.ref 108), some (.int l1), some (.int l2), none], [.int 48, .int l2], w)) rfl).trans ?_
  by_cases hc1036 : l2 < 48
  · refine ((val_ic_lt rfl).trans (if_pos hc1036)).trans ?_
    show val (186, d, 297, [some (.ref 108), some (.int l1), some (.int l2), none], [], w) = _
    refine Eq.trans ?_ (if_pos hc1036).symm
    rfl
  · refine ((val_ic_lt rfl).trans (if_neg hc1036)).trans ?_
    show val (186, d, 160, [some (.ref 108), some (.int l1), some (.int l2), none], [], w) = _
    refine Eq.trans ?_ (if_neg hc1036).symm
    refine (val_g (c2 := (186, d, 161, [some (.ref 108), some (.int l1), some (.int l2), none], [.int l2], w)) rfl).trans ?_
    refine (val_g (c2 := (186, d, 163, [some (.ref 108), some (.int l1), some (.int l2), none], [.int 57, .int l2], w)) rfl).trans ?_
    by_cases hc1037 : 57 < l2
    · refine ((val_ic_gt rfl).trans (if_pos hc1037)).trans ?_
      show val (186, d, 297, [some (.ref 108), some (.int l1), some (.int l2), none], [], w) = _
      refine Eq.trans ?_ (if_pos hc1037).symm
      rfl
    · refine ((val_ic_gt rfl).trans (if_neg hc1037)).trans ?_
      show val (186, d, 166, [some (.ref 108), some (.int l1), some (.int l2), none], [], w) = _
      refine Eq.trans ?_ (if_neg hc1037).symm
      rfl
theorem tr_186_166 (d : Nat) (w : Wd) (hW : Fix w) (l1 : Int32) (l2 : Int32)    (hy1 : (¬ ((gI w 108 5) ≤ (gI w 108 8))) → inB ((gI w 108 8)) 600 = true) (hy2 : (¬ ((gI w 108 5) ≤ (gI w 108 8))) → (¬ ((gI w 112 ((gI w 108 8)).toNatClampNeg) < 48)) → inB ((gI w 108 8)) 600 = true) : val (186, d, 166, [some (.ref 108), some (.int l1), some (.int l2), none], [], w) = (if (gI w 108 5) ≤ (gI w 108 8) then val (186, d, 218, [some (.ref 108), some (.int l1), some (.int l2), none], [], w) else (if (gI w 112 ((gI w 108 8)).toNatClampNeg) < 48 then val (186, d, 218, [some (.ref 108), some (.int l1), some (.int l2), none], [], w) else (if 57 < (gI w 112 ((gI w 108 8)).toNatClampNeg) then val (186, d, 218, [some (.ref 108), some (.int l1), some (.int l2), none], [], w) else val (186, d, 166, [some (.ref 108), some (.int l1), some (.int l2), none], [], (sI w 108 8 (((gI w 108 8) + 1))))))) := by
  refine (val_g (c2 := (186, d, 167, [some (.ref 108), some (.int l1), some (.int l2), none], [.ref 108], w)) rfl).trans ?_
  refine (val_gf rfl (hW.k 108 (Nat.le_of_ble_eq_true rfl) (Nat.le_of_ble_eq_true rfl)) rfl).trans ?_
  show val (186, d, 170, [some (.ref 108), some (.int l1), some (.int l2), none], [.int (gI w 108 8)], w) = _
  refine (val_g (c2 := (186, d, 171, [some (.ref 108), some (.int l1), some (.int l2), none], [.ref 108, .int (gI w 108 8)], w)) rfl).trans ?_
  refine (val_gf rfl (hW.k 108 (Nat.le_of_ble_eq_true rfl) (Nat.le_of_ble_eq_true rfl)) rfl).trans ?_
  show val (186, d, 174, [some (.ref 108), some (.int l1), some (.int l2), none], [.int (gI w 108 5), .int (gI w 108 8)], w) = _
  by_cases hc1038 : (gI w 108 5) ≤ (gI w 108 8)
  · refine ((val_ic_ge rfl).trans (if_pos hc1038)).trans ?_
    show val (186, d, 218, [some (.ref 108), some (.int l1), some (.int l2), none], [], w) = _
    refine Eq.trans ?_ (if_pos hc1038).symm
    rfl
  · refine ((val_ic_ge rfl).trans (if_neg hc1038)).trans ?_
    show val (186, d, 177, [some (.ref 108), some (.int l1), some (.int l2), none], [], w) = _
    refine Eq.trans ?_ (if_neg hc1038).symm
    refine (val_g (c2 := (186, d, 178, [some (.ref 108), some (.int l1), some (.int l2), none], [.ref 108], w)) rfl).trans ?_
    refine (val_gf rfl (hW.k 108 (Nat.le_of_ble_eq_true rfl) (Nat.le_of_ble_eq_true rfl)) (fvR (hW.r 108 4 112 rfl))).trans ?_
    show val (186, d, 181, [some (.ref 108), some (.int l1), some (.int l2), none], [.ref 112], w) = _
    refine (val_g (c2 := (186, d, 182, [some (.ref 108), some (.int l1), some (.int l2), none], [.ref 108, .ref 112], w)) rfl).trans ?_
    refine (val_gf rfl (hW.k 108 (Nat.le_of_ble_eq_true rfl) (Nat.le_of_ble_eq_true rfl)) rfl).trans ?_
    show val (186, d, 185, [some (.ref 108), some (.int l1), some (.int l2), none], [.int (gI w 108 8), .ref 112], w) = _
    refine (val_bal rfl (hW.k 112 (Nat.le_of_ble_eq_true rfl) (Nat.le_of_ble_eq_true rfl)) rfl (hy1 hc1038)).trans ?_
    show val (186, d, 186, [some (.ref 108), some (.int l1), some (.int l2), none], [.int (gI w 112 ((gI w 108 8)).toNatClampNeg)], w) = _
    refine (val_g (c2 := (186, d, 188, [some (.ref 108), some (.int l1), some (.int l2), none], [.int 48, .int (gI w 112 ((gI w 108 8)).toNatClampNeg)], w)) rfl).trans ?_
    by_cases hc1039 : (gI w 112 ((gI w 108 8)).toNatClampNeg) < 48
    · refine ((val_ic_lt rfl).trans (if_pos hc1039)).trans ?_
      show val (186, d, 218, [some (.ref 108), some (.int l1), some (.int l2), none], [], w) = _
      refine Eq.trans ?_ (if_pos hc1039).symm
      rfl
    · refine ((val_ic_lt rfl).trans (if_neg hc1039)).trans ?_
      show val (186, d, 191, [some (.ref 108), some (.int l1), some (.int l2), none], [], w) = _
      refine Eq.trans ?_ (if_neg hc1039).symm
      refine (val_g (c2 := (186, d, 192, [some (.ref 108), some (.int l1), some (.int l2), none], [.ref 108], w)) rfl).trans ?_
      refine (val_gf rfl (hW.k 108 (Nat.le_of_ble_eq_true rfl) (Nat.le_of_ble_eq_true rfl)) (fvR (hW.r 108 4 112 rfl))).trans ?_
      show val (186, d, 195, [some (.ref 108), some (.int l1), some (.int l2), none], [.ref 112], w) = _
      refine (val_g (c2 := (186, d, 196, [some (.ref 108), some (.int l1), some (.int l2), none], [.ref 108, .ref 112], w)) rfl).trans ?_
      refine (val_gf rfl (hW.k 108 (Nat.le_of_ble_eq_true rfl) (Nat.le_of_ble_eq_true rfl)) rfl).trans ?_
      show val (186, d, 199, [some (.ref 108), some (.int l1), some (.int l2), none], [.int (gI w 108 8), .ref 112], w) = _
      refine (val_bal rfl (hW.k 112 (Nat.le_of_ble_eq_true rfl) (Nat.le_of_ble_eq_true rfl)) rfl (hy2 hc1038 hc1039)).trans ?_
      show val (186, d, 200, [some (.ref 108), some (.int l1), some (.int l2), none], [.int (gI w 112 ((gI w 108 8)).toNatClampNeg)], w) = _
      refine (val_g (c2 := (186, d, 202, [some (.ref 108), some (.int l1), some (.int l2), none], [.int 57, .int (gI w 112 ((gI w 108 8)).toNatClampNeg)], w)) rfl).trans ?_
      by_cases hc1040 : 57 < (gI w 112 ((gI w 108 8)).toNatClampNeg)
      · refine ((val_ic_gt rfl).trans (if_pos hc1040)).trans ?_
        show val (186, d, 218, [some (.ref 108), some (.int l1), some (.int l2), none], [], w) = _
        refine Eq.trans ?_ (if_pos hc1040).symm
        rfl
      · refine ((val_ic_gt rfl).trans (if_neg hc1040)).trans ?_
        show val (186, d, 205, [some (.ref 108), some (.int l1), some (.int l2), none], [], w) = _
        refine Eq.trans ?_ (if_neg hc1040).symm
        refine (val_g (c2 := (186, d, 206, [some (.ref 108), some (.int l1), some (.int l2), none], [.ref 108], w)) rfl).trans ?_
        refine (val_g (c2 := (186, d, 207, [some (.ref 108), some (.int l1), some (.int l2), none], [.ref 108, .ref 108], w)) rfl).trans ?_
        refine (val_gf rfl (hW.k 108 (Nat.le_of_ble_eq_true rfl) (Nat.le_of_ble_eq_true rfl)) rfl).trans ?_
        show val (186, d, 210, [some (.ref 108), some (.int l1), some (.int l2), none], [.int (gI w 108 8), .ref 108], w) = _
        refine (val_g (c2 := (186, d, 211, [some (.ref 108), some (.int l1), some (.int l2), none], [.int 1, .int (gI w 108 8), .ref 108], w)) rfl).trans ?_
        refine (val_g (c2 := (186, d, 212, [some (.ref 108), some (.int l1), some (.int l2), none], [.int ((gI w 108 8) + 1), .ref 108], w)) rfl).trans ?_
        refine (val_pf rfl (hW.k 108 (Nat.le_of_ble_eq_true rfl) (Nat.le_of_ble_eq_true rfl)) rfl).trans ?_
        show val (186, d, 215, [some (.ref 108), some (.int l1), some (.int l2), none], [], (sI w 108 8 (((gI w 108 8) + 1)))) = _
        refine (val_g (c2 := (186, d, 166, [some (.ref 108), some (.int l1), some (.int l2), none], [], (sI w 108 8 (((gI w 108 8) + 1))))) rfl).trans ?_
        rfl
theorem tr_186_218 (d : Nat) (w : Wd) (hW : Fix w) (l1 : Int32) (l2 : Int32)     : val (186, d, 218, [some (.ref 108), some (.int l1), some (.int l2), none], [], w) = (if ((gI w 108 8) - (gI w 108 7)) ≤ 8 then val (186, d, 238, [some (.ref 108), some (.int l1), some (.int l2), none], [.int 2, .ref 108], w) else val (186, d, 238, [some (.ref 108), some (.int l1), some (.int l2), none], [.int 4, .ref 108], w)) := by
  refine (val_g (c2 := (186, d, 219, [some (.ref 108), some (.int l1), some (.int l2), none], [.ref 108], w)) rfl).trans ?_
  refine (val_g (c2 := (186, d, 220, [some (.ref 108), some (.int l1), some (.int l2), none], [.ref 108, .ref 108], w)) rfl).trans ?_
  refine (val_gf rfl (hW.k 108 (Nat.le_of_ble_eq_true rfl) (Nat.le_of_ble_eq_true rfl)) rfl).trans ?_
  show val (186, d, 223, [some (.ref 108), some (.int l1), some (.int l2), none], [.int (gI w 108 8), .ref 108], w) = _
  refine (val_g (c2 := (186, d, 224, [some (.ref 108), some (.int l1), some (.int l2), none], [.ref 108, .int (gI w 108 8), .ref 108], w)) rfl).trans ?_
  refine (val_gf rfl (hW.k 108 (Nat.le_of_ble_eq_true rfl) (Nat.le_of_ble_eq_true rfl)) rfl).trans ?_
  show val (186, d, 227, [some (.ref 108), some (.int l1), some (.int l2), none], [.int (gI w 108 7), .int (gI w 108 8), .ref 108], w) = _
  refine (val_g (c2 := (186, d, 228, [some (.ref 108), some (.int l1), some (.int l2), none], [.int ((gI w 108 8) - (gI w 108 7)), .ref 108], w)) rfl).trans ?_
  refine (val_g (c2 := (186, d, 230, [some (.ref 108), some (.int l1), some (.int l2), none], [.int 8, .int ((gI w 108 8) - (gI w 108 7)), .ref 108], w)) rfl).trans ?_
  by_cases hc1041 : ((gI w 108 8) - (gI w 108 7)) ≤ 8
  · refine ((val_ic_le rfl).trans (if_pos hc1041)).trans ?_
    show val (186, d, 237, [some (.ref 108), some (.int l1), some (.int l2), none], [.ref 108], w) = _
    refine Eq.trans ?_ (if_pos hc1041).symm
    refine (val_g (c2 := (186, d, 238, [some (.ref 108), some (.int l1), some (.int l2), none], [.int 2, .ref 108], w)) rfl).trans ?_
    rfl
  · refine ((val_ic_le rfl).trans (if_neg hc1041)).trans ?_
    show val (186, d, 233, [some (.ref 108), some (.int l1), some (.int l2), none], [.ref 108], w) = _
    refine Eq.trans ?_ (if_neg hc1041).symm
    refine (val_g (c2 := (186, d, 234, [some (.ref 108), some (.int l1), some (.int l2), none], [.int 4, .ref 108], w)) rfl).trans ?_
    refine (val_g (c2 := (186, d, 238, [some (.ref 108), some (.int l1), some (.int l2), none], [.int 4, .ref 108], w)) rfl).trans ?_
    rfl
theorem tr_186_238 (d : Nat) (w : Wd) (hW : Fix w) (l1 : Int32) (l2 : Int32) (s0 : Int32)     : val (186, d, 238, [some (.ref 108), some (.int l1), some (.int l2), none], [.int s0, .ref 108], w) = val (186, d, 251, [some (.ref 108), some (.int l1), some (.int l2), some (.int (gI ((sI ((sI w 108 6 s0)) 108 9 0)) 108 7))], [], (sI ((sI w 108 6 s0)) 108 9 0)) := by
  refine (val_pf rfl (hW.k 108 (Nat.le_of_ble_eq_true rfl) (Nat.le_of_ble_eq_true rfl)) rfl).trans ?_
  show val (186, d, 241, [some (.ref 108), some (.int l1), some (.int l2), none], [], (sI w 108 6 s0)) = _
  refine (val_g (c2 := (186, d, 242, [some (.ref 108), some (.int l1), some (.int l2), none], [.ref 108], (sI w 108 6 s0))) rfl).trans ?_
  refine (val_g (c2 := (186, d, 243, [some (.ref 108), some (.int l1), some (.int l2), none], [.int 0, .ref 108], (sI w 108 6 s0))) rfl).trans ?_
  refine (val_pf (w := (sI w 108 6 s0)) rfl (hW.k 108 (Nat.le_of_ble_eq_true rfl) (Nat.le_of_ble_eq_true rfl)) rfl).trans ?_
  show val (186, d, 246, [some (.ref 108), some (.int l1), some (.int l2), none], [], (sI ((sI w 108 6 s0)) 108 9 0)) = _
  refine (val_g (c2 := (186, d, 247, [some (.ref 108), some (.int l1), some (.int l2), none], [.ref 108], (sI ((sI w 108 6 s0)) 108 9 0))) rfl).trans ?_
  refine (val_gf (w := (sI ((sI w 108 6 s0)) 108 9 0)) rfl (hW.k 108 (Nat.le_of_ble_eq_true rfl) (Nat.le_of_ble_eq_true rfl)) rfl).trans ?_
  show val (186, d, 250, [some (.ref 108), some (.int l1), some (.int l2), none], [.int (gI ((sI ((sI w 108 6 s0)) 108 9 0)) 108 7)], (sI ((sI w 108 6 s0)) 108 9 0)) = _
  refine (val_g (c2 := (186, d, 251, [some (.ref 108), some (.int l1), some (.int l2), some (.int (gI ((sI ((sI w 108 6 s0)) 108 9 0)) 108 7))], [], (sI ((sI w 108 6 s0)) 108 9 0))) rfl).trans ?_
  rfl
theorem tr_186_251 (d : Nat) (w : Wd) (hW : Fix w) (l1 : Int32) (l2 : Int32) (l3 : Int32)    (hy1 : (¬ ((gI w 108 8) ≤ l3)) → (¬ (¬ (gI w 108 6) = 2)) → inB l3 600 = true) : val (186, d, 251, [some (.ref 108), some (.int l1), some (.int l2), some (.int l3)], [], w) = (if (gI w 108 8) ≤ l3 then val (186, d, 294, [some (.ref 108), some (.int l1), some (.int l2), some (.int l3)], [], w) else (if ¬ (gI w 108 6) = 2 then val (186, d, 294, [some (.ref 108), some (.int l1), some (.int l2), some (.int l3)], [], w) else val (186, d, 251, [some (.ref 108), some (.int l1), some (.int l2), some (.int (l3 + 1))], [], (sI w 108 9 ((((10 * (gI w 108 9)) + (gI w 112 (l3).toNatClampNeg)) - 48)))))) := by
  refine (val_g (c2 := (186, d, 252, [some (.ref 108), some (.int l1), some (.int l2), some (.int l3)], [.int l3], w)) rfl).trans ?_
  refine (val_g (c2 := (186, d, 253, [some (.ref 108), some (.int l1), some (.int l2), some (.int l3)], [.ref 108, .int l3], w)) rfl).trans ?_
  refine (val_gf rfl (hW.k 108 (Nat.le_of_ble_eq_true rfl) (Nat.le_of_ble_eq_true rfl)) rfl).trans ?_
  show val (186, d, 256, [some (.ref 108), some (.int l1), some (.int l2), some (.int l3)], [.int (gI w 108 8), .int l3], w) = _
  by_cases hc1042 : (gI w 108 8) ≤ l3
  · refine ((val_ic_ge rfl).trans (if_pos hc1042)).trans ?_
    show val (186, d, 294, [some (.ref 108), some (.int l1), some (.int l2), some (.int l3)], [], w) = _
    refine Eq.trans ?_ (if_pos hc1042).symm
    rfl
  · refine ((val_ic_ge rfl).trans (if_neg hc1042)).trans ?_
    show val (186, d, 259, [some (.ref 108), some (.int l1), some (.int l2), some (.int l3)], [], w) = _
    refine Eq.trans ?_ (if_neg hc1042).symm
    refine (val_g (c2 := (186, d, 260, [some (.ref 108), some (.int l1), some (.int l2), some (.int l3)], [.ref 108], w)) rfl).trans ?_
    refine (val_gf rfl (hW.k 108 (Nat.le_of_ble_eq_true rfl) (Nat.le_of_ble_eq_true rfl)) rfl).trans ?_
    show val (186, d, 263, [some (.ref 108), some (.int l1), some (.int l2), some (.int l3)], [.int (gI w 108 6)], w) = _
    refine (val_g (c2 := (186, d, 264, [some (.ref 108), some (.int l1), some (.int l2), some (.int l3)], [.int 2, .int (gI w 108 6)], w)) rfl).trans ?_
    by_cases hc1043 : ¬ (gI w 108 6) = 2
    · refine ((val_ic_ne rfl).trans (if_pos hc1043)).trans ?_
      show val (186, d, 294, [some (.ref 108), some (.int l1), some (.int l2), some (.int l3)], [], w) = _
      refine Eq.trans ?_ (if_pos hc1043).symm
      rfl
    · refine ((val_ic_ne rfl).trans (if_neg hc1043)).trans ?_
      show val (186, d, 267, [some (.ref 108), some (.int l1), some (.int l2), some (.int l3)], [], w) = _
      refine Eq.trans ?_ (if_neg hc1043).symm
      refine (val_g (c2 := (186, d, 268, [some (.ref 108), some (.int l1), some (.int l2), some (.int l3)], [.ref 108], w)) rfl).trans ?_
      refine (val_g (c2 := (186, d, 270, [some (.ref 108), some (.int l1), some (.int l2), some (.int l3)], [.int 10, .ref 108], w)) rfl).trans ?_
      refine (val_g (c2 := (186, d, 271, [some (.ref 108), some (.int l1), some (.int l2), some (.int l3)], [.ref 108, .int 10, .ref 108], w)) rfl).trans ?_
      refine (val_gf rfl (hW.k 108 (Nat.le_of_ble_eq_true rfl) (Nat.le_of_ble_eq_true rfl)) rfl).trans ?_
      show val (186, d, 274, [some (.ref 108), some (.int l1), some (.int l2), some (.int l3)], [.int (gI w 108 9), .int 10, .ref 108], w) = _
      refine (val_g (c2 := (186, d, 275, [some (.ref 108), some (.int l1), some (.int l2), some (.int l3)], [.int (10 * (gI w 108 9)), .ref 108], w)) rfl).trans ?_
      refine (val_g (c2 := (186, d, 276, [some (.ref 108), some (.int l1), some (.int l2), some (.int l3)], [.ref 108, .int (10 * (gI w 108 9)), .ref 108], w)) rfl).trans ?_
      refine (val_gf rfl (hW.k 108 (Nat.le_of_ble_eq_true rfl) (Nat.le_of_ble_eq_true rfl)) (fvR (hW.r 108 4 112 rfl))).trans ?_
      show val (186, d, 279, [some (.ref 108), some (.int l1), some (.int l2), some (.int l3)], [.ref 112, .int (10 * (gI w 108 9)), .ref 108], w) = _
      refine (val_g (c2 := (186, d, 280, [some (.ref 108), some (.int l1), some (.int l2), some (.int l3)], [.int l3, .ref 112, .int (10 * (gI w 108 9)), .ref 108], w)) rfl).trans ?_
      refine (val_bal rfl (hW.k 112 (Nat.le_of_ble_eq_true rfl) (Nat.le_of_ble_eq_true rfl)) rfl (hy1 hc1042 hc1043)).trans ?_
      show val (186, d, 281, [some (.ref 108), some (.int l1), some (.int l2), some (.int l3)], [.int (gI w 112 (l3).toNatClampNeg), .int (10 * (gI w 108 9)), .ref 108], w) = _
      refine (val_g (c2 := (186, d, 282, [some (.ref 108), some (.int l1), some (.int l2), some (.int l3)], [.int ((10 * (gI w 108 9)) + (gI w 112 (l3).toNatClampNeg)), .ref 108], w)) rfl).trans ?_
      refine (val_g (c2 := (186, d, 284, [some (.ref 108), some (.int l1), some (.int l2), some (.int l3)], [.int 48, .int ((10 * (gI w 108 9)) + (gI w 112 (l3).toNatClampNeg)), .ref 108], w)) rfl).trans ?_
      refine (val_g (c2 := (186, d, 285, [some (.ref 108), some (.int l1), some (.int l2), some (.int l3)], [.int (((10 * (gI w 108 9)) + (gI w 112 (l3).toNatClampNeg)) - 48), .ref 108], w)) rfl).trans ?_
      refine (val_pf rfl (hW.k 108 (Nat.le_of_ble_eq_true rfl) (Nat.le_of_ble_eq_true rfl)) rfl).trans ?_
      show val (186, d, 288, [some (.ref 108), some (.int l1), some (.int l2), some (.int l3)], [], (sI w 108 9 ((((10 * (gI w 108 9)) + (gI w 112 (l3).toNatClampNeg)) - 48)))) = _
      refine (val_g (c2 := (186, d, 291, [some (.ref 108), some (.int l1), some (.int l2), some (.int (l3 + 1))], [], (sI w 108 9 ((((10 * (gI w 108 9)) + (gI w 112 (l3).toNatClampNeg)) - 48))))) rfl).trans ?_
      refine (val_g (c2 := (186, d, 251, [some (.ref 108), some (.int l1), some (.int l2), some (.int (l3 + 1))], [], (sI w 108 9 ((((10 * (gI w 108 9)) + (gI w 112 (l3).toNatClampNeg)) - 48))))) rfl).trans ?_
      rfl
theorem tr_186_294 (d : Nat) (w : Wd) (l1 : Int32) (l2 : Int32) (l3 : Int32)     : val (186, d, 294, [some (.ref 108), some (.int l1), some (.int l2), some (.int l3)], [], w) = val (186, d, 330, [some (.ref 108), some (.int l1), some (.int l2), some (.int l3)], [], w) := by
  refine (val_g (c2 := (186, d, 330, [some (.ref 108), some (.int l1), some (.int l2), some (.int l3)], [], w)) rfl).trans ?_
  rfl
theorem tr_186_297 (d : Nat) (w : Wd) (l1 : Int32) (l2 : Int32)     : val (186, d, 297, [some (.ref 108), some (.int l1), some (.int l2), none], [], w) = (if l2 = 59 then val (186, d, 322, [some (.ref 108), some (.int l1), some (.int l2), none], [.ref 108], w) else (if l2 = 40 then val (186, d, 322, [some (.ref 108), some (.int l1), some (.int l2), none], [.ref 108], w) else (if l2 = 41 then val (186, d, 322, [some (.ref 108), some (.int l1), some (.int l2), none], [.ref 108], w) else (if ¬ l2 = 44 then val (186, d, 327, [some (.ref 108), some (.int l1), some (.int l2), none], [.int 4, .ref 108], w) else val (186, d, 322, [some (.ref 108), some (.int l1), some (.int l2), none], [.ref 108], w))))) := by
  refine (val_g (c2 := (186, d, 298, [some (.ref 108), some (.int l1), some (.int l2), none], [.ref 108], w)) rfl).trans ?_
  refine (val_g (c2 := (186, d, 299, [some (.ref 108), some (.int l1), some (.int l2), none], [.int l2, .ref 108], w)) rfl).trans ?_
  refine (val_g (c2 := (186, d, 301, [some (.ref 108), some (.int l1), some (.int l2), none], [.int 59, .int l2, .ref 108], w)) rfl).trans ?_
  by_cases hc1044 : l2 = 59
  · refine ((val_ic_eq rfl).trans (if_pos hc1044)).trans ?_
    show val (186, d, 322, [some (.ref 108), some (.int l1), some (.int l2), none], [.ref 108], w) = _
    refine Eq.trans ?_ (if_pos hc1044).symm
    rfl
  · refine ((val_ic_eq rfl).trans (if_neg hc1044)).trans ?_
    show val (186, d, 304, [some (.ref 108), some (.int l1), some (.int l2), none], [.ref 108], w) = _
    refine Eq.trans ?_ (if_neg hc1044).symm
    refine (val_g (c2 := (186, d, 305, [some (.ref 108), some (.int l1), some (.int l2), none], [.int l2, .ref 108], w)) rfl).trans ?_
    refine (val_g (c2 := (186, d, 307, [some (.ref 108), some (.int l1), some (.int l2), none], [.int 40, .int l2, .ref 108], w)) rfl).trans ?_
    by_cases hc1045 : l2 = 40
    · refine ((val_ic_eq rfl).trans (if_pos hc1045)).trans ?_
      show val (186, d, 322, [some (.ref 108), some (.int l1), some (.int l2), none], [.ref 108], w) = _
      refine Eq.trans ?_ (if_pos hc1045).symm
      rfl
    · refine ((val_ic_eq rfl).trans (if_neg hc1045)).trans ?_
      show val (186, d, 310, [some (.ref 108), some (.int l1), some (.int l2), none], [.ref 108], w) = _
      refine Eq.trans ?_ (if_neg hc1045).symm
      refine (val_g (c2 := (186, d, 311, [some (.ref 108), some (.int l1), some (.int l2), none], [.int l2, .ref 108], w)) rfl).trans ?_
      refine (val_g (c2 := (186, d, 313, [some (.ref 108), some (.int l1), some (.int l2), none], [.int 41, .int l2, .ref 108], w)) rfl).trans ?_
      by_cases hc1046 : l2 = 41
      · refine ((val_ic_eq rfl).trans (if_pos hc1046)).trans ?_
        show val (186, d, 322, [some (.ref 108), some (.int l1), some (.int l2), none], [.ref 108], w) = _
        refine Eq.trans ?_ (if_pos hc1046).symm
        rfl
      · refine ((val_ic_eq rfl).trans (if_neg hc1046)).trans ?_
        show val (186, d, 316, [some (.ref 108), some (.int l1), some (.int l2), none], [.ref 108], w) = _
        refine Eq.trans ?_ (if_neg hc1046).symm
        refine (val_g (c2 := (186, d, 317, [some (.ref 108), some (.int l1), some (.int l2), none], [.int l2, .ref 108], w)) rfl).trans ?_
        refine (val_g (c2 := (186, d, 319, [some (.ref 108), some (.int l1), some (.int l2), none], [.int 44, .int l2, .ref 108], w)) rfl).trans ?_
        by_cases hc1047 : ¬ l2 = 44
        · refine ((val_ic_ne rfl).trans (if_pos hc1047)).trans ?_
          show val (186, d, 326, [some (.ref 108), some (.int l1), some (.int l2), none], [.ref 108], w) = _
          refine Eq.trans ?_ (if_pos hc1047).symm
          refine (val_g (c2 := (186, d, 327, [some (.ref 108), some (.int l1), some (.int l2), none], [.int 4, .ref 108], w)) rfl).trans ?_
          rfl
        · refine ((val_ic_ne rfl).trans (if_neg hc1047)).trans ?_
          show val (186, d, 322, [some (.ref 108), some (.int l1), some (.int l2), none], [.ref 108], w) = _
          refine Eq.trans ?_ (if_neg hc1047).symm
          rfl
theorem tr_186_322 (d : Nat) (w : Wd) (l1 : Int32) (l2 : Int32)     : val (186, d, 322, [some (.ref 108), some (.int l1), some (.int l2), none], [.ref 108], w) = val (186, d, 327, [some (.ref 108), some (.int l1), some (.int l2), none], [.int 3, .ref 108], w) := by
  refine (val_g (c2 := (186, d, 323, [some (.ref 108), some (.int l1), some (.int l2), none], [.int 3, .ref 108], w)) rfl).trans ?_
  refine (val_g (c2 := (186, d, 327, [some (.ref 108), some (.int l1), some (.int l2), none], [.int 3, .ref 108], w)) rfl).trans ?_
  rfl
theorem tr_186_327 (d : Nat) (w : Wd) (hW : Fix w) (l1 : Int32) (l2 : Int32) (s0 : Int32)     : val (186, d, 327, [some (.ref 108), some (.int l1), some (.int l2), none], [.int s0, .ref 108], w) = val (186, d, 330, [some (.ref 108), some (.int l1), some (.int l2), none], [], (sI w 108 6 s0)) := by
  refine (val_pf rfl (hW.k 108 (Nat.le_of_ble_eq_true rfl) (Nat.le_of_ble_eq_true rfl)) rfl).trans ?_
  show val (186, d, 330, [some (.ref 108), some (.int l1), some (.int l2), none], [], (sI w 108 6 s0)) = _
  rfl
theorem tr_186_330 (d : Nat) (w : Wd) (l1 : Int32) (l2 : Int32) (l3 : Option Value)    : val (186, d, 330, [some (.ref 108), some (.int l1), some (.int l2), l3], [], w) = some (none, w) := by
  exact val_r rfl
/-- BelfryHouseModel.good()Z -/
theorem tr_187 (d : Nat) (w : Wd) (hW : Fix w)      : val (187, d, 0, [some (.ref 108)], [], w) = (if 0 ≤ (gI w 108 10) then some (some (.int 0), w) else some (some (.int 1), w)) := by
  refine (val_g (c2 := (187, d, 1, [some (.ref 108)], [.ref 108], w)) rfl).trans ?_
  refine (val_gf rfl (hW.k 108 (Nat.le_of_ble_eq_true rfl) (Nat.le_of_ble_eq_true rfl)) rfl).trans ?_
  show val (187, d, 4, [some (.ref 108)], [.int (gI w 108 10)], w) = _
  by_cases hc1049 : 0 ≤ (gI w 108 10)
  · refine ((val_if_ge rfl).trans (if_pos hc1049)).trans ?_
    show val (187, d, 11, [some (.ref 108)], [], w) = _
    refine Eq.trans ?_ (if_pos hc1049).symm
    refine (val_g (c2 := (187, d, 12, [some (.ref 108)], [.int 0], w)) rfl).trans ?_
    exact val_r rfl
  · refine ((val_if_ge rfl).trans (if_neg hc1049)).trans ?_
    show val (187, d, 7, [some (.ref 108)], [], w) = _
    refine Eq.trans ?_ (if_neg hc1049).symm
    refine (val_g (c2 := (187, d, 8, [some (.ref 108)], [.int 1], w)) rfl).trans ?_
    refine (val_g (c2 := (187, d, 12, [some (.ref 108)], [.int 1], w)) rfl).trans ?_
    exact val_r rfl
/-- BelfryHouseModel.wrong()V -/
theorem tr_188 (d : Nat) (w : Wd) (hW : Fix w)      : val (188, d, 0, [some (.ref 108)], [], w) = (if 0 ≤ (gI w 108 10) then some (none, w) else some (none, (sI w 108 10 ((gI w 108 7))))) := by
  refine (val_g (c2 := (188, d, 1, [some (.ref 108)], [.ref 108], w)) rfl).trans ?_
  refine (val_gf rfl (hW.k 108 (Nat.le_of_ble_eq_true rfl) (Nat.le_of_ble_eq_true rfl)) rfl).trans ?_
  show val (188, d, 4, [some (.ref 108)], [.int (gI w 108 10)], w) = _
  by_cases hc1051 : 0 ≤ (gI w 108 10)
  · refine ((val_if_ge rfl).trans (if_pos hc1051)).trans ?_
    show val (188, d, 15, [some (.ref 108)], [], w) = _
    refine Eq.trans ?_ (if_pos hc1051).symm
    exact val_r rfl
  · refine ((val_if_ge rfl).trans (if_neg hc1051)).trans ?_
    show val (188, d, 7, [some (.ref 108)], [], w) = _
    refine Eq.trans ?_ (if_neg hc1051).symm
    refine (val_g (c2 := (188, d, 8, [some (.ref 108)], [.ref 108], w)) rfl).trans ?_
    refine (val_g (c2 := (188, d, 9, [some (.ref 108)], [.ref 108, .ref 108], w)) rfl).trans ?_
    refine (val_gf rfl (hW.k 108 (Nat.le_of_ble_eq_true rfl) (Nat.le_of_ble_eq_true rfl)) rfl).trans ?_
    show val (188, d, 12, [some (.ref 108)], [.int (gI w 108 7), .ref 108], w) = _
    refine (val_pf rfl (hW.k 108 (Nat.le_of_ble_eq_true rfl) (Nat.le_of_ble_eq_true rfl)) rfl).trans ?_
    show val (188, d, 15, [some (.ref 108)], [], (sI w 108 10 ((gI w 108 7)))) = _
    exact val_r rfl
/-- BelfryHouseModel.isWord(Ljava/lang/String;)Z -/
theorem tr_189 (d : Nat) (w : Wd) (hW : Fix w) (p0 : Nat)     : val (189, d + 4, 0, [some (.ref 108), some (.ref p0), none], [], w) = (if ¬ (gI w 108 6) = 1 then some (some (.int 0), w) else val (189, d + 4, 18, [some (.ref 108), some (.ref p0), none], [.ref p0, .int ((gI w 108 8) - (gI w 108 7))], w)) := by
  refine (val_g (c2 := (189, d + 4, 1, [some (.ref 108), some (.ref p0), none], [.ref 108], w)) rfl).trans ?_
  refine (val_gf rfl (hW.k 108 (Nat.le_of_ble_eq_true rfl) (Nat.le_of_ble_eq_true rfl)) rfl).trans ?_
  show val (189, d + 4, 4, [some (.ref 108), some (.ref p0), none], [.int (gI w 108 6)], w) = _
  refine (val_g (c2 := (189, d + 4, 5, [some (.ref 108), some (.ref p0), none], [.int 1, .int (gI w 108 6)], w)) rfl).trans ?_
  by_cases hc1056 : ¬ (gI w 108 6) = 1
  · refine ((val_ic_ne rfl).trans (if_pos hc1056)).trans ?_
    show val (189, d + 4, 24, [some (.ref 108), some (.ref p0), none], [], w) = _
    refine Eq.trans ?_ (if_pos hc1056).symm
    refine (val_g (c2 := (189, d + 4, 25, [some (.ref 108), some (.ref p0), none], [.int 0], w)) rfl).trans ?_
    exact val_r rfl
  · refine ((val_ic_ne rfl).trans (if_neg hc1056)).trans ?_
    show val (189, d + 4, 8, [some (.ref 108), some (.ref p0), none], [], w) = _
    refine Eq.trans ?_ (if_neg hc1056).symm
    refine (val_g (c2 := (189, d + 4, 9, [some (.ref 108), some (.ref p0), none], [.ref 108], w)) rfl).trans ?_
    refine (val_gf rfl (hW.k 108 (Nat.le_of_ble_eq_true rfl) (Nat.le_of_ble_eq_true rfl)) rfl).trans ?_
    show val (189, d + 4, 12, [some (.ref 108), some (.ref p0), none], [.int (gI w 108 8)], w) = _
    refine (val_g (c2 := (189, d + 4, 13, [some (.ref 108), some (.ref p0), none], [.ref 108, .int (gI w 108 8)], w)) rfl).trans ?_
    refine (val_gf rfl (hW.k 108 (Nat.le_of_ble_eq_true rfl) (Nat.le_of_ble_eq_true rfl)) rfl).trans ?_
    show val (189, d + 4, 16, [some (.ref 108), some (.ref p0), none], [.int (gI w 108 7), .int (gI w 108 8)], w) = _
    refine (val_g (c2 := (189, d + 4, 17, [some (.ref 108), some (.ref p0), none], [.int ((gI w 108 8) - (gI w 108 7))], w)) rfl).trans ?_
    refine (val_g (c2 := (189, d + 4, 18, [some (.ref 108), some (.ref p0), none], [.ref p0, .int ((gI w 108 8) - (gI w 108 7))], w)) rfl).trans ?_
    rfl
theorem tr_189_21 (d : Nat) (w : Wd) (l1 : Nat) (s0 : Int32) (s1 : Int32)     : val (189, d + 4, 21, [some (.ref 108), some (.ref l1), none], [.int s0, .int s1], w) = (if s1 = s0 then val (189, d + 4, 28, [some (.ref 108), some (.ref l1), some (.int 0)], [], w) else some (some (.int 0), w)) := by
  by_cases hc1057 : s1 = s0
  · refine ((val_ic_eq rfl).trans (if_pos hc1057)).trans ?_
    show val (189, d + 4, 26, [some (.ref 108), some (.ref l1), none], [], w) = _
    refine Eq.trans ?_ (if_pos hc1057).symm
    refine (val_g (c2 := (189, d + 4, 27, [some (.ref 108), some (.ref l1), none], [.int 0], w)) rfl).trans ?_
    refine (val_g (c2 := (189, d + 4, 28, [some (.ref 108), some (.ref l1), some (.int 0)], [], w)) rfl).trans ?_
    rfl
  · refine ((val_ic_eq rfl).trans (if_neg hc1057)).trans ?_
    show val (189, d + 4, 24, [some (.ref 108), some (.ref l1), none], [], w) = _
    refine Eq.trans ?_ (if_neg hc1057).symm
    refine (val_g (c2 := (189, d + 4, 25, [some (.ref 108), some (.ref l1), none], [.int 0], w)) rfl).trans ?_
    exact val_r rfl
theorem tr_189_28 (d : Nat) (w : Wd) (l1 : Nat) (l2 : Int32)     : val (189, d + 4, 28, [some (.ref 108), some (.ref l1), some (.int l2)], [], w) = val (189, d + 4, 30, [some (.ref 108), some (.ref l1), some (.int l2)], [.ref l1, .int l2], w) := by
  refine (val_g (c2 := (189, d + 4, 29, [some (.ref 108), some (.ref l1), some (.int l2)], [.int l2], w)) rfl).trans ?_
  refine (val_g (c2 := (189, d + 4, 30, [some (.ref 108), some (.ref l1), some (.int l2)], [.ref l1, .int l2], w)) rfl).trans ?_
  rfl
theorem tr_189_33 (d : Nat) (w : Wd) (hW : Fix w) (l1 : Nat) (l2 : Int32) (s0 : Int32) (s1 : Int32)    (hy1 : (¬ (s0 ≤ s1)) → inB (((gI w 108 7) + l2)) 600 = true) : val (189, d + 4, 33, [some (.ref 108), some (.ref l1), some (.int l2)], [.int s0, .int s1], w) = (if s0 ≤ s1 then some (some (.int 1), w) else val (189, d + 4, 49, [some (.ref 108), some (.ref l1), some (.int l2)], [.int l2, .ref l1, .int (gI w 112 (((gI w 108 7) + l2)).toNatClampNeg)], w)) := by
  by_cases hc1058 : s0 ≤ s1
  · refine ((val_ic_ge rfl).trans (if_pos hc1058)).trans ?_
    show val (189, d + 4, 63, [some (.ref 108), some (.ref l1), some (.int l2)], [], w) = _
    refine Eq.trans ?_ (if_pos hc1058).symm
    refine (val_g (c2 := (189, d + 4, 64, [some (.ref 108), some (.ref l1), some (.int l2)], [.int 1], w)) rfl).trans ?_
    exact val_r rfl
  · refine ((val_ic_ge rfl).trans (if_neg hc1058)).trans ?_
    show val (189, d + 4, 36, [some (.ref 108), some (.ref l1), some (.int l2)], [], w) = _
    refine Eq.trans ?_ (if_neg hc1058).symm
    refine (val_g (c2 := (189, d + 4, 37, [some (.ref 108), some (.ref l1), some (.int l2)], [.ref 108], w)) rfl).trans ?_
    refine (val_gf rfl (hW.k 108 (Nat.le_of_ble_eq_true rfl) (Nat.le_of_ble_eq_true rfl)) (fvR (hW.r 108 4 112 rfl))).trans ?_
    show val (189, d + 4, 40, [some (.ref 108), some (.ref l1), some (.int l2)], [.ref 112], w) = _
    refine (val_g (c2 := (189, d + 4, 41, [some (.ref 108), some (.ref l1), some (.int l2)], [.ref 108, .ref 112], w)) rfl).trans ?_
    refine (val_gf rfl (hW.k 108 (Nat.le_of_ble_eq_true rfl) (Nat.le_of_ble_eq_true rfl)) rfl).trans ?_
    show val (189, d + 4, 44, [some (.ref 108), some (.ref l1), some (.int l2)], [.int (gI w 108 7), .ref 112], w) = _
    refine (val_g (c2 := (189, d + 4, 45, [some (.ref 108), some (.ref l1), some (.int l2)], [.int l2, .int (gI w 108 7), .ref 112], w)) rfl).trans ?_
    refine (val_g (c2 := (189, d + 4, 46, [some (.ref 108), some (.ref l1), some (.int l2)], [.int ((gI w 108 7) + l2), .ref 112], w)) rfl).trans ?_
    refine (val_bal rfl (hW.k 112 (Nat.le_of_ble_eq_true rfl) (Nat.le_of_ble_eq_true rfl)) rfl (hy1 hc1058)).trans ?_
    show val (189, d + 4, 47, [some (.ref 108), some (.ref l1), some (.int l2)], [.int (gI w 112 (((gI w 108 7) + l2)).toNatClampNeg)], w) = _
    refine (val_g (c2 := (189, d + 4, 48, [some (.ref 108), some (.ref l1), some (.int l2)], [.ref l1, .int (gI w 112 (((gI w 108 7) + l2)).toNatClampNeg)], w)) rfl).trans ?_
    refine (val_g (c2 := (189, d + 4, 49, [some (.ref 108), some (.ref l1), some (.int l2)], [.int l2, .ref l1, .int (gI w 112 (((gI w 108 7) + l2)).toNatClampNeg)], w)) rfl).trans ?_
    rfl
theorem tr_189_52 (d : Nat) (w : Wd) (l1 : Nat) (l2 : Int32) (s0 : Int32) (s1 : Int32)     : val (189, d + 4, 52, [some (.ref 108), some (.ref l1), some (.int l2)], [.int s0, .int s1], w) = (if s1 = s0 then val (189, d + 4, 28, [some (.ref 108), some (.ref l1), some (.int (l2 + 1))], [], w) else some (some (.int 0), w)) := by
  by_cases hc1059 : s1 = s0
  · refine ((val_ic_eq rfl).trans (if_pos hc1059)).trans ?_
    show val (189, d + 4, 57, [some (.ref 108), some (.ref l1), some (.int l2)], [], w) = _
    refine Eq.trans ?_ (if_pos hc1059).symm
    refine (val_g (c2 := (189, d + 4, 60, [some (.ref 108), some (.ref l1), some (.int (l2 + 1))], [], w)) rfl).trans ?_
    refine (val_g (c2 := (189, d + 4, 28, [some (.ref 108), some (.ref l1), some (.int (l2 + 1))], [], w)) rfl).trans ?_
    rfl
  · refine ((val_ic_eq rfl).trans (if_neg hc1059)).trans ?_
    show val (189, d + 4, 55, [some (.ref 108), some (.ref l1), some (.int l2)], [], w) = _
    refine Eq.trans ?_ (if_neg hc1059).symm
    refine (val_g (c2 := (189, d + 4, 56, [some (.ref 108), some (.ref l1), some (.int l2)], [.int 0], w)) rfl).trans ?_
    exact val_r rfl
/-- BelfryHouseModel.isSign(I)Z -/
theorem tr_190 (d : Nat) (w : Wd) (hW : Fix w) (x0 : Int32)    (hy1 : (¬ (¬ (gI w 108 6) = 3)) → inB ((gI w 108 7)) 600 = true) : val (190, d, 0, [some (.ref 108), some (.int x0)], [], w) = (if ¬ (gI w 108 6) = 3 then some (some (.int 0), w) else (if ¬ (gI w 112 ((gI w 108 7)).toNatClampNeg) = x0 then some (some (.int 0), w) else some (some (.int 1), w))) := by
  refine (val_g (c2 := (190, d, 1, [some (.ref 108), some (.int x0)], [.ref 108], w)) rfl).trans ?_
  refine (val_gf rfl (hW.k 108 (Nat.le_of_ble_eq_true rfl) (Nat.le_of_ble_eq_true rfl)) rfl).trans ?_
  show val (190, d, 4, [some (.ref 108), some (.int x0)], [.int (gI w 108 6)], w) = _
  refine (val_g (c2 := (190, d, 5, [some (.ref 108), some (.int x0)], [.int 3, .int (gI w 108 6)], w)) rfl).trans ?_
  by_cases hc1062 : ¬ (gI w 108 6) = 3
  · refine ((val_ic_ne rfl).trans (if_pos hc1062)).trans ?_
    show val (190, d, 25, [some (.ref 108), some (.int x0)], [], w) = _
    refine Eq.trans ?_ (if_pos hc1062).symm
    refine (val_g (c2 := (190, d, 26, [some (.ref 108), some (.int x0)], [.int 0], w)) rfl).trans ?_
    exact val_r rfl
  · refine ((val_ic_ne rfl).trans (if_neg hc1062)).trans ?_
    show val (190, d, 8, [some (.ref 108), some (.int x0)], [], w) = _
    refine Eq.trans ?_ (if_neg hc1062).symm
    refine (val_g (c2 := (190, d, 9, [some (.ref 108), some (.int x0)], [.ref 108], w)) rfl).trans ?_
    refine (val_gf rfl (hW.k 108 (Nat.le_of_ble_eq_true rfl) (Nat.le_of_ble_eq_true rfl)) (fvR (hW.r 108 4 112 rfl))).trans ?_
    show val (190, d, 12, [some (.ref 108), some (.int x0)], [.ref 112], w) = _
    refine (val_g (c2 := (190, d, 13, [some (.ref 108), some (.int x0)], [.ref 108, .ref 112], w)) rfl).trans ?_
    refine (val_gf rfl (hW.k 108 (Nat.le_of_ble_eq_true rfl) (Nat.le_of_ble_eq_true rfl)) rfl).trans ?_
    show val (190, d, 16, [some (.ref 108), some (.int x0)], [.int (gI w 108 7), .ref 112], w) = _
    refine (val_bal rfl (hW.k 112 (Nat.le_of_ble_eq_true rfl) (Nat.le_of_ble_eq_true rfl)) rfl (hy1 hc1062)).trans ?_
    show val (190, d, 17, [some (.ref 108), some (.int x0)], [.int (gI w 112 ((gI w 108 7)).toNatClampNeg)], w) = _
    refine (val_g (c2 := (190, d, 18, [some (.ref 108), some (.int x0)], [.int x0, .int (gI w 112 ((gI w 108 7)).toNatClampNeg)], w)) rfl).trans ?_
    by_cases hc1063 : ¬ (gI w 112 ((gI w 108 7)).toNatClampNeg) = x0
    · refine ((val_ic_ne rfl).trans (if_pos hc1063)).trans ?_
      show val (190, d, 25, [some (.ref 108), some (.int x0)], [], w) = _
      refine Eq.trans ?_ (if_pos hc1063).symm
      refine (val_g (c2 := (190, d, 26, [some (.ref 108), some (.int x0)], [.int 0], w)) rfl).trans ?_
      exact val_r rfl
    · refine ((val_ic_ne rfl).trans (if_neg hc1063)).trans ?_
      show val (190, d, 21, [some (.ref 108), some (.int x0)], [], w) = _
      refine Eq.trans ?_ (if_neg hc1063).symm
      refine (val_g (c2 := (190, d, 22, [some (.ref 108), some (.int x0)], [.int 1], w)) rfl).trans ?_
      refine (val_g (c2 := (190, d, 26, [some (.ref 108), some (.int x0)], [.int 1], w)) rfl).trans ?_
      exact val_r rfl
/-- BelfryHouseModel.sign(I)V -/
theorem tr_191 (d : Nat) (w : Wd) (x0 : Int32)     : val (191, d + 1, 0, [some (.ref 108), some (.int x0)], [], w) = val (191, d + 1, 1, [some (.ref 108), some (.int x0)], [.ref 108], w) := by
  refine (val_g (c2 := (191, d + 1, 1, [some (.ref 108), some (.int x0)], [.ref 108], w)) rfl).trans ?_
  rfl
theorem tr_191_4 (d : Nat) (w : Wd) (l1 : Int32) (s0 : Int32)     : val (191, d + 1, 4, [some (.ref 108), some (.int l1)], [.int s0], w) = (if s0 = 0 then val (191, d + 1, 23, [some (.ref 108), some (.int l1)], [.ref 108], w) else val (191, d + 1, 9, [some (.ref 108), some (.int l1)], [.int l1, .ref 108], w)) := by
  by_cases hc1066 : s0 = 0
  · refine ((val_if_eq rfl).trans (if_pos hc1066)).trans ?_
    show val (191, d + 1, 22, [some (.ref 108), some (.int l1)], [], w) = _
    refine Eq.trans ?_ (if_pos hc1066).symm
    refine (val_g (c2 := (191, d + 1, 23, [some (.ref 108), some (.int l1)], [.ref 108], w)) rfl).trans ?_
    rfl
  · refine ((val_if_eq rfl).trans (if_neg hc1066)).trans ?_
    show val (191, d + 1, 7, [some (.ref 108), some (.int l1)], [], w) = _
    refine Eq.trans ?_ (if_neg hc1066).symm
    refine (val_g (c2 := (191, d + 1, 8, [some (.ref 108), some (.int l1)], [.ref 108], w)) rfl).trans ?_
    refine (val_g (c2 := (191, d + 1, 9, [some (.ref 108), some (.int l1)], [.int l1, .ref 108], w)) rfl).trans ?_
    rfl
theorem tr_191_12 (d : Nat) (w : Wd) (l1 : Int32) (s0 : Int32)     : val (191, d + 1, 12, [some (.ref 108), some (.int l1)], [.int s0], w) = (if s0 = 0 then val (191, d + 1, 23, [some (.ref 108), some (.int l1)], [.ref 108], w) else val (191, d + 1, 16, [some (.ref 108), some (.int l1)], [.ref 108], w)) := by
  by_cases hc1067 : s0 = 0
  · refine ((val_if_eq rfl).trans (if_pos hc1067)).trans ?_
    show val (191, d + 1, 22, [some (.ref 108), some (.int l1)], [], w) = _
    refine Eq.trans ?_ (if_pos hc1067).symm
    refine (val_g (c2 := (191, d + 1, 23, [some (.ref 108), some (.int l1)], [.ref 108], w)) rfl).trans ?_
    rfl
  · refine ((val_if_eq rfl).trans (if_neg hc1067)).trans ?_
    show val (191, d + 1, 15, [some (.ref 108), some (.int l1)], [], w) = _
    refine Eq.trans ?_ (if_neg hc1067).symm
    refine (val_g (c2 := (191, d + 1, 16, [some (.ref 108), some (.int l1)], [.ref 108], w)) rfl).trans ?_
    rfl
theorem tr_191_19 (d : Nat) (w : Wd) (l1 : Int32)     : val (191, d + 1, 19, [some (.ref 108), some (.int l1)], [], w) = val (191, d + 1, 26, [some (.ref 108), some (.int l1)], [], w) := by
  refine (val_g (c2 := (191, d + 1, 26, [some (.ref 108), some (.int l1)], [], w)) rfl).trans ?_
  rfl
theorem tr_191_26 (d : Nat) (w : Wd) (l1 : Int32)     : val (191, d + 1, 26, [some (.ref 108), some (.int l1)], [], w) = some (none, w) := by
  exact val_r rfl
/-- BelfryHouseModel.number(II)I -/
theorem tr_192 (d : Nat) (w : Wd) (x0 : Int32) (x1 : Int32)     : val (192, d + 1, 0, [some (.ref 108), some (.int x0), some (.int x1), none], [], w) = val (192, d + 1, 1, [some (.ref 108), some (.int x0), some (.int x1), none], [.ref 108], w) := by
  refine (val_g (c2 := (192, d + 1, 1, [some (.ref 108), some (.int x0), some (.int x1), none], [.ref 108], w)) rfl).trans ?_
  rfl
theorem tr_192_4 (d : Nat) (w : Wd) (hW : Fix w) (l1 : Int32) (l2 : Int32) (s0 : Int32)     : val (192, d + 1, 4, [some (.ref 108), some (.int l1), some (.int l2), none], [.int s0], w) = (if s0 = 0 then val (192, d + 1, 43, [some (.ref 108), some (.int l1), some (.int l2), none], [.ref 108], w) else (if ¬ (gI w 108 6) = 2 then val (192, d + 1, 43, [some (.ref 108), some (.int l1), some (.int l2), none], [.ref 108], w) else (if (gI w 108 9) < l1 then val (192, d + 1, 43, [some (.ref 108), some (.int l1), some (.int l2), none], [.ref 108], w) else (if l2 < (gI w 108 9) then val (192, d + 1, 43, [some (.ref 108), some (.int l1), some (.int l2), none], [.ref 108], w) else val (192, d + 1, 37, [some (.ref 108), some (.int l1), some (.int l2), some (.int (gI w 108 9))], [.ref 108], w))))) := by
  by_cases hc1072 : s0 = 0
  · refine ((val_if_eq rfl).trans (if_pos hc1072)).trans ?_
    show val (192, d + 1, 42, [some (.ref 108), some (.int l1), some (.int l2), none], [], w) = _
    refine Eq.trans ?_ (if_pos hc1072).symm
    refine (val_g (c2 := (192, d + 1, 43, [some (.ref 108), some (.int l1), some (.int l2), none], [.ref 108], w)) rfl).trans ?_
    rfl
  · refine ((val_if_eq rfl).trans (if_neg hc1072)).trans ?_
    show val (192, d + 1, 7, [some (.ref 108), some (.int l1), some (.int l2), none], [], w) = _
    refine Eq.trans ?_ (if_neg hc1072).symm
    refine (val_g (c2 := (192, d + 1, 8, [some (.ref 108), some (.int l1), some (.int l2), none], [.ref 108], w)) rfl).trans ?_
    refine (val_gf rfl (hW.k 108 (Nat.le_of_ble_eq_true rfl) (Nat.le_of_ble_eq_true rfl)) rfl).trans ?_
    show val (192, d + 1, 11, [some (.ref 108), some (.int l1), some (.int l2), none], [.int (gI w 108 6)], w) = _
    refine (val_g (c2 := (192, d + 1, 12, [some (.ref 108), some (.int l1), some (.int l2), none], [.int 2, .int (gI w 108 6)], w)) rfl).trans ?_
    by_cases hc1073 : ¬ (gI w 108 6) = 2
    · refine ((val_ic_ne rfl).trans (if_pos hc1073)).trans ?_
      show val (192, d + 1, 42, [some (.ref 108), some (.int l1), some (.int l2), none], [], w) = _
      refine Eq.trans ?_ (if_pos hc1073).symm
      refine (val_g (c2 := (192, d + 1, 43, [some (.ref 108), some (.int l1), some (.int l2), none], [.ref 108], w)) rfl).trans ?_
      rfl
    · refine ((val_ic_ne rfl).trans (if_neg hc1073)).trans ?_
      show val (192, d + 1, 15, [some (.ref 108), some (.int l1), some (.int l2), none], [], w) = _
      refine Eq.trans ?_ (if_neg hc1073).symm
      refine (val_g (c2 := (192, d + 1, 16, [some (.ref 108), some (.int l1), some (.int l2), none], [.ref 108], w)) rfl).trans ?_
      refine (val_gf rfl (hW.k 108 (Nat.le_of_ble_eq_true rfl) (Nat.le_of_ble_eq_true rfl)) rfl).trans ?_
      show val (192, d + 1, 19, [some (.ref 108), some (.int l1), some (.int l2), none], [.int (gI w 108 9)], w) = _
      refine (val_g (c2 := (192, d + 1, 20, [some (.ref 108), some (.int l1), some (.int l2), none], [.int l1, .int (gI w 108 9)], w)) rfl).trans ?_
      by_cases hc1074 : (gI w 108 9) < l1
      · refine ((val_ic_lt rfl).trans (if_pos hc1074)).trans ?_
        show val (192, d + 1, 42, [some (.ref 108), some (.int l1), some (.int l2), none], [], w) = _
        refine Eq.trans ?_ (if_pos hc1074).symm
        refine (val_g (c2 := (192, d + 1, 43, [some (.ref 108), some (.int l1), some (.int l2), none], [.ref 108], w)) rfl).trans ?_
        rfl
      · refine ((val_ic_lt rfl).trans (if_neg hc1074)).trans ?_
        show val (192, d + 1, 23, [some (.ref 108), some (.int l1), some (.int l2), none], [], w) = _
        refine Eq.trans ?_ (if_neg hc1074).symm
        refine (val_g (c2 := (192, d + 1, 24, [some (.ref 108), some (.int l1), some (.int l2), none], [.ref 108], w)) rfl).trans ?_
        refine (val_gf rfl (hW.k 108 (Nat.le_of_ble_eq_true rfl) (Nat.le_of_ble_eq_true rfl)) rfl).trans ?_
        show val (192, d + 1, 27, [some (.ref 108), some (.int l1), some (.int l2), none], [.int (gI w 108 9)], w) = _
        refine (val_g (c2 := (192, d + 1, 28, [some (.ref 108), some (.int l1), some (.int l2), none], [.int l2, .int (gI w 108 9)], w)) rfl).trans ?_
        by_cases hc1075 : l2 < (gI w 108 9)
        · refine ((val_ic_gt rfl).trans (if_pos hc1075)).trans ?_
          show val (192, d + 1, 42, [some (.ref 108), some (.int l1), some (.int l2), none], [], w) = _
          refine Eq.trans ?_ (if_pos hc1075).symm
          refine (val_g (c2 := (192, d + 1, 43, [some (.ref 108), some (.int l1), some (.int l2), none], [.ref 108], w)) rfl).trans ?_
          rfl
        · refine ((val_ic_gt rfl).trans (if_neg hc1075)).trans ?_
          show val (192, d + 1, 31, [some (.ref 108), some (.int l1), some (.int l2), none], [], w) = _
          refine Eq.trans ?_ (if_neg hc1075).symm
          refine (val_g (c2 := (192, d + 1, 32, [some (.ref 108), some (.int l1), some (.int l2), none], [.ref 108], w)) rfl).trans ?_
          refine (val_gf rfl (hW.k 108 (Nat.le_of_ble_eq_true rfl) (Nat.le_of_ble_eq_true rfl)) rfl).trans ?_
          show val (192, d + 1, 35, [some (.ref 108), some (.int l1), some (.int l2), none], [.int (gI w 108 9)], w) = _
          refine (val_g (c2 := (192, d + 1, 36, [some (.ref 108), some (.int l1), some (.int l2), some (.int (gI w 108 9))], [], w)) rfl).trans ?_
          refine (val_g (c2 := (192, d + 1, 37, [some (.ref 108), some (.int l1), some (.int l2), some (.int (gI w 108 9))], [.ref 108], w)) rfl).trans ?_
          rfl
theorem tr_192_40 (d : Nat) (w : Wd) (l1 : Int32) (l2 : Int32) (l3 : Int32)     : val (192, d + 1, 40, [some (.ref 108), some (.int l1), some (.int l2), some (.int l3)], [], w) = some (some (.int l3), w) := by
  refine (val_g (c2 := (192, d + 1, 41, [some (.ref 108), some (.int l1), some (.int l2), some (.int l3)], [.int l3], w)) rfl).trans ?_
  exact val_r rfl
theorem tr_192_46 (d : Nat) (w : Wd) (l1 : Int32) (l2 : Int32)     : val (192, d + 1, 46, [some (.ref 108), some (.int l1), some (.int l2), none], [], w) = some (some (.int l1), w) := by
  refine (val_g (c2 := (192, d + 1, 47, [some (.ref 108), some (.int l1), some (.int l2), none], [.int l1], w)) rfl).trans ?_
  exact val_r rfl
/-- BelfryHouseModel.cond(I)V -/
theorem tr_193 (d : Nat) (w : Wd) (hW : Fix w) (x0 : Int32)    (hy1 : inB x0 180 = true) (hy2 : (¬ (gI w 115 (x0).toNatClampNeg) = 8) → inB (((8 * x0) + (gI w 115 (x0).toNatClampNeg))) 1440 = true) : val (193, d + 5, 0, [some (.ref 108), some (.int x0), none], [], w) = (if ¬ (gI w 115 (x0).toNatClampNeg) = 8 then val (193, d + 5, 38, [some (.ref 108), some (.int x0), some (.int ((8 * x0) + (gI w 115 (x0).toNatClampNeg)))], [.ref 3, .ref 108], (sI w 117 (((8 * x0) + (gI w 115 (x0).toNatClampNeg))).toNatClampNeg 0)) else val (193, d + 5, 24, [some (.ref 108), some (.int x0), some (.int ((8 * x0) + (gI w 115 (x0).toNatClampNeg)))], [.ref 108], w)) := by
  refine (val_g (c2 := (193, d + 5, 2, [some (.ref 108), some (.int x0), none], [.int 8], w)) rfl).trans ?_
  refine (val_g (c2 := (193, d + 5, 3, [some (.ref 108), some (.int x0), none], [.int x0, .int 8], w)) rfl).trans ?_
  refine (val_g (c2 := (193, d + 5, 4, [some (.ref 108), some (.int x0), none], [.int (8 * x0)], w)) rfl).trans ?_
  refine (val_g (c2 := (193, d + 5, 5, [some (.ref 108), some (.int x0), none], [.ref 108, .int (8 * x0)], w)) rfl).trans ?_
  refine (val_gf rfl (hW.k 108 (Nat.le_of_ble_eq_true rfl) (Nat.le_of_ble_eq_true rfl)) (fvR (hW.r 108 14 115 rfl))).trans ?_
  show val (193, d + 5, 8, [some (.ref 108), some (.int x0), none], [.ref 115, .int (8 * x0)], w) = _
  refine (val_g (c2 := (193, d + 5, 9, [some (.ref 108), some (.int x0), none], [.int x0, .ref 115, .int (8 * x0)], w)) rfl).trans ?_
  refine (val_ial rfl (hW.k 115 (Nat.le_of_ble_eq_true rfl) (Nat.le_of_ble_eq_true rfl)) rfl hy1).trans ?_
  show val (193, d + 5, 10, [some (.ref 108), some (.int x0), none], [.int (gI w 115 (x0).toNatClampNeg), .int (8 * x0)], w) = _
  refine (val_g (c2 := (193, d + 5, 11, [some (.ref 108), some (.int x0), none], [.int ((8 * x0) + (gI w 115 (x0).toNatClampNeg))], w)) rfl).trans ?_
  refine (val_g (c2 := (193, d + 5, 12, [some (.ref 108), some (.int x0), some (.int ((8 * x0) + (gI w 115 (x0).toNatClampNeg)))], [], w)) rfl).trans ?_
  refine (val_g (c2 := (193, d + 5, 13, [some (.ref 108), some (.int x0), some (.int ((8 * x0) + (gI w 115 (x0).toNatClampNeg)))], [.ref 108], w)) rfl).trans ?_
  refine (val_gf rfl (hW.k 108 (Nat.le_of_ble_eq_true rfl) (Nat.le_of_ble_eq_true rfl)) (fvR (hW.r 108 14 115 rfl))).trans ?_
  show val (193, d + 5, 16, [some (.ref 108), some (.int x0), some (.int ((8 * x0) + (gI w 115 (x0).toNatClampNeg)))], [.ref 115], w) = _
  refine (val_g (c2 := (193, d + 5, 17, [some (.ref 108), some (.int x0), some (.int ((8 * x0) + (gI w 115 (x0).toNatClampNeg)))], [.int x0, .ref 115], w)) rfl).trans ?_
  refine (val_ial rfl (hW.k 115 (Nat.le_of_ble_eq_true rfl) (Nat.le_of_ble_eq_true rfl)) rfl hy1).trans ?_
  show val (193, d + 5, 18, [some (.ref 108), some (.int x0), some (.int ((8 * x0) + (gI w 115 (x0).toNatClampNeg)))], [.int (gI w 115 (x0).toNatClampNeg)], w) = _
  refine (val_g (c2 := (193, d + 5, 20, [some (.ref 108), some (.int x0), some (.int ((8 * x0) + (gI w 115 (x0).toNatClampNeg)))], [.int 8, .int (gI w 115 (x0).toNatClampNeg)], w)) rfl).trans ?_
  by_cases hc1099 : ¬ (gI w 115 (x0).toNatClampNeg) = 8
  · refine ((val_ic_ne rfl).trans (if_pos hc1099)).trans ?_
    show val (193, d + 5, 28, [some (.ref 108), some (.int x0), some (.int ((8 * x0) + (gI w 115 (x0).toNatClampNeg)))], [], w) = _
    refine Eq.trans ?_ (if_pos hc1099).symm
    refine (val_g (c2 := (193, d + 5, 29, [some (.ref 108), some (.int x0), some (.int ((8 * x0) + (gI w 115 (x0).toNatClampNeg)))], [.ref 108], w)) rfl).trans ?_
    refine (val_gf rfl (hW.k 108 (Nat.le_of_ble_eq_true rfl) (Nat.le_of_ble_eq_true rfl)) (fvR (hW.r 108 16 117 rfl))).trans ?_
    show val (193, d + 5, 32, [some (.ref 108), some (.int x0), some (.int ((8 * x0) + (gI w 115 (x0).toNatClampNeg)))], [.ref 117], w) = _
    refine (val_g (c2 := (193, d + 5, 33, [some (.ref 108), some (.int x0), some (.int ((8 * x0) + (gI w 115 (x0).toNatClampNeg)))], [.int ((8 * x0) + (gI w 115 (x0).toNatClampNeg)), .ref 117], w)) rfl).trans ?_
    refine (val_g (c2 := (193, d + 5, 34, [some (.ref 108), some (.int x0), some (.int ((8 * x0) + (gI w 115 (x0).toNatClampNeg)))], [.int 0, .int ((8 * x0) + (gI w 115 (x0).toNatClampNeg)), .ref 117], w)) rfl).trans ?_
    refine (val_ias rfl (hW.k 117 (Nat.le_of_ble_eq_true rfl) (Nat.le_of_ble_eq_true rfl)) (hy2 hc1099)).trans ?_
    show val (193, d + 5, 35, [some (.ref 108), some (.int x0), some (.int ((8 * x0) + (gI w 115 (x0).toNatClampNeg)))], [], (sI w 117 (((8 * x0) + (gI w 115 (x0).toNatClampNeg))).toNatClampNeg 0)) = _
    refine (val_g (c2 := (193, d + 5, 36, [some (.ref 108), some (.int x0), some (.int ((8 * x0) + (gI w 115 (x0).toNatClampNeg)))], [.ref 108], (sI w 117 (((8 * x0) + (gI w 115 (x0).toNatClampNeg))).toNatClampNeg 0))) rfl).trans ?_
    refine (val_g (c2 := (193, d + 5, 38, [some (.ref 108), some (.int x0), some (.int ((8 * x0) + (gI w 115 (x0).toNatClampNeg)))], [.ref 3, .ref 108], (sI w 117 (((8 * x0) + (gI w 115 (x0).toNatClampNeg))).toNatClampNeg 0))) rfl).trans ?_
    rfl
  · refine ((val_ic_ne rfl).trans (if_neg hc1099)).trans ?_
    show val (193, d + 5, 23, [some (.ref 108), some (.int x0), some (.int ((8 * x0) + (gI w 115 (x0).toNatClampNeg)))], [], w) = _
    refine Eq.trans ?_ (if_neg hc1099).symm
    refine (val_g (c2 := (193, d + 5, 24, [some (.ref 108), some (.int x0), some (.int ((8 * x0) + (gI w 115 (x0).toNatClampNeg)))], [.ref 108], w)) rfl).trans ?_
    rfl
theorem tr_193_27 (d : Nat) (w : Wd) (l1 : Int32) (l2 : Int32)     : val (193, d + 5, 27, [some (.ref 108), some (.int l1), some (.int l2)], [], w) = some (none, w) := by
  exact val_r rfl
theorem tr_193_41 (d : Nat) (w : Wd) (hW : Fix w) (l1 : Int32) (l2 : Int32) (s0 : Int32)    (hy1 : (¬ (s0 = 0)) → inB l2 1440 = true) : val (193, d + 5, 41, [some (.ref 108), some (.int l1), some (.int l2)], [.int s0], w) = (if s0 = 0 then val (193, d + 5, 55, [some (.ref 108), some (.int l1), some (.int l2)], [], w) else val (193, d + 5, 52, [some (.ref 108), some (.int l1), some (.int l2)], [.ref 108], (sI w 117 (l2).toNatClampNeg 1))) := by
  by_cases hc1100 : s0 = 0
  · refine ((val_if_eq rfl).trans (if_pos hc1100)).trans ?_
    show val (193, d + 5, 55, [some (.ref 108), some (.int l1), some (.int l2)], [], w) = _
    refine Eq.trans ?_ (if_pos hc1100).symm
    rfl
  · refine ((val_if_eq rfl).trans (if_neg hc1100)).trans ?_
    show val (193, d + 5, 44, [some (.ref 108), some (.int l1), some (.int l2)], [], w) = _
    refine Eq.trans ?_ (if_neg hc1100).symm
    refine (val_g (c2 := (193, d + 5, 45, [some (.ref 108), some (.int l1), some (.int l2)], [.ref 108], w)) rfl).trans ?_
    refine (val_gf rfl (hW.k 108 (Nat.le_of_ble_eq_true rfl) (Nat.le_of_ble_eq_true rfl)) (fvR (hW.r 108 16 117 rfl))).trans ?_
    show val (193, d + 5, 48, [some (.ref 108), some (.int l1), some (.int l2)], [.ref 117], w) = _
    refine (val_g (c2 := (193, d + 5, 49, [some (.ref 108), some (.int l1), some (.int l2)], [.int l2, .ref 117], w)) rfl).trans ?_
    refine (val_g (c2 := (193, d + 5, 50, [some (.ref 108), some (.int l1), some (.int l2)], [.int 1, .int l2, .ref 117], w)) rfl).trans ?_
    refine (val_ias rfl (hW.k 117 (Nat.le_of_ble_eq_true rfl) (Nat.le_of_ble_eq_true rfl)) (hy1 hc1100)).trans ?_
    show val (193, d + 5, 51, [some (.ref 108), some (.int l1), some (.int l2)], [], (sI w 117 (l2).toNatClampNeg 1)) = _
    refine (val_g (c2 := (193, d + 5, 52, [some (.ref 108), some (.int l1), some (.int l2)], [.ref 108], (sI w 117 (l2).toNatClampNeg 1))) rfl).trans ?_
    rfl
theorem tr_193_55 (d : Nat) (w : Wd) (hW : Fix w) (l1 : Int32) (l2 : Int32)    (hy1 : inB l2 1440 = true) : val (193, d + 5, 55, [some (.ref 108), some (.int l1), some (.int l2)], [], w) = (if ¬ (gI ((sI w 116 (l2).toNatClampNeg ((-9)))) 108 6) = 2 then val (193, d + 5, 204, [some (.ref 108), some (.int l1), some (.int l2)], [.ref 9, .ref 108], (sI w 116 (l2).toNatClampNeg ((-9)))) else val (193, d + 5, 82, [some (.ref 108), some (.int l1), some (.int l2)], [.int (gI ((sI w 116 (l2).toNatClampNeg ((-9)))) 108 0), .int 1, .ref 108, .int l2, .ref 118], (sI w 116 (l2).toNatClampNeg ((-9))))) := by
  refine (val_g (c2 := (193, d + 5, 56, [some (.ref 108), some (.int l1), some (.int l2)], [.ref 108], w)) rfl).trans ?_
  refine (val_gf rfl (hW.k 108 (Nat.le_of_ble_eq_true rfl) (Nat.le_of_ble_eq_true rfl)) (fvR (hW.r 108 15 116 rfl))).trans ?_
  show val (193, d + 5, 59, [some (.ref 108), some (.int l1), some (.int l2)], [.ref 116], w) = _
  refine (val_g (c2 := (193, d + 5, 60, [some (.ref 108), some (.int l1), some (.int l2)], [.int l2, .ref 116], w)) rfl).trans ?_
  refine (val_g (c2 := (193, d + 5, 62, [some (.ref 108), some (.int l1), some (.int l2)], [.int (-9), .int l2, .ref 116], w)) rfl).trans ?_
  refine (val_ias rfl (hW.k 116 (Nat.le_of_ble_eq_true rfl) (Nat.le_of_ble_eq_true rfl)) hy1).trans ?_
  show val (193, d + 5, 63, [some (.ref 108), some (.int l1), some (.int l2)], [], (sI w 116 (l2).toNatClampNeg ((-9)))) = _
  refine (val_g (c2 := (193, d + 5, 64, [some (.ref 108), some (.int l1), some (.int l2)], [.ref 108], (sI w 116 (l2).toNatClampNeg ((-9))))) rfl).trans ?_
  refine (val_gf (w := (sI w 116 (l2).toNatClampNeg ((-9)))) rfl (hW.k 108 (Nat.le_of_ble_eq_true rfl) (Nat.le_of_ble_eq_true rfl)) rfl).trans ?_
  show val (193, d + 5, 67, [some (.ref 108), some (.int l1), some (.int l2)], [.int (gI ((sI w 116 (l2).toNatClampNeg ((-9)))) 108 6)], (sI w 116 (l2).toNatClampNeg ((-9)))) = _
  refine (val_g (c2 := (193, d + 5, 68, [some (.ref 108), some (.int l1), some (.int l2)], [.int 2, .int (gI ((sI w 116 (l2).toNatClampNeg ((-9)))) 108 6)], (sI w 116 (l2).toNatClampNeg ((-9))))) rfl).trans ?_
  by_cases hc1101 : ¬ (gI ((sI w 116 (l2).toNatClampNeg ((-9)))) 108 6) = 2
  · refine ((val_ic_ne rfl).trans (if_pos hc1101)).trans ?_
    show val (193, d + 5, 201, [some (.ref 108), some (.int l1), some (.int l2)], [], (sI w 116 (l2).toNatClampNeg ((-9)))) = _
    refine Eq.trans ?_ (if_pos hc1101).symm
    refine (val_g (c2 := (193, d + 5, 202, [some (.ref 108), some (.int l1), some (.int l2)], [.ref 108], (sI w 116 (l2).toNatClampNeg ((-9))))) rfl).trans ?_
    refine (val_g (c2 := (193, d + 5, 204, [some (.ref 108), some (.int l1), some (.int l2)], [.ref 9, .ref 108], (sI w 116 (l2).toNatClampNeg ((-9))))) rfl).trans ?_
    rfl
  · refine ((val_ic_ne rfl).trans (if_neg hc1101)).trans ?_
    show val (193, d + 5, 71, [some (.ref 108), some (.int l1), some (.int l2)], [], (sI w 116 (l2).toNatClampNeg ((-9)))) = _
    refine Eq.trans ?_ (if_neg hc1101).symm
    refine (val_g (c2 := (193, d + 5, 72, [some (.ref 108), some (.int l1), some (.int l2)], [.ref 108], (sI w 116 (l2).toNatClampNeg ((-9))))) rfl).trans ?_
    refine (val_gf (w := (sI w 116 (l2).toNatClampNeg ((-9)))) rfl (hW.k 108 (Nat.le_of_ble_eq_true rfl) (Nat.le_of_ble_eq_true rfl)) (fvR (hW.r 108 17 118 rfl))).trans ?_
    show val (193, d + 5, 75, [some (.ref 108), some (.int l1), some (.int l2)], [.ref 118], (sI w 116 (l2).toNatClampNeg ((-9)))) = _
    refine (val_g (c2 := (193, d + 5, 76, [some (.ref 108), some (.int l1), some (.int l2)], [.int l2, .ref 118], (sI w 116 (l2).toNatClampNeg ((-9))))) rfl).trans ?_
    refine (val_g (c2 := (193, d + 5, 77, [some (.ref 108), some (.int l1), some (.int l2)], [.ref 108, .int l2, .ref 118], (sI w 116 (l2).toNatClampNeg ((-9))))) rfl).trans ?_
    refine (val_g (c2 := (193, d + 5, 78, [some (.ref 108), some (.int l1), some (.int l2)], [.int 1, .ref 108, .int l2, .ref 118], (sI w 116 (l2).toNatClampNeg ((-9))))) rfl).trans ?_
    refine (val_g (c2 := (193, d + 5, 79, [some (.ref 108), some (.int l1), some (.int l2)], [.ref 108, .int 1, .ref 108, .int l2, .ref 118], (sI w 116 (l2).toNatClampNeg ((-9))))) rfl).trans ?_
    refine (val_gf (w := (sI w 116 (l2).toNatClampNeg ((-9)))) rfl (hW.k 108 (Nat.le_of_ble_eq_true rfl) (Nat.le_of_ble_eq_true rfl)) rfl).trans ?_
    show val (193, d + 5, 82, [some (.ref 108), some (.int l1), some (.int l2)], [.int (gI ((sI w 116 (l2).toNatClampNeg ((-9)))) 108 0), .int 1, .ref 108, .int l2, .ref 118], (sI w 116 (l2).toNatClampNeg ((-9)))) = _
    rfl
theorem tr_193_85 (d : Nat) (w : Wd) (hW : Fix w) (l1 : Int32) (l2 : Int32) (s0 : Int32) (s1 : Int32)    (hy1 : inB s1 1440 = true) : val (193, d + 5, 85, [some (.ref 108), some (.int l1), some (.int l2)], [.int s0, .int s1, .ref 118], w) = val (193, d + 5, 87, [some (.ref 108), some (.int l1), some (.int l2)], [.ref 108], (sI w 118 (s1).toNatClampNeg s0)) := by
  refine (val_ias rfl (hW.k 118 (Nat.le_of_ble_eq_true rfl) (Nat.le_of_ble_eq_true rfl)) hy1).trans ?_
  show val (193, d + 5, 86, [some (.ref 108), some (.int l1), some (.int l2)], [], (sI w 118 (s1).toNatClampNeg s0)) = _
  refine (val_g (c2 := (193, d + 5, 87, [some (.ref 108), some (.int l1), some (.int l2)], [.ref 108], (sI w 118 (s1).toNatClampNeg s0))) rfl).trans ?_
  rfl
theorem tr_193_90 (d : Nat) (w : Wd) (l1 : Int32) (l2 : Int32) (s0 : Int32)     : val (193, d + 5, 90, [some (.ref 108), some (.int l1), some (.int l2)], [.int s0], w) = (if s0 = 0 then val (193, d + 5, 132, [some (.ref 108), some (.int l1), some (.int l2)], [.ref 108], w) else val (193, d + 5, 96, [some (.ref 108), some (.int l1), some (.int l2)], [.ref 4, .ref 108], w)) := by
  by_cases hc1102 : s0 = 0
  · refine ((val_if_eq rfl).trans (if_pos hc1102)).trans ?_
    show val (193, d + 5, 131, [some (.ref 108), some (.int l1), some (.int l2)], [], w) = _
    refine Eq.trans ?_ (if_pos hc1102).symm
    refine (val_g (c2 := (193, d + 5, 132, [some (.ref 108), some (.int l1), some (.int l2)], [.ref 108], w)) rfl).trans ?_
    rfl
  · refine ((val_if_eq rfl).trans (if_neg hc1102)).trans ?_
    show val (193, d + 5, 93, [some (.ref 108), some (.int l1), some (.int l2)], [], w) = _
    refine Eq.trans ?_ (if_neg hc1102).symm
    refine (val_g (c2 := (193, d + 5, 94, [some (.ref 108), some (.int l1), some (.int l2)], [.ref 108], w)) rfl).trans ?_
    refine (val_g (c2 := (193, d + 5, 96, [some (.ref 108), some (.int l1), some (.int l2)], [.ref 4, .ref 108], w)) rfl).trans ?_
    rfl
theorem tr_193_99 (d : Nat) (w : Wd) (l1 : Int32) (l2 : Int32) (s0 : Int32)     : val (193, d + 5, 99, [some (.ref 108), some (.int l1), some (.int l2)], [.int s0], w) = (if s0 = 0 then val (193, d + 5, 132, [some (.ref 108), some (.int l1), some (.int l2)], [.ref 108], w) else val (193, d + 5, 103, [some (.ref 108), some (.int l1), some (.int l2)], [.ref 108], w)) := by
  by_cases hc1103 : s0 = 0
  · refine ((val_if_eq rfl).trans (if_pos hc1103)).trans ?_
    show val (193, d + 5, 131, [some (.ref 108), some (.int l1), some (.int l2)], [], w) = _
    refine Eq.trans ?_ (if_pos hc1103).symm
    refine (val_g (c2 := (193, d + 5, 132, [some (.ref 108), some (.int l1), some (.int l2)], [.ref 108], w)) rfl).trans ?_
    rfl
  · refine ((val_if_eq rfl).trans (if_neg hc1103)).trans ?_
    show val (193, d + 5, 102, [some (.ref 108), some (.int l1), some (.int l2)], [], w) = _
    refine Eq.trans ?_ (if_neg hc1103).symm
    refine (val_g (c2 := (193, d + 5, 103, [some (.ref 108), some (.int l1), some (.int l2)], [.ref 108], w)) rfl).trans ?_
    rfl
theorem tr_193_106 (d : Nat) (w : Wd) (hW : Fix w) (l1 : Int32) (l2 : Int32)    (hy1 : inB l2 1440 = true) : val (193, d + 5, 106, [some (.ref 108), some (.int l1), some (.int l2)], [], w) = val (193, d + 5, 124, [some (.ref 108), some (.int l1), some (.int l2)], [.int (gI ((sI w 116 (l2).toNatClampNeg 0)) 108 0), .int 1, .ref 108, .int l2, .ref 119], (sI w 116 (l2).toNatClampNeg 0)) := by
  refine (val_g (c2 := (193, d + 5, 107, [some (.ref 108), some (.int l1), some (.int l2)], [.ref 108], w)) rfl).trans ?_
  refine (val_gf rfl (hW.k 108 (Nat.le_of_ble_eq_true rfl) (Nat.le_of_ble_eq_true rfl)) (fvR (hW.r 108 15 116 rfl))).trans ?_
  show val (193, d + 5, 110, [some (.ref 108), some (.int l1), some (.int l2)], [.ref 116], w) = _
  refine (val_g (c2 := (193, d + 5, 111, [some (.ref 108), some (.int l1), some (.int l2)], [.int l2, .ref 116], w)) rfl).trans ?_
  refine (val_g (c2 := (193, d + 5, 112, [some (.ref 108), some (.int l1), some (.int l2)], [.int 0, .int l2, .ref 116], w)) rfl).trans ?_
  refine (val_ias rfl (hW.k 116 (Nat.le_of_ble_eq_true rfl) (Nat.le_of_ble_eq_true rfl)) hy1).trans ?_
  show val (193, d + 5, 113, [some (.ref 108), some (.int l1), some (.int l2)], [], (sI w 116 (l2).toNatClampNeg 0)) = _
  refine (val_g (c2 := (193, d + 5, 114, [some (.ref 108), some (.int l1), some (.int l2)], [.ref 108], (sI w 116 (l2).toNatClampNeg 0))) rfl).trans ?_
  refine (val_gf (w := (sI w 116 (l2).toNatClampNeg 0)) rfl (hW.k 108 (Nat.le_of_ble_eq_true rfl) (Nat.le_of_ble_eq_true rfl)) (fvR (hW.r 108 18 119 rfl))).trans ?_
  show val (193, d + 5, 117, [some (.ref 108), some (.int l1), some (.int l2)], [.ref 119], (sI w 116 (l2).toNatClampNeg 0)) = _
  refine (val_g (c2 := (193, d + 5, 118, [some (.ref 108), some (.int l1), some (.int l2)], [.int l2, .ref 119], (sI w 116 (l2).toNatClampNeg 0))) rfl).trans ?_
  refine (val_g (c2 := (193, d + 5, 119, [some (.ref 108), some (.int l1), some (.int l2)], [.ref 108, .int l2, .ref 119], (sI w 116 (l2).toNatClampNeg 0))) rfl).trans ?_
  refine (val_g (c2 := (193, d + 5, 120, [some (.ref 108), some (.int l1), some (.int l2)], [.int 1, .ref 108, .int l2, .ref 119], (sI w 116 (l2).toNatClampNeg 0))) rfl).trans ?_
  refine (val_g (c2 := (193, d + 5, 121, [some (.ref 108), some (.int l1), some (.int l2)], [.ref 108, .int 1, .ref 108, .int l2, .ref 119], (sI w 116 (l2).toNatClampNeg 0))) rfl).trans ?_
  refine (val_gf (w := (sI w 116 (l2).toNatClampNeg 0)) rfl (hW.k 108 (Nat.le_of_ble_eq_true rfl) (Nat.le_of_ble_eq_true rfl)) rfl).trans ?_
  show val (193, d + 5, 124, [some (.ref 108), some (.int l1), some (.int l2)], [.int (gI ((sI w 116 (l2).toNatClampNeg 0)) 108 0), .int 1, .ref 108, .int l2, .ref 119], (sI w 116 (l2).toNatClampNeg 0)) = _
  rfl
theorem tr_193_127 (d : Nat) (w : Wd) (hW : Fix w) (l1 : Int32) (l2 : Int32) (s0 : Int32) (s1 : Int32)    (hy1 : inB s1 1440 = true) : val (193, d + 5, 127, [some (.ref 108), some (.int l1), some (.int l2)], [.int s0, .int s1, .ref 119], w) = val (193, d + 5, 320, [some (.ref 108), some (.int l1), some (.int l2)], [], (sI w 119 (s1).toNatClampNeg s0)) := by
  refine (val_ias rfl (hW.k 119 (Nat.le_of_ble_eq_true rfl) (Nat.le_of_ble_eq_true rfl)) hy1).trans ?_
  show val (193, d + 5, 128, [some (.ref 108), some (.int l1), some (.int l2)], [], (sI w 119 (s1).toNatClampNeg s0)) = _
  refine (val_g (c2 := (193, d + 5, 320, [some (.ref 108), some (.int l1), some (.int l2)], [], (sI w 119 (s1).toNatClampNeg s0))) rfl).trans ?_
  rfl
theorem tr_193_135 (d : Nat) (w : Wd) (l1 : Int32) (l2 : Int32) (s0 : Int32)     : val (193, d + 5, 135, [some (.ref 108), some (.int l1), some (.int l2)], [.int s0], w) = (if s0 = 0 then val (193, d + 5, 320, [some (.ref 108), some (.int l1), some (.int l2)], [], w) else val (193, d + 5, 141, [some (.ref 108), some (.int l1), some (.int l2)], [.ref 5, .ref 108], w)) := by
  by_cases hc1104 : s0 = 0
  · refine ((val_if_eq rfl).trans (if_pos hc1104)).trans ?_
    show val (193, d + 5, 320, [some (.ref 108), some (.int l1), some (.int l2)], [], w) = _
    refine Eq.trans ?_ (if_pos hc1104).symm
    rfl
  · refine ((val_if_eq rfl).trans (if_neg hc1104)).trans ?_
    show val (193, d + 5, 138, [some (.ref 108), some (.int l1), some (.int l2)], [], w) = _
    refine Eq.trans ?_ (if_neg hc1104).symm
    refine (val_g (c2 := (193, d + 5, 139, [some (.ref 108), some (.int l1), some (.int l2)], [.ref 108], w)) rfl).trans ?_
    refine (val_g (c2 := (193, d + 5, 141, [some (.ref 108), some (.int l1), some (.int l2)], [.ref 5, .ref 108], w)) rfl).trans ?_
    rfl
theorem tr_193_144 (d : Nat) (w : Wd) (l1 : Int32) (l2 : Int32) (s0 : Int32)     : val (193, d + 5, 144, [some (.ref 108), some (.int l1), some (.int l2)], [.int s0], w) = (if s0 = 0 then val (193, d + 5, 320, [some (.ref 108), some (.int l1), some (.int l2)], [], w) else val (193, d + 5, 148, [some (.ref 108), some (.int l1), some (.int l2)], [.ref 108], w)) := by
  by_cases hc1105 : s0 = 0
  · refine ((val_if_eq rfl).trans (if_pos hc1105)).trans ?_
    show val (193, d + 5, 320, [some (.ref 108), some (.int l1), some (.int l2)], [], w) = _
    refine Eq.trans ?_ (if_pos hc1105).symm
    rfl
  · refine ((val_if_eq rfl).trans (if_neg hc1105)).trans ?_
    show val (193, d + 5, 147, [some (.ref 108), some (.int l1), some (.int l2)], [], w) = _
    refine Eq.trans ?_ (if_neg hc1105).symm
    refine (val_g (c2 := (193, d + 5, 148, [some (.ref 108), some (.int l1), some (.int l2)], [.ref 108], w)) rfl).trans ?_
    rfl
theorem tr_193_151 (d : Nat) (w : Wd) (hW : Fix w) (l1 : Int32) (l2 : Int32)    (hy1 : inB l2 1440 = true) (hy2 : (¬ (¬ (gI ((sI w 116 (l2).toNatClampNeg 1)) 108 6) = 2)) → inB l2 1440 = true) : val (193, d + 5, 151, [some (.ref 108), some (.int l1), some (.int l2)], [], w) = (if ¬ (gI ((sI w 116 (l2).toNatClampNeg 1)) 108 6) = 2 then val (193, d + 5, 183, [some (.ref 108), some (.int l1), some (.int l2)], [], (sI w 116 (l2).toNatClampNeg 1)) else (if ¬ (gI ((sI w 116 (l2).toNatClampNeg 1)) 108 9) = (gI ((sI w 116 (l2).toNatClampNeg 1)) 118 (l2).toNatClampNeg) then val (193, d + 5, 183, [some (.ref 108), some (.int l1), some (.int l2)], [], (sI w 116 (l2).toNatClampNeg 1)) else val (193, d + 5, 180, [some (.ref 108), some (.int l1), some (.int l2)], [.ref 108], (sI w 116 (l2).toNatClampNeg 1)))) := by
  refine (val_g (c2 := (193, d + 5, 152, [some (.ref 108), some (.int l1), some (.int l2)], [.ref 108], w)) rfl).trans ?_
  refine (val_gf rfl (hW.k 108 (Nat.le_of_ble_eq_true rfl) (Nat.le_of_ble_eq_true rfl)) (fvR (hW.r 108 15 116 rfl))).trans ?_
  show val (193, d + 5, 155, [some (.ref 108), some (.int l1), some (.int l2)], [.ref 116], w) = _
  refine (val_g (c2 := (193, d + 5, 156, [some (.ref 108), some (.int l1), some (.int l2)], [.int l2, .ref 116], w)) rfl).trans ?_
  refine (val_g (c2 := (193, d + 5, 157, [some (.ref 108), some (.int l1), some (.int l2)], [.int 1, .int l2, .ref 116], w)) rfl).trans ?_
  refine (val_ias rfl (hW.k 116 (Nat.le_of_ble_eq_true rfl) (Nat.le_of_ble_eq_true rfl)) hy1).trans ?_
  show val (193, d + 5, 158, [some (.ref 108), some (.int l1), some (.int l2)], [], (sI w 116 (l2).toNatClampNeg 1)) = _
  refine (val_g (c2 := (193, d + 5, 159, [some (.ref 108), some (.int l1), some (.int l2)], [.ref 108], (sI w 116 (l2).toNatClampNeg 1))) rfl).trans ?_
  refine (val_gf (w := (sI w 116 (l2).toNatClampNeg 1)) rfl (hW.k 108 (Nat.le_of_ble_eq_true rfl) (Nat.le_of_ble_eq_true rfl)) rfl).trans ?_
  show val (193, d + 5, 162, [some (.ref 108), some (.int l1), some (.int l2)], [.int (gI ((sI w 116 (l2).toNatClampNeg 1)) 108 6)], (sI w 116 (l2).toNatClampNeg 1)) = _
  refine (val_g (c2 := (193, d + 5, 163, [some (.ref 108), some (.int l1), some (.int l2)], [.int 2, .int (gI ((sI w 116 (l2).toNatClampNeg 1)) 108 6)], (sI w 116 (l2).toNatClampNeg 1))) rfl).trans ?_
  by_cases hc1106 : ¬ (gI ((sI w 116 (l2).toNatClampNeg 1)) 108 6) = 2
  · refine ((val_ic_ne rfl).trans (if_pos hc1106)).trans ?_
    show val (193, d + 5, 183, [some (.ref 108), some (.int l1), some (.int l2)], [], (sI w 116 (l2).toNatClampNeg 1)) = _
    refine Eq.trans ?_ (if_pos hc1106).symm
    rfl
  · refine ((val_ic_ne rfl).trans (if_neg hc1106)).trans ?_
    show val (193, d + 5, 166, [some (.ref 108), some (.int l1), some (.int l2)], [], (sI w 116 (l2).toNatClampNeg 1)) = _
    refine Eq.trans ?_ (if_neg hc1106).symm
    refine (val_g (c2 := (193, d + 5, 167, [some (.ref 108), some (.int l1), some (.int l2)], [.ref 108], (sI w 116 (l2).toNatClampNeg 1))) rfl).trans ?_
    refine (val_gf (w := (sI w 116 (l2).toNatClampNeg 1)) rfl (hW.k 108 (Nat.le_of_ble_eq_true rfl) (Nat.le_of_ble_eq_true rfl)) rfl).trans ?_
    show val (193, d + 5, 170, [some (.ref 108), some (.int l1), some (.int l2)], [.int (gI ((sI w 116 (l2).toNatClampNeg 1)) 108 9)], (sI w 116 (l2).toNatClampNeg 1)) = _
    refine (val_g (c2 := (193, d + 5, 171, [some (.ref 108), some (.int l1), some (.int l2)], [.ref 108, .int (gI ((sI w 116 (l2).toNatClampNeg 1)) 108 9)], (sI w 116 (l2).toNatClampNeg 1))) rfl).trans ?_
    refine (val_gf (w := (sI w 116 (l2).toNatClampNeg 1)) rfl (hW.k 108 (Nat.le_of_ble_eq_true rfl) (Nat.le_of_ble_eq_true rfl)) (fvR (hW.r 108 17 118 rfl))).trans ?_
    show val (193, d + 5, 174, [some (.ref 108), some (.int l1), some (.int l2)], [.ref 118, .int (gI ((sI w 116 (l2).toNatClampNeg 1)) 108 9)], (sI w 116 (l2).toNatClampNeg 1)) = _
    refine (val_g (c2 := (193, d + 5, 175, [some (.ref 108), some (.int l1), some (.int l2)], [.int l2, .ref 118, .int (gI ((sI w 116 (l2).toNatClampNeg 1)) 108 9)], (sI w 116 (l2).toNatClampNeg 1))) rfl).trans ?_
    refine (val_ial (w := (sI w 116 (l2).toNatClampNeg 1)) rfl (hW.k 118 (Nat.le_of_ble_eq_true rfl) (Nat.le_of_ble_eq_true rfl)) rfl (hy2 hc1106)).trans ?_
    show val (193, d + 5, 176, [some (.ref 108), some (.int l1), some (.int l2)], [.int (gI ((sI w 116 (l2).toNatClampNeg 1)) 118 (l2).toNatClampNeg), .int (gI ((sI w 116 (l2).toNatClampNeg 1)) 108 9)], (sI w 116 (l2).toNatClampNeg 1)) = _
    by_cases hc1107 : ¬ (gI ((sI w 116 (l2).toNatClampNeg 1)) 108 9) = (gI ((sI w 116 (l2).toNatClampNeg 1)) 118 (l2).toNatClampNeg)
    · refine ((val_ic_ne rfl).trans (if_pos hc1107)).trans ?_
      show val (193, d + 5, 183, [some (.ref 108), some (.int l1), some (.int l2)], [], (sI w 116 (l2).toNatClampNeg 1)) = _
      refine Eq.trans ?_ (if_pos hc1107).symm
      rfl
    · refine ((val_ic_ne rfl).trans (if_neg hc1107)).trans ?_
      show val (193, d + 5, 179, [some (.ref 108), some (.int l1), some (.int l2)], [], (sI w 116 (l2).toNatClampNeg 1)) = _
      refine Eq.trans ?_ (if_neg hc1107).symm
      refine (val_g (c2 := (193, d + 5, 180, [some (.ref 108), some (.int l1), some (.int l2)], [.ref 108], (sI w 116 (l2).toNatClampNeg 1))) rfl).trans ?_
      rfl
theorem tr_193_183 (d : Nat) (w : Wd) (hW : Fix w) (l1 : Int32) (l2 : Int32)     : val (193, d + 5, 183, [some (.ref 108), some (.int l1), some (.int l2)], [], w) = val (193, d + 5, 194, [some (.ref 108), some (.int l1), some (.int l2)], [.int (gI w 108 0), .int 1, .ref 108, .int l2, .ref 119], w) := by
  refine (val_g (c2 := (193, d + 5, 184, [some (.ref 108), some (.int l1), some (.int l2)], [.ref 108], w)) rfl).trans ?_
  refine (val_gf rfl (hW.k 108 (Nat.le_of_ble_eq_true rfl) (Nat.le_of_ble_eq_true rfl)) (fvR (hW.r 108 18 119 rfl))).trans ?_
  show val (193, d + 5, 187, [some (.ref 108), some (.int l1), some (.int l2)], [.ref 119], w) = _
  refine (val_g (c2 := (193, d + 5, 188, [some (.ref 108), some (.int l1), some (.int l2)], [.int l2, .ref 119], w)) rfl).trans ?_
  refine (val_g (c2 := (193, d + 5, 189, [some (.ref 108), some (.int l1), some (.int l2)], [.ref 108, .int l2, .ref 119], w)) rfl).trans ?_
  refine (val_g (c2 := (193, d + 5, 190, [some (.ref 108), some (.int l1), some (.int l2)], [.int 1, .ref 108, .int l2, .ref 119], w)) rfl).trans ?_
  refine (val_g (c2 := (193, d + 5, 191, [some (.ref 108), some (.int l1), some (.int l2)], [.ref 108, .int 1, .ref 108, .int l2, .ref 119], w)) rfl).trans ?_
  refine (val_gf rfl (hW.k 108 (Nat.le_of_ble_eq_true rfl) (Nat.le_of_ble_eq_true rfl)) rfl).trans ?_
  show val (193, d + 5, 194, [some (.ref 108), some (.int l1), some (.int l2)], [.int (gI w 108 0), .int 1, .ref 108, .int l2, .ref 119], w) = _
  rfl
theorem tr_193_197 (d : Nat) (w : Wd) (hW : Fix w) (l1 : Int32) (l2 : Int32) (s0 : Int32) (s1 : Int32)    (hy1 : inB s1 1440 = true) : val (193, d + 5, 197, [some (.ref 108), some (.int l1), some (.int l2)], [.int s0, .int s1, .ref 119], w) = val (193, d + 5, 320, [some (.ref 108), some (.int l1), some (.int l2)], [], (sI w 119 (s1).toNatClampNeg s0)) := by
  refine (val_ias rfl (hW.k 119 (Nat.le_of_ble_eq_true rfl) (Nat.le_of_ble_eq_true rfl)) hy1).trans ?_
  show val (193, d + 5, 198, [some (.ref 108), some (.int l1), some (.int l2)], [], (sI w 119 (s1).toNatClampNeg s0)) = _
  refine (val_g (c2 := (193, d + 5, 320, [some (.ref 108), some (.int l1), some (.int l2)], [], (sI w 119 (s1).toNatClampNeg s0))) rfl).trans ?_
  rfl
theorem tr_193_207 (d : Nat) (w : Wd) (l1 : Int32) (l2 : Int32) (s0 : Int32)     : val (193, d + 5, 207, [some (.ref 108), some (.int l1), some (.int l2)], [.int s0], w) = (if s0 = 0 then val (193, d + 5, 259, [some (.ref 108), some (.int l1), some (.int l2)], [.ref 6, .ref 108], w) else val (193, d + 5, 211, [some (.ref 108), some (.int l1), some (.int l2)], [.ref 108], w)) := by
  by_cases hc1108 : s0 = 0
  · refine ((val_if_eq rfl).trans (if_pos hc1108)).trans ?_
    show val (193, d + 5, 256, [some (.ref 108), some (.int l1), some (.int l2)], [], w) = _
    refine Eq.trans ?_ (if_pos hc1108).symm
    refine (val_g (c2 := (193, d + 5, 257, [some (.ref 108), some (.int l1), some (.int l2)], [.ref 108], w)) rfl).trans ?_
    refine (val_g (c2 := (193, d + 5, 259, [some (.ref 108), some (.int l1), some (.int l2)], [.ref 6, .ref 108], w)) rfl).trans ?_
    rfl
  · refine ((val_if_eq rfl).trans (if_neg hc1108)).trans ?_
    show val (193, d + 5, 210, [some (.ref 108), some (.int l1), some (.int l2)], [], w) = _
    refine Eq.trans ?_ (if_neg hc1108).symm
    refine (val_g (c2 := (193, d + 5, 211, [some (.ref 108), some (.int l1), some (.int l2)], [.ref 108], w)) rfl).trans ?_
    rfl
theorem tr_193_214 (d : Nat) (w : Wd) (hW : Fix w) (l1 : Int32) (l2 : Int32)    (hy1 : inB l2 1440 = true) : val (193, d + 5, 214, [some (.ref 108), some (.int l1), some (.int l2)], [], w) = val (193, d + 5, 230, [some (.ref 108), some (.int l1), some (.int l2)], [.int 99, .int 1, .ref 108, .int l2, .ref 118], (sI w 116 (l2).toNatClampNeg 5)) := by
  refine (val_g (c2 := (193, d + 5, 215, [some (.ref 108), some (.int l1), some (.int l2)], [.ref 108], w)) rfl).trans ?_
  refine (val_gf rfl (hW.k 108 (Nat.le_of_ble_eq_true rfl) (Nat.le_of_ble_eq_true rfl)) (fvR (hW.r 108 15 116 rfl))).trans ?_
  show val (193, d + 5, 218, [some (.ref 108), some (.int l1), some (.int l2)], [.ref 116], w) = _
  refine (val_g (c2 := (193, d + 5, 219, [some (.ref 108), some (.int l1), some (.int l2)], [.int l2, .ref 116], w)) rfl).trans ?_
  refine (val_g (c2 := (193, d + 5, 220, [some (.ref 108), some (.int l1), some (.int l2)], [.int 5, .int l2, .ref 116], w)) rfl).trans ?_
  refine (val_ias rfl (hW.k 116 (Nat.le_of_ble_eq_true rfl) (Nat.le_of_ble_eq_true rfl)) hy1).trans ?_
  show val (193, d + 5, 221, [some (.ref 108), some (.int l1), some (.int l2)], [], (sI w 116 (l2).toNatClampNeg 5)) = _
  refine (val_g (c2 := (193, d + 5, 222, [some (.ref 108), some (.int l1), some (.int l2)], [.ref 108], (sI w 116 (l2).toNatClampNeg 5))) rfl).trans ?_
  refine (val_gf (w := (sI w 116 (l2).toNatClampNeg 5)) rfl (hW.k 108 (Nat.le_of_ble_eq_true rfl) (Nat.le_of_ble_eq_true rfl)) (fvR (hW.r 108 17 118 rfl))).trans ?_
  show val (193, d + 5, 225, [some (.ref 108), some (.int l1), some (.int l2)], [.ref 118], (sI w 116 (l2).toNatClampNeg 5)) = _
  refine (val_g (c2 := (193, d + 5, 226, [some (.ref 108), some (.int l1), some (.int l2)], [.int l2, .ref 118], (sI w 116 (l2).toNatClampNeg 5))) rfl).trans ?_
  refine (val_g (c2 := (193, d + 5, 227, [some (.ref 108), some (.int l1), some (.int l2)], [.ref 108, .int l2, .ref 118], (sI w 116 (l2).toNatClampNeg 5))) rfl).trans ?_
  refine (val_g (c2 := (193, d + 5, 228, [some (.ref 108), some (.int l1), some (.int l2)], [.int 1, .ref 108, .int l2, .ref 118], (sI w 116 (l2).toNatClampNeg 5))) rfl).trans ?_
  refine (val_g (c2 := (193, d + 5, 230, [some (.ref 108), some (.int l1), some (.int l2)], [.int 99, .int 1, .ref 108, .int l2, .ref 118], (sI w 116 (l2).toNatClampNeg 5))) rfl).trans ?_
  rfl
theorem tr_193_233 (d : Nat) (w : Wd) (hW : Fix w) (l1 : Int32) (l2 : Int32) (s0 : Int32) (s1 : Int32)    (hy1 : inB s1 1440 = true) (hy2 : inB l2 1440 = true) : val (193, d + 5, 233, [some (.ref 108), some (.int l1), some (.int l2)], [.int s0, .int s1, .ref 118], w) = val (193, d + 5, 249, [some (.ref 108), some (.int l1), some (.int l2)], [.int ((gI ((sI w 118 (s1).toNatClampNeg s0)) 118 (l2).toNatClampNeg) - 1), .int 0, .ref 108, .int l2, .ref 119], (sI w 118 (s1).toNatClampNeg s0)) := by
  refine (val_ias rfl (hW.k 118 (Nat.le_of_ble_eq_true rfl) (Nat.le_of_ble_eq_true rfl)) hy1).trans ?_
  show val (193, d + 5, 234, [some (.ref 108), some (.int l1), some (.int l2)], [], (sI w 118 (s1).toNatClampNeg s0)) = _
  refine (val_g (c2 := (193, d + 5, 235, [some (.ref 108), some (.int l1), some (.int l2)], [.ref 108], (sI w 118 (s1).toNatClampNeg s0))) rfl).trans ?_
  refine (val_gf (w := (sI w 118 (s1).toNatClampNeg s0)) rfl (hW.k 108 (Nat.le_of_ble_eq_true rfl) (Nat.le_of_ble_eq_true rfl)) (fvR (hW.r 108 18 119 rfl))).trans ?_
  show val (193, d + 5, 238, [some (.ref 108), some (.int l1), some (.int l2)], [.ref 119], (sI w 118 (s1).toNatClampNeg s0)) = _
  refine (val_g (c2 := (193, d + 5, 239, [some (.ref 108), some (.int l1), some (.int l2)], [.int l2, .ref 119], (sI w 118 (s1).toNatClampNeg s0))) rfl).trans ?_
  refine (val_g (c2 := (193, d + 5, 240, [some (.ref 108), some (.int l1), some (.int l2)], [.ref 108, .int l2, .ref 119], (sI w 118 (s1).toNatClampNeg s0))) rfl).trans ?_
  refine (val_g (c2 := (193, d + 5, 241, [some (.ref 108), some (.int l1), some (.int l2)], [.int 0, .ref 108, .int l2, .ref 119], (sI w 118 (s1).toNatClampNeg s0))) rfl).trans ?_
  refine (val_g (c2 := (193, d + 5, 242, [some (.ref 108), some (.int l1), some (.int l2)], [.ref 108, .int 0, .ref 108, .int l2, .ref 119], (sI w 118 (s1).toNatClampNeg s0))) rfl).trans ?_
  refine (val_gf (w := (sI w 118 (s1).toNatClampNeg s0)) rfl (hW.k 108 (Nat.le_of_ble_eq_true rfl) (Nat.le_of_ble_eq_true rfl)) (fvR (hW.r 108 17 118 rfl))).trans ?_
  show val (193, d + 5, 245, [some (.ref 108), some (.int l1), some (.int l2)], [.ref 118, .int 0, .ref 108, .int l2, .ref 119], (sI w 118 (s1).toNatClampNeg s0)) = _
  refine (val_g (c2 := (193, d + 5, 246, [some (.ref 108), some (.int l1), some (.int l2)], [.int l2, .ref 118, .int 0, .ref 108, .int l2, .ref 119], (sI w 118 (s1).toNatClampNeg s0))) rfl).trans ?_
  refine (val_ial (w := (sI w 118 (s1).toNatClampNeg s0)) rfl (hW.k 118 (Nat.le_of_ble_eq_true rfl) (Nat.le_of_ble_eq_true rfl)) rfl hy2).trans ?_
  show val (193, d + 5, 247, [some (.ref 108), some (.int l1), some (.int l2)], [.int (gI ((sI w 118 (s1).toNatClampNeg s0)) 118 (l2).toNatClampNeg), .int 0, .ref 108, .int l2, .ref 119], (sI w 118 (s1).toNatClampNeg s0)) = _
  refine (val_g (c2 := (193, d + 5, 248, [some (.ref 108), some (.int l1), some (.int l2)], [.int 1, .int (gI ((sI w 118 (s1).toNatClampNeg s0)) 118 (l2).toNatClampNeg), .int 0, .ref 108, .int l2, .ref 119], (sI w 118 (s1).toNatClampNeg s0))) rfl).trans ?_
  refine (val_g (c2 := (193, d + 5, 249, [some (.ref 108), some (.int l1), some (.int l2)], [.int ((gI ((sI w 118 (s1).toNatClampNeg s0)) 118 (l2).toNatClampNeg) - 1), .int 0, .ref 108, .int l2, .ref 119], (sI w 118 (s1).toNatClampNeg s0))) rfl).trans ?_
  rfl
theorem tr_193_252 (d : Nat) (w : Wd) (hW : Fix w) (l1 : Int32) (l2 : Int32) (s0 : Int32) (s1 : Int32)    (hy1 : inB s1 1440 = true) : val (193, d + 5, 252, [some (.ref 108), some (.int l1), some (.int l2)], [.int s0, .int s1, .ref 119], w) = val (193, d + 5, 320, [some (.ref 108), some (.int l1), some (.int l2)], [], (sI w 119 (s1).toNatClampNeg s0)) := by
  refine (val_ias rfl (hW.k 119 (Nat.le_of_ble_eq_true rfl) (Nat.le_of_ble_eq_true rfl)) hy1).trans ?_
  show val (193, d + 5, 253, [some (.ref 108), some (.int l1), some (.int l2)], [], (sI w 119 (s1).toNatClampNeg s0)) = _
  refine (val_g (c2 := (193, d + 5, 320, [some (.ref 108), some (.int l1), some (.int l2)], [], (sI w 119 (s1).toNatClampNeg s0))) rfl).trans ?_
  rfl
theorem tr_193_262 (d : Nat) (w : Wd) (hW : Fix w) (l1 : Int32) (l2 : Int32) (s0 : Int32)     : val (193, d + 5, 262, [some (.ref 108), some (.int l1), some (.int l2)], [.int s0], w) = (if ¬ s0 = 0 then val (193, d + 5, 291, [some (.ref 108), some (.int l1), some (.int l2)], [.ref 6, .ref 108, .int l2, .ref 116], w) else val (193, d + 5, 268, [some (.ref 108), some (.int l1), some (.int l2)], [.ref 7, .ref 108], w)) := by
  by_cases hc1109 : ¬ s0 = 0
  · refine ((val_if_ne rfl).trans (if_pos hc1109)).trans ?_
    show val (193, d + 5, 283, [some (.ref 108), some (.int l1), some (.int l2)], [], w) = _
    refine Eq.trans ?_ (if_pos hc1109).symm
    refine (val_g (c2 := (193, d + 5, 284, [some (.ref 108), some (.int l1), some (.int l2)], [.ref 108], w)) rfl).trans ?_
    refine (val_gf rfl (hW.k 108 (Nat.le_of_ble_eq_true rfl) (Nat.le_of_ble_eq_true rfl)) (fvR (hW.r 108 15 116 rfl))).trans ?_
    show val (193, d + 5, 287, [some (.ref 108), some (.int l1), some (.int l2)], [.ref 116], w) = _
    refine (val_g (c2 := (193, d + 5, 288, [some (.ref 108), some (.int l1), some (.int l2)], [.int l2, .ref 116], w)) rfl).trans ?_
    refine (val_g (c2 := (193, d + 5, 289, [some (.ref 108), some (.int l1), some (.int l2)], [.ref 108, .int l2, .ref 116], w)) rfl).trans ?_
    refine (val_g (c2 := (193, d + 5, 291, [some (.ref 108), some (.int l1), some (.int l2)], [.ref 6, .ref 108, .int l2, .ref 116], w)) rfl).trans ?_
    rfl
  · refine ((val_if_ne rfl).trans (if_neg hc1109)).trans ?_
    show val (193, d + 5, 265, [some (.ref 108), some (.int l1), some (.int l2)], [], w) = _
    refine Eq.trans ?_ (if_neg hc1109).symm
    refine (val_g (c2 := (193, d + 5, 266, [some (.ref 108), some (.int l1), some (.int l2)], [.ref 108], w)) rfl).trans ?_
    refine (val_g (c2 := (193, d + 5, 268, [some (.ref 108), some (.int l1), some (.int l2)], [.ref 7, .ref 108], w)) rfl).trans ?_
    rfl
theorem tr_193_271 (d : Nat) (w : Wd) (hW : Fix w) (l1 : Int32) (l2 : Int32) (s0 : Int32)     : val (193, d + 5, 271, [some (.ref 108), some (.int l1), some (.int l2)], [.int s0], w) = (if ¬ s0 = 0 then val (193, d + 5, 291, [some (.ref 108), some (.int l1), some (.int l2)], [.ref 6, .ref 108, .int l2, .ref 116], w) else val (193, d + 5, 277, [some (.ref 108), some (.int l1), some (.int l2)], [.ref 8, .ref 108], w)) := by
  by_cases hc1110 : ¬ s0 = 0
  · refine ((val_if_ne rfl).trans (if_pos hc1110)).trans ?_
    show val (193, d + 5, 283, [some (.ref 108), some (.int l1), some (.int l2)], [], w) = _
    refine Eq.trans ?_ (if_pos hc1110).symm
    refine (val_g (c2 := (193, d + 5, 284, [some (.ref 108), some (.int l1), some (.int l2)], [.ref 108], w)) rfl).trans ?_
    refine (val_gf rfl (hW.k 108 (Nat.le_of_ble_eq_true rfl) (Nat.le_of_ble_eq_true rfl)) (fvR (hW.r 108 15 116 rfl))).trans ?_
    show val (193, d + 5, 287, [some (.ref 108), some (.int l1), some (.int l2)], [.ref 116], w) = _
    refine (val_g (c2 := (193, d + 5, 288, [some (.ref 108), some (.int l1), some (.int l2)], [.int l2, .ref 116], w)) rfl).trans ?_
    refine (val_g (c2 := (193, d + 5, 289, [some (.ref 108), some (.int l1), some (.int l2)], [.ref 108, .int l2, .ref 116], w)) rfl).trans ?_
    refine (val_g (c2 := (193, d + 5, 291, [some (.ref 108), some (.int l1), some (.int l2)], [.ref 6, .ref 108, .int l2, .ref 116], w)) rfl).trans ?_
    rfl
  · refine ((val_if_ne rfl).trans (if_neg hc1110)).trans ?_
    show val (193, d + 5, 274, [some (.ref 108), some (.int l1), some (.int l2)], [], w) = _
    refine Eq.trans ?_ (if_neg hc1110).symm
    refine (val_g (c2 := (193, d + 5, 275, [some (.ref 108), some (.int l1), some (.int l2)], [.ref 108], w)) rfl).trans ?_
    refine (val_g (c2 := (193, d + 5, 277, [some (.ref 108), some (.int l1), some (.int l2)], [.ref 8, .ref 108], w)) rfl).trans ?_
    rfl
theorem tr_193_280 (d : Nat) (w : Wd) (hW : Fix w) (l1 : Int32) (l2 : Int32) (s0 : Int32)     : val (193, d + 5, 280, [some (.ref 108), some (.int l1), some (.int l2)], [.int s0], w) = (if s0 = 0 then val (193, d + 5, 320, [some (.ref 108), some (.int l1), some (.int l2)], [], w) else val (193, d + 5, 291, [some (.ref 108), some (.int l1), some (.int l2)], [.ref 6, .ref 108, .int l2, .ref 116], w)) := by
  by_cases hc1111 : s0 = 0
  · refine ((val_if_eq rfl).trans (if_pos hc1111)).trans ?_
    show val (193, d + 5, 320, [some (.ref 108), some (.int l1), some (.int l2)], [], w) = _
    refine Eq.trans ?_ (if_pos hc1111).symm
    rfl
  · refine ((val_if_eq rfl).trans (if_neg hc1111)).trans ?_
    show val (193, d + 5, 283, [some (.ref 108), some (.int l1), some (.int l2)], [], w) = _
    refine Eq.trans ?_ (if_neg hc1111).symm
    refine (val_g (c2 := (193, d + 5, 284, [some (.ref 108), some (.int l1), some (.int l2)], [.ref 108], w)) rfl).trans ?_
    refine (val_gf rfl (hW.k 108 (Nat.le_of_ble_eq_true rfl) (Nat.le_of_ble_eq_true rfl)) (fvR (hW.r 108 15 116 rfl))).trans ?_
    show val (193, d + 5, 287, [some (.ref 108), some (.int l1), some (.int l2)], [.ref 116], w) = _
    refine (val_g (c2 := (193, d + 5, 288, [some (.ref 108), some (.int l1), some (.int l2)], [.int l2, .ref 116], w)) rfl).trans ?_
    refine (val_g (c2 := (193, d + 5, 289, [some (.ref 108), some (.int l1), some (.int l2)], [.ref 108, .int l2, .ref 116], w)) rfl).trans ?_
    refine (val_g (c2 := (193, d + 5, 291, [some (.ref 108), some (.int l1), some (.int l2)], [.ref 6, .ref 108, .int l2, .ref 116], w)) rfl).trans ?_
    rfl
theorem tr_193_294 (d : Nat) (w : Wd) (hW : Fix w) (l1 : Int32) (l2 : Int32) (s0 : Int32) (s1 : Int32)    (hy1 : (¬ (s0 = 0)) → inB s1 1440 = true) : val (193, d + 5, 294, [some (.ref 108), some (.int l1), some (.int l2)], [.int s0, .int s1, .ref 116], w) = (if s0 = 0 then val (193, d + 5, 304, [some (.ref 108), some (.int l1), some (.int l2)], [.ref 7, .ref 108, .int s1, .ref 116], w) else val (193, d + 5, 317, [some (.ref 108), some (.int l1), some (.int l2)], [.ref 108], (sI w 116 (s1).toNatClampNeg 2))) := by
  by_cases hc1112 : s0 = 0
  · refine ((val_if_eq rfl).trans (if_pos hc1112)).trans ?_
    show val (193, d + 5, 301, [some (.ref 108), some (.int l1), some (.int l2)], [.int s1, .ref 116], w) = _
    refine Eq.trans ?_ (if_pos hc1112).symm
    refine (val_g (c2 := (193, d + 5, 302, [some (.ref 108), some (.int l1), some (.int l2)], [.ref 108, .int s1, .ref 116], w)) rfl).trans ?_
    refine (val_g (c2 := (193, d + 5, 304, [some (.ref 108), some (.int l1), some (.int l2)], [.ref 7, .ref 108, .int s1, .ref 116], w)) rfl).trans ?_
    rfl
  · refine ((val_if_eq rfl).trans (if_neg hc1112)).trans ?_
    show val (193, d + 5, 297, [some (.ref 108), some (.int l1), some (.int l2)], [.int s1, .ref 116], w) = _
    refine Eq.trans ?_ (if_neg hc1112).symm
    refine (val_g (c2 := (193, d + 5, 298, [some (.ref 108), some (.int l1), some (.int l2)], [.int 2, .int s1, .ref 116], w)) rfl).trans ?_
    refine (val_g (c2 := (193, d + 5, 315, [some (.ref 108), some (.int l1), some (.int l2)], [.int 2, .int s1, .ref 116], w)) rfl).trans ?_
    refine (val_ias rfl (hW.k 116 (Nat.le_of_ble_eq_true rfl) (Nat.le_of_ble_eq_true rfl)) (hy1 hc1112)).trans ?_
    show val (193, d + 5, 316, [some (.ref 108), some (.int l1), some (.int l2)], [], (sI w 116 (s1).toNatClampNeg 2)) = _
    refine (val_g (c2 := (193, d + 5, 317, [some (.ref 108), some (.int l1), some (.int l2)], [.ref 108], (sI w 116 (s1).toNatClampNeg 2))) rfl).trans ?_
    rfl
theorem tr_193_307 (d : Nat) (w : Wd) (hW : Fix w) (l1 : Int32) (l2 : Int32) (s0 : Int32) (s1 : Int32)    (hy1 : (s0 = 0) → inB s1 1440 = true) (hy2 : (¬ (s0 = 0)) → inB s1 1440 = true) : val (193, d + 5, 307, [some (.ref 108), some (.int l1), some (.int l2)], [.int s0, .int s1, .ref 116], w) = (if s0 = 0 then val (193, d + 5, 317, [some (.ref 108), some (.int l1), some (.int l2)], [.ref 108], (sI w 116 (s1).toNatClampNeg 4)) else val (193, d + 5, 317, [some (.ref 108), some (.int l1), some (.int l2)], [.ref 108], (sI w 116 (s1).toNatClampNeg 3))) := by
  by_cases hc1113 : s0 = 0
  · refine ((val_if_eq rfl).trans (if_pos hc1113)).trans ?_
    show val (193, d + 5, 314, [some (.ref 108), some (.int l1), some (.int l2)], [.int s1, .ref 116], w) = _
    refine Eq.trans ?_ (if_pos hc1113).symm
    refine (val_g (c2 := (193, d + 5, 315, [some (.ref 108), some (.int l1), some (.int l2)], [.int 4, .int s1, .ref 116], w)) rfl).trans ?_
    refine (val_ias rfl (hW.k 116 (Nat.le_of_ble_eq_true rfl) (Nat.le_of_ble_eq_true rfl)) (hy1 hc1113)).trans ?_
    show val (193, d + 5, 316, [some (.ref 108), some (.int l1), some (.int l2)], [], (sI w 116 (s1).toNatClampNeg 4)) = _
    refine (val_g (c2 := (193, d + 5, 317, [some (.ref 108), some (.int l1), some (.int l2)], [.ref 108], (sI w 116 (s1).toNatClampNeg 4))) rfl).trans ?_
    rfl
  · refine ((val_if_eq rfl).trans (if_neg hc1113)).trans ?_
    show val (193, d + 5, 310, [some (.ref 108), some (.int l1), some (.int l2)], [.int s1, .ref 116], w) = _
    refine Eq.trans ?_ (if_neg hc1113).symm
    refine (val_g (c2 := (193, d + 5, 311, [some (.ref 108), some (.int l1), some (.int l2)], [.int 3, .int s1, .ref 116], w)) rfl).trans ?_
    refine (val_g (c2 := (193, d + 5, 315, [some (.ref 108), some (.int l1), some (.int l2)], [.int 3, .int s1, .ref 116], w)) rfl).trans ?_
    refine (val_ias rfl (hW.k 116 (Nat.le_of_ble_eq_true rfl) (Nat.le_of_ble_eq_true rfl)) (hy2 hc1113)).trans ?_
    show val (193, d + 5, 316, [some (.ref 108), some (.int l1), some (.int l2)], [], (sI w 116 (s1).toNatClampNeg 3)) = _
    refine (val_g (c2 := (193, d + 5, 317, [some (.ref 108), some (.int l1), some (.int l2)], [.ref 108], (sI w 116 (s1).toNatClampNeg 3))) rfl).trans ?_
    rfl
theorem tr_193_320 (d : Nat) (w : Wd) (hW : Fix w) (l1 : Int32) (l2 : Int32)    (hy1 : inB l2 1440 = true) : val (193, d + 5, 320, [some (.ref 108), some (.int l1), some (.int l2)], [], w) = (if ¬ (gI w 116 (l2).toNatClampNeg) = (-9) then val (193, d + 5, 335, [some (.ref 108), some (.int l1), some (.int l2)], [], w) else val (193, d + 5, 332, [some (.ref 108), some (.int l1), some (.int l2)], [.ref 108], w)) := by
  refine (val_g (c2 := (193, d + 5, 321, [some (.ref 108), some (.int l1), some (.int l2)], [.ref 108], w)) rfl).trans ?_
  refine (val_gf rfl (hW.k 108 (Nat.le_of_ble_eq_true rfl) (Nat.le_of_ble_eq_true rfl)) (fvR (hW.r 108 15 116 rfl))).trans ?_
  show val (193, d + 5, 324, [some (.ref 108), some (.int l1), some (.int l2)], [.ref 116], w) = _
  refine (val_g (c2 := (193, d + 5, 325, [some (.ref 108), some (.int l1), some (.int l2)], [.int l2, .ref 116], w)) rfl).trans ?_
  refine (val_ial rfl (hW.k 116 (Nat.le_of_ble_eq_true rfl) (Nat.le_of_ble_eq_true rfl)) rfl hy1).trans ?_
  show val (193, d + 5, 326, [some (.ref 108), some (.int l1), some (.int l2)], [.int (gI w 116 (l2).toNatClampNeg)], w) = _
  refine (val_g (c2 := (193, d + 5, 328, [some (.ref 108), some (.int l1), some (.int l2)], [.int (-9), .int (gI w 116 (l2).toNatClampNeg)], w)) rfl).trans ?_
  by_cases hc1114 : ¬ (gI w 116 (l2).toNatClampNeg) = (-9)
  · refine ((val_ic_ne rfl).trans (if_pos hc1114)).trans ?_
    show val (193, d + 5, 335, [some (.ref 108), some (.int l1), some (.int l2)], [], w) = _
    refine Eq.trans ?_ (if_pos hc1114).symm
    rfl
  · refine ((val_ic_ne rfl).trans (if_neg hc1114)).trans ?_
    show val (193, d + 5, 331, [some (.ref 108), some (.int l1), some (.int l2)], [], w) = _
    refine Eq.trans ?_ (if_neg hc1114).symm
    refine (val_g (c2 := (193, d + 5, 332, [some (.ref 108), some (.int l1), some (.int l2)], [.ref 108], w)) rfl).trans ?_
    rfl
theorem tr_193_335 (d : Nat) (w : Wd) (hW : Fix w) (l1 : Int32) (l2 : Int32)    (hy1 : inB l1 180 = true) : val (193, d + 5, 335, [some (.ref 108), some (.int l1), some (.int l2)], [], w) = some (none, (sI w 115 (l1).toNatClampNeg (((gI w 115 (l1).toNatClampNeg) + 1)))) := by
  refine (val_g (c2 := (193, d + 5, 336, [some (.ref 108), some (.int l1), some (.int l2)], [.ref 108], w)) rfl).trans ?_
  refine (val_gf rfl (hW.k 108 (Nat.le_of_ble_eq_true rfl) (Nat.le_of_ble_eq_true rfl)) (fvR (hW.r 108 14 115 rfl))).trans ?_
  show val (193, d + 5, 339, [some (.ref 108), some (.int l1), some (.int l2)], [.ref 115], w) = _
  refine (val_g (c2 := (193, d + 5, 340, [some (.ref 108), some (.int l1), some (.int l2)], [.int l1, .ref 115], w)) rfl).trans ?_
  refine (val_g (c2 := (193, d + 5, 341, [some (.ref 108), some (.int l1), some (.int l2)], [.int l1, .ref 115, .int l1, .ref 115], w)) rfl).trans ?_
  refine (val_ial rfl (hW.k 115 (Nat.le_of_ble_eq_true rfl) (Nat.le_of_ble_eq_true rfl)) rfl hy1).trans ?_
  show val (193, d + 5, 342, [some (.ref 108), some (.int l1), some (.int l2)], [.int (gI w 115 (l1).toNatClampNeg), .int l1, .ref 115], w) = _
  refine (val_g (c2 := (193, d + 5, 343, [some (.ref 108), some (.int l1), some (.int l2)], [.int 1, .int (gI w 115 (l1).toNatClampNeg), .int l1, .ref 115], w)) rfl).trans ?_
  refine (val_g (c2 := (193, d + 5, 344, [some (.ref 108), some (.int l1), some (.int l2)], [.int ((gI w 115 (l1).toNatClampNeg) + 1), .int l1, .ref 115], w)) rfl).trans ?_
  refine (val_ias rfl (hW.k 115 (Nat.le_of_ble_eq_true rfl) (Nat.le_of_ble_eq_true rfl)) hy1).trans ?_
  show val (193, d + 5, 345, [some (.ref 108), some (.int l1), some (.int l2)], [], (sI w 115 (l1).toNatClampNeg (((gI w 115 (l1).toNatClampNeg) + 1)))) = _
  exact val_r rfl
/-- BelfryHouseModel.arePlaces()Z -/
theorem tr_194 (d : Nat) (w : Wd) (hW : Fix w)      : val (194, d, 0, [some (.ref 108), none, none, none, none], [], w) = (if ¬ (gI w 108 6) = 2 then val (194, d, 21, [some (.ref 108), some (.int 0), some (.int 0), some (.int (gI w 108 7)), none], [], w) else val (194, d, 21, [some (.ref 108), some (.int 1), some (.int 0), some (.int (gI w 108 7)), none], [], w)) := by
  refine (val_g (c2 := (194, d, 1, [some (.ref 108), none, none, none, none], [.ref 108], w)) rfl).trans ?_
  refine (val_gf rfl (hW.k 108 (Nat.le_of_ble_eq_true rfl) (Nat.le_of_ble_eq_true rfl)) rfl).trans ?_
  show val (194, d, 4, [some (.ref 108), none, none, none, none], [.int (gI w 108 6)], w) = _
  refine (val_g (c2 := (194, d, 5, [some (.ref 108), none, none, none, none], [.int 2, .int (gI w 108 6)], w)) rfl).trans ?_
  by_cases hc1134 : ¬ (gI w 108 6) = 2
  · refine ((val_ic_ne rfl).trans (if_pos hc1134)).trans ?_
    show val (194, d, 12, [some (.ref 108), none, none, none, none], [], w) = _
    refine Eq.trans ?_ (if_pos hc1134).symm
    refine (val_g (c2 := (194, d, 13, [some (.ref 108), none, none, none, none], [.int 0], w)) rfl).trans ?_
    refine (val_g (c2 := (194, d, 14, [some (.ref 108), some (.int 0), none, none, none], [], w)) rfl).trans ?_
    refine (val_g (c2 := (194, d, 15, [some (.ref 108), some (.int 0), none, none, none], [.int 0], w)) rfl).trans ?_
    refine (val_g (c2 := (194, d, 16, [some (.ref 108), some (.int 0), some (.int 0), none, none], [], w)) rfl).trans ?_
    refine (val_g (c2 := (194, d, 17, [some (.ref 108), some (.int 0), some (.int 0), none, none], [.ref 108], w)) rfl).trans ?_
    refine (val_gf rfl (hW.k 108 (Nat.le_of_ble_eq_true rfl) (Nat.le_of_ble_eq_true rfl)) rfl).trans ?_
    show val (194, d, 20, [some (.ref 108), some (.int 0), some (.int 0), none, none], [.int (gI w 108 7)], w) = _
    refine (val_g (c2 := (194, d, 21, [some (.ref 108), some (.int 0), some (.int 0), some (.int (gI w 108 7)), none], [], w)) rfl).trans ?_
    rfl
  · refine ((val_ic_ne rfl).trans (if_neg hc1134)).trans ?_
    show val (194, d, 8, [some (.ref 108), none, none, none, none], [], w) = _
    refine Eq.trans ?_ (if_neg hc1134).symm
    refine (val_g (c2 := (194, d, 9, [some (.ref 108), none, none, none, none], [.int 1], w)) rfl).trans ?_
    refine (val_g (c2 := (194, d, 13, [some (.ref 108), none, none, none, none], [.int 1], w)) rfl).trans ?_
    refine (val_g (c2 := (194, d, 14, [some (.ref 108), some (.int 1), none, none, none], [], w)) rfl).trans ?_
    refine (val_g (c2 := (194, d, 15, [some (.ref 108), some (.int 1), none, none, none], [.int 0], w)) rfl).trans ?_
    refine (val_g (c2 := (194, d, 16, [some (.ref 108), some (.int 1), some (.int 0), none, none], [], w)) rfl).trans ?_
    refine (val_g (c2 := (194, d, 17, [some (.ref 108), some (.int 1), some (.int 0), none, none], [.ref 108], w)) rfl).trans ?_
    refine (val_gf rfl (hW.k 108 (Nat.le_of_ble_eq_true rfl) (Nat.le_of_ble_eq_true rfl)) rfl).trans ?_
    show val (194, d, 20, [some (.ref 108), some (.int 1), some (.int 0), none, none], [.int (gI w 108 7)], w) = _
    refine (val_g (c2 := (194, d, 21, [some (.ref 108), some (.int 1), some (.int 0), some (.int (gI w 108 7)), none], [], w)) rfl).trans ?_
    rfl
theorem tr_194_21 (d : Nat) (w : Wd) (hW : Fix w) (l1 : Int32) (l2 : Int32) (l3 : Int32) (l4 : Option Value)   (hy1 : (¬ ((gI w 108 8) ≤ l3)) → (¬ (l1 = 0)) → inB l3 600 = true) : val (194, d, 21, [some (.ref 108), some (.int l1), some (.int l2), some (.int l3), l4], [], w) = (if (gI w 108 8) ≤ l3 then (if l1 = 0 then some (some (.int 0), w) else (if ¬ (((gI w 108 0) - l2) - ((gI w 108 0) - l2) / 2 * 2) = 0 then some (some (.int 0), w) else some (some (.int 1), w))) else (if l1 = 0 then (if l1 = 0 then some (some (.int 0), w) else (if ¬ (((gI w 108 0) - l2) - ((gI w 108 0) - l2) / 2 * 2) = 0 then some (some (.int 0), w) else some (some (.int 1), w))) else (if ((gI w 112 (l3).toNatClampNeg) - 48) ≤ l2 then val (194, d, 21, [some (.ref 108), some (.int 0), some (.int ((gI w 112 (l3).toNatClampNeg) - 48)), some (.int (l3 + 1)), some (.int ((gI w 112 (l3).toNatClampNeg) - 48))], [], w) else (if (gI w 108 0) < ((gI w 112 (l3).toNatClampNeg) - 48) then val (194, d, 21, [some (.ref 108), some (.int 0), some (.int ((gI w 112 (l3).toNatClampNeg) - 48)), some (.int (l3 + 1)), some (.int ((gI w 112 (l3).toNatClampNeg) - 48))], [], w) else (if ¬ ((((gI w 112 (l3).toNatClampNeg) - 48) - l2) - (((gI w 112 (l3).toNatClampNeg) - 48) - l2) / 2 * 2) = 1 then val (194, d, 21, [some (.ref 108), some (.int 0), some (.int ((gI w 112 (l3).toNatClampNeg) - 48)), some (.int (l3 + 1)), some (.int ((gI w 112 (l3).toNatClampNeg) - 48))], [], w) else val (194, d, 21, [some (.ref 108), some (.int 1), some (.int ((gI w 112 (l3).toNatClampNeg) - 48)), some (.int (l3 + 1)), some (.int ((gI w 112 (l3).toNatClampNeg) - 48))], [], w)))))) := by
  refine (val_g (c2 := (194, d, 22, [some (.ref 108), some (.int l1), some (.int l2), some (.int l3), l4], [.int l3], w)) rfl).trans ?_
  refine (val_g (c2 := (194, d, 23, [some (.ref 108), some (.int l1), some (.int l2), some (.int l3), l4], [.ref 108, .int l3], w)) rfl).trans ?_
  refine (val_gf rfl (hW.k 108 (Nat.le_of_ble_eq_true rfl) (Nat.le_of_ble_eq_true rfl)) rfl).trans ?_
  show val (194, d, 26, [some (.ref 108), some (.int l1), some (.int l2), some (.int l3), l4], [.int (gI w 108 8), .int l3], w) = _
  by_cases hc1135 : (gI w 108 8) ≤ l3
  · refine ((val_ic_ge rfl).trans (if_pos hc1135)).trans ?_
    show val (194, d, 84, [some (.ref 108), some (.int l1), some (.int l2), some (.int l3), l4], [], w) = _
    refine Eq.trans ?_ (if_pos hc1135).symm
    refine (val_g (c2 := (194, d, 85, [some (.ref 108), some (.int l1), some (.int l2), some (.int l3), l4], [.int l1], w)) rfl).trans ?_
    by_cases hc1136 : l1 = 0
    · refine ((val_if_eq rfl).trans (if_pos hc1136)).trans ?_
      show val (194, d, 103, [some (.ref 108), some (.int l1), some (.int l2), some (.int l3), l4], [], w) = _
      refine Eq.trans ?_ (if_pos hc1136).symm
      refine (val_g (c2 := (194, d, 104, [some (.ref 108), some (.int l1), some (.int l2), some (.int l3), l4], [.int 0], w)) rfl).trans ?_
      exact val_r rfl
    · refine ((val_if_eq rfl).trans (if_neg hc1136)).trans ?_
      show val (194, d, 88, [some (.ref 108), some (.int l1), some (.int l2), some (.int l3), l4], [], w) = _
      refine Eq.trans ?_ (if_neg hc1136).symm
      refine (val_g (c2 := (194, d, 89, [some (.ref 108), some (.int l1), some (.int l2), some (.int l3), l4], [.ref 108], w)) rfl).trans ?_
      refine (val_gf rfl (hW.k 108 (Nat.le_of_ble_eq_true rfl) (Nat.le_of_ble_eq_true rfl)) rfl).trans ?_
      show val (194, d, 92, [some (.ref 108), some (.int l1), some (.int l2), some (.int l3), l4], [.int (gI w 108 0)], w) = _
      refine (val_g (c2 := (194, d, 93, [some (.ref 108), some (.int l1), some (.int l2), some (.int l3), l4], [.int l2, .int (gI w 108 0)], w)) rfl).trans ?_
      refine (val_g (c2 := (194, d, 94, [some (.ref 108), some (.int l1), some (.int l2), some (.int l3), l4], [.int ((gI w 108 0) - l2)], w)) rfl).trans ?_
      refine (val_g (c2 := (194, d, 95, [some (.ref 108), some (.int l1), some (.int l2), some (.int l3), l4], [.int 2, .int ((gI w 108 0) - l2)], w)) rfl).trans ?_
      refine (val_irem rfl (by decide)).trans ?_
      show val (194, d, 96, [some (.ref 108), some (.int l1), some (.int l2), some (.int l3), l4], [.int (((gI w 108 0) - l2) - ((gI w 108 0) - l2) / 2 * 2)], w) = _
      by_cases hc1137 : ¬ (((gI w 108 0) - l2) - ((gI w 108 0) - l2) / 2 * 2) = 0
      · refine ((val_if_ne rfl).trans (if_pos hc1137)).trans ?_
        show val (194, d, 103, [some (.ref 108), some (.int l1), some (.int l2), some (.int l3), l4], [], w) = _
        refine Eq.trans ?_ (if_pos hc1137).symm
        refine (val_g (c2 := (194, d, 104, [some (.ref 108), some (.int l1), some (.int l2), some (.int l3), l4], [.int 0], w)) rfl).trans ?_
        exact val_r rfl
      · refine ((val_if_ne rfl).trans (if_neg hc1137)).trans ?_
        show val (194, d, 99, [some (.ref 108), some (.int l1), some (.int l2), some (.int l3), l4], [], w) = _
        refine Eq.trans ?_ (if_neg hc1137).symm
        refine (val_g (c2 := (194, d, 100, [some (.ref 108), some (.int l1), some (.int l2), some (.int l3), l4], [.int 1], w)) rfl).trans ?_
        refine (val_g (c2 := (194, d, 104, [some (.ref 108), some (.int l1), some (.int l2), some (.int l3), l4], [.int 1], w)) rfl).trans ?_
        exact val_r rfl
  · refine ((val_ic_ge rfl).trans (if_neg hc1135)).trans ?_
    show val (194, d, 29, [some (.ref 108), some (.int l1), some (.int l2), some (.int l3), l4], [], w) = _
    refine Eq.trans ?_ (if_neg hc1135).symm
    refine (val_g (c2 := (194, d, 30, [some (.ref 108), some (.int l1), some (.int l2), some (.int l3), l4], [.int l1], w)) rfl).trans ?_
    by_cases hc1138 : l1 = 0
    · refine ((val_if_eq rfl).trans (if_pos hc1138)).trans ?_
      show val (194, d, 84, [some (.ref 108), some (.int l1), some (.int l2), some (.int l3), l4], [], w) = _
      refine Eq.trans ?_ (if_pos hc1138).symm
      refine (val_g (c2 := (194, d, 85, [some (.ref 108), some (.int l1), some (.int l2), some (.int l3), l4], [.int l1], w)) rfl).trans ?_
      by_cases hc1139 : l1 = 0
      · refine ((val_if_eq rfl).trans (if_pos hc1139)).trans ?_
        show val (194, d, 103, [some (.ref 108), some (.int l1), some (.int l2), some (.int l3), l4], [], w) = _
        refine Eq.trans ?_ (if_pos hc1139).symm
        refine (val_g (c2 := (194, d, 104, [some (.ref 108), some (.int l1), some (.int l2), some (.int l3), l4], [.int 0], w)) rfl).trans ?_
        exact val_r rfl
      · refine ((val_if_eq rfl).trans (if_neg hc1139)).trans ?_
        show val (194, d, 88, [some (.ref 108), some (.int l1), some (.int l2), some (.int l3), l4], [], w) = _
        refine Eq.trans ?_ (if_neg hc1139).symm
        refine (val_g (c2 := (194, d, 89, [some (.ref 108), some (.int l1), some (.int l2), some (.int l3), l4], [.ref 108], w)) rfl).trans ?_
        refine (val_gf rfl (hW.k 108 (Nat.le_of_ble_eq_true rfl) (Nat.le_of_ble_eq_true rfl)) rfl).trans ?_
        show val (194, d, 92, [some (.ref 108), some (.int l1), some (.int l2), some (.int l3), l4], [.int (gI w 108 0)], w) = _
        refine (val_g (c2 := (194, d, 93, [some (.ref 108), some (.int l1), some (.int l2), some (.int l3), l4], [.int l2, .int (gI w 108 0)], w)) rfl).trans ?_
        refine (val_g (c2 := (194, d, 94, [some (.ref 108), some (.int l1), some (.int l2), some (.int l3), l4], [.int ((gI w 108 0) - l2)], w)) rfl).trans ?_
        refine (val_g (c2 := (194, d, 95, [some (.ref 108), some (.int l1), some (.int l2), some (.int l3), l4], [.int 2, .int ((gI w 108 0) - l2)], w)) rfl).trans ?_
        refine (val_irem rfl (by decide)).trans ?_
        show val (194, d, 96, [some (.ref 108), some (.int l1), some (.int l2), some (.int l3), l4], [.int (((gI w 108 0) - l2) - ((gI w 108 0) - l2) / 2 * 2)], w) = _
        by_cases hc1140 : ¬ (((gI w 108 0) - l2) - ((gI w 108 0) - l2) / 2 * 2) = 0
        · refine ((val_if_ne rfl).trans (if_pos hc1140)).trans ?_
          show val (194, d, 103, [some (.ref 108), some (.int l1), some (.int l2), some (.int l3), l4], [], w) = _
          refine Eq.trans ?_ (if_pos hc1140).symm
          refine (val_g (c2 := (194, d, 104, [some (.ref 108), some (.int l1), some (.int l2), some (.int l3), l4], [.int 0], w)) rfl).trans ?_
          exact val_r rfl
        · refine ((val_if_ne rfl).trans (if_neg hc1140)).trans ?_
          show val (194, d, 99, [some (.ref 108), some (.int l1), some (.int l2), some (.int l3), l4], [], w) = _
          refine Eq.trans ?_ (if_neg hc1140).symm
          refine (val_g (c2 := (194, d, 100, [some (.ref 108), some (.int l1), some (.int l2), some (.int l3), l4], [.int 1], w)) rfl).trans ?_
          refine (val_g (c2 := (194, d, 104, [some (.ref 108), some (.int l1), some (.int l2), some (.int l3), l4], [.int 1], w)) rfl).trans ?_
          exact val_r rfl
    · refine ((val_if_eq rfl).trans (if_neg hc1138)).trans ?_
      show val (194, d, 33, [some (.ref 108), some (.int l1), some (.int l2), some (.int l3), l4], [], w) = _
      refine Eq.trans ?_ (if_neg hc1138).symm
      refine (val_g (c2 := (194, d, 34, [some (.ref 108), some (.int l1), some (.int l2), some (.int l3), l4], [.ref 108], w)) rfl).trans ?_
      refine (val_gf rfl (hW.k 108 (Nat.le_of_ble_eq_true rfl) (Nat.le_of_ble_eq_true rfl)) (fvR (hW.r 108 4 112 rfl))).trans ?_
      show val (194, d, 37, [some (.ref 108), some (.int l1), some (.int l2), some (.int l3), l4], [.ref 112], w) = _
      refine (val_g (c2 := (194, d, 38, [some (.ref 108), some (.int l1), some (.int l2), some (.int l3), l4], [.int l3, .ref 112], w)) rfl).trans ?_
      refine (val_bal rfl (hW.k 112 (Nat.le_of_ble_eq_true rfl) (Nat.le_of_ble_eq_true rfl)) rfl (hy1 hc1135 hc1138)).trans ?_
      show val (194, d, 39, [some (.ref 108), some (.int l1), some (.int l2), some (.int l3), l4], [.int (gI w 112 (l3).toNatClampNeg)], w) = _
      refine (val_g (c2 := (194, d, 41, [some (.ref 108), some (.int l1), some (.int l2), some (.int l3), l4], [.int 48, .int (gI w 112 (l3).toNatClampNeg)], w)) rfl).trans ?_
      refine (val_g (c2 := (194, d, 42, [some (.ref 108), some (.int l1), some (.int l2), some (.int l3), l4], [.int ((gI w 112 (l3).toNatClampNeg) - 48)], w)) rfl).trans ?_
      refine (val_g (c2 := (194, d, 44, [some (.ref 108), some (.int l1), some (.int l2), some (.int l3), some (.int ((gI w 112 (l3).toNatClampNeg) - 48))], [], w)) rfl).trans ?_
      refine (val_g (c2 := (194, d, 46, [some (.ref 108), some (.int l1), some (.int l2), some (.int l3), some (.int ((gI w 112 (l3).toNatClampNeg) - 48))], [.int ((gI w 112 (l3).toNatClampNeg) - 48)], w)) rfl).trans ?_
      refine (val_g (c2 := (194, d, 47, [some (.ref 108), some (.int l1), some (.int l2), some (.int l3), some (.int ((gI w 112 (l3).toNatClampNeg) - 48))], [.int l2, .int ((gI w 112 (l3).toNatClampNeg) - 48)], w)) rfl).trans ?_
      by_cases hc1141 : ((gI w 112 (l3).toNatClampNeg) - 48) ≤ l2
      · refine ((val_ic_le rfl).trans (if_pos hc1141)).trans ?_
        show val (194, d, 73, [some (.ref 108), some (.int l1), some (.int l2), some (.int l3), some (.int ((gI w 112 (l3).toNatClampNeg) - 48))], [], w) = _
        refine Eq.trans ?_ (if_pos hc1141).symm
        refine (val_g (c2 := (194, d, 74, [some (.ref 108), some (.int l1), some (.int l2), some (.int l3), some (.int ((gI w 112 (l3).toNatClampNeg) - 48))], [.int 0], w)) rfl).trans ?_
        refine (val_g (c2 := (194, d, 75, [some (.ref 108), some (.int 0), some (.int l2), some (.int l3), some (.int ((gI w 112 (l3).toNatClampNeg) - 48))], [], w)) rfl).trans ?_
        refine (val_g (c2 := (194, d, 77, [some (.ref 108), some (.int 0), some (.int l2), some (.int l3), some (.int ((gI w 112 (l3).toNatClampNeg) - 48))], [.int ((gI w 112 (l3).toNatClampNeg) - 48)], w)) rfl).trans ?_
        refine (val_g (c2 := (194, d, 78, [some (.ref 108), some (.int 0), some (.int ((gI w 112 (l3).toNatClampNeg) - 48)), some (.int l3), some (.int ((gI w 112 (l3).toNatClampNeg) - 48))], [], w)) rfl).trans ?_
        refine (val_g (c2 := (194, d, 81, [some (.ref 108), some (.int 0), some (.int ((gI w 112 (l3).toNatClampNeg) - 48)), some (.int (l3 + 1)), some (.int ((gI w 112 (l3).toNatClampNeg) - 48))], [], w)) rfl).trans ?_
        refine (val_g (c2 := (194, d, 21, [some (.ref 108), some (.int 0), some (.int ((gI w 112 (l3).toNatClampNeg) - 48)), some (.int (l3 + 1)), some (.int ((gI w 112 (l3).toNatClampNeg) - 48))], [], w)) rfl).trans ?_
        rfl
      · refine ((val_ic_le rfl).trans (if_neg hc1141)).trans ?_
        show val (194, d, 50, [some (.ref 108), some (.int l1), some (.int l2), some (.int l3), some (.int ((gI w 112 (l3).toNatClampNeg) - 48))], [], w) = _
        refine Eq.trans ?_ (if_neg hc1141).symm
        refine (val_g (c2 := (194, d, 52, [some (.ref 108), some (.int l1), some (.int l2), some (.int l3), some (.int ((gI w 112 (l3).toNatClampNeg) - 48))], [.int ((gI w 112 (l3).toNatClampNeg) - 48)], w)) rfl).trans ?_
        refine (val_g (c2 := (194, d, 53, [some (.ref 108), some (.int l1), some (.int l2), some (.int l3), some (.int ((gI w 112 (l3).toNatClampNeg) - 48))], [.ref 108, .int ((gI w 112 (l3).toNatClampNeg) - 48)], w)) rfl).trans ?_
        refine (val_gf rfl (hW.k 108 (Nat.le_of_ble_eq_true rfl) (Nat.le_of_ble_eq_true rfl)) rfl).trans ?_
        show val (194, d, 56, [some (.ref 108), some (.int l1), some (.int l2), some (.int l3), some (.int ((gI w 112 (l3).toNatClampNeg) - 48))], [.int (gI w 108 0), .int ((gI w 112 (l3).toNatClampNeg) - 48)], w) = _
        by_cases hc1142 : (gI w 108 0) < ((gI w 112 (l3).toNatClampNeg) - 48)
        · refine ((val_ic_gt rfl).trans (if_pos hc1142)).trans ?_
          show val (194, d, 73, [some (.ref 108), some (.int l1), some (.int l2), some (.int l3), some (.int ((gI w 112 (l3).toNatClampNeg) - 48))], [], w) = _
          refine Eq.trans ?_ (if_pos hc1142).symm
          refine (val_g (c2 := (194, d, 74, [some (.ref 108), some (.int l1), some (.int l2), some (.int l3), some (.int ((gI w 112 (l3).toNatClampNeg) - 48))], [.int 0], w)) rfl).trans ?_
          refine (val_g (c2 := (194, d, 75, [some (.ref 108), some (.int 0), some (.int l2), some (.int l3), some (.int ((gI w 112 (l3).toNatClampNeg) - 48))], [], w)) rfl).trans ?_
          refine (val_g (c2 := (194, d, 77, [some (.ref 108), some (.int 0), some (.int l2), some (.int l3), some (.int ((gI w 112 (l3).toNatClampNeg) - 48))], [.int ((gI w 112 (l3).toNatClampNeg) - 48)], w)) rfl).trans ?_
          refine (val_g (c2 := (194, d, 78, [some (.ref 108), some (.int 0), some (.int ((gI w 112 (l3).toNatClampNeg) - 48)), some (.int l3), some (.int ((gI w 112 (l3).toNatClampNeg) - 48))], [], w)) rfl).trans ?_
          refine (val_g (c2 := (194, d, 81, [some (.ref 108), some (.int 0), some (.int ((gI w 112 (l3).toNatClampNeg) - 48)), some (.int (l3 + 1)), some (.int ((gI w 112 (l3).toNatClampNeg) - 48))], [], w)) rfl).trans ?_
          refine (val_g (c2 := (194, d, 21, [some (.ref 108), some (.int 0), some (.int ((gI w 112 (l3).toNatClampNeg) - 48)), some (.int (l3 + 1)), some (.int ((gI w 112 (l3).toNatClampNeg) - 48))], [], w)) rfl).trans ?_
          rfl
        · refine ((val_ic_gt rfl).trans (if_neg hc1142)).trans ?_
          show val (194, d, 59, [some (.ref 108), some (.int l1), some (.int l2), some (.int l3), some (.int ((gI w 112 (l3).toNatClampNeg) - 48))], [], w) = _
          refine Eq.trans ?_ (if_neg hc1142).symm
          refine (val_g (c2 := (194, d, 61, [some (.ref 108), some (.int l1), some (.int l2), some (.int l3), some (.int ((gI w 112 (l3).toNatClampNeg) - 48))], [.int ((gI w 112 (l3).toNatClampNeg) - 48)], w)) rfl).trans ?_
          refine (val_g (c2 := (194, d, 62, [some (.ref 108), some (.int l1), some (.int l2), some (.int l3), some (.int ((gI w 112 (l3).toNatClampNeg) - 48))], [.int l2, .int ((gI w 112 (l3).toNatClampNeg) - 48)], w)) rfl).trans ?_
          refine (val_g (c2 := (194, d, 63, [some (.ref 108), some (.int l1), some (.int l2), some (.int l3), some (.int ((gI w 112 (l3).toNatClampNeg) - 48))], [.int (((gI w 112 (l3).toNatClampNeg) - 48) - l2)], w)) rfl).trans ?_
          refine (val_g (c2 := (194, d, 64, [some (.ref 108), some (.int l1), some (.int l2), some (.int l3), some (.int ((gI w 112 (l3).toNatClampNeg) - 48))], [.int 2, .int (((gI w 112 (l3).toNatClampNeg) - 48) - l2)], w)) rfl).trans ?_
          refine (val_irem rfl (by decide)).trans ?_
          show val (194, d, 65, [some (.ref 108), some (.int l1), some (.int l2), some (.int l3), some (.int ((gI w 112 (l3).toNatClampNeg) - 48))], [.int ((((gI w 112 (l3).toNatClampNeg) - 48) - l2) - (((gI w 112 (l3).toNatClampNeg) - 48) - l2) / 2 * 2)], w) = _
          refine (val_g (c2 := (194, d, 66, [some (.ref 108), some (.int l1), some (.int l2), some (.int l3), some (.int ((gI w 112 (l3).toNatClampNeg) - 48))], [.int 1, .int ((((gI w 112 (l3).toNatClampNeg) - 48) - l2) - (((gI w 112 (l3).toNatClampNeg) - 48) - l2) / 2 * 2)], w)) rfl).trans ?_
          by_cases hc1143 : ¬ ((((gI w 112 (l3).toNatClampNeg) - 48) - l2) - (((gI w 112 (l3).toNatClampNeg) - 48) - l2) / 2 * 2) = 1
          · refine ((val_ic_ne rfl).trans (if_pos hc1143)).trans ?_
            show val (194, d, 73, [some (.ref 108), some (.int l1), some (.int l2), some (.int l3), some (.int ((gI w 112 (l3).toNatClampNeg) - 48))], [], w) = _
            refine Eq.trans ?_ (if_pos hc1143).symm
            refine (val_g (c2 := (194, d, 74, [some (.ref 108), some (.int l1), some (.int l2), some (.int l3), some (.int ((gI w 112 (l3).toNatClampNeg) - 48))], [.int 0], w)) rfl).trans ?_
            refine (val_g (c2 := (194, d, 75, [some (.ref 108), some (.int 0), some (.int l2), some (.int l3), some (.int ((gI w 112 (l3).toNatClampNeg) - 48))], [], w)) rfl).trans ?_
            refine (val_g (c2 := (194, d, 77, [some (.ref 108), some (.int 0), some (.int l2), some (.int l3), some (.int ((gI w 112 (l3).toNatClampNeg) - 48))], [.int ((gI w 112 (l3).toNatClampNeg) - 48)], w)) rfl).trans ?_
            refine (val_g (c2 := (194, d, 78, [some (.ref 108), some (.int 0), some (.int ((gI w 112 (l3).toNatClampNeg) - 48)), some (.int l3), some (.int ((gI w 112 (l3).toNatClampNeg) - 48))], [], w)) rfl).trans ?_
            refine (val_g (c2 := (194, d, 81, [some (.ref 108), some (.int 0), some (.int ((gI w 112 (l3).toNatClampNeg) - 48)), some (.int (l3 + 1)), some (.int ((gI w 112 (l3).toNatClampNeg) - 48))], [], w)) rfl).trans ?_
            refine (val_g (c2 := (194, d, 21, [some (.ref 108), some (.int 0), some (.int ((gI w 112 (l3).toNatClampNeg) - 48)), some (.int (l3 + 1)), some (.int ((gI w 112 (l3).toNatClampNeg) - 48))], [], w)) rfl).trans ?_
            rfl
          · refine ((val_ic_ne rfl).trans (if_neg hc1143)).trans ?_
            show val (194, d, 69, [some (.ref 108), some (.int l1), some (.int l2), some (.int l3), some (.int ((gI w 112 (l3).toNatClampNeg) - 48))], [], w) = _
            refine Eq.trans ?_ (if_neg hc1143).symm
            refine (val_g (c2 := (194, d, 70, [some (.ref 108), some (.int l1), some (.int l2), some (.int l3), some (.int ((gI w 112 (l3).toNatClampNeg) - 48))], [.int 1], w)) rfl).trans ?_
            refine (val_g (c2 := (194, d, 74, [some (.ref 108), some (.int l1), some (.int l2), some (.int l3), some (.int ((gI w 112 (l3).toNatClampNeg) - 48))], [.int 1], w)) rfl).trans ?_
            refine (val_g (c2 := (194, d, 75, [some (.ref 108), some (.int 1), some (.int l2), some (.int l3), some (.int ((gI w 112 (l3).toNatClampNeg) - 48))], [], w)) rfl).trans ?_
            refine (val_g (c2 := (194, d, 77, [some (.ref 108), some (.int 1), some (.int l2), some (.int l3), some (.int ((gI w 112 (l3).toNatClampNeg) - 48))], [.int ((gI w 112 (l3).toNatClampNeg) - 48)], w)) rfl).trans ?_
            refine (val_g (c2 := (194, d, 78, [some (.ref 108), some (.int 1), some (.int ((gI w 112 (l3).toNatClampNeg) - 48)), some (.int l3), some (.int ((gI w 112 (l3).toNatClampNeg) - 48))], [], w)) rfl).trans ?_
            refine (val_g (c2 := (194, d, 81, [some (.ref 108), some (.int 1), some (.int ((gI w 112 (l3).toNatClampNeg) - 48)), some (.int (l3 + 1)), some (.int ((gI w 112 (l3).toNatClampNeg) - 48))], [], w)) rfl).trans ?_
            refine (val_g (c2 := (194, d, 21, [some (.ref 108), some (.int 1), some (.int ((gI w 112 (l3).toNatClampNeg) - 48)), some (.int (l3 + 1)), some (.int ((gI w 112 (l3).toNatClampNeg) - 48))], [], w)) rfl).trans ?_
            rfl
/-- BelfryHouseModel.node(I)I -/
theorem tr_195 (d : Nat) (w : Wd) (x0 : Int32)     : val (195, d + 5, 0, [some (.ref 108), some (.int x0), none, none, none, none], [], w) = val (195, d + 5, 3, [some (.ref 108), some (.int x0), none, none, none, none], [.ref 11, .ref 108], w) := by
  refine (val_g (c2 := (195, d + 5, 1, [some (.ref 108), some (.int x0), none, none, none, none], [.ref 108], w)) rfl).trans ?_
  refine (val_g (c2 := (195, d + 5, 3, [some (.ref 108), some (.int x0), none, none, none, none], [.ref 11, .ref 108], w)) rfl).trans ?_
  rfl
theorem tr_195_6 (d : Nat) (w : Wd) (hW : Fix w) (l1 : Int32) (s0 : Int32)     : val (195, d + 5, 6, [some (.ref 108), some (.int l1), none, none, none, none], [.int s0], w) = (if ¬ s0 = 0 then (if l1 = 6 then val (195, d + 5, 99, [some (.ref 108), some (.int l1), some (.int 1), none, none, none], [.ref 108], w) else (if ¬ (gI w 108 20) = 40 then val (195, d + 5, 102, [some (.ref 108), some (.int l1), some (.int 1), none, none, none], [], w) else val (195, d + 5, 99, [some (.ref 108), some (.int l1), some (.int 1), none, none, none], [.ref 108], w))) else val (195, d + 5, 12, [some (.ref 108), some (.int l1), none, none, none, none], [.ref 12, .ref 108], w)) := by
  by_cases hc1192 : ¬ s0 = 0
  · refine ((val_if_ne rfl).trans (if_pos hc1192)).trans ?_
    show val (195, d + 5, 73, [some (.ref 108), some (.int l1), none, none, none, none], [], w) = _
    refine Eq.trans ?_ (if_pos hc1192).symm
    refine (val_g (c2 := (195, d + 5, 74, [some (.ref 108), some (.int l1), none, none, none, none], [.int 1], w)) rfl).trans ?_
    refine (val_g (c2 := (195, d + 5, 78, [some (.ref 108), some (.int l1), none, none, none, none], [.int 1], w)) rfl).trans ?_
    refine (val_g (c2 := (195, d + 5, 79, [some (.ref 108), some (.int l1), some (.int 1), none, none, none], [], w)) rfl).trans ?_
    refine (val_g (c2 := (195, d + 5, 80, [some (.ref 108), some (.int l1), some (.int 1), none, none, none], [.int 1], w)) rfl).trans ?_
    refine ((val_if_eq rfl).trans (if_neg (by decide))).trans ?_
    show val (195, d + 5, 83, [some (.ref 108), some (.int l1), some (.int 1), none, none, none], [], w) = _
    refine (val_g (c2 := (195, d + 5, 84, [some (.ref 108), some (.int l1), some (.int 1), none, none, none], [.int l1], w)) rfl).trans ?_
    refine (val_g (c2 := (195, d + 5, 86, [some (.ref 108), some (.int l1), some (.int 1), none, none, none], [.int 6, .int l1], w)) rfl).trans ?_
    by_cases hc1193 : l1 = 6
    · refine ((val_ic_eq rfl).trans (if_pos hc1193)).trans ?_
      show val (195, d + 5, 98, [some (.ref 108), some (.int l1), some (.int 1), none, none, none], [], w) = _
      refine Eq.trans ?_ (if_pos hc1193).symm
      refine (val_g (c2 := (195, d + 5, 99, [some (.ref 108), some (.int l1), some (.int 1), none, none, none], [.ref 108], w)) rfl).trans ?_
      rfl
    · refine ((val_ic_eq rfl).trans (if_neg hc1193)).trans ?_
      show val (195, d + 5, 89, [some (.ref 108), some (.int l1), some (.int 1), none, none, none], [], w) = _
      refine Eq.trans ?_ (if_neg hc1193).symm
      refine (val_g (c2 := (195, d + 5, 90, [some (.ref 108), some (.int l1), some (.int 1), none, none, none], [.ref 108], w)) rfl).trans ?_
      refine (val_gf rfl (hW.k 108 (Nat.le_of_ble_eq_true rfl) (Nat.le_of_ble_eq_true rfl)) rfl).trans ?_
      show val (195, d + 5, 93, [some (.ref 108), some (.int l1), some (.int 1), none, none, none], [.int (gI w 108 20)], w) = _
      refine (val_g (c2 := (195, d + 5, 95, [some (.ref 108), some (.int l1), some (.int 1), none, none, none], [.int 40, .int (gI w 108 20)], w)) rfl).trans ?_
      by_cases hc1194 : ¬ (gI w 108 20) = 40
      · refine ((val_ic_ne rfl).trans (if_pos hc1194)).trans ?_
        show val (195, d + 5, 102, [some (.ref 108), some (.int l1), some (.int 1), none, none, none], [], w) = _
        refine Eq.trans ?_ (if_pos hc1194).symm
        rfl
      · refine ((val_ic_ne rfl).trans (if_neg hc1194)).trans ?_
        show val (195, d + 5, 98, [some (.ref 108), some (.int l1), some (.int 1), none, none, none], [], w) = _
        refine Eq.trans ?_ (if_neg hc1194).symm
        refine (val_g (c2 := (195, d + 5, 99, [some (.ref 108), some (.int l1), some (.int 1), none, none, none], [.ref 108], w)) rfl).trans ?_
        rfl
  · refine ((val_if_ne rfl).trans (if_neg hc1192)).trans ?_
    show val (195, d + 5, 9, [some (.ref 108), some (.int l1), none, none, none, none], [], w) = _
    refine Eq.trans ?_ (if_neg hc1192).symm
    refine (val_g (c2 := (195, d + 5, 10, [some (.ref 108), some (.int l1), none, none, none, none], [.ref 108], w)) rfl).trans ?_
    refine (val_g (c2 := (195, d + 5, 12, [some (.ref 108), some (.int l1), none, none, none, none], [.ref 12, .ref 108], w)) rfl).trans ?_
    rfl
theorem tr_195_15 (d : Nat) (w : Wd) (hW : Fix w) (l1 : Int32) (s0 : Int32)     : val (195, d + 5, 15, [some (.ref 108), some (.int l1), none, none, none, none], [.int s0], w) = (if ¬ s0 = 0 then (if l1 = 6 then val (195, d + 5, 99, [some (.ref 108), some (.int l1), some (.int 1), none, none, none], [.ref 108], w) else (if ¬ (gI w 108 20) = 40 then val (195, d + 5, 102, [some (.ref 108), some (.int l1), some (.int 1), none, none, none], [], w) else val (195, d + 5, 99, [some (.ref 108), some (.int l1), some (.int 1), none, none, none], [.ref 108], w))) else val (195, d + 5, 21, [some (.ref 108), some (.int l1), none, none, none, none], [.ref 13, .ref 108], w)) := by
  by_cases hc1195 : ¬ s0 = 0
  · refine ((val_if_ne rfl).trans (if_pos hc1195)).trans ?_
    show val (195, d + 5, 73, [some (.ref 108), some (.int l1), none, none, none, none], [], w) = _
    refine Eq.trans ?_ (if_pos hc1195).symm
    refine (val_g (c2 := (195, d + 5, 74, [some (.ref 108), some (.int l1), none, none, none, none], [.int 1], w)) rfl).trans ?_
    refine (val_g (c2 := (195, d + 5, 78, [some (.ref 108), some (.int l1), none, none, none, none], [.int 1], w)) rfl).trans ?_
    refine (val_g (c2 := (195, d + 5, 79, [some (.ref 108), some (.int l1), some (.int 1), none, none, none], [], w)) rfl).trans ?_
    refine (val_g (c2 := (195, d + 5, 80, [some (.ref 108), some (.int l1), some (.int 1), none, none, none], [.int 1], w)) rfl).trans ?_
    refine ((val_if_eq rfl).trans (if_neg (by decide))).trans ?_
    show val (195, d + 5, 83, [some (.ref 108), some (.int l1), some (.int 1), none, none, none], [], w) = _
    refine (val_g (c2 := (195, d + 5, 84, [some (.ref 108), some (.int l1), some (.int 1), none, none, none], [.int l1], w)) rfl).trans ?_
    refine (val_g (c2 := (195, d + 5, 86, [some (.ref 108), some (.int l1), some (.int 1), none, none, none], [.int 6, .int l1], w)) rfl).trans ?_
    by_cases hc1196 : l1 = 6
    · refine ((val_ic_eq rfl).trans (if_pos hc1196)).trans ?_
      show val (195, d + 5, 98, [some (.ref 108), some (.int l1), some (.int 1), none, none, none], [], w) = _
      refine Eq.trans ?_ (if_pos hc1196).symm
      refine (val_g (c2 := (195, d + 5, 99, [some (.ref 108), some (.int l1), some (.int 1), none, none, none], [.ref 108], w)) rfl).trans ?_
      rfl
    · refine ((val_ic_eq rfl).trans (if_neg hc1196)).trans ?_
      show val (195, d + 5, 89, [some (.ref 108), some (.int l1), some (.int 1), none, none, none], [], w) = _
      refine Eq.trans ?_ (if_neg hc1196).symm
      refine (val_g (c2 := (195, d + 5, 90, [some (.ref 108), some (.int l1), some (.int 1), none, none, none], [.ref 108], w)) rfl).trans ?_
      refine (val_gf rfl (hW.k 108 (Nat.le_of_ble_eq_true rfl) (Nat.le_of_ble_eq_true rfl)) rfl).trans ?_
      show val (195, d + 5, 93, [some (.ref 108), some (.int l1), some (.int 1), none, none, none], [.int (gI w 108 20)], w) = _
      refine (val_g (c2 := (195, d + 5, 95, [some (.ref 108), some (.int l1), some (.int 1), none, none, none], [.int 40, .int (gI w 108 20)], w)) rfl).trans ?_
      by_cases hc1197 : ¬ (gI w 108 20) = 40
      · refine ((val_ic_ne rfl).trans (if_pos hc1197)).trans ?_
        show val (195, d + 5, 102, [some (.ref 108), some (.int l1), some (.int 1), none, none, none], [], w) = _
        refine Eq.trans ?_ (if_pos hc1197).symm
        rfl
      · refine ((val_ic_ne rfl).trans (if_neg hc1197)).trans ?_
        show val (195, d + 5, 98, [some (.ref 108), some (.int l1), some (.int 1), none, none, none], [], w) = _
        refine Eq.trans ?_ (if_neg hc1197).symm
        refine (val_g (c2 := (195, d + 5, 99, [some (.ref 108), some (.int l1), some (.int 1), none, none, none], [.ref 108], w)) rfl).trans ?_
        rfl
  · refine ((val_if_ne rfl).trans (if_neg hc1195)).trans ?_
    show val (195, d + 5, 18, [some (.ref 108), some (.int l1), none, none, none, none], [], w) = _
    refine Eq.trans ?_ (if_neg hc1195).symm
    refine (val_g (c2 := (195, d + 5, 19, [some (.ref 108), some (.int l1), none, none, none, none], [.ref 108], w)) rfl).trans ?_
    refine (val_g (c2 := (195, d + 5, 21, [some (.ref 108), some (.int l1), none, none, none, none], [.ref 13, .ref 108], w)) rfl).trans ?_
    rfl
theorem tr_195_24 (d : Nat) (w : Wd) (hW : Fix w) (l1 : Int32) (s0 : Int32)     : val (195, d + 5, 24, [some (.ref 108), some (.int l1), none, none, none, none], [.int s0], w) = (if ¬ s0 = 0 then (if l1 = 6 then val (195, d + 5, 99, [some (.ref 108), some (.int l1), some (.int 1), none, none, none], [.ref 108], w) else (if ¬ (gI w 108 20) = 40 then val (195, d + 5, 102, [some (.ref 108), some (.int l1), some (.int 1), none, none, none], [], w) else val (195, d + 5, 99, [some (.ref 108), some (.int l1), some (.int 1), none, none, none], [.ref 108], w))) else val (195, d + 5, 30, [some (.ref 108), some (.int l1), none, none, none, none], [.ref 14, .ref 108], w)) := by
  by_cases hc1198 : ¬ s0 = 0
  · refine ((val_if_ne rfl).trans (if_pos hc1198)).trans ?_
    show val (195, d + 5, 73, [some (.ref 108), some (.int l1), none, none, none, none], [], w) = _
    refine Eq.trans ?_ (if_pos hc1198).symm
    refine (val_g (c2 := (195, d + 5, 74, [some (.ref 108), some (.int l1), none, none, none, none], [.int 1], w)) rfl).trans ?_
    refine (val_g (c2 := (195, d + 5, 78, [some (.ref 108), some (.int l1), none, none, none, none], [.int 1], w)) rfl).trans ?_
    refine (val_g (c2 := (195, d + 5, 79, [some (.ref 108), some (.int l1), some (.int 1), none, none, none], [], w)) rfl).trans ?_
    refine (val_g (c2 := (195, d + 5, 80, [some (.ref 108), some (.int l1), some (.int 1), none, none, none], [.int 1], w)) rfl).trans ?_
    refine ((val_if_eq rfl).trans (if_neg (by decide))).trans ?_
    show val (195, d + 5, 83, [some (.ref 108), some (.int l1), some (.int 1), none, none, none], [], w) = _
    refine (val_g (c2 := (195, d + 5, 84, [some (.ref 108), some (.int l1), some (.int 1), none, none, none], [.int l1], w)) rfl).trans ?_
    refine (val_g (c2 := (195, d + 5, 86, [some (.ref 108), some (.int l1), some (.int 1), none, none, none], [.int 6, .int l1], w)) rfl).trans ?_
    by_cases hc1199 : l1 = 6
    · refine ((val_ic_eq rfl).trans (if_pos hc1199)).trans ?_
      show val (195, d + 5, 98, [some (.ref 108), some (.int l1), some (.int 1), none, none, none], [], w) = _
      refine Eq.trans ?_ (if_pos hc1199).symm
      refine (val_g (c2 := (195, d + 5, 99, [some (.ref 108), some (.int l1), some (.int 1), none, none, none], [.ref 108], w)) rfl).trans ?_
      rfl
    · refine ((val_ic_eq rfl).trans (if_neg hc1199)).trans ?_
      show val (195, d + 5, 89, [some (.ref 108), some (.int l1), some (.int 1), none, none, none], [], w) = _
      refine Eq.trans ?_ (if_neg hc1199).symm
      refine (val_g (c2 := (195, d + 5, 90, [some (.ref 108), some (.int l1), some (.int 1), none, none, none], [.ref 108], w)) rfl).trans ?_
      refine (val_gf rfl (hW.k 108 (Nat.le_of_ble_eq_true rfl) (Nat.le_of_ble_eq_true rfl)) rfl).trans ?_
      show val (195, d + 5, 93, [some (.ref 108), some (.int l1), some (.int 1), none, none, none], [.int (gI w 108 20)], w) = _
      refine (val_g (c2 := (195, d + 5, 95, [some (.ref 108), some (.int l1), some (.int 1), none, none, none], [.int 40, .int (gI w 108 20)], w)) rfl).trans ?_
      by_cases hc1200 : ¬ (gI w 108 20) = 40
      · refine ((val_ic_ne rfl).trans (if_pos hc1200)).trans ?_
        show val (195, d + 5, 102, [some (.ref 108), some (.int l1), some (.int 1), none, none, none], [], w) = _
        refine Eq.trans ?_ (if_pos hc1200).symm
        rfl
      · refine ((val_ic_ne rfl).trans (if_neg hc1200)).trans ?_
        show val (195, d + 5, 98, [some (.ref 108), some (.int l1), some (.int 1), none, none, none], [], w) = _
        refine Eq.trans ?_ (if_neg hc1200).symm
        refine (val_g (c2 := (195, d + 5, 99, [some (.ref 108), some (.int l1), some (.int 1), none, none, none], [.ref 108], w)) rfl).trans ?_
        rfl
  · refine ((val_if_ne rfl).trans (if_neg hc1198)).trans ?_
    show val (195, d + 5, 27, [some (.ref 108), some (.int l1), none, none, none, none], [], w) = _
    refine Eq.trans ?_ (if_neg hc1198).symm
    refine (val_g (c2 := (195, d + 5, 28, [some (.ref 108), some (.int l1), none, none, none, none], [.ref 108], w)) rfl).trans ?_
    refine (val_g (c2 := (195, d + 5, 30, [some (.ref 108), some (.int l1), none, none, none, none], [.ref 14, .ref 108], w)) rfl).trans ?_
    rfl
theorem tr_195_33 (d : Nat) (w : Wd) (hW : Fix w) (l1 : Int32) (s0 : Int32)     : val (195, d + 5, 33, [some (.ref 108), some (.int l1), none, none, none, none], [.int s0], w) = (if ¬ s0 = 0 then (if l1 = 6 then val (195, d + 5, 99, [some (.ref 108), some (.int l1), some (.int 1), none, none, none], [.ref 108], w) else (if ¬ (gI w 108 20) = 40 then val (195, d + 5, 102, [some (.ref 108), some (.int l1), some (.int 1), none, none, none], [], w) else val (195, d + 5, 99, [some (.ref 108), some (.int l1), some (.int 1), none, none, none], [.ref 108], w))) else val (195, d + 5, 39, [some (.ref 108), some (.int l1), none, none, none, none], [.ref 15, .ref 108], w)) := by
  by_cases hc1201 : ¬ s0 = 0
  · refine ((val_if_ne rfl).trans (if_pos hc1201)).trans ?_
    show val (195, d + 5, 73, [some (.ref 108), some (.int l1), none, none, none, none], [], w) = _
    refine Eq.trans ?_ (if_pos hc1201).symm
    refine (val_g (c2 := (195, d + 5, 74, [some (.ref 108), some (.int l1), none, none, none, none], [.int 1], w)) rfl).trans ?_
    refine (val_g (c2 := (195, d + 5, 78, [some (.ref 108), some (.int l1), none, none, none, none], [.int 1], w)) rfl).trans ?_
    refine (val_g (c2 := (195, d + 5, 79, [some (.ref 108), some (.int l1), some (.int 1), none, none, none], [], w)) rfl).trans ?_
    refine (val_g (c2 := (195, d + 5, 80, [some (.ref 108), some (.int l1), some (.int 1), none, none, none], [.int 1], w)) rfl).trans ?_
    refine ((val_if_eq rfl).trans (if_neg (by decide))).trans ?_
    show val (195, d + 5, 83, [some (.ref 108), some (.int l1), some (.int 1), none, none, none], [], w) = _
    refine (val_g (c2 := (195, d + 5, 84, [some (.ref 108), some (.int l1), some (.int 1), none, none, none], [.int l1], w)) rfl).trans ?_
    refine (val_g (c2 := (195, d + 5, 86, [some (.ref 108), some (.int l1), some (.int 1), none, none, none], [.int 6, .int l1], w)) rfl).trans ?_
    by_cases hc1202 : l1 = 6
    · refine ((val_ic_eq rfl).trans (if_pos hc1202)).trans ?_
      show val (195, d + 5, 98, [some (.ref 108), some (.int l1), some (.int 1), none, none, none], [], w) = _
      refine Eq.trans ?_ (if_pos hc1202).symm
      refine (val_g (c2 := (195, d + 5, 99, [some (.ref 108), some (.int l1), some (.int 1), none, none, none], [.ref 108], w)) rfl).trans ?_
      rfl
    · refine ((val_ic_eq rfl).trans (if_neg hc1202)).trans ?_
      show val (195, d + 5, 89, [some (.ref 108), some (.int l1), some (.int 1), none, none, none], [], w) = _
      refine Eq.trans ?_ (if_neg hc1202).symm
      refine (val_g (c2 := (195, d + 5, 90, [some (.ref 108), some (.int l1), some (.int 1), none, none, none], [.ref 108], w)) rfl).trans ?_
      refine (val_gf rfl (hW.k 108 (Nat.le_of_ble_eq_true rfl) (Nat.le_of_ble_eq_true rfl)) rfl).trans ?_
      show val (195, d + 5, 93, [some (.ref 108), some (.int l1), some (.int 1), none, none, none], [.int (gI w 108 20)], w) = _
      refine (val_g (c2 := (195, d + 5, 95, [some (.ref 108), some (.int l1), some (.int 1), none, none, none], [.int 40, .int (gI w 108 20)], w)) rfl).trans ?_
      by_cases hc1203 : ¬ (gI w 108 20) = 40
      · refine ((val_ic_ne rfl).trans (if_pos hc1203)).trans ?_
        show val (195, d + 5, 102, [some (.ref 108), some (.int l1), some (.int 1), none, none, none], [], w) = _
        refine Eq.trans ?_ (if_pos hc1203).symm
        rfl
      · refine ((val_ic_ne rfl).trans (if_neg hc1203)).trans ?_
        show val (195, d + 5, 98, [some (.ref 108), some (.int l1), some (.int 1), none, none, none], [], w) = _
        refine Eq.trans ?_ (if_neg hc1203).symm
        refine (val_g (c2 := (195, d + 5, 99, [some (.ref 108), some (.int l1), some (.int 1), none, none, none], [.ref 108], w)) rfl).trans ?_
        rfl
  · refine ((val_if_ne rfl).trans (if_neg hc1201)).trans ?_
    show val (195, d + 5, 36, [some (.ref 108), some (.int l1), none, none, none, none], [], w) = _
    refine Eq.trans ?_ (if_neg hc1201).symm
    refine (val_g (c2 := (195, d + 5, 37, [some (.ref 108), some (.int l1), none, none, none, none], [.ref 108], w)) rfl).trans ?_
    refine (val_g (c2 := (195, d + 5, 39, [some (.ref 108), some (.int l1), none, none, none, none], [.ref 15, .ref 108], w)) rfl).trans ?_
    rfl
theorem tr_195_42 (d : Nat) (w : Wd) (hW : Fix w) (l1 : Int32) (s0 : Int32)     : val (195, d + 5, 42, [some (.ref 108), some (.int l1), none, none, none, none], [.int s0], w) = (if ¬ s0 = 0 then (if l1 = 6 then val (195, d + 5, 99, [some (.ref 108), some (.int l1), some (.int 1), none, none, none], [.ref 108], w) else (if ¬ (gI w 108 20) = 40 then val (195, d + 5, 102, [some (.ref 108), some (.int l1), some (.int 1), none, none, none], [], w) else val (195, d + 5, 99, [some (.ref 108), some (.int l1), some (.int 1), none, none, none], [.ref 108], w))) else val (195, d + 5, 48, [some (.ref 108), some (.int l1), none, none, none, none], [.ref 16, .ref 108], w)) := by
  by_cases hc1204 : ¬ s0 = 0
  · refine ((val_if_ne rfl).trans (if_pos hc1204)).trans ?_
    show val (195, d + 5, 73, [some (.ref 108), some (.int l1), none, none, none, none], [], w) = _
    refine Eq.trans ?_ (if_pos hc1204).symm
    refine (val_g (c2 := (195, d + 5, 74, [some (.ref 108), some (.int l1), none, none, none, none], [.int 1], w)) rfl).trans ?_
    refine (val_g (c2 := (195, d + 5, 78, [some (.ref 108), some (.int l1), none, none, none, none], [.int 1], w)) rfl).trans ?_
    refine (val_g (c2 := (195, d + 5, 79, [some (.ref 108), some (.int l1), some (.int 1), none, none, none], [], w)) rfl).trans ?_
    refine (val_g (c2 := (195, d + 5, 80, [some (.ref 108), some (.int l1), some (.int 1), none, none, none], [.int 1], w)) rfl).trans ?_
    refine ((val_if_eq rfl).trans (if_neg (by decide))).trans ?_
    show val (195, d + 5, 83, [some (.ref 108), some (.int l1), some (.int 1), none, none, none], [], w) = _
    refine (val_g (c2 := (195, d + 5, 84, [some (.ref 108), some (.int l1), some (.int 1), none, none, none], [.int l1], w)) rfl).trans ?_
    refine (val_g (c2 := (195, d + 5, 86, [some (.ref 108), some (.int l1), some (.int 1), none, none, none], [.int 6, .int l1], w)) rfl).trans ?_
    by_cases hc1205 : l1 = 6
    · refine ((val_ic_eq rfl).trans (if_pos hc1205)).trans ?_
      show val (195, d + 5, 98, [some (.ref 108), some (.int l1), some (.int 1), none, none, none], [], w) = _
      refine Eq.trans ?_ (if_pos hc1205).symm
      refine (val_g (c2 := (195, d + 5, 99, [some (.ref 108), some (.int l1), some (.int 1), none, none, none], [.ref 108], w)) rfl).trans ?_
      rfl
    · refine ((val_ic_eq rfl).trans (if_neg hc1205)).trans ?_
      show val (195, d + 5, 89, [some (.ref 108), some (.int l1), some (.int 1), none, none, none], [], w) = _
      refine Eq.trans ?_ (if_neg hc1205).symm
      refine (val_g (c2 := (195, d + 5, 90, [some (.ref 108), some (.int l1), some (.int 1), none, none, none], [.ref 108], w)) rfl).trans ?_
      refine (val_gf rfl (hW.k 108 (Nat.le_of_ble_eq_true rfl) (Nat.le_of_ble_eq_true rfl)) rfl).trans ?_
      show val (195, d + 5, 93, [some (.ref 108), some (.int l1), some (.int 1), none, none, none], [.int (gI w 108 20)], w) = _
      refine (val_g (c2 := (195, d + 5, 95, [some (.ref 108), some (.int l1), some (.int 1), none, none, none], [.int 40, .int (gI w 108 20)], w)) rfl).trans ?_
      by_cases hc1206 : ¬ (gI w 108 20) = 40
      · refine ((val_ic_ne rfl).trans (if_pos hc1206)).trans ?_
        show val (195, d + 5, 102, [some (.ref 108), some (.int l1), some (.int 1), none, none, none], [], w) = _
        refine Eq.trans ?_ (if_pos hc1206).symm
        rfl
      · refine ((val_ic_ne rfl).trans (if_neg hc1206)).trans ?_
        show val (195, d + 5, 98, [some (.ref 108), some (.int l1), some (.int 1), none, none, none], [], w) = _
        refine Eq.trans ?_ (if_neg hc1206).symm
        refine (val_g (c2 := (195, d + 5, 99, [some (.ref 108), some (.int l1), some (.int 1), none, none, none], [.ref 108], w)) rfl).trans ?_
        rfl
  · refine ((val_if_ne rfl).trans (if_neg hc1204)).trans ?_
    show val (195, d + 5, 45, [some (.ref 108), some (.int l1), none, none, none, none], [], w) = _
    refine Eq.trans ?_ (if_neg hc1204).symm
    refine (val_g (c2 := (195, d + 5, 46, [some (.ref 108), some (.int l1), none, none, none, none], [.ref 108], w)) rfl).trans ?_
    refine (val_g (c2 := (195, d + 5, 48, [some (.ref 108), some (.int l1), none, none, none, none], [.ref 16, .ref 108], w)) rfl).trans ?_
    rfl
theorem tr_195_51 (d : Nat) (w : Wd) (hW : Fix w) (l1 : Int32) (s0 : Int32)     : val (195, d + 5, 51, [some (.ref 108), some (.int l1), none, none, none, none], [.int s0], w) = (if ¬ s0 = 0 then (if l1 = 6 then val (195, d + 5, 99, [some (.ref 108), some (.int l1), some (.int 1), none, none, none], [.ref 108], w) else (if ¬ (gI w 108 20) = 40 then val (195, d + 5, 102, [some (.ref 108), some (.int l1), some (.int 1), none, none, none], [], w) else val (195, d + 5, 99, [some (.ref 108), some (.int l1), some (.int 1), none, none, none], [.ref 108], w))) else val (195, d + 5, 58, [some (.ref 108), some (.int l1), none, none, none, none], [.ref 17, .ref 108], w)) := by
  by_cases hc1207 : ¬ s0 = 0
  · refine ((val_if_ne rfl).trans (if_pos hc1207)).trans ?_
    show val (195, d + 5, 73, [some (.ref 108), some (.int l1), none, none, none, none], [], w) = _
    refine Eq.trans ?_ (if_pos hc1207).symm
    refine (val_g (c2 := (195, d + 5, 74, [some (.ref 108), some (.int l1), none, none, none, none], [.int 1], w)) rfl).trans ?_
    refine (val_g (c2 := (195, d + 5, 78, [some (.ref 108), some (.int l1), none, none, none, none], [.int 1], w)) rfl).trans ?_
    refine (val_g (c2 := (195, d + 5, 79, [some (.ref 108), some (.int l1), some (.int 1), none, none, none], [], w)) rfl).trans ?_
    refine (val_g (c2 := (195, d + 5, 80, [some (.ref 108), some (.int l1), some (.int 1), none, none, none], [.int 1], w)) rfl).trans ?_
    refine ((val_if_eq rfl).trans (if_neg (by decide))).trans ?_
    show val (195, d + 5, 83, [some (.ref 108), some (.int l1), some (.int 1), none, none, none], [], w) = _
    refine (val_g (c2 := (195, d + 5, 84, [some (.ref 108), some (.int l1), some (.int 1), none, none, none], [.int l1], w)) rfl).trans ?_
    refine (val_g (c2 := (195, d + 5, 86, [some (.ref 108), some (.int l1), some (.int 1), none, none, none], [.int 6, .int l1], w)) rfl).trans ?_
    by_cases hc1208 : l1 = 6
    · refine ((val_ic_eq rfl).trans (if_pos hc1208)).trans ?_
      show val (195, d + 5, 98, [some (.ref 108), some (.int l1), some (.int 1), none, none, none], [], w) = _
      refine Eq.trans ?_ (if_pos hc1208).symm
      refine (val_g (c2 := (195, d + 5, 99, [some (.ref 108), some (.int l1), some (.int 1), none, none, none], [.ref 108], w)) rfl).trans ?_
      rfl
    · refine ((val_ic_eq rfl).trans (if_neg hc1208)).trans ?_
      show val (195, d + 5, 89, [some (.ref 108), some (.int l1), some (.int 1), none, none, none], [], w) = _
      refine Eq.trans ?_ (if_neg hc1208).symm
      refine (val_g (c2 := (195, d + 5, 90, [some (.ref 108), some (.int l1), some (.int 1), none, none, none], [.ref 108], w)) rfl).trans ?_
      refine (val_gf rfl (hW.k 108 (Nat.le_of_ble_eq_true rfl) (Nat.le_of_ble_eq_true rfl)) rfl).trans ?_
      show val (195, d + 5, 93, [some (.ref 108), some (.int l1), some (.int 1), none, none, none], [.int (gI w 108 20)], w) = _
      refine (val_g (c2 := (195, d + 5, 95, [some (.ref 108), some (.int l1), some (.int 1), none, none, none], [.int 40, .int (gI w 108 20)], w)) rfl).trans ?_
      by_cases hc1209 : ¬ (gI w 108 20) = 40
      · refine ((val_ic_ne rfl).trans (if_pos hc1209)).trans ?_
        show val (195, d + 5, 102, [some (.ref 108), some (.int l1), some (.int 1), none, none, none], [], w) = _
        refine Eq.trans ?_ (if_pos hc1209).symm
        rfl
      · refine ((val_ic_ne rfl).trans (if_neg hc1209)).trans ?_
        show val (195, d + 5, 98, [some (.ref 108), some (.int l1), some (.int 1), none, none, none], [], w) = _
        refine Eq.trans ?_ (if_neg hc1209).symm
        refine (val_g (c2 := (195, d + 5, 99, [some (.ref 108), some (.int l1), some (.int 1), none, none, none], [.ref 108], w)) rfl).trans ?_
        rfl
  · refine ((val_if_ne rfl).trans (if_neg hc1207)).trans ?_
    show val (195, d + 5, 54, [some (.ref 108), some (.int l1), none, none, none, none], [], w) = _
    refine Eq.trans ?_ (if_neg hc1207).symm
    refine (val_g (c2 := (195, d + 5, 55, [some (.ref 108), some (.int l1), none, none, none, none], [.ref 108], w)) rfl).trans ?_
    refine (val_g (c2 := (195, d + 5, 58, [some (.ref 108), some (.int l1), none, none, none, none], [.ref 17, .ref 108], w)) rfl).trans ?_
    rfl
theorem tr_195_61 (d : Nat) (w : Wd) (hW : Fix w) (l1 : Int32) (s0 : Int32)     : val (195, d + 5, 61, [some (.ref 108), some (.int l1), none, none, none, none], [.int s0], w) = (if ¬ s0 = 0 then (if l1 = 6 then val (195, d + 5, 99, [some (.ref 108), some (.int l1), some (.int 1), none, none, none], [.ref 108], w) else (if ¬ (gI w 108 20) = 40 then val (195, d + 5, 102, [some (.ref 108), some (.int l1), some (.int 1), none, none, none], [], w) else val (195, d + 5, 99, [some (.ref 108), some (.int l1), some (.int 1), none, none, none], [.ref 108], w))) else val (195, d + 5, 67, [some (.ref 108), some (.int l1), none, none, none, none], [.int 40, .ref 108], w)) := by
  by_cases hc1210 : ¬ s0 = 0
  · refine ((val_if_ne rfl).trans (if_pos hc1210)).trans ?_
    show val (195, d + 5, 73, [some (.ref 108), some (.int l1), none, none, none, none], [], w) = _
    refine Eq.trans ?_ (if_pos hc1210).symm
    refine (val_g (c2 := (195, d + 5, 74, [some (.ref 108), some (.int l1), none, none, none, none], [.int 1], w)) rfl).trans ?_
    refine (val_g (c2 := (195, d + 5, 78, [some (.ref 108), some (.int l1), none, none, none, none], [.int 1], w)) rfl).trans ?_
    refine (val_g (c2 := (195, d + 5, 79, [some (.ref 108), some (.int l1), some (.int 1), none, none, none], [], w)) rfl).trans ?_
    refine (val_g (c2 := (195, d + 5, 80, [some (.ref 108), some (.int l1), some (.int 1), none, none, none], [.int 1], w)) rfl).trans ?_
    refine ((val_if_eq rfl).trans (if_neg (by decide))).trans ?_
    show val (195, d + 5, 83, [some (.ref 108), some (.int l1), some (.int 1), none, none, none], [], w) = _
    refine (val_g (c2 := (195, d + 5, 84, [some (.ref 108), some (.int l1), some (.int 1), none, none, none], [.int l1], w)) rfl).trans ?_
    refine (val_g (c2 := (195, d + 5, 86, [some (.ref 108), some (.int l1), some (.int 1), none, none, none], [.int 6, .int l1], w)) rfl).trans ?_
    by_cases hc1211 : l1 = 6
    · refine ((val_ic_eq rfl).trans (if_pos hc1211)).trans ?_
      show val (195, d + 5, 98, [some (.ref 108), some (.int l1), some (.int 1), none, none, none], [], w) = _
      refine Eq.trans ?_ (if_pos hc1211).symm
      refine (val_g (c2 := (195, d + 5, 99, [some (.ref 108), some (.int l1), some (.int 1), none, none, none], [.ref 108], w)) rfl).trans ?_
      rfl
    · refine ((val_ic_eq rfl).trans (if_neg hc1211)).trans ?_
      show val (195, d + 5, 89, [some (.ref 108), some (.int l1), some (.int 1), none, none, none], [], w) = _
      refine Eq.trans ?_ (if_neg hc1211).symm
      refine (val_g (c2 := (195, d + 5, 90, [some (.ref 108), some (.int l1), some (.int 1), none, none, none], [.ref 108], w)) rfl).trans ?_
      refine (val_gf rfl (hW.k 108 (Nat.le_of_ble_eq_true rfl) (Nat.le_of_ble_eq_true rfl)) rfl).trans ?_
      show val (195, d + 5, 93, [some (.ref 108), some (.int l1), some (.int 1), none, none, none], [.int (gI w 108 20)], w) = _
      refine (val_g (c2 := (195, d + 5, 95, [some (.ref 108), some (.int l1), some (.int 1), none, none, none], [.int 40, .int (gI w 108 20)], w)) rfl).trans ?_
      by_cases hc1212 : ¬ (gI w 108 20) = 40
      · refine ((val_ic_ne rfl).trans (if_pos hc1212)).trans ?_
        show val (195, d + 5, 102, [some (.ref 108), some (.int l1), some (.int 1), none, none, none], [], w) = _
        refine Eq.trans ?_ (if_pos hc1212).symm
        rfl
      · refine ((val_ic_ne rfl).trans (if_neg hc1212)).trans ?_
        show val (195, d + 5, 98, [some (.ref 108), some (.int l1), some (.int 1), none, none, none], [], w) = _
        refine Eq.trans ?_ (if_neg hc1212).symm
        refine (val_g (c2 := (195, d + 5, 99, [some (.ref 108), some (.int l1), some (.int 1), none, none, none], [.ref 108], w)) rfl).trans ?_
        rfl
  · refine ((val_if_ne rfl).trans (if_neg hc1210)).trans ?_
    show val (195, d + 5, 64, [some (.ref 108), some (.int l1), none, none, none, none], [], w) = _
    refine Eq.trans ?_ (if_neg hc1210).symm
    refine (val_g (c2 := (195, d + 5, 65, [some (.ref 108), some (.int l1), none, none, none, none], [.ref 108], w)) rfl).trans ?_
    refine (val_g (c2 := (195, d + 5, 67, [some (.ref 108), some (.int l1), none, none, none, none], [.int 40, .ref 108], w)) rfl).trans ?_
    rfl
theorem tr_195_70 (d : Nat) (w : Wd) (hW : Fix w) (l1 : Int32) (s0 : Int32)     : val (195, d + 5, 70, [some (.ref 108), some (.int l1), none, none, none, none], [.int s0], w) = (if s0 = 0 then val (195, d + 5, 99, [some (.ref 108), some (.int l1), some (.int 0), none, none, none], [.ref 108], w) else (if l1 = 6 then val (195, d + 5, 99, [some (.ref 108), some (.int l1), some (.int 1), none, none, none], [.ref 108], w) else (if ¬ (gI w 108 20) = 40 then val (195, d + 5, 102, [some (.ref 108), some (.int l1), some (.int 1), none, none, none], [], w) else val (195, d + 5, 99, [some (.ref 108), some (.int l1), some (.int 1), none, none, none], [.ref 108], w)))) := by
  by_cases hc1213 : s0 = 0
  · refine ((val_if_eq rfl).trans (if_pos hc1213)).trans ?_
    show val (195, d + 5, 77, [some (.ref 108), some (.int l1), none, none, none, none], [], w) = _
    refine Eq.trans ?_ (if_pos hc1213).symm
    refine (val_g (c2 := (195, d + 5, 78, [some (.ref 108), some (.int l1), none, none, none, none], [.int 0], w)) rfl).trans ?_
    refine (val_g (c2 := (195, d + 5, 79, [some (.ref 108), some (.int l1), some (.int 0), none, none, none], [], w)) rfl).trans ?_
    refine (val_g (c2 := (195, d + 5, 80, [some (.ref 108), some (.int l1), some (.int 0), none, none, none], [.int 0], w)) rfl).trans ?_
    refine ((val_if_eq rfl).trans (if_pos (by decide))).trans ?_
    show val (195, d + 5, 98, [some (.ref 108), some (.int l1), some (.int 0), none, none, none], [], w) = _
    refine (val_g (c2 := (195, d + 5, 99, [some (.ref 108), some (.int l1), some (.int 0), none, none, none], [.ref 108], w)) rfl).trans ?_
    rfl
  · refine ((val_if_eq rfl).trans (if_neg hc1213)).trans ?_
    show val (195, d + 5, 73, [some (.ref 108), some (.int l1), none, none, none, none], [], w) = _
    refine Eq.trans ?_ (if_neg hc1213).symm
    refine (val_g (c2 := (195, d + 5, 74, [some (.ref 108), some (.int l1), none, none, none, none], [.int 1], w)) rfl).trans ?_
    refine (val_g (c2 := (195, d + 5, 78, [some (.ref 108), some (.int l1), none, none, none, none], [.int 1], w)) rfl).trans ?_
    refine (val_g (c2 := (195, d + 5, 79, [some (.ref 108), some (.int l1), some (.int 1), none, none, none], [], w)) rfl).trans ?_
    refine (val_g (c2 := (195, d + 5, 80, [some (.ref 108), some (.int l1), some (.int 1), none, none, none], [.int 1], w)) rfl).trans ?_
    refine ((val_if_eq rfl).trans (if_neg (by decide))).trans ?_
    show val (195, d + 5, 83, [some (.ref 108), some (.int l1), some (.int 1), none, none, none], [], w) = _
    refine (val_g (c2 := (195, d + 5, 84, [some (.ref 108), some (.int l1), some (.int 1), none, none, none], [.int l1], w)) rfl).trans ?_
    refine (val_g (c2 := (195, d + 5, 86, [some (.ref 108), some (.int l1), some (.int 1), none, none, none], [.int 6, .int l1], w)) rfl).trans ?_
    by_cases hc1214 : l1 = 6
    · refine ((val_ic_eq rfl).trans (if_pos hc1214)).trans ?_
      show val (195, d + 5, 98, [some (.ref 108), some (.int l1), some (.int 1), none, none, none], [], w) = _
      refine Eq.trans ?_ (if_pos hc1214).symm
      refine (val_g (c2 := (195, d + 5, 99, [some (.ref 108), some (.int l1), some (.int 1), none, none, none], [.ref 108], w)) rfl).trans ?_
      rfl
    · refine ((val_ic_eq rfl).trans (if_neg hc1214)).trans ?_
      show val (195, d + 5, 89, [some (.ref 108), some (.int l1), some (.int 1), none, none, none], [], w) = _
      refine Eq.trans ?_ (if_neg hc1214).symm
      refine (val_g (c2 := (195, d + 5, 90, [some (.ref 108), some (.int l1), some (.int 1), none, none, none], [.ref 108], w)) rfl).trans ?_
      refine (val_gf rfl (hW.k 108 (Nat.le_of_ble_eq_true rfl) (Nat.le_of_ble_eq_true rfl)) rfl).trans ?_
      show val (195, d + 5, 93, [some (.ref 108), some (.int l1), some (.int 1), none, none, none], [.int (gI w 108 20)], w) = _
      refine (val_g (c2 := (195, d + 5, 95, [some (.ref 108), some (.int l1), some (.int 1), none, none, none], [.int 40, .int (gI w 108 20)], w)) rfl).trans ?_
      by_cases hc1215 : ¬ (gI w 108 20) = 40
      · refine ((val_ic_ne rfl).trans (if_pos hc1215)).trans ?_
        show val (195, d + 5, 102, [some (.ref 108), some (.int l1), some (.int 1), none, none, none], [], w) = _
        refine Eq.trans ?_ (if_pos hc1215).symm
        rfl
      · refine ((val_ic_ne rfl).trans (if_neg hc1215)).trans ?_
        show val (195, d + 5, 98, [some (.ref 108), some (.int l1), some (.int 1), none, none, none], [], w) = _
        refine Eq.trans ?_ (if_neg hc1215).symm
        refine (val_g (c2 := (195, d + 5, 99, [some (.ref 108), some (.int l1), some (.int 1), none, none, none], [.ref 108], w)) rfl).trans ?_
        rfl
theorem tr_195_102 (d : Nat) (w : Wd) (l1 : Int32) (l2 : Int32)     : val (195, d + 5, 102, [some (.ref 108), some (.int l1), some (.int l2), none, none, none], [], w) = val (195, d + 5, 103, [some (.ref 108), some (.int l1), some (.int l2), none, none, none], [.ref 108], w) := by
  refine (val_g (c2 := (195, d + 5, 103, [some (.ref 108), some (.int l1), some (.int l2), none, none, none], [.ref 108], w)) rfl).trans ?_
  rfl
theorem tr_195_106 (d : Nat) (w : Wd) (hW : Fix w) (l1 : Int32) (l2 : Int32) (s0 : Int32)    (hy1 : (¬ s0 = 0) → inB (((41 * (gI w 108 11)) + (gI w 108 20))) 369 = true) : val (195, d + 5, 106, [some (.ref 108), some (.int l1), some (.int l2), none, none, none], [.int s0], w) = (if ¬ s0 = 0 then val (195, d + 5, 158, [some (.ref 108), some (.int l1), some (.int l2), some (.int ((41 * (gI w 108 11)) + (gI w 108 20))), none, none], [.ref 11, .ref 108, .int ((41 * (gI w 108 11)) + (gI w 108 20)), .ref 121], (sI ((sI ((sI w 108 20 (((gI w 108 20) + 1)))) 124 (((41 * (gI w 108 11)) + (gI w 108 20))).toNatClampNeg ((-9)))) 125 (((41 * (gI w 108 11)) + (gI w 108 20))).toNatClampNeg ((-9)))) else some (some (.int 0), w)) := by
  by_cases hc1216 : ¬ s0 = 0
  · refine ((val_if_ne rfl).trans (if_pos hc1216)).trans ?_
    show val (195, d + 5, 111, [some (.ref 108), some (.int l1), some (.int l2), none, none, none], [], w) = _
    refine Eq.trans ?_ (if_pos hc1216).symm
    refine (val_g (c2 := (195, d + 5, 113, [some (.ref 108), some (.int l1), some (.int l2), none, none, none], [.int 41], w)) rfl).trans ?_
    refine (val_g (c2 := (195, d + 5, 114, [some (.ref 108), some (.int l1), some (.int l2), none, none, none], [.ref 108, .int 41], w)) rfl).trans ?_
    refine (val_gf rfl (hW.k 108 (Nat.le_of_ble_eq_true rfl) (Nat.le_of_ble_eq_true rfl)) rfl).trans ?_
    show val (195, d + 5, 117, [some (.ref 108), some (.int l1), some (.int l2), none, none, none], [.int (gI w 108 11), .int 41], w) = _
    refine (val_g (c2 := (195, d + 5, 118, [some (.ref 108), some (.int l1), some (.int l2), none, none, none], [.int (41 * (gI w 108 11))], w)) rfl).trans ?_
    refine (val_g (c2 := (195, d + 5, 119, [some (.ref 108), some (.int l1), some (.int l2), none, none, none], [.ref 108, .int (41 * (gI w 108 11))], w)) rfl).trans ?_
    refine (val_gf rfl (hW.k 108 (Nat.le_of_ble_eq_true rfl) (Nat.le_of_ble_eq_true rfl)) rfl).trans ?_
    show val (195, d + 5, 122, [some (.ref 108), some (.int l1), some (.int l2), none, none, none], [.int (gI w 108 20), .int (41 * (gI w 108 11))], w) = _
    refine (val_g (c2 := (195, d + 5, 123, [some (.ref 108), some (.int l1), some (.int l2), none, none, none], [.int ((41 * (gI w 108 11)) + (gI w 108 20))], w)) rfl).trans ?_
    refine (val_g (c2 := (195, d + 5, 124, [some (.ref 108), some (.int l1), some (.int l2), some (.int ((41 * (gI w 108 11)) + (gI w 108 20))), none, none], [], w)) rfl).trans ?_
    refine (val_g (c2 := (195, d + 5, 125, [some (.ref 108), some (.int l1), some (.int l2), some (.int ((41 * (gI w 108 11)) + (gI w 108 20))), none, none], [.ref 108], w)) rfl).trans ?_
    refine (val_g (c2 := (195, d + 5, 126, [some (.ref 108), some (.int l1), some (.int l2), some (.int ((41 * (gI w 108 11)) + (gI w 108 20))), none, none], [.ref 108, .ref 108], w)) rfl).trans ?_
    refine (val_gf rfl (hW.k 108 (Nat.le_of_ble_eq_true rfl) (Nat.le_of_ble_eq_true rfl)) rfl).trans ?_
    show val (195, d + 5, 129, [some (.ref 108), some (.int l1), some (.int l2), some (.int ((41 * (gI w 108 11)) + (gI w 108 20))), none, none], [.int (gI w 108 20), .ref 108], w) = _
    refine (val_g (c2 := (195, d + 5, 130, [some (.ref 108), some (.int l1), some (.int l2), some (.int ((41 * (gI w 108 11)) + (gI w 108 20))), none, none], [.int 1, .int (gI w 108 20), .ref 108], w)) rfl).trans ?_
    refine (val_g (c2 := (195, d + 5, 131, [some (.ref 108), some (.int l1), some (.int l2), some (.int ((41 * (gI w 108 11)) + (gI w 108 20))), none, none], [.int ((gI w 108 20) + 1), .ref 108], w)) rfl).trans ?_
    refine (val_pf rfl (hW.k 108 (Nat.le_of_ble_eq_true rfl) (Nat.le_of_ble_eq_true rfl)) rfl).trans ?_
    show val (195, d + 5, 134, [some (.ref 108), some (.int l1), some (.int l2), some (.int ((41 * (gI w 108 11)) + (gI w 108 20))), none, none], [], (sI w 108 20 (((gI w 108 20) + 1)))) = _
    refine (val_g (c2 := (195, d + 5, 135, [some (.ref 108), some (.int l1), some (.int l2), some (.int ((41 * (gI w 108 11)) + (gI w 108 20))), none, none], [.ref 108], (sI w 108 20 (((gI w 108 20) + 1))))) rfl).trans ?_
    refine (val_gf (w := (sI w 108 20 (((gI w 108 20) + 1)))) rfl (hW.k 108 (Nat.le_of_ble_eq_true rfl) (Nat.le_of_ble_eq_true rfl)) (fvR (hW.r 108 24 124 rfl))).trans ?_
    show val (195, d + 5, 138, [some (.ref 108), some (.int l1), some (.int l2), some (.int ((41 * (gI w 108 11)) + (gI w 108 20))), none, none], [.ref 124], (sI w 108 20 (((gI w 108 20) + 1)))) = _
    refine (val_g (c2 := (195, d + 5, 139, [some (.ref 108), some (.int l1), some (.int l2), some (.int ((41 * (gI w 108 11)) + (gI w 108 20))), none, none], [.int ((41 * (gI w 108 11)) + (gI w 108 20)), .ref 124], (sI w 108 20 (((gI w 108 20) + 1))))) rfl).trans ?_
    refine (val_g (c2 := (195, d + 5, 141, [some (.ref 108), some (.int l1), some (.int l2), some (.int ((41 * (gI w 108 11)) + (gI w 108 20))), none, none], [.int (-9), .int ((41 * (gI w 108 11)) + (gI w 108 20)), .ref 124], (sI w 108 20 (((gI w 108 20) + 1))))) rfl).trans ?_
    refine (val_ias (w := (sI w 108 20 (((gI w 108 20) + 1)))) rfl (hW.k 124 (Nat.le_of_ble_eq_true rfl) (Nat.le_of_ble_eq_true rfl)) (hy1 hc1216)).trans ?_
    show val (195, d + 5, 142, [some (.ref 108), some (.int l1), some (.int l2), some (.int ((41 * (gI w 108 11)) + (gI w 108 20))), none, none], [], (sI ((sI w 108 20 (((gI w 108 20) + 1)))) 124 (((41 * (gI w 108 11)) + (gI w 108 20))).toNatClampNeg ((-9)))) = _
    refine (val_g (c2 := (195, d + 5, 143, [some (.ref 108), some (.int l1), some (.int l2), some (.int ((41 * (gI w 108 11)) + (gI w 108 20))), none, none], [.ref 108], (sI ((sI w 108 20 (((gI w 108 20) + 1)))) 124 (((41 * (gI w 108 11)) + (gI w 108 20))).toNatClampNeg ((-9))))) rfl).trans ?_
    refine (val_gf (w := (sI ((sI w 108 20 (((gI w 108 20) + 1)))) 124 (((41 * (gI w 108 11)) + (gI w 108 20))).toNatClampNeg ((-9)))) rfl (hW.k 108 (Nat.le_of_ble_eq_true rfl) (Nat.le_of_ble_eq_true rfl)) (fvR (hW.r 108 25 125 rfl))).trans ?_
    show val (195, d + 5, 146, [some (.ref 108), some (.int l1), some (.int l2), some (.int ((41 * (gI w 108 11)) + (gI w 108 20))), none, none], [.ref 125], (sI ((sI w 108 20 (((gI w 108 20) + 1)))) 124 (((41 * (gI w 108 11)) + (gI w 108 20))).toNatClampNeg ((-9)))) = _
    refine (val_g (c2 := (195, d + 5, 147, [some (.ref 108), some (.int l1), some (.int l2), some (.int ((41 * (gI w 108 11)) + (gI w 108 20))), none, none], [.int ((41 * (gI w 108 11)) + (gI w 108 20)), .ref 125], (sI ((sI w 108 20 (((gI w 108 20) + 1)))) 124 (((41 * (gI w 108 11)) + (gI w 108 20))).toNatClampNeg ((-9))))) rfl).trans ?_
    refine (val_g (c2 := (195, d + 5, 149, [some (.ref 108), some (.int l1), some (.int l2), some (.int ((41 * (gI w 108 11)) + (gI w 108 20))), none, none], [.int (-9), .int ((41 * (gI w 108 11)) + (gI w 108 20)), .ref 125], (sI ((sI w 108 20 (((gI w 108 20) + 1)))) 124 (((41 * (gI w 108 11)) + (gI w 108 20))).toNatClampNeg ((-9))))) rfl).trans ?_
    refine (val_ias (w := (sI ((sI w 108 20 (((gI w 108 20) + 1)))) 124 (((41 * (gI w 108 11)) + (gI w 108 20))).toNatClampNeg ((-9)))) rfl (hW.k 125 (Nat.le_of_ble_eq_true rfl) (Nat.le_of_ble_eq_true rfl)) (hy1 hc1216)).trans ?_
    show val (195, d + 5, 150, [some (.ref 108), some (.int l1), some (.int l2), some (.int ((41 * (gI w 108 11)) + (gI w 108 20))), none, none], [], (sI ((sI ((sI w 108 20 (((gI w 108 20) + 1)))) 124 (((41 * (gI w 108 11)) + (gI w 108 20))).toNatClampNeg ((-9)))) 125 (((41 * (gI w 108 11)) + (gI w 108 20))).toNatClampNeg ((-9)))) = _
    refine (val_g (c2 := (195, d + 5, 151, [some (.ref 108), some (.int l1), some (.int l2), some (.int ((41 * (gI w 108 11)) + (gI w 108 20))), none, none], [.ref 108], (sI ((sI ((sI w 108 20 (((gI w 108 20) + 1)))) 124 (((41 * (gI w 108 11)) + (gI w 108 20))).toNatClampNeg ((-9)))) 125 (((41 * (gI w 108 11)) + (gI w 108 20))).toNatClampNeg ((-9))))) rfl).trans ?_
    refine (val_gf (w := (sI ((sI ((sI w 108 20 (((gI w 108 20) + 1)))) 124 (((41 * (gI w 108 11)) + (gI w 108 20))).toNatClampNeg ((-9)))) 125 (((41 * (gI w 108 11)) + (gI w 108 20))).toNatClampNeg ((-9)))) rfl (hW.k 108 (Nat.le_of_ble_eq_true rfl) (Nat.le_of_ble_eq_true rfl)) (fvR (hW.r 108 21 121 rfl))).trans ?_
    show val (195, d + 5, 154, [some (.ref 108), some (.int l1), some (.int l2), some (.int ((41 * (gI w 108 11)) + (gI w 108 20))), none, none], [.ref 121], (sI ((sI ((sI w 108 20 (((gI w 108 20) + 1)))) 124 (((41 * (gI w 108 11)) + (gI w 108 20))).toNatClampNeg ((-9)))) 125 (((41 * (gI w 108 11)) + (gI w 108 20))).toNatClampNeg ((-9)))) = _
    refine (val_g (c2 := (195, d + 5, 155, [some (.ref 108), some (.int l1), some (.int l2), some (.int ((41 * (gI w 108 11)) + (gI w 108 20))), none, none], [.int ((41 * (gI w 108 11)) + (gI w 108 20)), .ref 121], (sI ((sI ((sI w 108 20 (((gI w 108 20) + 1)))) 124 (((41 * (gI w 108 11)) + (gI w 108 20))).toNatClampNeg ((-9)))) 125 (((41 * (gI w 108 11)) + (gI w 108 20))).toNatClampNeg ((-9))))) rfl).trans ?_
    refine (val_g (c2 := (195, d + 5, 156, [some (.ref 108), some (.int l1), some (.int l2), some (.int ((41 * (gI w 108 11)) + (gI w 108 20))), none, none], [.ref 108, .int ((41 * (gI w 108 11)) + (gI w 108 20)), .ref 121], (sI ((sI ((sI w 108 20 (((gI w 108 20) + 1)))) 124 (((41 * (gI w 108 11)) + (gI w 108 20))).toNatClampNeg ((-9)))) 125 (((41 * (gI w 108 11)) + (gI w 108 20))).toNatClampNeg ((-9))))) rfl).trans ?_
    refine (val_g (c2 := (195, d + 5, 158, [some (.ref 108), some (.int l1), some (.int l2), some (.int ((41 * (gI w 108 11)) + (gI w 108 20))), none, none], [.ref 11, .ref 108, .int ((41 * (gI w 108 11)) + (gI w 108 20)), .ref 121], (sI ((sI ((sI w 108 20 (((gI w 108 20) + 1)))) 124 (((41 * (gI w 108 11)) + (gI w 108 20))).toNatClampNeg ((-9)))) 125 (((41 * (gI w 108 11)) + (gI w 108 20))).toNatClampNeg ((-9))))) rfl).trans ?_
    rfl
  · refine ((val_if_ne rfl).trans (if_neg hc1216)).trans ?_
    show val (195, d + 5, 109, [some (.ref 108), some (.int l1), some (.int l2), none, none, none], [], w) = _
    refine Eq.trans ?_ (if_neg hc1216).symm
    refine (val_g (c2 := (195, d + 5, 110, [some (.ref 108), some (.int l1), some (.int l2), none, none, none], [.int 0], w)) rfl).trans ?_
    exact val_r rfl
theorem tr_195_161 (d : Nat) (w : Wd) (hW : Fix w) (l1 : Int32) (l2 : Int32) (l3 : Int32) (s0 : Int32) (s1 : Int32)    (hy1 : (¬ (s0 = 0)) → inB s1 369 = true) : val (195, d + 5, 161, [some (.ref 108), some (.int l1), some (.int l2), some (.int l3), none, none], [.int s0, .int s1, .ref 121], w) = (if s0 = 0 then val (195, d + 5, 171, [some (.ref 108), some (.int l1), some (.int l2), some (.int l3), none, none], [.ref 12, .ref 108, .int s1, .ref 121], w) else val (195, d + 5, 252, [some (.ref 108), some (.int l1), some (.int l2), some (.int l3), none, none], [.ref 108], (sI w 121 (s1).toNatClampNeg 0))) := by
  by_cases hc1217 : s0 = 0
  · refine ((val_if_eq rfl).trans (if_pos hc1217)).trans ?_
    show val (195, d + 5, 168, [some (.ref 108), some (.int l1), some (.int l2), some (.int l3), none, none], [.int s1, .ref 121], w) = _
    refine Eq.trans ?_ (if_pos hc1217).symm
    refine (val_g (c2 := (195, d + 5, 169, [some (.ref 108), some (.int l1), some (.int l2), some (.int l3), none, none], [.ref 108, .int s1, .ref 121], w)) rfl).trans ?_
    refine (val_g (c2 := (195, d + 5, 171, [some (.ref 108), some (.int l1), some (.int l2), some (.int l3), none, none], [.ref 12, .ref 108, .int s1, .ref 121], w)) rfl).trans ?_
    rfl
  · refine ((val_if_eq rfl).trans (if_neg hc1217)).trans ?_
    show val (195, d + 5, 164, [some (.ref 108), some (.int l1), some (.int l2), some (.int l3), none, none], [.int s1, .ref 121], w) = _
    refine Eq.trans ?_ (if_neg hc1217).symm
    refine (val_g (c2 := (195, d + 5, 165, [some (.ref 108), some (.int l1), some (.int l2), some (.int l3), none, none], [.int 0, .int s1, .ref 121], w)) rfl).trans ?_
    refine (val_g (c2 := (195, d + 5, 250, [some (.ref 108), some (.int l1), some (.int l2), some (.int l3), none, none], [.int 0, .int s1, .ref 121], w)) rfl).trans ?_
    refine (val_ias rfl (hW.k 121 (Nat.le_of_ble_eq_true rfl) (Nat.le_of_ble_eq_true rfl)) (hy1 hc1217)).trans ?_
    show val (195, d + 5, 251, [some (.ref 108), some (.int l1), some (.int l2), some (.int l3), none, none], [], (sI w 121 (s1).toNatClampNeg 0)) = _
    refine (val_g (c2 := (195, d + 5, 252, [some (.ref 108), some (.int l1), some (.int l2), some (.int l3), none, none], [.ref 108], (sI w 121 (s1).toNatClampNeg 0))) rfl).trans ?_
    rfl
theorem tr_195_174 (d : Nat) (w : Wd) (hW : Fix w) (l1 : Int32) (l2 : Int32) (l3 : Int32) (s0 : Int32) (s1 : Int32)    (hy1 : (¬ (s0 = 0)) → inB s1 369 = true) : val (195, d + 5, 174, [some (.ref 108), some (.int l1), some (.int l2), some (.int l3), none, none], [.int s0, .int s1, .ref 121], w) = (if s0 = 0 then val (195, d + 5, 184, [some (.ref 108), some (.int l1), some (.int l2), some (.int l3), none, none], [.ref 13, .ref 108, .int s1, .ref 121], w) else val (195, d + 5, 252, [some (.ref 108), some (.int l1), some (.int l2), some (.int l3), none, none], [.ref 108], (sI w 121 (s1).toNatClampNeg 1))) := by
  by_cases hc1218 : s0 = 0
  · refine ((val_if_eq rfl).trans (if_pos hc1218)).trans ?_
    show val (195, d + 5, 181, [some (.ref 108), some (.int l1), some (.int l2), some (.int l3), none, none], [.int s1, .ref 121], w) = _
    refine Eq.trans ?_ (if_pos hc1218).symm
    refine (val_g (c2 := (195, d + 5, 182, [some (.ref 108), some (.int l1), some (.int l2), some (.int l3), none, none], [.ref 108, .int s1, .ref 121], w)) rfl).trans ?_
    refine (val_g (c2 := (195, d + 5, 184, [some (.ref 108), some (.int l1), some (.int l2), some (.int l3), none, none], [.ref 13, .ref 108, .int s1, .ref 121], w)) rfl).trans ?_
    rfl
  · refine ((val_if_eq rfl).trans (if_neg hc1218)).trans ?_
    show val (195, d + 5, 177, [some (.ref 108), some (.int l1), some (.int l2), some (.int l3), none, none], [.int s1, .ref 121], w) = _
    refine Eq.trans ?_ (if_neg hc1218).symm
    refine (val_g (c2 := (195, d + 5, 178, [some (.ref 108), some (.int l1), some (.int l2), some (.int l3), none, none], [.int 1, .int s1, .ref 121], w)) rfl).trans ?_
    refine (val_g (c2 := (195, d + 5, 250, [some (.ref 108), some (.int l1), some (.int l2), some (.int l3), none, none], [.int 1, .int s1, .ref 121], w)) rfl).trans ?_
    refine (val_ias rfl (hW.k 121 (Nat.le_of_ble_eq_true rfl) (Nat.le_of_ble_eq_true rfl)) (hy1 hc1218)).trans ?_
    show val (195, d + 5, 251, [some (.ref 108), some (.int l1), some (.int l2), some (.int l3), none, none], [], (sI w 121 (s1).toNatClampNeg 1)) = _
    refine (val_g (c2 := (195, d + 5, 252, [some (.ref 108), some (.int l1), some (.int l2), some (.int l3), none, none], [.ref 108], (sI w 121 (s1).toNatClampNeg 1))) rfl).trans ?_
    rfl
theorem tr_195_187 (d : Nat) (w : Wd) (hW : Fix w) (l1 : Int32) (l2 : Int32) (l3 : Int32) (s0 : Int32) (s1 : Int32)    (hy1 : (¬ (s0 = 0)) → inB s1 369 = true) : val (195, d + 5, 187, [some (.ref 108), some (.int l1), some (.int l2), some (.int l3), none, none], [.int s0, .int s1, .ref 121], w) = (if s0 = 0 then val (195, d + 5, 197, [some (.ref 108), some (.int l1), some (.int l2), some (.int l3), none, none], [.ref 14, .ref 108, .int s1, .ref 121], w) else val (195, d + 5, 252, [some (.ref 108), some (.int l1), some (.int l2), some (.int l3), none, none], [.ref 108], (sI w 121 (s1).toNatClampNeg 2))) := by
  by_cases hc1219 : s0 = 0
  · refine ((val_if_eq rfl).trans (if_pos hc1219)).trans ?_
    show val (195, d + 5, 194, [some (.ref 108), some (.int l1), some (.int l2), some (.int l3), none, none], [.int s1, .ref 121], w) = _
    refine Eq.trans ?_ (if_pos hc1219).symm
    refine (val_g (c2 := (195, d + 5, 195, [some (.ref 108), some (.int l1), some (.int l2), some (.int l3), none, none], [.ref 108, .int s1, .ref 121], w)) rfl).trans ?_
    refine (val_g (c2 := (195, d + 5, 197, [some (.ref 108), some (.int l1), some (.int l2), some (.int l3), none, none], [.ref 14, .ref 108, .int s1, .ref 121], w)) rfl).trans ?_
    rfl
  · refine ((val_if_eq rfl).trans (if_neg hc1219)).trans ?_
    show val (195, d + 5, 190, [some (.ref 108), some (.int l1), some (.int l2), some (.int l3), none, none], [.int s1, .ref 121], w) = _
    refine Eq.trans ?_ (if_neg hc1219).symm
    refine (val_g (c2 := (195, d + 5, 191, [some (.ref 108), some (.int l1), some (.int l2), some (.int l3), none, none], [.int 2, .int s1, .ref 121], w)) rfl).trans ?_
    refine (val_g (c2 := (195, d + 5, 250, [some (.ref 108), some (.int l1), some (.int l2), some (.int l3), none, none], [.int 2, .int s1, .ref 121], w)) rfl).trans ?_
    refine (val_ias rfl (hW.k 121 (Nat.le_of_ble_eq_true rfl) (Nat.le_of_ble_eq_true rfl)) (hy1 hc1219)).trans ?_
    show val (195, d + 5, 251, [some (.ref 108), some (.int l1), some (.int l2), some (.int l3), none, none], [], (sI w 121 (s1).toNatClampNeg 2)) = _
    refine (val_g (c2 := (195, d + 5, 252, [some (.ref 108), some (.int l1), some (.int l2), some (.int l3), none, none], [.ref 108], (sI w 121 (s1).toNatClampNeg 2))) rfl).trans ?_
    rfl
theorem tr_195_200 (d : Nat) (w : Wd) (hW : Fix w) (l1 : Int32) (l2 : Int32) (l3 : Int32) (s0 : Int32) (s1 : Int32)    (hy1 : (¬ (s0 = 0)) → inB s1 369 = true) : val (195, d + 5, 200, [some (.ref 108), some (.int l1), some (.int l2), some (.int l3), none, none], [.int s0, .int s1, .ref 121], w) = (if s0 = 0 then val (195, d + 5, 210, [some (.ref 108), some (.int l1), some (.int l2), some (.int l3), none, none], [.ref 15, .ref 108, .int s1, .ref 121], w) else val (195, d + 5, 252, [some (.ref 108), some (.int l1), some (.int l2), some (.int l3), none, none], [.ref 108], (sI w 121 (s1).toNatClampNeg 3))) := by
  by_cases hc1220 : s0 = 0
  · refine ((val_if_eq rfl).trans (if_pos hc1220)).trans ?_
    show val (195, d + 5, 207, [some (.ref 108), some (.int l1), some (.int l2), some (.int l3), none, none], [.int s1, .ref 121], w) = _
    refine Eq.trans ?_ (if_pos hc1220).symm
    refine (val_g (c2 := (195, d + 5, 208, [some (.ref 108), some (.int l1), some (.int l2), some (.int l3), none, none], [.ref 108, .int s1, .ref 121], w)) rfl).trans ?_
    refine (val_g (c2 := (195, d + 5, 210, [some (.ref 108), some (.int l1), some (.int l2), some (.int l3), none, none], [.ref 15, .ref 108, .int s1, .ref 121], w)) rfl).trans ?_
    rfl
  · refine ((val_if_eq rfl).trans (if_neg hc1220)).trans ?_
    show val (195, d + 5, 203, [some (.ref 108), some (.int l1), some (.int l2), some (.int l3), none, none], [.int s1, .ref 121], w) = _
    refine Eq.trans ?_ (if_neg hc1220).symm
    refine (val_g (c2 := (195, d + 5, 204, [some (.ref 108), some (.int l1), some (.int l2), some (.int l3), none, none], [.int 3, .int s1, .ref 121], w)) rfl).trans ?_
    refine (val_g (c2 := (195, d + 5, 250, [some (.ref 108), some (.int l1), some (.int l2), some (.int l3), none, none], [.int 3, .int s1, .ref 121], w)) rfl).trans ?_
    refine (val_ias rfl (hW.k 121 (Nat.le_of_ble_eq_true rfl) (Nat.le_of_ble_eq_true rfl)) (hy1 hc1220)).trans ?_
    show val (195, d + 5, 251, [some (.ref 108), some (.int l1), some (.int l2), some (.int l3), none, none], [], (sI w 121 (s1).toNatClampNeg 3)) = _
    refine (val_g (c2 := (195, d + 5, 252, [some (.ref 108), some (.int l1), some (.int l2), some (.int l3), none, none], [.ref 108], (sI w 121 (s1).toNatClampNeg 3))) rfl).trans ?_
    rfl
theorem tr_195_213 (d : Nat) (w : Wd) (hW : Fix w) (l1 : Int32) (l2 : Int32) (l3 : Int32) (s0 : Int32) (s1 : Int32)    (hy1 : (¬ (s0 = 0)) → inB s1 369 = true) : val (195, d + 5, 213, [some (.ref 108), some (.int l1), some (.int l2), some (.int l3), none, none], [.int s0, .int s1, .ref 121], w) = (if s0 = 0 then val (195, d + 5, 223, [some (.ref 108), some (.int l1), some (.int l2), some (.int l3), none, none], [.ref 16, .ref 108, .int s1, .ref 121], w) else val (195, d + 5, 252, [some (.ref 108), some (.int l1), some (.int l2), some (.int l3), none, none], [.ref 108], (sI w 121 (s1).toNatClampNeg 4))) := by
  by_cases hc1221 : s0 = 0
  · refine ((val_if_eq rfl).trans (if_pos hc1221)).trans ?_
    show val (195, d + 5, 220, [some (.ref 108), some (.int l1), some (.int l2), some (.int l3), none, none], [.int s1, .ref 121], w) = _
    refine Eq.trans ?_ (if_pos hc1221).symm
    refine (val_g (c2 := (195, d + 5, 221, [some (.ref 108), some (.int l1), some (.int l2), some (.int l3), none, none], [.ref 108, .int s1, .ref 121], w)) rfl).trans ?_
    refine (val_g (c2 := (195, d + 5, 223, [some (.ref 108), some (.int l1), some (.int l2), some (.int l3), none, none], [.ref 16, .ref 108, .int s1, .ref 121], w)) rfl).trans ?_
    rfl
  · refine ((val_if_eq rfl).trans (if_neg hc1221)).trans ?_
    show val (195, d + 5, 216, [some (.ref 108), some (.int l1), some (.int l2), some (.int l3), none, none], [.int s1, .ref 121], w) = _
    refine Eq.trans ?_ (if_neg hc1221).symm
    refine (val_g (c2 := (195, d + 5, 217, [some (.ref 108), some (.int l1), some (.int l2), some (.int l3), none, none], [.int 4, .int s1, .ref 121], w)) rfl).trans ?_
    refine (val_g (c2 := (195, d + 5, 250, [some (.ref 108), some (.int l1), some (.int l2), some (.int l3), none, none], [.int 4, .int s1, .ref 121], w)) rfl).trans ?_
    refine (val_ias rfl (hW.k 121 (Nat.le_of_ble_eq_true rfl) (Nat.le_of_ble_eq_true rfl)) (hy1 hc1221)).trans ?_
    show val (195, d + 5, 251, [some (.ref 108), some (.int l1), some (.int l2), some (.int l3), none, none], [], (sI w 121 (s1).toNatClampNeg 4)) = _
    refine (val_g (c2 := (195, d + 5, 252, [some (.ref 108), some (.int l1), some (.int l2), some (.int l3), none, none], [.ref 108], (sI w 121 (s1).toNatClampNeg 4))) rfl).trans ?_
    rfl
theorem tr_195_226 (d : Nat) (w : Wd) (hW : Fix w) (l1 : Int32) (l2 : Int32) (l3 : Int32) (s0 : Int32) (s1 : Int32)    (hy1 : (¬ (s0 = 0)) → inB s1 369 = true) : val (195, d + 5, 226, [some (.ref 108), some (.int l1), some (.int l2), some (.int l3), none, none], [.int s0, .int s1, .ref 121], w) = (if s0 = 0 then val (195, d + 5, 237, [some (.ref 108), some (.int l1), some (.int l2), some (.int l3), none, none], [.ref 17, .ref 108, .int s1, .ref 121], w) else val (195, d + 5, 252, [some (.ref 108), some (.int l1), some (.int l2), some (.int l3), none, none], [.ref 108], (sI w 121 (s1).toNatClampNeg 5))) := by
  by_cases hc1222 : s0 = 0
  · refine ((val_if_eq rfl).trans (if_pos hc1222)).trans ?_
    show val (195, d + 5, 233, [some (.ref 108), some (.int l1), some (.int l2), some (.int l3), none, none], [.int s1, .ref 121], w) = _
    refine Eq.trans ?_ (if_pos hc1222).symm
    refine (val_g (c2 := (195, d + 5, 234, [some (.ref 108), some (.int l1), some (.int l2), some (.int l3), none, none], [.ref 108, .int s1, .ref 121], w)) rfl).trans ?_
    refine (val_g (c2 := (195, d + 5, 237, [some (.ref 108), some (.int l1), some (.int l2), some (.int l3), none, none], [.ref 17, .ref 108, .int s1, .ref 121], w)) rfl).trans ?_
    rfl
  · refine ((val_if_eq rfl).trans (if_neg hc1222)).trans ?_
    show val (195, d + 5, 229, [some (.ref 108), some (.int l1), some (.int l2), some (.int l3), none, none], [.int s1, .ref 121], w) = _
    refine Eq.trans ?_ (if_neg hc1222).symm
    refine (val_g (c2 := (195, d + 5, 230, [some (.ref 108), some (.int l1), some (.int l2), some (.int l3), none, none], [.int 5, .int s1, .ref 121], w)) rfl).trans ?_
    refine (val_g (c2 := (195, d + 5, 250, [some (.ref 108), some (.int l1), some (.int l2), some (.int l3), none, none], [.int 5, .int s1, .ref 121], w)) rfl).trans ?_
    refine (val_ias rfl (hW.k 121 (Nat.le_of_ble_eq_true rfl) (Nat.le_of_ble_eq_true rfl)) (hy1 hc1222)).trans ?_
    show val (195, d + 5, 251, [some (.ref 108), some (.int l1), some (.int l2), some (.int l3), none, none], [], (sI w 121 (s1).toNatClampNeg 5)) = _
    refine (val_g (c2 := (195, d + 5, 252, [some (.ref 108), some (.int l1), some (.int l2), some (.int l3), none, none], [.ref 108], (sI w 121 (s1).toNatClampNeg 5))) rfl).trans ?_
    rfl
theorem tr_195_240 (d : Nat) (w : Wd) (hW : Fix w) (l1 : Int32) (l2 : Int32) (l3 : Int32) (s0 : Int32) (s1 : Int32)    (hy1 : (s0 = 0) → inB s1 369 = true) (hy2 : (¬ (s0 = 0)) → inB s1 369 = true) : val (195, d + 5, 240, [some (.ref 108), some (.int l1), some (.int l2), some (.int l3), none, none], [.int s0, .int s1, .ref 121], w) = (if s0 = 0 then val (195, d + 5, 252, [some (.ref 108), some (.int l1), some (.int l2), some (.int l3), none, none], [.ref 108], (sI w 121 (s1).toNatClampNeg 7)) else val (195, d + 5, 252, [some (.ref 108), some (.int l1), some (.int l2), some (.int l3), none, none], [.ref 108], (sI w 121 (s1).toNatClampNeg 6))) := by
  by_cases hc1223 : s0 = 0
  · refine ((val_if_eq rfl).trans (if_pos hc1223)).trans ?_
    show val (195, d + 5, 248, [some (.ref 108), some (.int l1), some (.int l2), some (.int l3), none, none], [.int s1, .ref 121], w) = _
    refine Eq.trans ?_ (if_pos hc1223).symm
    refine (val_g (c2 := (195, d + 5, 250, [some (.ref 108), some (.int l1), some (.int l2), some (.int l3), none, none], [.int 7, .int s1, .ref 121], w)) rfl).trans ?_
    refine (val_ias rfl (hW.k 121 (Nat.le_of_ble_eq_true rfl) (Nat.le_of_ble_eq_true rfl)) (hy1 hc1223)).trans ?_
    show val (195, d + 5, 251, [some (.ref 108), some (.int l1), some (.int l2), some (.int l3), none, none], [], (sI w 121 (s1).toNatClampNeg 7)) = _
    refine (val_g (c2 := (195, d + 5, 252, [some (.ref 108), some (.int l1), some (.int l2), some (.int l3), none, none], [.ref 108], (sI w 121 (s1).toNatClampNeg 7))) rfl).trans ?_
    rfl
  · refine ((val_if_eq rfl).trans (if_neg hc1223)).trans ?_
    show val (195, d + 5, 243, [some (.ref 108), some (.int l1), some (.int l2), some (.int l3), none, none], [.int s1, .ref 121], w) = _
    refine Eq.trans ?_ (if_neg hc1223).symm
    refine (val_g (c2 := (195, d + 5, 245, [some (.ref 108), some (.int l1), some (.int l2), some (.int l3), none, none], [.int 6, .int s1, .ref 121], w)) rfl).trans ?_
    refine (val_g (c2 := (195, d + 5, 250, [some (.ref 108), some (.int l1), some (.int l2), some (.int l3), none, none], [.int 6, .int s1, .ref 121], w)) rfl).trans ?_
    refine (val_ias rfl (hW.k 121 (Nat.le_of_ble_eq_true rfl) (Nat.le_of_ble_eq_true rfl)) (hy2 hc1223)).trans ?_
    show val (195, d + 5, 251, [some (.ref 108), some (.int l1), some (.int l2), some (.int l3), none, none], [], (sI w 121 (s1).toNatClampNeg 6)) = _
    refine (val_g (c2 := (195, d + 5, 252, [some (.ref 108), some (.int l1), some (.int l2), some (.int l3), none, none], [.ref 108], (sI w 121 (s1).toNatClampNeg 6))) rfl).trans ?_
    rfl
theorem tr_195_255 (d : Nat) (w : Wd) (hW : Fix w) (l1 : Int32) (l2 : Int32) (l3 : Int32)    (hy1 : inB l3 369 = true) (hy2 : (¬ (gI w 121 (l3).toNatClampNeg) = 1) → inB l3 369 = true) (hy3 : (¬ (gI w 121 (l3).toNatClampNeg) = 1) → (¬ ((gI w 121 (l3).toNatClampNeg) = 2)) → inB l3 369 = true) (hy4 : (¬ (gI w 121 (l3).toNatClampNeg) = 1) → (¬ ((gI w 121 (l3).toNatClampNeg) = 2)) → (¬ (gI w 121 (l3).toNatClampNeg) = 3) → inB l3 369 = true) (hy5 : (¬ (gI w 121 (l3).toNatClampNeg) = 1) → (¬ ((gI w 121 (l3).toNatClampNeg) = 2)) → (¬ (gI w 121 (l3).toNatClampNeg) = 3) → (¬ ((gI w 121 (l3).toNatClampNeg) = 5)) → inB l3 369 = true) (hy6 : (¬ (gI w 121 (l3).toNatClampNeg) = 1) → (¬ ((gI w 121 (l3).toNatClampNeg) = 2)) → (¬ (gI w 121 (l3).toNatClampNeg) = 3) → (¬ ((gI w 121 (l3).toNatClampNeg) = 5)) → (¬ (gI w 121 (l3).toNatClampNeg) = 6) → inB l3 369 = true) : val (195, d + 5, 255, [some (.ref 108), some (.int l1), some (.int l2), some (.int l3), none, none], [], w) = (if ¬ (gI w 121 (l3).toNatClampNeg) = 1 then (if (gI w 121 (l3).toNatClampNeg) = 2 then val (195, d + 5, 327, [some (.ref 108), some (.int l1), some (.int l2), some (.int l3), none, none], [.int (gI w 108 0), .int 1, .ref 108, .int l3, .ref 122], w) else (if ¬ (gI w 121 (l3).toNatClampNeg) = 3 then (if (gI w 121 (l3).toNatClampNeg) = 5 then val (195, d + 5, 429, [some (.ref 108), some (.int l1), some (.int l2), some (.int l3), none, none], [.int (l1 + 1), .ref 108], w) else (if ¬ (gI w 121 (l3).toNatClampNeg) = 6 then (if ¬ (gI w 121 (l3).toNatClampNeg) = 7 then val (195, d + 5, 524, [some (.ref 108), some (.int l1), some (.int l2), some (.int l3), none, none], [], w) else val (195, d + 5, 460, [some (.ref 108), some (.int l1), some (.int l2), some (.int l3), none, none], [.int (l1 + 1), .ref 108], w)) else val (195, d + 5, 429, [some (.ref 108), some (.int l1), some (.int l2), some (.int l3), none, none], [.int (l1 + 1), .ref 108], w))) else val (195, d + 5, 327, [some (.ref 108), some (.int l1), some (.int l2), some (.int l3), none, none], [.int (gI w 108 0), .int 1, .ref 108, .int l3, .ref 122], w))) else val (195, d + 5, 266, [some (.ref 108), some (.int l1), some (.int l2), some (.int l3), none, none], [.ref 108], w)) := by
  refine (val_g (c2 := (195, d + 5, 256, [some (.ref 108), some (.int l1), some (.int l2), some (.int l3), none, none], [.ref 108], w)) rfl).trans ?_
  refine (val_gf rfl (hW.k 108 (Nat.le_of_ble_eq_true rfl) (Nat.le_of_ble_eq_true rfl)) (fvR (hW.r 108 21 121 rfl))).trans ?_
  show val (195, d + 5, 259, [some (.ref 108), some (.int l1), some (.int l2), some (.int l3), none, none], [.ref 121], w) = _
  refine (val_g (c2 := (195, d + 5, 260, [some (.ref 108), some (.int l1), some (.int l2), some (.int l3), none, none], [.int l3, .ref 121], w)) rfl).trans ?_
  refine (val_ial rfl (hW.k 121 (Nat.le_of_ble_eq_true rfl) (Nat.le_of_ble_eq_true rfl)) rfl hy1).trans ?_
  show val (195, d + 5, 261, [some (.ref 108), some (.int l1), some (.int l2), some (.int l3), none, none], [.int (gI w 121 (l3).toNatClampNeg)], w) = _
  refine (val_g (c2 := (195, d + 5, 262, [some (.ref 108), some (.int l1), some (.int l2), some (.int l3), none, none], [.int 1, .int (gI w 121 (l3).toNatClampNeg)], w)) rfl).trans ?_
  by_cases hc1224 : ¬ (gI w 121 (l3).toNatClampNeg) = 1
  · refine ((val_ic_ne rfl).trans (if_pos hc1224)).trans ?_
    show val (195, d + 5, 296, [some (.ref 108), some (.int l1), some (.int l2), some (.int l3), none, none], [], w) = _
    refine Eq.trans ?_ (if_pos hc1224).symm
    refine (val_g (c2 := (195, d + 5, 297, [some (.ref 108), some (.int l1), some (.int l2), some (.int l3), none, none], [.ref 108], w)) rfl).trans ?_
    refine (val_gf rfl (hW.k 108 (Nat.le_of_ble_eq_true rfl) (Nat.le_of_ble_eq_true rfl)) (fvR (hW.r 108 21 121 rfl))).trans ?_
    show val (195, d + 5, 300, [some (.ref 108), some (.int l1), some (.int l2), some (.int l3), none, none], [.ref 121], w) = _
    refine (val_g (c2 := (195, d + 5, 301, [some (.ref 108), some (.int l1), some (.int l2), some (.int l3), none, none], [.int l3, .ref 121], w)) rfl).trans ?_
    refine (val_ial rfl (hW.k 121 (Nat.le_of_ble_eq_true rfl) (Nat.le_of_ble_eq_true rfl)) rfl (hy2 hc1224)).trans ?_
    show val (195, d + 5, 302, [some (.ref 108), some (.int l1), some (.int l2), some (.int l3), none, none], [.int (gI w 121 (l3).toNatClampNeg)], w) = _
    refine (val_g (c2 := (195, d + 5, 303, [some (.ref 108), some (.int l1), some (.int l2), some (.int l3), none, none], [.int 2, .int (gI w 121 (l3).toNatClampNeg)], w)) rfl).trans ?_
    by_cases hc1225 : (gI w 121 (l3).toNatClampNeg) = 2
    · refine ((val_ic_eq rfl).trans (if_pos hc1225)).trans ?_
      show val (195, d + 5, 316, [some (.ref 108), some (.int l1), some (.int l2), some (.int l3), none, none], [], w) = _
      refine Eq.trans ?_ (if_pos hc1225).symm
      refine (val_g (c2 := (195, d + 5, 317, [some (.ref 108), some (.int l1), some (.int l2), some (.int l3), none, none], [.ref 108], w)) rfl).trans ?_
      refine (val_gf rfl (hW.k 108 (Nat.le_of_ble_eq_true rfl) (Nat.le_of_ble_eq_true rfl)) (fvR (hW.r 108 22 122 rfl))).trans ?_
      show val (195, d + 5, 320, [some (.ref 108), some (.int l1), some (.int l2), some (.int l3), none, none], [.ref 122], w) = _
      refine (val_g (c2 := (195, d + 5, 321, [some (.ref 108), some (.int l1), some (.int l2), some (.int l3), none, none], [.int l3, .ref 122], w)) rfl).trans ?_
      refine (val_g (c2 := (195, d + 5, 322, [some (.ref 108), some (.int l1), some (.int l2), some (.int l3), none, none], [.ref 108, .int l3, .ref 122], w)) rfl).trans ?_
      refine (val_g (c2 := (195, d + 5, 323, [some (.ref 108), some (.int l1), some (.int l2), some (.int l3), none, none], [.int 1, .ref 108, .int l3, .ref 122], w)) rfl).trans ?_
      refine (val_g (c2 := (195, d + 5, 324, [some (.ref 108), some (.int l1), some (.int l2), some (.int l3), none, none], [.ref 108, .int 1, .ref 108, .int l3, .ref 122], w)) rfl).trans ?_
      refine (val_gf rfl (hW.k 108 (Nat.le_of_ble_eq_true rfl) (Nat.le_of_ble_eq_true rfl)) rfl).trans ?_
      show val (195, d + 5, 327, [some (.ref 108), some (.int l1), some (.int l2), some (.int l3), none, none], [.int (gI w 108 0), .int 1, .ref 108, .int l3, .ref 122], w) = _
      rfl
    · refine ((val_ic_eq rfl).trans (if_neg hc1225)).trans ?_
      show val (195, d + 5, 306, [some (.ref 108), some (.int l1), some (.int l2), some (.int l3), none, none], [], w) = _
      refine Eq.trans ?_ (if_neg hc1225).symm
      refine (val_g (c2 := (195, d + 5, 307, [some (.ref 108), some (.int l1), some (.int l2), some (.int l3), none, none], [.ref 108], w)) rfl).trans ?_
      refine (val_gf rfl (hW.k 108 (Nat.le_of_ble_eq_true rfl) (Nat.le_of_ble_eq_true rfl)) (fvR (hW.r 108 21 121 rfl))).trans ?_
      show val (195, d + 5, 310, [some (.ref 108), some (.int l1), some (.int l2), some (.int l3), none, none], [.ref 121], w) = _
      refine (val_g (c2 := (195, d + 5, 311, [some (.ref 108), some (.int l1), some (.int l2), some (.int l3), none, none], [.int l3, .ref 121], w)) rfl).trans ?_
      refine (val_ial rfl (hW.k 121 (Nat.le_of_ble_eq_true rfl) (Nat.le_of_ble_eq_true rfl)) rfl (hy3 hc1224 hc1225)).trans ?_
      show val (195, d + 5, 312, [some (.ref 108), some (.int l1), some (.int l2), some (.int l3), none, none], [.int (gI w 121 (l3).toNatClampNeg)], w) = _
      refine (val_g (c2 := (195, d + 5, 313, [some (.ref 108), some (.int l1), some (.int l2), some (.int l3), none, none], [.int 3, .int (gI w 121 (l3).toNatClampNeg)], w)) rfl).trans ?_
      by_cases hc1226 : ¬ (gI w 121 (l3).toNatClampNeg) = 3
      · refine ((val_ic_ne rfl).trans (if_pos hc1226)).trans ?_
        show val (195, d + 5, 404, [some (.ref 108), some (.int l1), some (.int l2), some (.int l3), none, none], [], w) = _
        refine Eq.trans ?_ (if_pos hc1226).symm
        refine (val_g (c2 := (195, d + 5, 405, [some (.ref 108), some (.int l1), some (.int l2), some (.int l3), none, none], [.ref 108], w)) rfl).trans ?_
        refine (val_gf rfl (hW.k 108 (Nat.le_of_ble_eq_true rfl) (Nat.le_of_ble_eq_true rfl)) (fvR (hW.r 108 21 121 rfl))).trans ?_
        show val (195, d + 5, 408, [some (.ref 108), some (.int l1), some (.int l2), some (.int l3), none, none], [.ref 121], w) = _
        refine (val_g (c2 := (195, d + 5, 409, [some (.ref 108), some (.int l1), some (.int l2), some (.int l3), none, none], [.int l3, .ref 121], w)) rfl).trans ?_
        refine (val_ial rfl (hW.k 121 (Nat.le_of_ble_eq_true rfl) (Nat.le_of_ble_eq_true rfl)) rfl (hy4 hc1224 hc1225 hc1226)).trans ?_
        show val (195, d + 5, 410, [some (.ref 108), some (.int l1), some (.int l2), some (.int l3), none, none], [.int (gI w 121 (l3).toNatClampNeg)], w) = _
        refine (val_g (c2 := (195, d + 5, 411, [some (.ref 108), some (.int l1), some (.int l2), some (.int l3), none, none], [.int 5, .int (gI w 121 (l3).toNatClampNeg)], w)) rfl).trans ?_
        by_cases hc1227 : (gI w 121 (l3).toNatClampNeg) = 5
        · refine ((val_ic_eq rfl).trans (if_pos hc1227)).trans ?_
          show val (195, d + 5, 425, [some (.ref 108), some (.int l1), some (.int l2), some (.int l3), none, none], [], w) = _
          refine Eq.trans ?_ (if_pos hc1227).symm
          refine (val_g (c2 := (195, d + 5, 426, [some (.ref 108), some (.int l1), some (.int l2), some (.int l3), none, none], [.ref 108], w)) rfl).trans ?_
          refine (val_g (c2 := (195, d + 5, 427, [some (.ref 108), some (.int l1), some (.int l2), some (.int l3), none, none], [.int l1, .ref 108], w)) rfl).trans ?_
          refine (val_g (c2 := (195, d + 5, 428, [some (.ref 108), some (.int l1), some (.int l2), some (.int l3), none, none], [.int 1, .int l1, .ref 108], w)) rfl).trans ?_
          refine (val_g (c2 := (195, d + 5, 429, [some (.ref 108), some (.int l1), some (.int l2), some (.int l3), none, none], [.int (l1 + 1), .ref 108], w)) rfl).trans ?_
          rfl
        · refine ((val_ic_eq rfl).trans (if_neg hc1227)).trans ?_
          show val (195, d + 5, 414, [some (.ref 108), some (.int l1), some (.int l2), some (.int l3), none, none], [], w) = _
          refine Eq.trans ?_ (if_neg hc1227).symm
          refine (val_g (c2 := (195, d + 5, 415, [some (.ref 108), some (.int l1), some (.int l2), some (.int l3), none, none], [.ref 108], w)) rfl).trans ?_
          refine (val_gf rfl (hW.k 108 (Nat.le_of_ble_eq_true rfl) (Nat.le_of_ble_eq_true rfl)) (fvR (hW.r 108 21 121 rfl))).trans ?_
          show val (195, d + 5, 418, [some (.ref 108), some (.int l1), some (.int l2), some (.int l3), none, none], [.ref 121], w) = _
          refine (val_g (c2 := (195, d + 5, 419, [some (.ref 108), some (.int l1), some (.int l2), some (.int l3), none, none], [.int l3, .ref 121], w)) rfl).trans ?_
          refine (val_ial rfl (hW.k 121 (Nat.le_of_ble_eq_true rfl) (Nat.le_of_ble_eq_true rfl)) rfl (hy5 hc1224 hc1225 hc1226 hc1227)).trans ?_
          show val (195, d + 5, 420, [some (.ref 108), some (.int l1), some (.int l2), some (.int l3), none, none], [.int (gI w 121 (l3).toNatClampNeg)], w) = _
          refine (val_g (c2 := (195, d + 5, 422, [some (.ref 108), some (.int l1), some (.int l2), some (.int l3), none, none], [.int 6, .int (gI w 121 (l3).toNatClampNeg)], w)) rfl).trans ?_
          by_cases hc1228 : ¬ (gI w 121 (l3).toNatClampNeg) = 6
          · refine ((val_ic_ne rfl).trans (if_pos hc1228)).trans ?_
            show val (195, d + 5, 445, [some (.ref 108), some (.int l1), some (.int l2), some (.int l3), none, none], [], w) = _
            refine Eq.trans ?_ (if_pos hc1228).symm
            refine (val_g (c2 := (195, d + 5, 446, [some (.ref 108), some (.int l1), some (.int l2), some (.int l3), none, none], [.ref 108], w)) rfl).trans ?_
            refine (val_gf rfl (hW.k 108 (Nat.le_of_ble_eq_true rfl) (Nat.le_of_ble_eq_true rfl)) (fvR (hW.r 108 21 121 rfl))).trans ?_
            show val (195, d + 5, 449, [some (.ref 108), some (.int l1), some (.int l2), some (.int l3), none, none], [.ref 121], w) = _
            refine (val_g (c2 := (195, d + 5, 450, [some (.ref 108), some (.int l1), some (.int l2), some (.int l3), none, none], [.int l3, .ref 121], w)) rfl).trans ?_
            refine (val_ial rfl (hW.k 121 (Nat.le_of_ble_eq_true rfl) (Nat.le_of_ble_eq_true rfl)) rfl (hy6 hc1224 hc1225 hc1226 hc1227 hc1228)).trans ?_
            show val (195, d + 5, 451, [some (.ref 108), some (.int l1), some (.int l2), some (.int l3), none, none], [.int (gI w 121 (l3).toNatClampNeg)], w) = _
            refine (val_g (c2 := (195, d + 5, 453, [some (.ref 108), some (.int l1), some (.int l2), some (.int l3), none, none], [.int 7, .int (gI w 121 (l3).toNatClampNeg)], w)) rfl).trans ?_
            by_cases hc1229 : ¬ (gI w 121 (l3).toNatClampNeg) = 7
            · refine ((val_ic_ne rfl).trans (if_pos hc1229)).trans ?_
              show val (195, d + 5, 524, [some (.ref 108), some (.int l1), some (.int l2), some (.int l3), none, none], [], w) = _
              refine Eq.trans ?_ (if_pos hc1229).symm
              rfl
            · refine ((val_ic_ne rfl).trans (if_neg hc1229)).trans ?_
              show val (195, d + 5, 456, [some (.ref 108), some (.int l1), some (.int l2), some (.int l3), none, none], [], w) = _
              refine Eq.trans ?_ (if_neg hc1229).symm
              refine (val_g (c2 := (195, d + 5, 457, [some (.ref 108), some (.int l1), some (.int l2), some (.int l3), none, none], [.ref 108], w)) rfl).trans ?_
              refine (val_g (c2 := (195, d + 5, 458, [some (.ref 108), some (.int l1), some (.int l2), some (.int l3), none, none], [.int l1, .ref 108], w)) rfl).trans ?_
              refine (val_g (c2 := (195, d + 5, 459, [some (.ref 108), some (.int l1), some (.int l2), some (.int l3), none, none], [.int 1, .int l1, .ref 108], w)) rfl).trans ?_
              refine (val_g (c2 := (195, d + 5, 460, [some (.ref 108), some (.int l1), some (.int l2), some (.int l3), none, none], [.int (l1 + 1), .ref 108], w)) rfl).trans ?_
              rfl
          · refine ((val_ic_ne rfl).trans (if_neg hc1228)).trans ?_
            show val (195, d + 5, 425, [some (.ref 108), some (.int l1), some (.int l2), some (.int l3), none, none], [], w) = _
            refine Eq.trans ?_ (if_neg hc1228).symm
            refine (val_g (c2 := (195, d + 5, 426, [some (.ref 108), some (.int l1), some (.int l2), some (.int l3), none, none], [.ref 108], w)) rfl).trans ?_
            refine (val_g (c2 := (195, d + 5, 427, [some (.ref 108), some (.int l1), some (.int l2), some (.int l3), none, none], [.int l1, .ref 108], w)) rfl).trans ?_
            refine (val_g (c2 := (195, d + 5, 428, [some (.ref 108), some (.int l1), some (.int l2), some (.int l3), none, none], [.int 1, .int l1, .ref 108], w)) rfl).trans ?_
            refine (val_g (c2 := (195, d + 5, 429, [some (.ref 108), some (.int l1), some (.int l2), some (.int l3), none, none], [.int (l1 + 1), .ref 108], w)) rfl).trans ?_
            rfl
      · refine ((val_ic_ne rfl).trans (if_neg hc1226)).trans ?_
        show val (195, d + 5, 316, [some (.ref 108), some (.int l1), some (.int l2), some (.int l3), none, none], [], w) = _
        refine Eq.trans ?_ (if_neg hc1226).symm
        refine (val_g (c2 := (195, d + 5, 317, [some (.ref 108), some (.int l1), some (.int l2), some (.int l3), none, none], [.ref 108], w)) rfl).trans ?_
        refine (val_gf rfl (hW.k 108 (Nat.le_of_ble_eq_true rfl) (Nat.le_of_ble_eq_true rfl)) (fvR (hW.r 108 22 122 rfl))).trans ?_
        show val (195, d + 5, 320, [some (.ref 108), some (.int l1), some (.int l2), some (.int l3), none, none], [.ref 122], w) = _
        refine (val_g (c2 := (195, d + 5, 321, [some (.ref 108), some (.int l1), some (.int l2), some (.int l3), none, none], [.int l3, .ref 122], w)) rfl).trans ?_
        refine (val_g (c2 := (195, d + 5, 322, [some (.ref 108), some (.int l1), some (.int l2), some (.int l3), none, none], [.ref 108, .int l3, .ref 122], w)) rfl).trans ?_
        refine (val_g (c2 := (195, d + 5, 323, [some (.ref 108), some (.int l1), some (.int l2), some (.int l3), none, none], [.int 1, .ref 108, .int l3, .ref 122], w)) rfl).trans ?_
        refine (val_g (c2 := (195, d + 5, 324, [some (.ref 108), some (.int l1), some (.int l2), some (.int l3), none, none], [.ref 108, .int 1, .ref 108, .int l3, .ref 122], w)) rfl).trans ?_
        refine (val_gf rfl (hW.k 108 (Nat.le_of_ble_eq_true rfl) (Nat.le_of_ble_eq_true rfl)) rfl).trans ?_
        show val (195, d + 5, 327, [some (.ref 108), some (.int l1), some (.int l2), some (.int l3), none, none], [.int (gI w 108 0), .int 1, .ref 108, .int l3, .ref 122], w) = _
        rfl
  · refine ((val_ic_ne rfl).trans (if_neg hc1224)).trans ?_
    show val (195, d + 5, 265, [some (.ref 108), some (.int l1), some (.int l2), some (.int l3), none, none], [], w) = _
    refine Eq.trans ?_ (if_neg hc1224).symm
    refine (val_g (c2 := (195, d + 5, 266, [some (.ref 108), some (.int l1), some (.int l2), some (.int l3), none, none], [.ref 108], w)) rfl).trans ?_
    rfl
theorem tr_195_269 (d : Nat) (w : Wd) (hW : Fix w) (l1 : Int32) (l2 : Int32) (l3 : Int32) (s0 : Int32)    (hy1 : (¬ s0 = 0) → inB l3 369 = true) : val (195, d + 5, 269, [some (.ref 108), some (.int l1), some (.int l2), some (.int l3), none, none], [.int s0], w) = (if ¬ s0 = 0 then val (195, d + 5, 290, [some (.ref 108), some (.int l1), some (.int l2), some (.int l3), none, none], [.ref 108], (sI w 122 (l3).toNatClampNeg ((gI w 108 9)))) else val (195, d + 5, 273, [some (.ref 108), some (.int l1), some (.int l2), some (.int l3), none, none], [.ref 108], w)) := by
  by_cases hc1230 : ¬ s0 = 0
  · refine ((val_if_ne rfl).trans (if_pos hc1230)).trans ?_
    show val (195, d + 5, 279, [some (.ref 108), some (.int l1), some (.int l2), some (.int l3), none, none], [], w) = _
    refine Eq.trans ?_ (if_pos hc1230).symm
    refine (val_g (c2 := (195, d + 5, 280, [some (.ref 108), some (.int l1), some (.int l2), some (.int l3), none, none], [.ref 108], w)) rfl).trans ?_
    refine (val_gf rfl (hW.k 108 (Nat.le_of_ble_eq_true rfl) (Nat.le_of_ble_eq_true rfl)) (fvR (hW.r 108 22 122 rfl))).trans ?_
    show val (195, d + 5, 283, [some (.ref 108), some (.int l1), some (.int l2), some (.int l3), none, none], [.ref 122], w) = _
    refine (val_g (c2 := (195, d + 5, 284, [some (.ref 108), some (.int l1), some (.int l2), some (.int l3), none, none], [.int l3, .ref 122], w)) rfl).trans ?_
    refine (val_g (c2 := (195, d + 5, 285, [some (.ref 108), some (.int l1), some (.int l2), some (.int l3), none, none], [.ref 108, .int l3, .ref 122], w)) rfl).trans ?_
    refine (val_gf rfl (hW.k 108 (Nat.le_of_ble_eq_true rfl) (Nat.le_of_ble_eq_true rfl)) rfl).trans ?_
    show val (195, d + 5, 288, [some (.ref 108), some (.int l1), some (.int l2), some (.int l3), none, none], [.int (gI w 108 9), .int l3, .ref 122], w) = _
    refine (val_ias rfl (hW.k 122 (Nat.le_of_ble_eq_true rfl) (Nat.le_of_ble_eq_true rfl)) (hy1 hc1230)).trans ?_
    show val (195, d + 5, 289, [some (.ref 108), some (.int l1), some (.int l2), some (.int l3), none, none], [], (sI w 122 (l3).toNatClampNeg ((gI w 108 9)))) = _
    refine (val_g (c2 := (195, d + 5, 290, [some (.ref 108), some (.int l1), some (.int l2), some (.int l3), none, none], [.ref 108], (sI w 122 (l3).toNatClampNeg ((gI w 108 9))))) rfl).trans ?_
    rfl
  · refine ((val_if_ne rfl).trans (if_neg hc1230)).trans ?_
    show val (195, d + 5, 272, [some (.ref 108), some (.int l1), some (.int l2), some (.int l3), none, none], [], w) = _
    refine Eq.trans ?_ (if_neg hc1230).symm
    refine (val_g (c2 := (195, d + 5, 273, [some (.ref 108), some (.int l1), some (.int l2), some (.int l3), none, none], [.ref 108], w)) rfl).trans ?_
    rfl
theorem tr_195_276 (d : Nat) (w : Wd) (l1 : Int32) (l2 : Int32) (l3 : Int32)     : val (195, d + 5, 276, [some (.ref 108), some (.int l1), some (.int l2), some (.int l3), none, none], [], w) = val (195, d + 5, 524, [some (.ref 108), some (.int l1), some (.int l2), some (.int l3), none, none], [], w) := by
  refine (val_g (c2 := (195, d + 5, 524, [some (.ref 108), some (.int l1), some (.int l2), some (.int l3), none, none], [], w)) rfl).trans ?_
  rfl
theorem tr_195_293 (d : Nat) (w : Wd) (l1 : Int32) (l2 : Int32) (l3 : Int32)     : val (195, d + 5, 293, [some (.ref 108), some (.int l1), some (.int l2), some (.int l3), none, none], [], w) = val (195, d + 5, 524, [some (.ref 108), some (.int l1), some (.int l2), some (.int l3), none, none], [], w) := by
  refine (val_g (c2 := (195, d + 5, 524, [some (.ref 108), some (.int l1), some (.int l2), some (.int l3), none, none], [], w)) rfl).trans ?_
  rfl
theorem tr_195_330 (d : Nat) (w : Wd) (hW : Fix w) (l1 : Int32) (l2 : Int32) (l3 : Int32) (s0 : Int32) (s1 : Int32)    (hy1 : inB s1 369 = true) : val (195, d + 5, 330, [some (.ref 108), some (.int l1), some (.int l2), some (.int l3), none, none], [.int s0, .int s1, .ref 122], w) = val (195, d + 5, 332, [some (.ref 108), some (.int l1), some (.int l2), some (.int l3), none, none], [.ref 108], (sI w 122 (s1).toNatClampNeg s0)) := by
  refine (val_ias rfl (hW.k 122 (Nat.le_of_ble_eq_true rfl) (Nat.le_of_ble_eq_true rfl)) hy1).trans ?_
  show val (195, d + 5, 331, [some (.ref 108), some (.int l1), some (.int l2), some (.int l3), none, none], [], (sI w 122 (s1).toNatClampNeg s0)) = _
  refine (val_g (c2 := (195, d + 5, 332, [some (.ref 108), some (.int l1), some (.int l2), some (.int l3), none, none], [.ref 108], (sI w 122 (s1).toNatClampNeg s0))) rfl).trans ?_
  rfl
theorem tr_195_335 (d : Nat) (w : Wd) (hW : Fix w) (l1 : Int32) (l2 : Int32) (l3 : Int32) (s0 : Int32)    (hy1 : (¬ (s0 = 0)) → (¬ (¬ (gI w 108 6) = 2)) → inB l3 369 = true) (hy2 : (¬ (s0 = 0)) → (¬ (¬ (gI w 108 6) = 2)) → (¬ ((gI w 108 9) = (gI w 122 (l3).toNatClampNeg))) → inB l3 369 = true) (hy3 : (¬ (s0 = 0)) → (¬ (¬ (gI w 108 6) = 2)) → (¬ ((gI w 108 9) = (gI w 122 (l3).toNatClampNeg))) → (¬ (¬ (gI w 121 (l3).toNatClampNeg) = 3)) → inB l3 369 = true) : val (195, d + 5, 335, [some (.ref 108), some (.int l1), some (.int l2), some (.int l3), none, none], [.int s0], w) = (if s0 = 0 then val (195, d + 5, 386, [some (.ref 108), some (.int l1), some (.int l2), some (.int l3), none, none], [], w) else (if ¬ (gI w 108 6) = 2 then val (195, d + 5, 386, [some (.ref 108), some (.int l1), some (.int l2), some (.int l3), none, none], [], w) else (if (gI w 108 9) = (gI w 122 (l3).toNatClampNeg) then val (195, d + 5, 383, [some (.ref 108), some (.int l1), some (.int l2), some (.int l3), none, none], [.ref 108], w) else (if ¬ (gI w 121 (l3).toNatClampNeg) = 3 then val (195, d + 5, 386, [some (.ref 108), some (.int l1), some (.int l2), some (.int l3), none, none], [], w) else (if (gI w 122 (l3).toNatClampNeg) ≤ (gI w 108 9) then val (195, d + 5, 386, [some (.ref 108), some (.int l1), some (.int l2), some (.int l3), none, none], [], w) else val (195, d + 5, 383, [some (.ref 108), some (.int l1), some (.int l2), some (.int l3), none, none], [.ref 108], w)))))) := by
  by_cases hc1231 : s0 = 0
  · refine ((val_if_eq rfl).trans (if_pos hc1231)).trans ?_
    show val (195, d + 5, 386, [some (.ref 108), some (.int l1), some (.int l2), some (.int l3), none, none], [], w) = _
    refine Eq.trans ?_ (if_pos hc1231).symm
    rfl
  · refine ((val_if_eq rfl).trans (if_neg hc1231)).trans ?_
    show val (195, d + 5, 338, [some (.ref 108), some (.int l1), some (.int l2), some (.int l3), none, none], [], w) = _
    refine Eq.trans ?_ (if_neg hc1231).symm
    refine (val_g (c2 := (195, d + 5, 339, [some (.ref 108), some (.int l1), some (.int l2), some (.int l3), none, none], [.ref 108], w)) rfl).trans ?_
    refine (val_gf rfl (hW.k 108 (Nat.le_of_ble_eq_true rfl) (Nat.le_of_ble_eq_true rfl)) rfl).trans ?_
    show val (195, d + 5, 342, [some (.ref 108), some (.int l1), some (.int l2), some (.int l3), none, none], [.int (gI w 108 6)], w) = _
    refine (val_g (c2 := (195, d + 5, 343, [some (.ref 108), some (.int l1), some (.int l2), some (.int l3), none, none], [.int 2, .int (gI w 108 6)], w)) rfl).trans ?_
    by_cases hc1232 : ¬ (gI w 108 6) = 2
    · refine ((val_ic_ne rfl).trans (if_pos hc1232)).trans ?_
      show val (195, d + 5, 386, [some (.ref 108), some (.int l1), some (.int l2), some (.int l3), none, none], [], w) = _
      refine Eq.trans ?_ (if_pos hc1232).symm
      rfl
    · refine ((val_ic_ne rfl).trans (if_neg hc1232)).trans ?_
      show val (195, d + 5, 346, [some (.ref 108), some (.int l1), some (.int l2), some (.int l3), none, none], [], w) = _
      refine Eq.trans ?_ (if_neg hc1232).symm
      refine (val_g (c2 := (195, d + 5, 347, [some (.ref 108), some (.int l1), some (.int l2), some (.int l3), none, none], [.ref 108], w)) rfl).trans ?_
      refine (val_gf rfl (hW.k 108 (Nat.le_of_ble_eq_true rfl) (Nat.le_of_ble_eq_true rfl)) rfl).trans ?_
      show val (195, d + 5, 350, [some (.ref 108), some (.int l1), some (.int l2), some (.int l3), none, none], [.int (gI w 108 9)], w) = _
      refine (val_g (c2 := (195, d + 5, 351, [some (.ref 108), some (.int l1), some (.int l2), some (.int l3), none, none], [.ref 108, .int (gI w 108 9)], w)) rfl).trans ?_
      refine (val_gf rfl (hW.k 108 (Nat.le_of_ble_eq_true rfl) (Nat.le_of_ble_eq_true rfl)) (fvR (hW.r 108 22 122 rfl))).trans ?_
      show val (195, d + 5, 354, [some (.ref 108), some (.int l1), some (.int l2), some (.int l3), none, none], [.ref 122, .int (gI w 108 9)], w) = _
      refine (val_g (c2 := (195, d + 5, 355, [some (.ref 108), some (.int l1), some (.int l2), some (.int l3), none, none], [.int l3, .ref 122, .int (gI w 108 9)], w)) rfl).trans ?_
      refine (val_ial rfl (hW.k 122 (Nat.le_of_ble_eq_true rfl) (Nat.le_of_ble_eq_true rfl)) rfl (hy1 hc1231 hc1232)).trans ?_
      show val (195, d + 5, 356, [some (.ref 108), some (.int l1), some (.int l2), some (.int l3), none, none], [.int (gI w 122 (l3).toNatClampNeg), .int (gI w 108 9)], w) = _
      by_cases hc1233 : (gI w 108 9) = (gI w 122 (l3).toNatClampNeg)
      · refine ((val_ic_eq rfl).trans (if_pos hc1233)).trans ?_
        show val (195, d + 5, 382, [some (.ref 108), some (.int l1), some (.int l2), some (.int l3), none, none], [], w) = _
        refine Eq.trans ?_ (if_pos hc1233).symm
        refine (val_g (c2 := (195, d + 5, 383, [some (.ref 108), some (.int l1), some (.int l2), some (.int l3), none, none], [.ref 108], w)) rfl).trans ?_
        rfl
      · refine ((val_ic_eq rfl).trans (if_neg hc1233)).trans ?_
        show val (195, d + 5, 359, [some (.ref 108), some (.int l1), some (.int l2), some (.int l3), none, none], [], w) = _
        refine Eq.trans ?_ (if_neg hc1233).symm
        refine (val_g (c2 := (195, d + 5, 360, [some (.ref 108), some (.int l1), some (.int l2), some (.int l3), none, none], [.ref 108], w)) rfl).trans ?_
        refine (val_gf rfl (hW.k 108 (Nat.le_of_ble_eq_true rfl) (Nat.le_of_ble_eq_true rfl)) (fvR (hW.r 108 21 121 rfl))).trans ?_
        show val (195, d + 5, 363, [some (.ref 108), some (.int l1), some (.int l2), some (.int l3), none, none], [.ref 121], w) = _
        refine (val_g (c2 := (195, d + 5, 364, [some (.ref 108), some (.int l1), some (.int l2), some (.int l3), none, none], [.int l3, .ref 121], w)) rfl).trans ?_
        refine (val_ial rfl (hW.k 121 (Nat.le_of_ble_eq_true rfl) (Nat.le_of_ble_eq_true rfl)) rfl (hy2 hc1231 hc1232 hc1233)).trans ?_
        show val (195, d + 5, 365, [some (.ref 108), some (.int l1), some (.int l2), some (.int l3), none, none], [.int (gI w 121 (l3).toNatClampNeg)], w) = _
        refine (val_g (c2 := (195, d + 5, 366, [some (.ref 108), some (.int l1), some (.int l2), some (.int l3), none, none], [.int 3, .int (gI w 121 (l3).toNatClampNeg)], w)) rfl).trans ?_
        by_cases hc1234 : ¬ (gI w 121 (l3).toNatClampNeg) = 3
        · refine ((val_ic_ne rfl).trans (if_pos hc1234)).trans ?_
          show val (195, d + 5, 386, [some (.ref 108), some (.int l1), some (.int l2), some (.int l3), none, none], [], w) = _
          refine Eq.trans ?_ (if_pos hc1234).symm
          rfl
        · refine ((val_ic_ne rfl).trans (if_neg hc1234)).trans ?_
          show val (195, d + 5, 369, [some (.ref 108), some (.int l1), some (.int l2), some (.int l3), none, none], [], w) = _
          refine Eq.trans ?_ (if_neg hc1234).symm
          refine (val_g (c2 := (195, d + 5, 370, [some (.ref 108), some (.int l1), some (.int l2), some (.int l3), none, none], [.ref 108], w)) rfl).trans ?_
          refine (val_gf rfl (hW.k 108 (Nat.le_of_ble_eq_true rfl) (Nat.le_of_ble_eq_true rfl)) rfl).trans ?_
          show val (195, d + 5, 373, [some (.ref 108), some (.int l1), some (.int l2), some (.int l3), none, none], [.int (gI w 108 9)], w) = _
          refine (val_g (c2 := (195, d + 5, 374, [some (.ref 108), some (.int l1), some (.int l2), some (.int l3), none, none], [.ref 108, .int (gI w 108 9)], w)) rfl).trans ?_
          refine (val_gf rfl (hW.k 108 (Nat.le_of_ble_eq_true rfl) (Nat.le_of_ble_eq_true rfl)) (fvR (hW.r 108 22 122 rfl))).trans ?_
          show val (195, d + 5, 377, [some (.ref 108), some (.int l1), some (.int l2), some (.int l3), none, none], [.ref 122, .int (gI w 108 9)], w) = _
          refine (val_g (c2 := (195, d + 5, 378, [some (.ref 108), some (.int l1), some (.int l2), some (.int l3), none, none], [.int l3, .ref 122, .int (gI w 108 9)], w)) rfl).trans ?_
          refine (val_ial rfl (hW.k 122 (Nat.le_of_ble_eq_true rfl) (Nat.le_of_ble_eq_true rfl)) rfl (hy3 hc1231 hc1232 hc1233 hc1234)).trans ?_
          show val (195, d + 5, 379, [some (.ref 108), some (.int l1), some (.int l2), some (.int l3), none, none], [.int (gI w 122 (l3).toNatClampNeg), .int (gI w 108 9)], w) = _
          by_cases hc1235 : (gI w 122 (l3).toNatClampNeg) ≤ (gI w 108 9)
          · refine ((val_ic_ge rfl).trans (if_pos hc1235)).trans ?_
            show val (195, d + 5, 386, [some (.ref 108), some (.int l1), some (.int l2), some (.int l3), none, none], [], w) = _
            refine Eq.trans ?_ (if_pos hc1235).symm
            rfl
          · refine ((val_ic_ge rfl).trans (if_neg hc1235)).trans ?_
            show val (195, d + 5, 382, [some (.ref 108), some (.int l1), some (.int l2), some (.int l3), none, none], [], w) = _
            refine Eq.trans ?_ (if_neg hc1235).symm
            refine (val_g (c2 := (195, d + 5, 383, [some (.ref 108), some (.int l1), some (.int l2), some (.int l3), none, none], [.ref 108], w)) rfl).trans ?_
            rfl
theorem tr_195_386 (d : Nat) (w : Wd) (hW : Fix w) (l1 : Int32) (l2 : Int32) (l3 : Int32)     : val (195, d + 5, 386, [some (.ref 108), some (.int l1), some (.int l2), some (.int l3), none, none], [], w) = val (195, d + 5, 397, [some (.ref 108), some (.int l1), some (.int l2), some (.int l3), none, none], [.int (gI w 108 0), .int 1, .ref 108, .int l3, .ref 123], w) := by
  refine (val_g (c2 := (195, d + 5, 387, [some (.ref 108), some (.int l1), some (.int l2), some (.int l3), none, none], [.ref 108], w)) rfl).trans ?_
  refine (val_gf rfl (hW.k 108 (Nat.le_of_ble_eq_true rfl) (Nat.le_of_ble_eq_true rfl)) (fvR (hW.r 108 23 123 rfl))).trans ?_
  show val (195, d + 5, 390, [some (.ref 108), some (.int l1), some (.int l2), some (.int l3), none, none], [.ref 123], w) = _
  refine (val_g (c2 := (195, d + 5, 391, [some (.ref 108), some (.int l1), some (.int l2), some (.int l3), none, none], [.int l3, .ref 123], w)) rfl).trans ?_
  refine (val_g (c2 := (195, d + 5, 392, [some (.ref 108), some (.int l1), some (.int l2), some (.int l3), none, none], [.ref 108, .int l3, .ref 123], w)) rfl).trans ?_
  refine (val_g (c2 := (195, d + 5, 393, [some (.ref 108), some (.int l1), some (.int l2), some (.int l3), none, none], [.int 1, .ref 108, .int l3, .ref 123], w)) rfl).trans ?_
  refine (val_g (c2 := (195, d + 5, 394, [some (.ref 108), some (.int l1), some (.int l2), some (.int l3), none, none], [.ref 108, .int 1, .ref 108, .int l3, .ref 123], w)) rfl).trans ?_
  refine (val_gf rfl (hW.k 108 (Nat.le_of_ble_eq_true rfl) (Nat.le_of_ble_eq_true rfl)) rfl).trans ?_
  show val (195, d + 5, 397, [some (.ref 108), some (.int l1), some (.int l2), some (.int l3), none, none], [.int (gI w 108 0), .int 1, .ref 108, .int l3, .ref 123], w) = _
  rfl
theorem tr_195_400 (d : Nat) (w : Wd) (hW : Fix w) (l1 : Int32) (l2 : Int32) (l3 : Int32) (s0 : Int32) (s1 : Int32)    (hy1 : inB s1 369 = true) : val (195, d + 5, 400, [some (.ref 108), some (.int l1), some (.int l2), some (.int l3), none, none], [.int s0, .int s1, .ref 123], w) = val (195, d + 5, 524, [some (.ref 108), some (.int l1), some (.int l2), some (.int l3), none, none], [], (sI w 123 (s1).toNatClampNeg s0)) := by
  refine (val_ias rfl (hW.k 123 (Nat.le_of_ble_eq_true rfl) (Nat.le_of_ble_eq_true rfl)) hy1).trans ?_
  show val (195, d + 5, 401, [some (.ref 108), some (.int l1), some (.int l2), some (.int l3), none, none], [], (sI w 123 (s1).toNatClampNeg s0)) = _
  refine (val_g (c2 := (195, d + 5, 524, [some (.ref 108), some (.int l1), some (.int l2), some (.int l3), none, none], [], (sI w 123 (s1).toNatClampNeg s0))) rfl).trans ?_
  rfl
theorem tr_195_432 (d : Nat) (w : Wd) (hW : Fix w) (l1 : Int32) (l2 : Int32) (l3 : Int32) (s0 : Int32)    (hy1 : inB l3 369 = true) : val (195, d + 5, 432, [some (.ref 108), some (.int l1), some (.int l2), some (.int l3), none, none], [.int s0], w) = val (195, d + 5, 524, [some (.ref 108), some (.int l1), some (.int l2), some (.int l3), some (.int s0), none], [], (sI w 124 (l3).toNatClampNeg s0)) := by
  refine (val_g (c2 := (195, d + 5, 434, [some (.ref 108), some (.int l1), some (.int l2), some (.int l3), some (.int s0), none], [], w)) rfl).trans ?_
  refine (val_g (c2 := (195, d + 5, 435, [some (.ref 108), some (.int l1), some (.int l2), some (.int l3), some (.int s0), none], [.ref 108], w)) rfl).trans ?_
  refine (val_gf rfl (hW.k 108 (Nat.le_of_ble_eq_true rfl) (Nat.le_of_ble_eq_true rfl)) (fvR (hW.r 108 24 124 rfl))).trans ?_
  show val (195, d + 5, 438, [some (.ref 108), some (.int l1), some (.int l2), some (.int l3), some (.int s0), none], [.ref 124], w) = _
  refine (val_g (c2 := (195, d + 5, 439, [some (.ref 108), some (.int l1), some (.int l2), some (.int l3), some (.int s0), none], [.int l3, .ref 124], w)) rfl).trans ?_
  refine (val_g (c2 := (195, d + 5, 441, [some (.ref 108), some (.int l1), some (.int l2), some (.int l3), some (.int s0), none], [.int s0, .int l3, .ref 124], w)) rfl).trans ?_
  refine (val_ias rfl (hW.k 124 (Nat.le_of_ble_eq_true rfl) (Nat.le_of_ble_eq_true rfl)) hy1).trans ?_
  show val (195, d + 5, 442, [some (.ref 108), some (.int l1), some (.int l2), some (.int l3), some (.int s0), none], [], (sI w 124 (l3).toNatClampNeg s0)) = _
  refine (val_g (c2 := (195, d + 5, 524, [some (.ref 108), some (.int l1), some (.int l2), some (.int l3), some (.int s0), none], [], (sI w 124 (l3).toNatClampNeg s0))) rfl).trans ?_
  rfl
theorem tr_195_463 (d : Nat) (w : Wd) (hW : Fix w) (l1 : Int32) (l2 : Int32) (l3 : Int32) (s0 : Int32)    (hy1 : inB l3 369 = true) : val (195, d + 5, 463, [some (.ref 108), some (.int l1), some (.int l2), some (.int l3), none, none], [.int s0], w) = val (195, d + 5, 473, [some (.ref 108), some (.int l1), some (.int l2), some (.int l3), some (.int s0), none], [], (sI w 124 (l3).toNatClampNeg s0)) := by
  refine (val_g (c2 := (195, d + 5, 465, [some (.ref 108), some (.int l1), some (.int l2), some (.int l3), some (.int s0), none], [], w)) rfl).trans ?_
  refine (val_g (c2 := (195, d + 5, 466, [some (.ref 108), some (.int l1), some (.int l2), some (.int l3), some (.int s0), none], [.ref 108], w)) rfl).trans ?_
  refine (val_gf rfl (hW.k 108 (Nat.le_of_ble_eq_true rfl) (Nat.le_of_ble_eq_true rfl)) (fvR (hW.r 108 24 124 rfl))).trans ?_
  show val (195, d + 5, 469, [some (.ref 108), some (.int l1), some (.int l2), some (.int l3), some (.int s0), none], [.ref 124], w) = _
  refine (val_g (c2 := (195, d + 5, 470, [some (.ref 108), some (.int l1), some (.int l2), some (.int l3), some (.int s0), none], [.int l3, .ref 124], w)) rfl).trans ?_
  refine (val_g (c2 := (195, d + 5, 472, [some (.ref 108), some (.int l1), some (.int l2), some (.int l3), some (.int s0), none], [.int s0, .int l3, .ref 124], w)) rfl).trans ?_
  refine (val_ias rfl (hW.k 124 (Nat.le_of_ble_eq_true rfl) (Nat.le_of_ble_eq_true rfl)) hy1).trans ?_
  show val (195, d + 5, 473, [some (.ref 108), some (.int l1), some (.int l2), some (.int l3), some (.int s0), none], [], (sI w 124 (l3).toNatClampNeg s0)) = _
  rfl
theorem tr_195_473 (d : Nat) (w : Wd) (l1 : Int32) (l2 : Int32) (l3 : Int32) (l4 : Int32) (l5 : Option Value)    : val (195, d + 5, 473, [some (.ref 108), some (.int l1), some (.int l2), some (.int l3), some (.int l4), l5], [], w) = val (195, d + 5, 474, [some (.ref 108), some (.int l1), some (.int l2), some (.int l3), some (.int l4), l5], [.ref 108], w) := by
  refine (val_g (c2 := (195, d + 5, 474, [some (.ref 108), some (.int l1), some (.int l2), some (.int l3), some (.int l4), l5], [.ref 108], w)) rfl).trans ?_
  rfl
theorem tr_195_477 (d : Nat) (w : Wd) (l1 : Int32) (l2 : Int32) (l3 : Int32) (l4 : Int32) (s0 : Int32) (l5 : Option Value)    : val (195, d + 5, 477, [some (.ref 108), some (.int l1), some (.int l2), some (.int l3), some (.int l4), l5], [.int s0], w) = (if s0 = 0 then val (195, d + 5, 521, [some (.ref 108), some (.int l1), some (.int l2), some (.int l3), some (.int l4), l5], [.int 41, .ref 108], w) else val (195, d + 5, 483, [some (.ref 108), some (.int l1), some (.int l2), some (.int l3), some (.int l4), l5], [.int 44, .ref 108], w)) := by
  by_cases hc1236 : s0 = 0
  · refine ((val_if_eq rfl).trans (if_pos hc1236)).trans ?_
    show val (195, d + 5, 518, [some (.ref 108), some (.int l1), some (.int l2), some (.int l3), some (.int l4), l5], [], w) = _
    refine Eq.trans ?_ (if_pos hc1236).symm
    refine (val_g (c2 := (195, d + 5, 519, [some (.ref 108), some (.int l1), some (.int l2), some (.int l3), some (.int l4), l5], [.ref 108], w)) rfl).trans ?_
    refine (val_g (c2 := (195, d + 5, 521, [some (.ref 108), some (.int l1), some (.int l2), some (.int l3), some (.int l4), l5], [.int 41, .ref 108], w)) rfl).trans ?_
    rfl
  · refine ((val_if_eq rfl).trans (if_neg hc1236)).trans ?_
    show val (195, d + 5, 480, [some (.ref 108), some (.int l1), some (.int l2), some (.int l3), some (.int l4), l5], [], w) = _
    refine Eq.trans ?_ (if_neg hc1236).symm
    refine (val_g (c2 := (195, d + 5, 481, [some (.ref 108), some (.int l1), some (.int l2), some (.int l3), some (.int l4), l5], [.ref 108], w)) rfl).trans ?_
    refine (val_g (c2 := (195, d + 5, 483, [some (.ref 108), some (.int l1), some (.int l2), some (.int l3), some (.int l4), l5], [.int 44, .ref 108], w)) rfl).trans ?_
    rfl
theorem tr_195_486 (d : Nat) (w : Wd) (l1 : Int32) (l2 : Int32) (l3 : Int32) (l4 : Int32) (s0 : Int32) (l5 : Option Value)    : val (195, d + 5, 486, [some (.ref 108), some (.int l1), some (.int l2), some (.int l3), some (.int l4), l5], [.int s0], w) = (if s0 = 0 then val (195, d + 5, 521, [some (.ref 108), some (.int l1), some (.int l2), some (.int l3), some (.int l4), l5], [.int 41, .ref 108], w) else val (195, d + 5, 490, [some (.ref 108), some (.int l1), some (.int l2), some (.int l3), some (.int l4), l5], [.ref 108], w)) := by
  by_cases hc1237 : s0 = 0
  · refine ((val_if_eq rfl).trans (if_pos hc1237)).trans ?_
    show val (195, d + 5, 518, [some (.ref 108), some (.int l1), some (.int l2), some (.int l3), some (.int l4), l5], [], w) = _
    refine Eq.trans ?_ (if_pos hc1237).symm
    refine (val_g (c2 := (195, d + 5, 519, [some (.ref 108), some (.int l1), some (.int l2), some (.int l3), some (.int l4), l5], [.ref 108], w)) rfl).trans ?_
    refine (val_g (c2 := (195, d + 5, 521, [some (.ref 108), some (.int l1), some (.int l2), some (.int l3), some (.int l4), l5], [.int 41, .ref 108], w)) rfl).trans ?_
    rfl
  · refine ((val_if_eq rfl).trans (if_neg hc1237)).trans ?_
    show val (195, d + 5, 489, [some (.ref 108), some (.int l1), some (.int l2), some (.int l3), some (.int l4), l5], [], w) = _
    refine Eq.trans ?_ (if_neg hc1237).symm
    refine (val_g (c2 := (195, d + 5, 490, [some (.ref 108), some (.int l1), some (.int l2), some (.int l3), some (.int l4), l5], [.ref 108], w)) rfl).trans ?_
    rfl
theorem tr_195_493 (d : Nat) (w : Wd) (l1 : Int32) (l2 : Int32) (l3 : Int32) (l4 : Int32) (l5 : Option Value)    : val (195, d + 5, 493, [some (.ref 108), some (.int l1), some (.int l2), some (.int l3), some (.int l4), l5], [], w) = val (195, d + 5, 497, [some (.ref 108), some (.int l1), some (.int l2), some (.int l3), some (.int l4), l5], [.int (l1 + 1), .ref 108], w) := by
  refine (val_g (c2 := (195, d + 5, 494, [some (.ref 108), some (.int l1), some (.int l2), some (.int l3), some (.int l4), l5], [.ref 108], w)) rfl).trans ?_
  refine (val_g (c2 := (195, d + 5, 495, [some (.ref 108), some (.int l1), some (.int l2), some (.int l3), some (.int l4), l5], [.int l1, .ref 108], w)) rfl).trans ?_
  refine (val_g (c2 := (195, d + 5, 496, [some (.ref 108), some (.int l1), some (.int l2), some (.int l3), some (.int l4), l5], [.int 1, .int l1, .ref 108], w)) rfl).trans ?_
  refine (val_g (c2 := (195, d + 5, 497, [some (.ref 108), some (.int l1), some (.int l2), some (.int l3), some (.int l4), l5], [.int (l1 + 1), .ref 108], w)) rfl).trans ?_
  rfl
theorem tr_195_500 (d : Nat) (w : Wd) (hW : Fix w) (l1 : Int32) (l2 : Int32) (l3 : Int32) (l4 : Int32) (s0 : Int32) (l5 : Option Value)   (hy1 : inB l4 369 = true) : val (195, d + 5, 500, [some (.ref 108), some (.int l1), some (.int l2), some (.int l3), some (.int l4), l5], [.int s0], w) = val (195, d + 5, 473, [some (.ref 108), some (.int l1), some (.int l2), some (.int l3), some (.int s0), some (.int s0)], [], (sI w 125 (l4).toNatClampNeg s0)) := by
  refine (val_g (c2 := (195, d + 5, 502, [some (.ref 108), some (.int l1), some (.int l2), some (.int l3), some (.int l4), some (.int s0)], [], w)) rfl).trans ?_
  refine (val_g (c2 := (195, d + 5, 503, [some (.ref 108), some (.int l1), some (.int l2), some (.int l3), some (.int l4), some (.int s0)], [.ref 108], w)) rfl).trans ?_
  refine (val_gf rfl (hW.k 108 (Nat.le_of_ble_eq_true rfl) (Nat.le_of_ble_eq_true rfl)) (fvR (hW.r 108 25 125 rfl))).trans ?_
  show val (195, d + 5, 506, [some (.ref 108), some (.int l1), some (.int l2), some (.int l3), some (.int l4), some (.int s0)], [.ref 125], w) = _
  refine (val_g (c2 := (195, d + 5, 508, [some (.ref 108), some (.int l1), some (.int l2), some (.int l3), some (.int l4), some (.int s0)], [.int l4, .ref 125], w)) rfl).trans ?_
  refine (val_g (c2 := (195, d + 5, 510, [some (.ref 108), some (.int l1), some (.int l2), some (.int l3), some (.int l4), some (.int s0)], [.int s0, .int l4, .ref 125], w)) rfl).trans ?_
  refine (val_ias rfl (hW.k 125 (Nat.le_of_ble_eq_true rfl) (Nat.le_of_ble_eq_true rfl)) hy1).trans ?_
  show val (195, d + 5, 511, [some (.ref 108), some (.int l1), some (.int l2), some (.int l3), some (.int l4), some (.int s0)], [], (sI w 125 (l4).toNatClampNeg s0)) = _
  refine (val_g (c2 := (195, d + 5, 513, [some (.ref 108), some (.int l1), some (.int l2), some (.int l3), some (.int l4), some (.int s0)], [.int s0], (sI w 125 (l4).toNatClampNeg s0))) rfl).trans ?_
  refine (val_g (c2 := (195, d + 5, 515, [some (.ref 108), some (.int l1), some (.int l2), some (.int l3), some (.int s0), some (.int s0)], [], (sI w 125 (l4).toNatClampNeg s0))) rfl).trans ?_
  refine (val_g (c2 := (195, d + 5, 473, [some (.ref 108), some (.int l1), some (.int l2), some (.int l3), some (.int s0), some (.int s0)], [], (sI w 125 (l4).toNatClampNeg s0))) rfl).trans ?_
  rfl
theorem tr_195_524 (d : Nat) (w : Wd) (l1 : Int32) (l2 : Int32) (l3 : Int32) (l4 : Int32) (l5 : Option Value)    : val (195, d + 5, 524, [some (.ref 108), some (.int l1), some (.int l2), some (.int l3), some (.int l4), l5], [], w) = some (some (.int l3), w) := by
  refine (val_g (c2 := (195, d + 5, 525, [some (.ref 108), some (.int l1), some (.int l2), some (.int l3), some (.int l4), l5], [.int l3], w)) rfl).trans ?_
  exact val_r rfl
/-- BelfryHouseModel.rule()V -/
theorem tr_196 (d : Nat) (w : Wd) (hW : Fix w)     (hy1 : inB ((gI w 108 11)) 9 = true) (hy2 : (¬ (gI w 113 ((gI w 108 11)).toNatClampNeg) = 20) → inB ((gI w 108 11)) 9 = true) (hy3 : (¬ (gI w 113 ((gI w 108 11)).toNatClampNeg) = 20) → inB (((20 * (gI w 108 11)) + (gI w 113 ((gI w 108 11)).toNatClampNeg))) 180 = true) : val (196, d + 6, 0, [some (.ref 108), none, none], [], w) = (if ¬ (gI w 113 ((gI w 108 11)).toNatClampNeg) = 20 then val (196, d + 6, 61, [some (.ref 108), some (.int ((20 * (gI w 108 11)) + (gI w 113 ((gI w 108 11)).toNatClampNeg))), none], [.ref 2, .ref 108], (sI ((sI w 113 ((gI w 108 11)).toNatClampNeg (((gI w 113 ((gI w 108 11)).toNatClampNeg) + 1)))) 115 (((20 * (gI w 108 11)) + (gI w 113 ((gI w 108 11)).toNatClampNeg))).toNatClampNeg 0)) else val (196, d + 6, 33, [some (.ref 108), some (.int ((20 * (gI w 108 11)) + (gI w 113 ((gI w 108 11)).toNatClampNeg))), none], [.ref 108], w)) := by
  refine (val_g (c2 := (196, d + 6, 2, [some (.ref 108), none, none], [.int 20], w)) rfl).trans ?_
  refine (val_g (c2 := (196, d + 6, 3, [some (.ref 108), none, none], [.ref 108, .int 20], w)) rfl).trans ?_
  refine (val_gf rfl (hW.k 108 (Nat.le_of_ble_eq_true rfl) (Nat.le_of_ble_eq_true rfl)) rfl).trans ?_
  show val (196, d + 6, 6, [some (.ref 108), none, none], [.int (gI w 108 11), .int 20], w) = _
  refine (val_g (c2 := (196, d + 6, 7, [some (.ref 108), none, none], [.int (20 * (gI w 108 11))], w)) rfl).trans ?_
  refine (val_g (c2 := (196, d + 6, 8, [some (.ref 108), none, none], [.ref 108, .int (20 * (gI w 108 11))], w)) rfl).trans ?_
  refine (val_gf rfl (hW.k 108 (Nat.le_of_ble_eq_true rfl) (Nat.le_of_ble_eq_true rfl)) (fvR (hW.r 108 12 113 rfl))).trans ?_
  show val (196, d + 6, 11, [some (.ref 108), none, none], [.ref 113, .int (20 * (gI w 108 11))], w) = _
  refine (val_g (c2 := (196, d + 6, 12, [some (.ref 108), none, none], [.ref 108, .ref 113, .int (20 * (gI w 108 11))], w)) rfl).trans ?_
  refine (val_gf rfl (hW.k 108 (Nat.le_of_ble_eq_true rfl) (Nat.le_of_ble_eq_true rfl)) rfl).trans ?_
  show val (196, d + 6, 15, [some (.ref 108), none, none], [.int (gI w 108 11), .ref 113, .int (20 * (gI w 108 11))], w) = _
  refine (val_ial rfl (hW.k 113 (Nat.le_of_ble_eq_true rfl) (Nat.le_of_ble_eq_true rfl)) rfl hy1).trans ?_
  show val (196, d + 6, 16, [some (.ref 108), none, none], [.int (gI w 113 ((gI w 108 11)).toNatClampNeg), .int (20 * (gI w 108 11))], w) = _
  refine (val_g (c2 := (196, d + 6, 17, [some (.ref 108), none, none], [.int ((20 * (gI w 108 11)) + (gI w 113 ((gI w 108 11)).toNatClampNeg))], w)) rfl).trans ?_
  refine (val_g (c2 := (196, d + 6, 18, [some (.ref 108), some (.int ((20 * (gI w 108 11)) + (gI w 113 ((gI w 108 11)).toNatClampNeg))), none], [], w)) rfl).trans ?_
  refine (val_g (c2 := (196, d + 6, 19, [some (.ref 108), some (.int ((20 * (gI w 108 11)) + (gI w 113 ((gI w 108 11)).toNatClampNeg))), none], [.ref 108], w)) rfl).trans ?_
  refine (val_gf rfl (hW.k 108 (Nat.le_of_ble_eq_true rfl) (Nat.le_of_ble_eq_true rfl)) (fvR (hW.r 108 12 113 rfl))).trans ?_
  show val (196, d + 6, 22, [some (.ref 108), some (.int ((20 * (gI w 108 11)) + (gI w 113 ((gI w 108 11)).toNatClampNeg))), none], [.ref 113], w) = _
  refine (val_g (c2 := (196, d + 6, 23, [some (.ref 108), some (.int ((20 * (gI w 108 11)) + (gI w 113 ((gI w 108 11)).toNatClampNeg))), none], [.ref 108, .ref 113], w)) rfl).trans ?_
  refine (val_gf rfl (hW.k 108 (Nat.le_of_ble_eq_true rfl) (Nat.le_of_ble_eq_true rfl)) rfl).trans ?_
  show val (196, d + 6, 26, [some (.ref 108), some (.int ((20 * (gI w 108 11)) + (gI w 113 ((gI w 108 11)).toNatClampNeg))), none], [.int (gI w 108 11), .ref 113], w) = _
  refine (val_ial rfl (hW.k 113 (Nat.le_of_ble_eq_true rfl) (Nat.le_of_ble_eq_true rfl)) rfl hy1).trans ?_
  show val (196, d + 6, 27, [some (.ref 108), some (.int ((20 * (gI w 108 11)) + (gI w 113 ((gI w 108 11)).toNatClampNeg))), none], [.int (gI w 113 ((gI w 108 11)).toNatClampNeg)], w) = _
  refine (val_g (c2 := (196, d + 6, 29, [some (.ref 108), some (.int ((20 * (gI w 108 11)) + (gI w 113 ((gI w 108 11)).toNatClampNeg))), none], [.int 20, .int (gI w 113 ((gI w 108 11)).toNatClampNeg)], w)) rfl).trans ?_
  by_cases hc1242 : ¬ (gI w 113 ((gI w 108 11)).toNatClampNeg) = 20
  · refine ((val_ic_ne rfl).trans (if_pos hc1242)).trans ?_
    show val (196, d + 6, 37, [some (.ref 108), some (.int ((20 * (gI w 108 11)) + (gI w 113 ((gI w 108 11)).toNatClampNeg))), none], [], w) = _
    refine Eq.trans ?_ (if_pos hc1242).symm
    refine (val_g (c2 := (196, d + 6, 38, [some (.ref 108), some (.int ((20 * (gI w 108 11)) + (gI w 113 ((gI w 108 11)).toNatClampNeg))), none], [.ref 108], w)) rfl).trans ?_
    refine (val_gf rfl (hW.k 108 (Nat.le_of_ble_eq_true rfl) (Nat.le_of_ble_eq_true rfl)) (fvR (hW.r 108 12 113 rfl))).trans ?_
    show val (196, d + 6, 41, [some (.ref 108), some (.int ((20 * (gI w 108 11)) + (gI w 113 ((gI w 108 11)).toNatClampNeg))), none], [.ref 113], w) = _
    refine (val_g (c2 := (196, d + 6, 42, [some (.ref 108), some (.int ((20 * (gI w 108 11)) + (gI w 113 ((gI w 108 11)).toNatClampNeg))), none], [.ref 108, .ref 113], w)) rfl).trans ?_
    refine (val_gf rfl (hW.k 108 (Nat.le_of_ble_eq_true rfl) (Nat.le_of_ble_eq_true rfl)) rfl).trans ?_
    show val (196, d + 6, 45, [some (.ref 108), some (.int ((20 * (gI w 108 11)) + (gI w 113 ((gI w 108 11)).toNatClampNeg))), none], [.int (gI w 108 11), .ref 113], w) = _
    refine (val_g (c2 := (196, d + 6, 46, [some (.ref 108), some (.int ((20 * (gI w 108 11)) + (gI w 113 ((gI w 108 11)).toNatClampNeg))), none], [.int (gI w 108 11), .ref 113, .int (gI w 108 11), .ref 113], w)) rfl).trans ?_
    refine (val_ial rfl (hW.k 113 (Nat.le_of_ble_eq_true rfl) (Nat.le_of_ble_eq_true rfl)) rfl (hy2 hc1242)).trans ?_
    show val (196, d + 6, 47, [some (.ref 108), some (.int ((20 * (gI w 108 11)) + (gI w 113 ((gI w 108 11)).toNatClampNeg))), none], [.int (gI w 113 ((gI w 108 11)).toNatClampNeg), .int (gI w 108 11), .ref 113], w) = _
    refine (val_g (c2 := (196, d + 6, 48, [some (.ref 108), some (.int ((20 * (gI w 108 11)) + (gI w 113 ((gI w 108 11)).toNatClampNeg))), none], [.int 1, .int (gI w 113 ((gI w 108 11)).toNatClampNeg), .int (gI w 108 11), .ref 113], w)) rfl).trans ?_
    refine (val_g (c2 := (196, d + 6, 49, [some (.ref 108), some (.int ((20 * (gI w 108 11)) + (gI w 113 ((gI w 108 11)).toNatClampNeg))), none], [.int ((gI w 113 ((gI w 108 11)).toNatClampNeg) + 1), .int (gI w 108 11), .ref 113], w)) rfl).trans ?_
    refine (val_ias rfl (hW.k 113 (Nat.le_of_ble_eq_true rfl) (Nat.le_of_ble_eq_true rfl)) (hy2 hc1242)).trans ?_
    show val (196, d + 6, 50, [some (.ref 108), some (.int ((20 * (gI w 108 11)) + (gI w 113 ((gI w 108 11)).toNatClampNeg))), none], [], (sI w 113 ((gI w 108 11)).toNatClampNeg (((gI w 113 ((gI w 108 11)).toNatClampNeg) + 1)))) = _
    refine (val_g (c2 := (196, d + 6, 51, [some (.ref 108), some (.int ((20 * (gI w 108 11)) + (gI w 113 ((gI w 108 11)).toNatClampNeg))), none], [.ref 108], (sI w 113 ((gI w 108 11)).toNatClampNeg (((gI w 113 ((gI w 108 11)).toNatClampNeg) + 1))))) rfl).trans ?_
    refine (val_gf (w := (sI w 113 ((gI w 108 11)).toNatClampNeg (((gI w 113 ((gI w 108 11)).toNatClampNeg) + 1)))) rfl (hW.k 108 (Nat.le_of_ble_eq_true rfl) (Nat.le_of_ble_eq_true rfl)) (fvR (hW.r 108 14 115 rfl))).trans ?_
    show val (196, d + 6, 54, [some (.ref 108), some (.int ((20 * (gI w 108 11)) + (gI w 113 ((gI w 108 11)).toNatClampNeg))), none], [.ref 115], (sI w 113 ((gI w 108 11)).toNatClampNeg (((gI w 113 ((gI w 108 11)).toNatClampNeg) + 1)))) = _
    refine (val_g (c2 := (196, d + 6, 55, [some (.ref 108), some (.int ((20 * (gI w 108 11)) + (gI w 113 ((gI w 108 11)).toNatClampNeg))), none], [.int ((20 * (gI w 108 11)) + (gI w 113 ((gI w 108 11)).toNatClampNeg)), .ref 115], (sI w 113 ((gI w 108 11)).toNatClampNeg (((gI w 113 ((gI w 108 11)).toNatClampNeg) + 1))))) rfl).trans ?_
    refine (val_g (c2 := (196, d + 6, 56, [some (.ref 108), some (.int ((20 * (gI w 108 11)) + (gI w 113 ((gI w 108 11)).toNatClampNeg))), none], [.int 0, .int ((20 * (gI w 108 11)) + (gI w 113 ((gI w 108 11)).toNatClampNeg)), .ref 115], (sI w 113 ((gI w 108 11)).toNatClampNeg (((gI w 113 ((gI w 108 11)).toNatClampNeg) + 1))))) rfl).trans ?_
    refine (val_ias (w := (sI w 113 ((gI w 108 11)).toNatClampNeg (((gI w 113 ((gI w 108 11)).toNatClampNeg) + 1)))) rfl (hW.k 115 (Nat.le_of_ble_eq_true rfl) (Nat.le_of_ble_eq_true rfl)) (hy3 hc1242)).trans ?_
    show val (196, d + 6, 57, [some (.ref 108), some (.int ((20 * (gI w 108 11)) + (gI w 113 ((gI w 108 11)).toNatClampNeg))), none], [], (sI ((sI w 113 ((gI w 108 11)).toNatClampNeg (((gI w 113 ((gI w 108 11)).toNatClampNeg) + 1)))) 115 (((20 * (gI w 108 11)) + (gI w 113 ((gI w 108 11)).toNatClampNeg))).toNatClampNeg 0)) = _
    refine (val_g (c2 := (196, d + 6, 58, [some (.ref 108), some (.int ((20 * (gI w 108 11)) + (gI w 113 ((gI w 108 11)).toNatClampNeg))), none], [.ref 108], (sI ((sI w 113 ((gI w 108 11)).toNatClampNeg (((gI w 113 ((gI w 108 11)).toNatClampNeg) + 1)))) 115 (((20 * (gI w 108 11)) + (gI w 113 ((gI w 108 11)).toNatClampNeg))).toNatClampNeg 0))) rfl).trans ?_
    refine (val_g (c2 := (196, d + 6, 61, [some (.ref 108), some (.int ((20 * (gI w 108 11)) + (gI w 113 ((gI w 108 11)).toNatClampNeg))), none], [.ref 2, .ref 108], (sI ((sI w 113 ((gI w 108 11)).toNatClampNeg (((gI w 113 ((gI w 108 11)).toNatClampNeg) + 1)))) 115 (((20 * (gI w 108 11)) + (gI w 113 ((gI w 108 11)).toNatClampNeg))).toNatClampNeg 0))) rfl).trans ?_
    rfl
  · refine ((val_ic_ne rfl).trans (if_neg hc1242)).trans ?_
    show val (196, d + 6, 32, [some (.ref 108), some (.int ((20 * (gI w 108 11)) + (gI w 113 ((gI w 108 11)).toNatClampNeg))), none], [], w) = _
    refine Eq.trans ?_ (if_neg hc1242).symm
    refine (val_g (c2 := (196, d + 6, 33, [some (.ref 108), some (.int ((20 * (gI w 108 11)) + (gI w 113 ((gI w 108 11)).toNatClampNeg))), none], [.ref 108], w)) rfl).trans ?_
    rfl
theorem tr_196_36 (d : Nat) (w : Wd) (l1 : Int32)     : val (196, d + 6, 36, [some (.ref 108), some (.int l1), none], [], w) = some (none, w) := by
  exact val_r rfl
theorem tr_196_64 (d : Nat) (w : Wd) (l1 : Int32) (s0 : Int32)     : val (196, d + 6, 64, [some (.ref 108), some (.int l1), none], [.int s0], w) = (if s0 = 0 then val (196, d + 6, 107, [some (.ref 108), some (.int l1), none], [.int 0, .ref 108], w) else val (196, d + 6, 68, [some (.ref 108), some (.int l1), none], [.ref 108], w)) := by
  by_cases hc1243 : s0 = 0
  · refine ((val_if_eq rfl).trans (if_pos hc1243)).trans ?_
    show val (196, d + 6, 105, [some (.ref 108), some (.int l1), none], [], w) = _
    refine Eq.trans ?_ (if_pos hc1243).symm
    refine (val_g (c2 := (196, d + 6, 106, [some (.ref 108), some (.int l1), none], [.ref 108], w)) rfl).trans ?_
    refine (val_g (c2 := (196, d + 6, 107, [some (.ref 108), some (.int l1), none], [.int 0, .ref 108], w)) rfl).trans ?_
    rfl
  · refine ((val_if_eq rfl).trans (if_neg hc1243)).trans ?_
    show val (196, d + 6, 67, [some (.ref 108), some (.int l1), none], [], w) = _
    refine Eq.trans ?_ (if_neg hc1243).symm
    refine (val_g (c2 := (196, d + 6, 68, [some (.ref 108), some (.int l1), none], [.ref 108], w)) rfl).trans ?_
    rfl
theorem tr_196_71 (d : Nat) (w : Wd) (l1 : Int32)     : val (196, d + 6, 71, [some (.ref 108), some (.int l1), none], [], w) = val (196, d + 6, 73, [some (.ref 108), some (.int l1), none], [.int l1, .ref 108], w) := by
  refine (val_g (c2 := (196, d + 6, 72, [some (.ref 108), some (.int l1), none], [.ref 108], w)) rfl).trans ?_
  refine (val_g (c2 := (196, d + 6, 73, [some (.ref 108), some (.int l1), none], [.int l1, .ref 108], w)) rfl).trans ?_
  rfl
theorem tr_196_76 (d : Nat) (w : Wd) (l1 : Int32)     : val (196, d + 6, 76, [some (.ref 108), some (.int l1), none], [], w) = val (196, d + 6, 77, [some (.ref 108), some (.int l1), none], [.ref 108], w) := by
  refine (val_g (c2 := (196, d + 6, 77, [some (.ref 108), some (.int l1), none], [.ref 108], w)) rfl).trans ?_
  rfl
theorem tr_196_80 (d : Nat) (w : Wd) (l1 : Int32) (s0 : Int32)     : val (196, d + 6, 80, [some (.ref 108), some (.int l1), none], [.int s0], w) = (if s0 = 0 then val (196, d + 6, 107, [some (.ref 108), some (.int l1), none], [.int 0, .ref 108], w) else val (196, d + 6, 87, [some (.ref 108), some (.int l1), none], [.ref 10, .ref 108], w)) := by
  by_cases hc1244 : s0 = 0
  · refine ((val_if_eq rfl).trans (if_pos hc1244)).trans ?_
    show val (196, d + 6, 105, [some (.ref 108), some (.int l1), none], [], w) = _
    refine Eq.trans ?_ (if_pos hc1244).symm
    refine (val_g (c2 := (196, d + 6, 106, [some (.ref 108), some (.int l1), none], [.ref 108], w)) rfl).trans ?_
    refine (val_g (c2 := (196, d + 6, 107, [some (.ref 108), some (.int l1), none], [.int 0, .ref 108], w)) rfl).trans ?_
    rfl
  · refine ((val_if_eq rfl).trans (if_neg hc1244)).trans ?_
    show val (196, d + 6, 83, [some (.ref 108), some (.int l1), none], [], w) = _
    refine Eq.trans ?_ (if_neg hc1244).symm
    refine (val_g (c2 := (196, d + 6, 84, [some (.ref 108), some (.int l1), none], [.ref 108], w)) rfl).trans ?_
    refine (val_g (c2 := (196, d + 6, 87, [some (.ref 108), some (.int l1), none], [.ref 10, .ref 108], w)) rfl).trans ?_
    rfl
theorem tr_196_90 (d : Nat) (w : Wd) (l1 : Int32) (s0 : Int32)     : val (196, d + 6, 90, [some (.ref 108), some (.int l1), none], [.int s0], w) = (if s0 = 0 then val (196, d + 6, 107, [some (.ref 108), some (.int l1), none], [.int 0, .ref 108], w) else val (196, d + 6, 94, [some (.ref 108), some (.int l1), none], [.ref 108], w)) := by
  by_cases hc1245 : s0 = 0
  · refine ((val_if_eq rfl).trans (if_pos hc1245)).trans ?_
    show val (196, d + 6, 105, [some (.ref 108), some (.int l1), none], [], w) = _
    refine Eq.trans ?_ (if_pos hc1245).symm
    refine (val_g (c2 := (196, d + 6, 106, [some (.ref 108), some (.int l1), none], [.ref 108], w)) rfl).trans ?_
    refine (val_g (c2 := (196, d + 6, 107, [some (.ref 108), some (.int l1), none], [.int 0, .ref 108], w)) rfl).trans ?_
    rfl
  · refine ((val_if_eq rfl).trans (if_neg hc1245)).trans ?_
    show val (196, d + 6, 93, [some (.ref 108), some (.int l1), none], [], w) = _
    refine Eq.trans ?_ (if_neg hc1245).symm
    refine (val_g (c2 := (196, d + 6, 94, [some (.ref 108), some (.int l1), none], [.ref 108], w)) rfl).trans ?_
    rfl
theorem tr_196_97 (d : Nat) (w : Wd) (l1 : Int32)     : val (196, d + 6, 97, [some (.ref 108), some (.int l1), none], [], w) = val (196, d + 6, 99, [some (.ref 108), some (.int l1), none], [.int l1, .ref 108], w) := by
  refine (val_g (c2 := (196, d + 6, 98, [some (.ref 108), some (.int l1), none], [.ref 108], w)) rfl).trans ?_
  refine (val_g (c2 := (196, d + 6, 99, [some (.ref 108), some (.int l1), none], [.int l1, .ref 108], w)) rfl).trans ?_
  rfl
theorem tr_196_102 (d : Nat) (w : Wd) (l1 : Int32)     : val (196, d + 6, 102, [some (.ref 108), some (.int l1), none], [], w) = val (196, d + 6, 76, [some (.ref 108), some (.int l1), none], [], w) := by
  refine (val_g (c2 := (196, d + 6, 76, [some (.ref 108), some (.int l1), none], [], w)) rfl).trans ?_
  rfl
theorem tr_196_110 (d : Nat) (w : Wd) (hW : Fix w) (l1 : Int32) (s0 : Int32)    (hy1 : inB l1 180 = true) : val (196, d + 6, 110, [some (.ref 108), some (.int l1), none], [.int s0], w) = val (196, d + 6, 121, [some (.ref 108), some (.int l1), some (.int s0)], [.int 59, .ref 108], (sI w 120 (l1).toNatClampNeg s0)) := by
  refine (val_g (c2 := (196, d + 6, 111, [some (.ref 108), some (.int l1), some (.int s0)], [], w)) rfl).trans ?_
  refine (val_g (c2 := (196, d + 6, 112, [some (.ref 108), some (.int l1), some (.int s0)], [.ref 108], w)) rfl).trans ?_
  refine (val_gf rfl (hW.k 108 (Nat.le_of_ble_eq_true rfl) (Nat.le_of_ble_eq_true rfl)) (fvR (hW.r 108 19 120 rfl))).trans ?_
  show val (196, d + 6, 115, [some (.ref 108), some (.int l1), some (.int s0)], [.ref 120], w) = _
  refine (val_g (c2 := (196, d + 6, 116, [some (.ref 108), some (.int l1), some (.int s0)], [.int l1, .ref 120], w)) rfl).trans ?_
  refine (val_g (c2 := (196, d + 6, 117, [some (.ref 108), some (.int l1), some (.int s0)], [.int s0, .int l1, .ref 120], w)) rfl).trans ?_
  refine (val_ias rfl (hW.k 120 (Nat.le_of_ble_eq_true rfl) (Nat.le_of_ble_eq_true rfl)) hy1).trans ?_
  show val (196, d + 6, 118, [some (.ref 108), some (.int l1), some (.int s0)], [], (sI w 120 (l1).toNatClampNeg s0)) = _
  refine (val_g (c2 := (196, d + 6, 119, [some (.ref 108), some (.int l1), some (.int s0)], [.ref 108], (sI w 120 (l1).toNatClampNeg s0))) rfl).trans ?_
  refine (val_g (c2 := (196, d + 6, 121, [some (.ref 108), some (.int l1), some (.int s0)], [.int 59, .ref 108], (sI w 120 (l1).toNatClampNeg s0))) rfl).trans ?_
  rfl
theorem tr_196_124 (d : Nat) (w : Wd) (l1 : Int32) (l2 : Int32)     : val (196, d + 6, 124, [some (.ref 108), some (.int l1), some (.int l2)], [], w) = some (none, w) := by
  exact val_r rfl
/-- BelfryHouseModel.method()I -/
theorem tr_197 (d : Nat) (w : Wd) (hW : Fix w)     (hy1 : (¬ (gI w 108 11) = 8) → inB ((gI ((sI ((sI ((sI w 108 10 ((-9)))) 108 8 0)) 108 20 0)) 108 11)) 9 = true) : val (197, d + 7, 0, [some (.ref 108)], [], w) = (if ¬ (gI w 108 11) = 8 then val (197, d + 7, 44, [some (.ref 108)], [.ref 108], (sI ((sI ((sI ((sI w 108 10 ((-9)))) 108 8 0)) 108 20 0)) 113 ((gI ((sI ((sI ((sI w 108 10 ((-9)))) 108 8 0)) 108 20 0)) 108 11)).toNatClampNeg 0)) else some (some (.int (-3)), (sI w 108 5 0))) := by
  refine (val_g (c2 := (197, d + 7, 1, [some (.ref 108)], [.ref 108], w)) rfl).trans ?_
  refine (val_gf rfl (hW.k 108 (Nat.le_of_ble_eq_true rfl) (Nat.le_of_ble_eq_true rfl)) rfl).trans ?_
  show val (197, d + 7, 4, [some (.ref 108)], [.int (gI w 108 11)], w) = _
  refine (val_g (c2 := (197, d + 7, 6, [some (.ref 108)], [.int 8, .int (gI w 108 11)], w)) rfl).trans ?_
  by_cases hc1250 : ¬ (gI w 108 11) = 8
  · refine ((val_ic_ne rfl).trans (if_pos hc1250)).trans ?_
    show val (197, d + 7, 17, [some (.ref 108)], [], w) = _
    refine Eq.trans ?_ (if_pos hc1250).symm
    refine (val_g (c2 := (197, d + 7, 18, [some (.ref 108)], [.ref 108], w)) rfl).trans ?_
    refine (val_g (c2 := (197, d + 7, 20, [some (.ref 108)], [.int (-9), .ref 108], w)) rfl).trans ?_
    refine (val_pf rfl (hW.k 108 (Nat.le_of_ble_eq_true rfl) (Nat.le_of_ble_eq_true rfl)) rfl).trans ?_
    show val (197, d + 7, 23, [some (.ref 108)], [], (sI w 108 10 ((-9)))) = _
    refine (val_g (c2 := (197, d + 7, 24, [some (.ref 108)], [.ref 108], (sI w 108 10 ((-9))))) rfl).trans ?_
    refine (val_g (c2 := (197, d + 7, 25, [some (.ref 108)], [.int 0, .ref 108], (sI w 108 10 ((-9))))) rfl).trans ?_
    refine (val_pf (w := (sI w 108 10 ((-9)))) rfl (hW.k 108 (Nat.le_of_ble_eq_true rfl) (Nat.le_of_ble_eq_true rfl)) rfl).trans ?_
    show val (197, d + 7, 28, [some (.ref 108)], [], (sI ((sI w 108 10 ((-9)))) 108 8 0)) = _
    refine (val_g (c2 := (197, d + 7, 29, [some (.ref 108)], [.ref 108], (sI ((sI w 108 10 ((-9)))) 108 8 0))) rfl).trans ?_
    refine (val_g (c2 := (197, d + 7, 30, [some (.ref 108)], [.int 0, .ref 108], (sI ((sI w 108 10 ((-9)))) 108 8 0))) rfl).trans ?_
    refine (val_pf (w := (sI ((sI w 108 10 ((-9)))) 108 8 0)) rfl (hW.k 108 (Nat.le_of_ble_eq_true rfl) (Nat.le_of_ble_eq_true rfl)) rfl).trans ?_
    show val (197, d + 7, 33, [some (.ref 108)], [], (sI ((sI ((sI w 108 10 ((-9)))) 108 8 0)) 108 20 0)) = _
    refine (val_g (c2 := (197, d + 7, 34, [some (.ref 108)], [.ref 108], (sI ((sI ((sI w 108 10 ((-9)))) 108 8 0)) 108 20 0))) rfl).trans ?_
    refine (val_gf (w := (sI ((sI ((sI w 108 10 ((-9)))) 108 8 0)) 108 20 0)) rfl (hW.k 108 (Nat.le_of_ble_eq_true rfl) (Nat.le_of_ble_eq_true rfl)) (fvR (hW.r 108 12 113 rfl))).trans ?_
    show val (197, d + 7, 37, [some (.ref 108)], [.ref 113], (sI ((sI ((sI w 108 10 ((-9)))) 108 8 0)) 108 20 0)) = _
    refine (val_g (c2 := (197, d + 7, 38, [some (.ref 108)], [.ref 108, .ref 113], (sI ((sI ((sI w 108 10 ((-9)))) 108 8 0)) 108 20 0))) rfl).trans ?_
    refine (val_gf (w := (sI ((sI ((sI w 108 10 ((-9)))) 108 8 0)) 108 20 0)) rfl (hW.k 108 (Nat.le_of_ble_eq_true rfl) (Nat.le_of_ble_eq_true rfl)) rfl).trans ?_
    show val (197, d + 7, 41, [some (.ref 108)], [.int (gI ((sI ((sI ((sI w 108 10 ((-9)))) 108 8 0)) 108 20 0)) 108 11), .ref 113], (sI ((sI ((sI w 108 10 ((-9)))) 108 8 0)) 108 20 0)) = _
    refine (val_g (c2 := (197, d + 7, 42, [some (.ref 108)], [.int 0, .int (gI ((sI ((sI ((sI w 108 10 ((-9)))) 108 8 0)) 108 20 0)) 108 11), .ref 113], (sI ((sI ((sI w 108 10 ((-9)))) 108 8 0)) 108 20 0))) rfl).trans ?_
    refine (val_ias (w := (sI ((sI ((sI w 108 10 ((-9)))) 108 8 0)) 108 20 0)) rfl (hW.k 113 (Nat.le_of_ble_eq_true rfl) (Nat.le_of_ble_eq_true rfl)) (hy1 hc1250)).trans ?_
    show val (197, d + 7, 43, [some (.ref 108)], [], (sI ((sI ((sI ((sI w 108 10 ((-9)))) 108 8 0)) 108 20 0)) 113 ((gI ((sI ((sI ((sI w 108 10 ((-9)))) 108 8 0)) 108 20 0)) 108 11)).toNatClampNeg 0)) = _
    refine (val_g (c2 := (197, d + 7, 44, [some (.ref 108)], [.ref 108], (sI ((sI ((sI ((sI w 108 10 ((-9)))) 108 8 0)) 108 20 0)) 113 ((gI ((sI ((sI ((sI w 108 10 ((-9)))) 108 8 0)) 108 20 0)) 108 11)).toNatClampNeg 0))) rfl).trans ?_
    rfl
  · refine ((val_ic_ne rfl).trans (if_neg hc1250)).trans ?_
    show val (197, d + 7, 9, [some (.ref 108)], [], w) = _
    refine Eq.trans ?_ (if_neg hc1250).symm
    refine (val_g (c2 := (197, d + 7, 10, [some (.ref 108)], [.ref 108], w)) rfl).trans ?_
    refine (val_g (c2 := (197, d + 7, 11, [some (.ref 108)], [.int 0, .ref 108], w)) rfl).trans ?_
    refine (val_pf rfl (hW.k 108 (Nat.le_of_ble_eq_true rfl) (Nat.le_of_ble_eq_true rfl)) rfl).trans ?_
    show val (197, d + 7, 14, [some (.ref 108)], [], (sI w 108 5 0)) = _
    refine (val_g (c2 := (197, d + 7, 16, [some (.ref 108)], [.int (-3)], (sI w 108 5 0))) rfl).trans ?_
    exact val_r rfl
theorem tr_197_47 (d : Nat) (w : Wd)      : val (197, d + 7, 47, [some (.ref 108)], [], w) = val (197, d + 7, 48, [some (.ref 108)], [.ref 108], w) := by
  refine (val_g (c2 := (197, d + 7, 48, [some (.ref 108)], [.ref 108], w)) rfl).trans ?_
  rfl
theorem tr_197_51 (d : Nat) (w : Wd)      : val (197, d + 7, 51, [some (.ref 108)], [], w) = val (197, d + 7, 52, [some (.ref 108)], [.ref 108], w) := by
  refine (val_g (c2 := (197, d + 7, 52, [some (.ref 108)], [.ref 108], w)) rfl).trans ?_
  rfl
theorem tr_197_55 (d : Nat) (w : Wd) (hW : Fix w) (s0 : Int32)     : val (197, d + 7, 55, [some (.ref 108)], [.int s0], w) = (if s0 = 0 then val (197, d + 7, 78, [some (.ref 108)], [.ref 108], (sI w 108 5 0)) else (if (gI w 108 6) = 0 then val (197, d + 7, 78, [some (.ref 108)], [.ref 108], (sI w 108 5 0)) else val (197, d + 7, 66, [some (.ref 108)], [.ref 108], w))) := by
  by_cases hc1251 : s0 = 0
  · refine ((val_if_eq rfl).trans (if_pos hc1251)).trans ?_
    show val (197, d + 7, 72, [some (.ref 108)], [], w) = _
    refine Eq.trans ?_ (if_pos hc1251).symm
    refine (val_g (c2 := (197, d + 7, 73, [some (.ref 108)], [.ref 108], w)) rfl).trans ?_
    refine (val_g (c2 := (197, d + 7, 74, [some (.ref 108)], [.int 0, .ref 108], w)) rfl).trans ?_
    refine (val_pf rfl (hW.k 108 (Nat.le_of_ble_eq_true rfl) (Nat.le_of_ble_eq_true rfl)) rfl).trans ?_
    show val (197, d + 7, 77, [some (.ref 108)], [], (sI w 108 5 0)) = _
    refine (val_g (c2 := (197, d + 7, 78, [some (.ref 108)], [.ref 108], (sI w 108 5 0))) rfl).trans ?_
    rfl
  · refine ((val_if_eq rfl).trans (if_neg hc1251)).trans ?_
    show val (197, d + 7, 58, [some (.ref 108)], [], w) = _
    refine Eq.trans ?_ (if_neg hc1251).symm
    refine (val_g (c2 := (197, d + 7, 59, [some (.ref 108)], [.ref 108], w)) rfl).trans ?_
    refine (val_gf rfl (hW.k 108 (Nat.le_of_ble_eq_true rfl) (Nat.le_of_ble_eq_true rfl)) rfl).trans ?_
    show val (197, d + 7, 62, [some (.ref 108)], [.int (gI w 108 6)], w) = _
    by_cases hc1252 : (gI w 108 6) = 0
    · refine ((val_if_eq rfl).trans (if_pos hc1252)).trans ?_
      show val (197, d + 7, 72, [some (.ref 108)], [], w) = _
      refine Eq.trans ?_ (if_pos hc1252).symm
      refine (val_g (c2 := (197, d + 7, 73, [some (.ref 108)], [.ref 108], w)) rfl).trans ?_
      refine (val_g (c2 := (197, d + 7, 74, [some (.ref 108)], [.int 0, .ref 108], w)) rfl).trans ?_
      refine (val_pf rfl (hW.k 108 (Nat.le_of_ble_eq_true rfl) (Nat.le_of_ble_eq_true rfl)) rfl).trans ?_
      show val (197, d + 7, 77, [some (.ref 108)], [], (sI w 108 5 0)) = _
      refine (val_g (c2 := (197, d + 7, 78, [some (.ref 108)], [.ref 108], (sI w 108 5 0))) rfl).trans ?_
      rfl
    · refine ((val_if_eq rfl).trans (if_neg hc1252)).trans ?_
      show val (197, d + 7, 65, [some (.ref 108)], [], w) = _
      refine Eq.trans ?_ (if_neg hc1252).symm
      refine (val_g (c2 := (197, d + 7, 66, [some (.ref 108)], [.ref 108], w)) rfl).trans ?_
      rfl
theorem tr_197_69 (d : Nat) (w : Wd)      : val (197, d + 7, 69, [some (.ref 108)], [], w) = val (197, d + 7, 51, [some (.ref 108)], [], w) := by
  refine (val_g (c2 := (197, d + 7, 51, [some (.ref 108)], [], w)) rfl).trans ?_
  rfl
theorem tr_197_81 (d : Nat) (w : Wd) (hW : Fix w) (s0 : Int32)    (hy1 : (¬ s0 = 0) → inB ((gI w 108 11)) 9 = true) : val (197, d + 7, 81, [some (.ref 108)], [.int s0], w) = (if ¬ s0 = 0 then some (some (.int ((gI ((sI ((sI w 114 ((gI w 108 11)).toNatClampNeg ((gI w 108 20)))) 108 11 (((gI ((sI w 114 ((gI w 108 11)).toNatClampNeg ((gI w 108 20)))) 108 11) + 1)))) 108 11) - 1)), (sI ((sI w 114 ((gI w 108 11)).toNatClampNeg ((gI w 108 20)))) 108 11 (((gI ((sI w 114 ((gI w 108 11)).toNatClampNeg ((gI w 108 20)))) 108 11) + 1)))) else some (some (.int ((-10) - (gI w 108 10))), w)) := by
  by_cases hc1253 : ¬ s0 = 0
  · refine ((val_if_ne rfl).trans (if_pos hc1253)).trans ?_
    show val (197, d + 7, 92, [some (.ref 108)], [], w) = _
    refine Eq.trans ?_ (if_pos hc1253).symm
    refine (val_g (c2 := (197, d + 7, 93, [some (.ref 108)], [.ref 108], w)) rfl).trans ?_
    refine (val_gf rfl (hW.k 108 (Nat.le_of_ble_eq_true rfl) (Nat.le_of_ble_eq_true rfl)) (fvR (hW.r 108 13 114 rfl))).trans ?_
    show val (197, d + 7, 96, [some (.ref 108)], [.ref 114], w) = _
    refine (val_g (c2 := (197, d + 7, 97, [some (.ref 108)], [.ref 108, .ref 114], w)) rfl).trans ?_
    refine (val_gf rfl (hW.k 108 (Nat.le_of_ble_eq_true rfl) (Nat.le_of_ble_eq_true rfl)) rfl).trans ?_
    show val (197, d + 7, 100, [some (.ref 108)], [.int (gI w 108 11), .ref 114], w) = _
    refine (val_g (c2 := (197, d + 7, 101, [some (.ref 108)], [.ref 108, .int (gI w 108 11), .ref 114], w)) rfl).trans ?_
    refine (val_gf rfl (hW.k 108 (Nat.le_of_ble_eq_true rfl) (Nat.le_of_ble_eq_true rfl)) rfl).trans ?_
    show val (197, d + 7, 104, [some (.ref 108)], [.int (gI w 108 20), .int (gI w 108 11), .ref 114], w) = _
    refine (val_ias rfl (hW.k 114 (Nat.le_of_ble_eq_true rfl) (Nat.le_of_ble_eq_true rfl)) (hy1 hc1253)).trans ?_
    show val (197, d + 7, 105, [some (.ref 108)], [], (sI w 114 ((gI w 108 11)).toNatClampNeg ((gI w 108 20)))) = _
    refine (val_g (c2 := (197, d + 7, 106, [some (.ref 108)], [.ref 108], (sI w 114 ((gI w 108 11)).toNatClampNeg ((gI w 108 20))))) rfl).trans ?_
    refine (val_g (c2 := (197, d + 7, 107, [some (.ref 108)], [.ref 108, .ref 108], (sI w 114 ((gI w 108 11)).toNatClampNeg ((gI w 108 20))))) rfl).trans ?_
    refine (val_gf (w := (sI w 114 ((gI w 108 11)).toNatClampNeg ((gI w 108 20)))) rfl (hW.k 108 (Nat.le_of_ble_eq_true rfl) (Nat.le_of_ble_eq_true rfl)) rfl).trans ?_
    show val (197, d + 7, 110, [some (.ref 108)], [.int (gI ((sI w 114 ((gI w 108 11)).toNatClampNeg ((gI w 108 20)))) 108 11), .ref 108], (sI w 114 ((gI w 108 11)).toNatClampNeg ((gI w 108 20)))) = _
    refine (val_g (c2 := (197, d + 7, 111, [some (.ref 108)], [.int 1, .int (gI ((sI w 114 ((gI w 108 11)).toNatClampNeg ((gI w 108 20)))) 108 11), .ref 108], (sI w 114 ((gI w 108 11)).toNatClampNeg ((gI w 108 20))))) rfl).trans ?_
    refine (val_g (c2 := (197, d + 7, 112, [some (.ref 108)], [.int ((gI ((sI w 114 ((gI w 108 11)).toNatClampNeg ((gI w 108 20)))) 108 11) + 1), .ref 108], (sI w 114 ((gI w 108 11)).toNatClampNeg ((gI w 108 20))))) rfl).trans ?_
    refine (val_pf (w := (sI w 114 ((gI w 108 11)).toNatClampNeg ((gI w 108 20)))) rfl (hW.k 108 (Nat.le_of_ble_eq_true rfl) (Nat.le_of_ble_eq_true rfl)) rfl).trans ?_
    show val (197, d + 7, 115, [some (.ref 108)], [], (sI ((sI w 114 ((gI w 108 11)).toNatClampNeg ((gI w 108 20)))) 108 11 (((gI ((sI w 114 ((gI w 108 11)).toNatClampNeg ((gI w 108 20)))) 108 11) + 1)))) = _
    refine (val_g (c2 := (197, d + 7, 116, [some (.ref 108)], [.ref 108], (sI ((sI w 114 ((gI w 108 11)).toNatClampNeg ((gI w 108 20)))) 108 11 (((gI ((sI w 114 ((gI w 108 11)).toNatClampNeg ((gI w 108 20)))) 108 11) + 1))))) rfl).trans ?_
    refine (val_gf (w := (sI ((sI w 114 ((gI w 108 11)).toNatClampNeg ((gI w 108 20)))) 108 11 (((gI ((sI w 114 ((gI w 108 11)).toNatClampNeg ((gI w 108 20)))) 108 11) + 1)))) rfl (hW.k 108 (Nat.le_of_ble_eq_true rfl) (Nat.le_of_ble_eq_true rfl)) rfl).trans ?_
    show val (197, d + 7, 119, [some (.ref 108)], [.int (gI ((sI ((sI w 114 ((gI w 108 11)).toNatClampNeg ((gI w 108 20)))) 108 11 (((gI ((sI w 114 ((gI w 108 11)).toNatClampNeg ((gI w 108 20)))) 108 11) + 1)))) 108 11)], (sI ((sI w 114 ((gI w 108 11)).toNatClampNeg ((gI w 108 20)))) 108 11 (((gI ((sI w 114 ((gI w 108 11)).toNatClampNeg ((gI w 108 20)))) 108 11) + 1)))) = _
    refine (val_g (c2 := (197, d + 7, 120, [some (.ref 108)], [.int 1, .int (gI ((sI ((sI w 114 ((gI w 108 11)).toNatClampNeg ((gI w 108 20)))) 108 11 (((gI ((sI w 114 ((gI w 108 11)).toNatClampNeg ((gI w 108 20)))) 108 11) + 1)))) 108 11)], (sI ((sI w 114 ((gI w 108 11)).toNatClampNeg ((gI w 108 20)))) 108 11 (((gI ((sI w 114 ((gI w 108 11)).toNatClampNeg ((gI w 108 20)))) 108 11) + 1))))) rfl).trans ?_
    refine (val_g (c2 := (197, d + 7, 121, [some (.ref 108)], [.int ((gI ((sI ((sI w 114 ((gI w 108 11)).toNatClampNeg ((gI w 108 20)))) 108 11 (((gI ((sI w 114 ((gI w 108 11)).toNatClampNeg ((gI w 108 20)))) 108 11) + 1)))) 108 11) - 1)], (sI ((sI w 114 ((gI w 108 11)).toNatClampNeg ((gI w 108 20)))) 108 11 (((gI ((sI w 114 ((gI w 108 11)).toNatClampNeg ((gI w 108 20)))) 108 11) + 1))))) rfl).trans ?_
    exact val_r rfl
  · refine ((val_if_ne rfl).trans (if_neg hc1253)).trans ?_
    show val (197, d + 7, 84, [some (.ref 108)], [], w) = _
    refine Eq.trans ?_ (if_neg hc1253).symm
    refine (val_g (c2 := (197, d + 7, 86, [some (.ref 108)], [.int (-10)], w)) rfl).trans ?_
    refine (val_g (c2 := (197, d + 7, 87, [some (.ref 108)], [.ref 108, .int (-10)], w)) rfl).trans ?_
    refine (val_gf rfl (hW.k 108 (Nat.le_of_ble_eq_true rfl) (Nat.le_of_ble_eq_true rfl)) rfl).trans ?_
    show val (197, d + 7, 90, [some (.ref 108)], [.int (gI w 108 10), .int (-10)], w) = _
    refine (val_g (c2 := (197, d + 7, 91, [some (.ref 108)], [.int ((-10) - (gI w 108 10))], w)) rfl).trans ?_
    exact val_r rfl
/-- BelfryHouseModel.about(II)I -/
theorem tr_198 (d : Nat) (w : Wd) (hW : Fix w) (x0 : Int32) (x1 : Int32)    (hy1 : (¬ (x0 < 0)) → (¬ ((gI w 108 11) ≤ x0)) → (¬ (x1 < 0)) → (x1 ≤ 1) → (¬ x1 = 0) → inB x0 9 = true) (hy2 : (¬ (x0 < 0)) → (¬ ((gI w 108 11) ≤ x0)) → (¬ (x1 < 0)) → (x1 ≤ 1) → (¬ (¬ x1 = 0)) → inB x0 9 = true) : val (198, d, 0, [some (.ref 108), some (.int x0), some (.int x1)], [], w) = (if x0 < 0 then some (some (.int (-1)), w) else (if (gI w 108 11) ≤ x0 then some (some (.int (-1)), w) else (if x1 < 0 then some (some (.int (-1)), w) else (if x1 ≤ 1 then (if ¬ x1 = 0 then some (some (.int (gI w 114 (x0).toNatClampNeg)), w) else some (some (.int (gI w 113 (x0).toNatClampNeg)), w)) else some (some (.int (-1)), w))))) := by
  refine (val_g (c2 := (198, d, 1, [some (.ref 108), some (.int x0), some (.int x1)], [.int x0], w)) rfl).trans ?_
  by_cases hc1259 : x0 < 0
  · refine ((val_if_lt rfl).trans (if_pos hc1259)).trans ?_
    show val (198, d, 21, [some (.ref 108), some (.int x0), some (.int x1)], [], w) = _
    refine Eq.trans ?_ (if_pos hc1259).symm
    refine (val_g (c2 := (198, d, 22, [some (.ref 108), some (.int x0), some (.int x1)], [.int (-1)], w)) rfl).trans ?_
    exact val_r rfl
  · refine ((val_if_lt rfl).trans (if_neg hc1259)).trans ?_
    show val (198, d, 4, [some (.ref 108), some (.int x0), some (.int x1)], [], w) = _
    refine Eq.trans ?_ (if_neg hc1259).symm
    refine (val_g (c2 := (198, d, 5, [some (.ref 108), some (.int x0), some (.int x1)], [.int x0], w)) rfl).trans ?_
    refine (val_g (c2 := (198, d, 6, [some (.ref 108), some (.int x0), some (.int x1)], [.ref 108, .int x0], w)) rfl).trans ?_
    refine (val_gf rfl (hW.k 108 (Nat.le_of_ble_eq_true rfl) (Nat.le_of_ble_eq_true rfl)) rfl).trans ?_
    show val (198, d, 9, [some (.ref 108), some (.int x0), some (.int x1)], [.int (gI w 108 11), .int x0], w) = _
    by_cases hc1260 : (gI w 108 11) ≤ x0
    · refine ((val_ic_ge rfl).trans (if_pos hc1260)).trans ?_
      show val (198, d, 21, [some (.ref 108), some (.int x0), some (.int x1)], [], w) = _
      refine Eq.trans ?_ (if_pos hc1260).symm
      refine (val_g (c2 := (198, d, 22, [some (.ref 108), some (.int x0), some (.int x1)], [.int (-1)], w)) rfl).trans ?_
      exact val_r rfl
    · refine ((val_ic_ge rfl).trans (if_neg hc1260)).trans ?_
      show val (198, d, 12, [some (.ref 108), some (.int x0), some (.int x1)], [], w) = _
      refine Eq.trans ?_ (if_neg hc1260).symm
      refine (val_g (c2 := (198, d, 13, [some (.ref 108), some (.int x0), some (.int x1)], [.int x1], w)) rfl).trans ?_
      by_cases hc1261 : x1 < 0
      · refine ((val_if_lt rfl).trans (if_pos hc1261)).trans ?_
        show val (198, d, 21, [some (.ref 108), some (.int x0), some (.int x1)], [], w) = _
        refine Eq.trans ?_ (if_pos hc1261).symm
        refine (val_g (c2 := (198, d, 22, [some (.ref 108), some (.int x0), some (.int x1)], [.int (-1)], w)) rfl).trans ?_
        exact val_r rfl
      · refine ((val_if_lt rfl).trans (if_neg hc1261)).trans ?_
        show val (198, d, 16, [some (.ref 108), some (.int x0), some (.int x1)], [], w) = _
        refine Eq.trans ?_ (if_neg hc1261).symm
        refine (val_g (c2 := (198, d, 17, [some (.ref 108), some (.int x0), some (.int x1)], [.int x1], w)) rfl).trans ?_
        refine (val_g (c2 := (198, d, 18, [some (.ref 108), some (.int x0), some (.int x1)], [.int 1, .int x1], w)) rfl).trans ?_
        by_cases hc1262 : x1 ≤ 1
        · refine ((val_ic_le rfl).trans (if_pos hc1262)).trans ?_
          show val (198, d, 23, [some (.ref 108), some (.int x0), some (.int x1)], [], w) = _
          refine Eq.trans ?_ (if_pos hc1262).symm
          refine (val_g (c2 := (198, d, 24, [some (.ref 108), some (.int x0), some (.int x1)], [.int x1], w)) rfl).trans ?_
          by_cases hc1263 : ¬ x1 = 0
          · refine ((val_if_ne rfl).trans (if_pos hc1263)).trans ?_
            show val (198, d, 36, [some (.ref 108), some (.int x0), some (.int x1)], [], w) = _
            refine Eq.trans ?_ (if_pos hc1263).symm
            refine (val_g (c2 := (198, d, 37, [some (.ref 108), some (.int x0), some (.int x1)], [.ref 108], w)) rfl).trans ?_
            refine (val_gf rfl (hW.k 108 (Nat.le_of_ble_eq_true rfl) (Nat.le_of_ble_eq_true rfl)) (fvR (hW.r 108 13 114 rfl))).trans ?_
            show val (198, d, 40, [some (.ref 108), some (.int x0), some (.int x1)], [.ref 114], w) = _
            refine (val_g (c2 := (198, d, 41, [some (.ref 108), some (.int x0), some (.int x1)], [.int x0, .ref 114], w)) rfl).trans ?_
            refine (val_ial rfl (hW.k 114 (Nat.le_of_ble_eq_true rfl) (Nat.le_of_ble_eq_true rfl)) rfl (hy1 hc1259 hc1260 hc1261 hc1262 hc1263)).trans ?_
            show val (198, d, 42, [some (.ref 108), some (.int x0), some (.int x1)], [.int (gI w 114 (x0).toNatClampNeg)], w) = _
            exact val_r rfl
          · refine ((val_if_ne rfl).trans (if_neg hc1263)).trans ?_
            show val (198, d, 27, [some (.ref 108), some (.int x0), some (.int x1)], [], w) = _
            refine Eq.trans ?_ (if_neg hc1263).symm
            refine (val_g (c2 := (198, d, 28, [some (.ref 108), some (.int x0), some (.int x1)], [.ref 108], w)) rfl).trans ?_
            refine (val_gf rfl (hW.k 108 (Nat.le_of_ble_eq_true rfl) (Nat.le_of_ble_eq_true rfl)) (fvR (hW.r 108 12 113 rfl))).trans ?_
            show val (198, d, 31, [some (.ref 108), some (.int x0), some (.int x1)], [.ref 113], w) = _
            refine (val_g (c2 := (198, d, 32, [some (.ref 108), some (.int x0), some (.int x1)], [.int x0, .ref 113], w)) rfl).trans ?_
            refine (val_ial rfl (hW.k 113 (Nat.le_of_ble_eq_true rfl) (Nat.le_of_ble_eq_true rfl)) rfl (hy2 hc1259 hc1260 hc1261 hc1262 hc1263)).trans ?_
            show val (198, d, 33, [some (.ref 108), some (.int x0), some (.int x1)], [.int (gI w 113 (x0).toNatClampNeg)], w) = _
            refine (val_g (c2 := (198, d, 42, [some (.ref 108), some (.int x0), some (.int x1)], [.int (gI w 113 (x0).toNatClampNeg)], w)) rfl).trans ?_
            exact val_r rfl
        · refine ((val_ic_le rfl).trans (if_neg hc1262)).trans ?_
          show val (198, d, 21, [some (.ref 108), some (.int x0), some (.int x1)], [], w) = _
          refine Eq.trans ?_ (if_neg hc1262).symm
          refine (val_g (c2 := (198, d, 22, [some (.ref 108), some (.int x0), some (.int x1)], [.int (-1)], w)) rfl).trans ?_
          exact val_r rfl
/-- BelfryHouseModel.swap([III)V -/
theorem tr_199 (d : Nat) (w : Wd) (p0 : Nat) (x1 : Int32) (x2 : Int32)    (m_p0 : Nat) (hk_p0 : wK w p0 = (20, m_p0)) (hy3 : inB x1 m_p0 = true) (hy4 : inB x2 m_p0 = true) : val (199, d, 0, [some (.ref 108), some (.ref p0), some (.int x1), some (.int x2), none], [], w) = some (none, (sI ((sI w p0 (x1).toNatClampNeg ((gI w p0 (x2).toNatClampNeg)))) p0 (x2).toNatClampNeg ((gI w p0 (x1).toNatClampNeg)))) := by
  refine (val_g (c2 := (199, d, 1, [some (.ref 108), some (.ref p0), some (.int x1), some (.int x2), none], [.ref p0], w)) rfl).trans ?_
  refine (val_g (c2 := (199, d, 2, [some (.ref 108), some (.ref p0), some (.int x1), some (.int x2), none], [.int x1, .ref p0], w)) rfl).trans ?_
  refine (val_ial rfl hk_p0 rfl hy3).trans ?_
  show val (199, d, 3, [some (.ref 108), some (.ref p0), some (.int x1), some (.int x2), none], [.int (gI w p0 (x1).toNatClampNeg)], w) = _
  refine (val_g (c2 := (199, d, 5, [some (.ref 108), some (.ref p0), some (.int x1), some (.int x2), some (.int (gI w p0 (x1).toNatClampNeg))], [], w)) rfl).trans ?_
  refine (val_g (c2 := (199, d, 6, [some (.ref 108), some (.ref p0), some (.int x1), some (.int x2), some (.int (gI w p0 (x1).toNatClampNeg))], [.ref p0], w)) rfl).trans ?_
  refine (val_g (c2 := (199, d, 7, [some (.ref 108), some (.ref p0), some (.int x1), some (.int x2), some (.int (gI w p0 (x1).toNatClampNeg))], [.int x1, .ref p0], w)) rfl).trans ?_
  refine (val_g (c2 := (199, d, 8, [some (.ref 108), some (.ref p0), some (.int x1), some (.int x2), some (.int (gI w p0 (x1).toNatClampNeg))], [.ref p0, .int x1, .ref p0], w)) rfl).trans ?_
  refine (val_g (c2 := (199, d, 9, [some (.ref 108), some (.ref p0), some (.int x1), some (.int x2), some (.int (gI w p0 (x1).toNatClampNeg))], [.int x2, .ref p0, .int x1, .ref p0], w)) rfl).trans ?_
  refine (val_ial rfl hk_p0 rfl hy4).trans ?_
  show val (199, d, 10, [some (.ref 108), some (.ref p0), some (.int x1), some (.int x2), some (.int (gI w p0 (x1).toNatClampNeg))], [.int (gI w p0 (x2).toNatClampNeg), .int x1, .ref p0], w) = _
  refine (val_ias rfl hk_p0 hy3).trans ?_
  show val (199, d, 11, [some (.ref 108), some (.ref p0), some (.int x1), some (.int x2), some (.int (gI w p0 (x1).toNatClampNeg))], [], (sI w p0 (x1).toNatClampNeg ((gI w p0 (x2).toNatClampNeg)))) = _
  refine (val_g (c2 := (199, d, 12, [some (.ref 108), some (.ref p0), some (.int x1), some (.int x2), some (.int (gI w p0 (x1).toNatClampNeg))], [.ref p0], (sI w p0 (x1).toNatClampNeg ((gI w p0 (x2).toNatClampNeg))))) rfl).trans ?_
  refine (val_g (c2 := (199, d, 13, [some (.ref 108), some (.ref p0), some (.int x1), some (.int x2), some (.int (gI w p0 (x1).toNatClampNeg))], [.int x2, .ref p0], (sI w p0 (x1).toNatClampNeg ((gI w p0 (x2).toNatClampNeg))))) rfl).trans ?_
  refine (val_g (c2 := (199, d, 15, [some (.ref 108), some (.ref p0), some (.int x1), some (.int x2), some (.int (gI w p0 (x1).toNatClampNeg))], [.int (gI w p0 (x1).toNatClampNeg), .int x2, .ref p0], (sI w p0 (x1).toNatClampNeg ((gI w p0 (x2).toNatClampNeg))))) rfl).trans ?_
  refine (val_ias (w := (sI w p0 (x1).toNatClampNeg ((gI w p0 (x2).toNatClampNeg)))) rfl hk_p0 hy4).trans ?_
  show val (199, d, 16, [some (.ref 108), some (.ref p0), some (.int x1), some (.int x2), some (.int (gI w p0 (x1).toNatClampNeg))], [], (sI ((sI w p0 (x1).toNatClampNeg ((gI w p0 (x2).toNatClampNeg)))) p0 (x2).toNatClampNeg ((gI w p0 (x1).toNatClampNeg)))) = _
  exact val_r rfl
/-- BelfryHouseModel.twos([II)V -/
theorem tr_200 (d : Nat) (w : Wd) (p0 : Nat) (x1 : Int32)     : val (200, d + 1, 0, [some (.ref 108), some (.ref p0), some (.int x1), none, none, none], [], w) = val (200, d + 1, 2, [some (.ref 108), some (.ref p0), some (.int x1), some (.int 1), none, none], [], w) := by
  refine (val_g (c2 := (200, d + 1, 1, [some (.ref 108), some (.ref p0), some (.int x1), none, none, none], [.int 1], w)) rfl).trans ?_
  refine (val_g (c2 := (200, d + 1, 2, [some (.ref 108), some (.ref p0), some (.int x1), some (.int 1), none, none], [], w)) rfl).trans ?_
  rfl
theorem tr_200_2 (d : Nat) (w : Wd) (hW : Fix w) (l1 : Nat) (l2 : Int32) (l3 : Int32) (l4 : Option Value) (l5 : Option Value)    : val (200, d + 1, 2, [some (.ref 108), some (.ref l1), some (.int l2), some (.int l3), l4, l5], [], w) = (if (gI w 108 0) ≤ l3 then some (none, w) else val (200, d + 1, 16, [some (.ref 108), some (.ref l1), some (.int l2), some (.int l3), some (.int 0), some (.int l2)], [], w)) := by
  refine (val_g (c2 := (200, d + 1, 3, [some (.ref 108), some (.ref l1), some (.int l2), some (.int l3), l4, l5], [.int l3], w)) rfl).trans ?_
  refine (val_g (c2 := (200, d + 1, 4, [some (.ref 108), some (.ref l1), some (.int l2), some (.int l3), l4, l5], [.ref 108, .int l3], w)) rfl).trans ?_
  refine (val_gf rfl (hW.k 108 (Nat.le_of_ble_eq_true rfl) (Nat.le_of_ble_eq_true rfl)) rfl).trans ?_
  show val (200, d + 1, 7, [some (.ref 108), some (.ref l1), some (.int l2), some (.int l3), l4, l5], [.int (gI w 108 0), .int l3], w) = _
  by_cases hc1270 : (gI w 108 0) ≤ l3
  · refine ((val_ic_ge rfl).trans (if_pos hc1270)).trans ?_
    show val (200, d + 1, 78, [some (.ref 108), some (.ref l1), some (.int l2), some (.int l3), l4, l5], [], w) = _
    refine Eq.trans ?_ (if_pos hc1270).symm
    exact val_r rfl
  · refine ((val_ic_ge rfl).trans (if_neg hc1270)).trans ?_
    show val (200, d + 1, 10, [some (.ref 108), some (.ref l1), some (.int l2), some (.int l3), l4, l5], [], w) = _
    refine Eq.trans ?_ (if_neg hc1270).symm
    refine (val_g (c2 := (200, d + 1, 11, [some (.ref 108), some (.ref l1), some (.int l2), some (.int l3), l4, l5], [.int 0], w)) rfl).trans ?_
    refine (val_g (c2 := (200, d + 1, 13, [some (.ref 108), some (.ref l1), some (.int l2), some (.int l3), some (.int 0), l5], [], w)) rfl).trans ?_
    refine (val_g (c2 := (200, d + 1, 14, [some (.ref 108), some (.ref l1), some (.int l2), some (.int l3), some (.int 0), l5], [.int l2], w)) rfl).trans ?_
    refine (val_g (c2 := (200, d + 1, 16, [some (.ref 108), some (.ref l1), some (.int l2), some (.int l3), some (.int 0), some (.int l2)], [], w)) rfl).trans ?_
    rfl
theorem tr_200_16 (d : Nat) (w : Wd) (l1 : Nat) (l2 : Int32) (l3 : Int32) (l4 : Int32) (l5 : Int32)     : val (200, d + 1, 16, [some (.ref 108), some (.ref l1), some (.int l2), some (.int l3), some (.int l4), some (.int l5)], [], w) = (if l5 ≤ 0 then (if l4 = 0 then val (200, d + 1, 69, [some (.ref 108), some (.ref l1), some (.int l2), some (.int l3), some (.int l4), some (.int l5)], [.int (l3 + 1), .int l3, .ref l1, .ref 108], w) else val (200, d + 1, 2, [some (.ref 108), some (.ref l1), some (.int l2), some (.int (l3 + 1)), some (.int l4), some (.int l5)], [], w)) else (if ¬ l4 = 0 then val (200, d + 1, 16, [some (.ref 108), some (.ref l1), some (.int l2), some (.int l3), some (.int 1), some (.int (l5 / 10))], [], w) else (if ¬ (l5 - l5 / 10 * 10) = l3 then val (200, d + 1, 16, [some (.ref 108), some (.ref l1), some (.int l2), some (.int l3), some (.int 0), some (.int (l5 / 10))], [], w) else val (200, d + 1, 16, [some (.ref 108), some (.ref l1), some (.int l2), some (.int l3), some (.int 1), some (.int (l5 / 10))], [], w)))) := by
  refine (val_g (c2 := (200, d + 1, 18, [some (.ref 108), some (.ref l1), some (.int l2), some (.int l3), some (.int l4), some (.int l5)], [.int l5], w)) rfl).trans ?_
  by_cases hc1271 : l5 ≤ 0
  · refine ((val_if_le rfl).trans (if_pos hc1271)).trans ?_
    show val (200, d + 1, 52, [some (.ref 108), some (.ref l1), some (.int l2), some (.int l3), some (.int l4), some (.int l5)], [], w) = _
    refine Eq.trans ?_ (if_pos hc1271).symm
    refine (val_g (c2 := (200, d + 1, 54, [some (.ref 108), some (.ref l1), some (.int l2), some (.int l3), some (.int l4), some (.int l5)], [.int l4], w)) rfl).trans ?_
    by_cases hc1272 : l4 = 0
    · refine ((val_if_eq rfl).trans (if_pos hc1272)).trans ?_
      show val (200, d + 1, 63, [some (.ref 108), some (.ref l1), some (.int l2), some (.int l3), some (.int l4), some (.int l5)], [], w) = _
      refine Eq.trans ?_ (if_pos hc1272).symm
      refine (val_g (c2 := (200, d + 1, 64, [some (.ref 108), some (.ref l1), some (.int l2), some (.int l3), some (.int l4), some (.int l5)], [.ref 108], w)) rfl).trans ?_
      refine (val_g (c2 := (200, d + 1, 65, [some (.ref 108), some (.ref l1), some (.int l2), some (.int l3), some (.int l4), some (.int l5)], [.ref l1, .ref 108], w)) rfl).trans ?_
      refine (val_g (c2 := (200, d + 1, 66, [some (.ref 108), some (.ref l1), some (.int l2), some (.int l3), some (.int l4), some (.int l5)], [.int l3, .ref l1, .ref 108], w)) rfl).trans ?_
      refine (val_g (c2 := (200, d + 1, 67, [some (.ref 108), some (.ref l1), some (.int l2), some (.int l3), some (.int l4), some (.int l5)], [.int l3, .int l3, .ref l1, .ref 108], w)) rfl).trans ?_
      refine (val_g (c2 := (200, d + 1, 68, [some (.ref 108), some (.ref l1), some (.int l2), some (.int l3), some (.int l4), some (.int l5)], [.int 1, .int l3, .int l3, .ref l1, .ref 108], w)) rfl).trans ?_
      refine (val_g (c2 := (200, d + 1, 69, [some (.ref 108), some (.ref l1), some (.int l2), some (.int l3), some (.int l4), some (.int l5)], [.int (l3 + 1), .int l3, .ref l1, .ref 108], w)) rfl).trans ?_
      rfl
    · refine ((val_if_eq rfl).trans (if_neg hc1272)).trans ?_
      show val (200, d + 1, 57, [some (.ref 108), some (.ref l1), some (.int l2), some (.int l3), some (.int l4), some (.int l5)], [], w) = _
      refine Eq.trans ?_ (if_neg hc1272).symm
      refine (val_g (c2 := (200, d + 1, 60, [some (.ref 108), some (.ref l1), some (.int l2), some (.int (l3 + 1)), some (.int l4), some (.int l5)], [], w)) rfl).trans ?_
      refine (val_g (c2 := (200, d + 1, 75, [some (.ref 108), some (.ref l1), some (.int l2), some (.int (l3 + 1)), some (.int l4), some (.int l5)], [], w)) rfl).trans ?_
      refine (val_g (c2 := (200, d + 1, 2, [some (.ref 108), some (.ref l1), some (.int l2), some (.int (l3 + 1)), some (.int l4), some (.int l5)], [], w)) rfl).trans ?_
      rfl
  · refine ((val_if_le rfl).trans (if_neg hc1271)).trans ?_
    show val (200, d + 1, 21, [some (.ref 108), some (.ref l1), some (.int l2), some (.int l3), some (.int l4), some (.int l5)], [], w) = _
    refine Eq.trans ?_ (if_neg hc1271).symm
    refine (val_g (c2 := (200, d + 1, 23, [some (.ref 108), some (.ref l1), some (.int l2), some (.int l3), some (.int l4), some (.int l5)], [.int l4], w)) rfl).trans ?_
    by_cases hc1273 : ¬ l4 = 0
    · refine ((val_if_ne rfl).trans (if_pos hc1273)).trans ?_
      show val (200, d + 1, 35, [some (.ref 108), some (.ref l1), some (.int l2), some (.int l3), some (.int l4), some (.int l5)], [], w) = _
      refine Eq.trans ?_ (if_pos hc1273).symm
      refine (val_g (c2 := (200, d + 1, 36, [some (.ref 108), some (.ref l1), some (.int l2), some (.int l3), some (.int l4), some (.int l5)], [.int 1], w)) rfl).trans ?_
      refine (val_g (c2 := (200, d + 1, 40, [some (.ref 108), some (.ref l1), some (.int l2), some (.int l3), some (.int l4), some (.int l5)], [.int 1], w)) rfl).trans ?_
      refine (val_g (c2 := (200, d + 1, 42, [some (.ref 108), some (.ref l1), some (.int l2), some (.int l3), some (.int 1), some (.int l5)], [], w)) rfl).trans ?_
      refine (val_g (c2 := (200, d + 1, 44, [some (.ref 108), some (.ref l1), some (.int l2), some (.int l3), some (.int 1), some (.int l5)], [.int l5], w)) rfl).trans ?_
      refine (val_g (c2 := (200, d + 1, 46, [some (.ref 108), some (.ref l1), some (.int l2), some (.int l3), some (.int 1), some (.int l5)], [.int 10, .int l5], w)) rfl).trans ?_
      refine (val_idiv rfl (by decide)).trans ?_
      show val (200, d + 1, 47, [some (.ref 108), some (.ref l1), some (.int l2), some (.int l3), some (.int 1), some (.int l5)], [.int (l5 / 10)], w) = _
      refine (val_g (c2 := (200, d + 1, 49, [some (.ref 108), some (.ref l1), some (.int l2), some (.int l3), some (.int 1), some (.int (l5 / 10))], [], w)) rfl).trans ?_
      refine (val_g (c2 := (200, d + 1, 16, [some (.ref 108), some (.ref l1), some (.int l2), some (.int l3), some (.int 1), some (.int (l5 / 10))], [], w)) rfl).trans ?_
      rfl
    · refine ((val_if_ne rfl).trans (if_neg hc1273)).trans ?_
      show val (200, d + 1, 26, [some (.ref 108), some (.ref l1), some (.int l2), some (.int l3), some (.int l4), some (.int l5)], [], w) = _
      refine Eq.trans ?_ (if_neg hc1273).symm
      refine (val_g (c2 := (200, d + 1, 28, [some (.ref 108), some (.ref l1), some (.int l2), some (.int l3), some (.int l4), some (.int l5)], [.int l5], w)) rfl).trans ?_
      refine (val_g (c2 := (200, d + 1, 30, [some (.ref 108), some (.ref l1), some (.int l2), some (.int l3), some (.int l4), some (.int l5)], [.int 10, .int l5], w)) rfl).trans ?_
      refine (val_irem rfl (by decide)).trans ?_
      show val (200, d + 1, 31, [some (.ref 108), some (.ref l1), some (.int l2), some (.int l3), some (.int l4), some (.int l5)], [.int (l5 - l5 / 10 * 10)], w) = _
      refine (val_g (c2 := (200, d + 1, 32, [some (.ref 108), some (.ref l1), some (.int l2), some (.int l3), some (.int l4), some (.int l5)], [.int l3, .int (l5 - l5 / 10 * 10)], w)) rfl).trans ?_
      by_cases hc1274 : ¬ (l5 - l5 / 10 * 10) = l3
      · refine ((val_ic_ne rfl).trans (if_pos hc1274)).trans ?_
        show val (200, d + 1, 39, [some (.ref 108), some (.ref l1), some (.int l2), some (.int l3), some (.int l4), some (.int l5)], [], w) = _
        refine Eq.trans ?_ (if_pos hc1274).symm
        refine (val_g (c2 := (200, d + 1, 40, [some (.ref 108), some (.ref l1), some (.int l2), some (.int l3), some (.int l4), some (.int l5)], [.int 0], w)) rfl).trans ?_
        refine (val_g (c2 := (200, d + 1, 42, [some (.ref 108), some (.ref l1), some (.int l2), some (.int l3), some (.int 0), some (.int l5)], [], w)) rfl).trans ?_
        refine (val_g (c2 := (200, d + 1, 44, [some (.ref 108), some (.ref l1), some (.int l2), some (.int l3), some (.int 0), some (.int l5)], [.int l5], w)) rfl).trans ?_
        refine (val_g (c2 := (200, d + 1, 46, [some (.ref 108), some (.ref l1), some (.int l2), some (.int l3), some (.int 0), some (.int l5)], [.int 10, .int l5], w)) rfl).trans ?_
        refine (val_idiv rfl (by decide)).trans ?_
        show val (200, d + 1, 47, [some (.ref 108), some (.ref l1), some (.int l2), some (.int l3), some (.int 0), some (.int l5)], [.int (l5 / 10)], w) = _
        refine (val_g (c2 := (200, d + 1, 49, [some (.ref 108), some (.ref l1), some (.int l2), some (.int l3), some (.int 0), some (.int (l5 / 10))], [], w)) rfl).trans ?_
        refine (val_g (c2 := (200, d + 1, 16, [some (.ref 108), some (.ref l1), some (.int l2), some (.int l3), some (.int 0), some (.int (l5 / 10))], [], w)) rfl).trans ?_
        rfl
      · refine ((val_ic_ne rfl).trans (if_neg hc1274)).trans ?_
        show val (200, d + 1, 35, [some (.ref 108), some (.ref l1), some (.int l2), some (.int l3), some (.int l4), some (.int l5)], [], w) = _
        refine Eq.trans ?_ (if_neg hc1274).symm
        refine (val_g (c2 := (200, d + 1, 36, [some (.ref 108), some (.ref l1), some (.int l2), some (.int l3), some (.int l4), some (.int l5)], [.int 1], w)) rfl).trans ?_
        refine (val_g (c2 := (200, d + 1, 40, [some (.ref 108), some (.ref l1), some (.int l2), some (.int l3), some (.int l4), some (.int l5)], [.int 1], w)) rfl).trans ?_
        refine (val_g (c2 := (200, d + 1, 42, [some (.ref 108), some (.ref l1), some (.int l2), some (.int l3), some (.int 1), some (.int l5)], [], w)) rfl).trans ?_
        refine (val_g (c2 := (200, d + 1, 44, [some (.ref 108), some (.ref l1), some (.int l2), some (.int l3), some (.int 1), some (.int l5)], [.int l5], w)) rfl).trans ?_
        refine (val_g (c2 := (200, d + 1, 46, [some (.ref 108), some (.ref l1), some (.int l2), some (.int l3), some (.int 1), some (.int l5)], [.int 10, .int l5], w)) rfl).trans ?_
        refine (val_idiv rfl (by decide)).trans ?_
        show val (200, d + 1, 47, [some (.ref 108), some (.ref l1), some (.int l2), some (.int l3), some (.int 1), some (.int l5)], [.int (l5 / 10)], w) = _
        refine (val_g (c2 := (200, d + 1, 49, [some (.ref 108), some (.ref l1), some (.int l2), some (.int l3), some (.int 1), some (.int (l5 / 10))], [], w)) rfl).trans ?_
        refine (val_g (c2 := (200, d + 1, 16, [some (.ref 108), some (.ref l1), some (.int l2), some (.int l3), some (.int 1), some (.int (l5 / 10))], [], w)) rfl).trans ?_
        rfl
theorem tr_200_72 (d : Nat) (w : Wd) (l1 : Nat) (l2 : Int32) (l3 : Int32) (l4 : Int32) (l5 : Int32)     : val (200, d + 1, 72, [some (.ref 108), some (.ref l1), some (.int l2), some (.int l3), some (.int l4), some (.int l5)], [], w) = val (200, d + 1, 2, [some (.ref 108), some (.ref l1), some (.int l2), some (.int (l3 + 2)), some (.int l4), some (.int l5)], [], w) := by
  refine (val_g (c2 := (200, d + 1, 75, [some (.ref 108), some (.ref l1), some (.int l2), some (.int (l3 + 2)), some (.int l4), some (.int l5)], [], w)) rfl).trans ?_
  refine (val_g (c2 := (200, d + 1, 2, [some (.ref 108), some (.ref l1), some (.int l2), some (.int (l3 + 2)), some (.int l4), some (.int l5)], [], w)) rfl).trans ?_
  rfl
/-- BelfryHouseModel.jump([III)V -/
theorem tr_201 (d : Nat) (w : Wd) (p0 : Nat) (x1 : Int32) (x2 : Int32)     : val (201, d + 1, 0, [some (.ref 108), some (.ref p0), some (.int x1), some (.int x2), none, none], [], w) = (if x2 ≤ x1 then val (201, d + 1, 15, [some (.ref 108), some (.ref p0), some (.int x1), some (.int x2), some (.int (-1)), some (.int x1)], [], w) else val (201, d + 1, 15, [some (.ref 108), some (.ref p0), some (.int x1), some (.int x2), some (.int 1), some (.int x1)], [], w)) := by
  refine (val_g (c2 := (201, d + 1, 1, [some (.ref 108), some (.ref p0), some (.int x1), some (.int x2), none, none], [.int x1], w)) rfl).trans ?_
  refine (val_g (c2 := (201, d + 1, 2, [some (.ref 108), some (.ref p0), some (.int x1), some (.int x2), none, none], [.int x2, .int x1], w)) rfl).trans ?_
  by_cases hc1277 : x2 ≤ x1
  · refine ((val_ic_ge rfl).trans (if_pos hc1277)).trans ?_
    show val (201, d + 1, 9, [some (.ref 108), some (.ref p0), some (.int x1), some (.int x2), none, none], [], w) = _
    refine Eq.trans ?_ (if_pos hc1277).symm
    refine (val_g (c2 := (201, d + 1, 10, [some (.ref 108), some (.ref p0), some (.int x1), some (.int x2), none, none], [.int (-1)], w)) rfl).trans ?_
    refine (val_g (c2 := (201, d + 1, 12, [some (.ref 108), some (.ref p0), some (.int x1), some (.int x2), some (.int (-1)), none], [], w)) rfl).trans ?_
    refine (val_g (c2 := (201, d + 1, 13, [some (.ref 108), some (.ref p0), some (.int x1), some (.int x2), some (.int (-1)), none], [.int x1], w)) rfl).trans ?_
    refine (val_g (c2 := (201, d + 1, 15, [some (.ref 108), some (.ref p0), some (.int x1), some (.int x2), some (.int (-1)), some (.int x1)], [], w)) rfl).trans ?_
    rfl
  · refine ((val_ic_ge rfl).trans (if_neg hc1277)).trans ?_
    show val (201, d + 1, 5, [some (.ref 108), some (.ref p0), some (.int x1), some (.int x2), none, none], [], w) = _
    refine Eq.trans ?_ (if_neg hc1277).symm
    refine (val_g (c2 := (201, d + 1, 6, [some (.ref 108), some (.ref p0), some (.int x1), some (.int x2), none, none], [.int 1], w)) rfl).trans ?_
    refine (val_g (c2 := (201, d + 1, 10, [some (.ref 108), some (.ref p0), some (.int x1), some (.int x2), none, none], [.int 1], w)) rfl).trans ?_
    refine (val_g (c2 := (201, d + 1, 12, [some (.ref 108), some (.ref p0), some (.int x1), some (.int x2), some (.int 1), none], [], w)) rfl).trans ?_
    refine (val_g (c2 := (201, d + 1, 13, [some (.ref 108), some (.ref p0), some (.int x1), some (.int x2), some (.int 1), none], [.int x1], w)) rfl).trans ?_
    refine (val_g (c2 := (201, d + 1, 15, [some (.ref 108), some (.ref p0), some (.int x1), some (.int x2), some (.int 1), some (.int x1)], [], w)) rfl).trans ?_
    rfl
theorem tr_201_15 (d : Nat) (w : Wd) (l1 : Nat) (l2 : Int32) (l3 : Int32) (l4 : Int32) (l5 : Int32)     : val (201, d + 1, 15, [some (.ref 108), some (.ref l1), some (.int l2), some (.int l3), some (.int l4), some (.int l5)], [], w) = (if l5 = l3 then some (none, w) else val (201, d + 1, 30, [some (.ref 108), some (.ref l1), some (.int l2), some (.int l3), some (.int l4), some (.int l5)], [.int (l5 + l4), .int l5, .ref l1, .ref 108], w)) := by
  refine (val_g (c2 := (201, d + 1, 17, [some (.ref 108), some (.ref l1), some (.int l2), some (.int l3), some (.int l4), some (.int l5)], [.int l5], w)) rfl).trans ?_
  refine (val_g (c2 := (201, d + 1, 18, [some (.ref 108), some (.ref l1), some (.int l2), some (.int l3), some (.int l4), some (.int l5)], [.int l3, .int l5], w)) rfl).trans ?_
  by_cases hc1278 : l5 = l3
  · refine ((val_ic_eq rfl).trans (if_pos hc1278)).trans ?_
    show val (201, d + 1, 43, [some (.ref 108), some (.ref l1), some (.int l2), some (.int l3), some (.int l4), some (.int l5)], [], w) = _
    refine Eq.trans ?_ (if_pos hc1278).symm
    exact val_r rfl
  · refine ((val_ic_eq rfl).trans (if_neg hc1278)).trans ?_
    show val (201, d + 1, 21, [some (.ref 108), some (.ref l1), some (.int l2), some (.int l3), some (.int l4), some (.int l5)], [], w) = _
    refine Eq.trans ?_ (if_neg hc1278).symm
    refine (val_g (c2 := (201, d + 1, 22, [some (.ref 108), some (.ref l1), some (.int l2), some (.int l3), some (.int l4), some (.int l5)], [.ref 108], w)) rfl).trans ?_
    refine (val_g (c2 := (201, d + 1, 23, [some (.ref 108), some (.ref l1), some (.int l2), some (.int l3), some (.int l4), some (.int l5)], [.ref l1, .ref 108], w)) rfl).trans ?_
    refine (val_g (c2 := (201, d + 1, 25, [some (.ref 108), some (.ref l1), some (.int l2), some (.int l3), some (.int l4), some (.int l5)], [.int l5, .ref l1, .ref 108], w)) rfl).trans ?_
    refine (val_g (c2 := (201, d + 1, 27, [some (.ref 108), some (.ref l1), some (.int l2), some (.int l3), some (.int l4), some (.int l5)], [.int l5, .int l5, .ref l1, .ref 108], w)) rfl).trans ?_
    refine (val_g (c2 := (201, d + 1, 29, [some (.ref 108), some (.ref l1), some (.int l2), some (.int l3), some (.int l4), some (.int l5)], [.int l4, .int l5, .int l5, .ref l1, .ref 108], w)) rfl).trans ?_
    refine (val_g (c2 := (201, d + 1, 30, [some (.ref 108), some (.ref l1), some (.int l2), some (.int l3), some (.int l4), some (.int l5)], [.int (l5 + l4), .int l5, .ref l1, .ref 108], w)) rfl).trans ?_
    rfl
theorem tr_201_33 (d : Nat) (w : Wd) (l1 : Nat) (l2 : Int32) (l3 : Int32) (l4 : Int32) (l5 : Int32)     : val (201, d + 1, 33, [some (.ref 108), some (.ref l1), some (.int l2), some (.int l3), some (.int l4), some (.int l5)], [], w) = val (201, d + 1, 15, [some (.ref 108), some (.ref l1), some (.int l2), some (.int l3), some (.int l4), some (.int (l5 + l4))], [], w) := by
  refine (val_g (c2 := (201, d + 1, 35, [some (.ref 108), some (.ref l1), some (.int l2), some (.int l3), some (.int l4), some (.int l5)], [.int l5], w)) rfl).trans ?_
  refine (val_g (c2 := (201, d + 1, 37, [some (.ref 108), some (.ref l1), some (.int l2), some (.int l3), some (.int l4), some (.int l5)], [.int l4, .int l5], w)) rfl).trans ?_
  refine (val_g (c2 := (201, d + 1, 38, [some (.ref 108), some (.ref l1), some (.int l2), some (.int l3), some (.int l4), some (.int l5)], [.int (l5 + l4)], w)) rfl).trans ?_
  refine (val_g (c2 := (201, d + 1, 40, [some (.ref 108), some (.ref l1), some (.int l2), some (.int l3), some (.int l4), some (.int (l5 + l4))], [], w)) rfl).trans ?_
  refine (val_g (c2 := (201, d + 1, 15, [some (.ref 108), some (.ref l1), some (.int l2), some (.int l3), some (.int l4), some (.int (l5 + l4))], [], w)) rfl).trans ?_
  rfl
/-- BelfryHouseModel.does(I[IZ)V -/
theorem tr_202 (d : Nat) (w : Wd) (hW : Fix w) (x0 : Int32) (p1 : Nat) (x2 : Int32)    (hy1 : inB x0 369 = true) (hy2 : (¬ (gI w 121 (x0).toNatClampNeg) = 0) → (¬ (gI w 121 (x0).toNatClampNeg) = 1) → (¬ (gI w 121 (x0).toNatClampNeg) = 2) → (¬ (gI w 121 (x0).toNatClampNeg) = 3) → (¬ (gI w 121 (x0).toNatClampNeg) = 5) → (¬ (gI w 121 (x0).toNatClampNeg) = 6) → (¬ (¬ (gI w 121 (x0).toNatClampNeg) = 7)) → inB x0 369 = true) (hy3 : (¬ (gI w 121 (x0).toNatClampNeg) = 0) → (¬ (gI w 121 (x0).toNatClampNeg) = 1) → (¬ (gI w 121 (x0).toNatClampNeg) = 2) → (¬ (gI w 121 (x0).toNatClampNeg) = 3) → (¬ (gI w 121 (x0).toNatClampNeg) = 5) → (¬ (¬ (gI w 121 (x0).toNatClampNeg) = 6)) → inB x0 369 = true) (hy4 : (¬ (gI w 121 (x0).toNatClampNeg) = 0) → (¬ (gI w 121 (x0).toNatClampNeg) = 1) → (¬ (gI w 121 (x0).toNatClampNeg) = 2) → (¬ (gI w 121 (x0).toNatClampNeg) = 3) → (¬ (¬ (gI w 121 (x0).toNatClampNeg) = 5)) → inB x0 369 = true) (hy5 : (¬ (gI w 121 (x0).toNatClampNeg) = 0) → (¬ (gI w 121 (x0).toNatClampNeg) = 1) → (¬ (gI w 121 (x0).toNatClampNeg) = 2) → (¬ (¬ (gI w 121 (x0).toNatClampNeg) = 3)) → inB x0 369 = true) (hy6 : (¬ (gI w 121 (x0).toNatClampNeg) = 0) → (¬ (gI w 121 (x0).toNatClampNeg) = 1) → (¬ (¬ (gI w 121 (x0).toNatClampNeg) = 2)) → (x2 = 0) → inB x0 369 = true) (hy7 : (¬ (gI w 121 (x0).toNatClampNeg) = 0) → (¬ (gI w 121 (x0).toNatClampNeg) = 1) → (¬ (¬ (gI w 121 (x0).toNatClampNeg) = 2)) → (x2 = 0) → (x2 = 0) → inB x0 369 = true) (hy8 : (¬ (gI w 121 (x0).toNatClampNeg) = 0) → (¬ (gI w 121 (x0).toNatClampNeg) = 1) → (¬ (¬ (gI w 121 (x0).toNatClampNeg) = 2)) → (x2 = 0) → (¬ (x2 = 0)) → inB x0 369 = true) (hy9 : (¬ (gI w 121 (x0).toNatClampNeg) = 0) → (¬ (gI w 121 (x0).toNatClampNeg) = 1) → (¬ (¬ (gI w 121 (x0).toNatClampNeg) = 2)) → (¬ (x2 = 0)) → inB x0 369 = true) (hy10 : (¬ (gI w 121 (x0).toNatClampNeg) = 0) → (¬ (gI w 121 (x0).toNatClampNeg) = 1) → (¬ (¬ (gI w 121 (x0).toNatClampNeg) = 2)) → (¬ (x2 = 0)) → (x2 = 0) → inB x0 369 = true) (hy11 : (¬ (gI w 121 (x0).toNatClampNeg) = 0) → (¬ (gI w 121 (x0).toNatClampNeg) = 1) → (¬ (¬ (gI w 121 (x0).toNatClampNeg) = 2)) → (¬ (x2 = 0)) → (¬ (x2 = 0)) → inB x0 369 = true) (hy12 : (¬ (gI w 121 (x0).toNatClampNeg) = 0) → (¬ (¬ (gI w 121 (x0).toNatClampNeg) = 1)) → inB x0 369 = true) : val (202, d + 2, 0, [some (.ref 108), some (.int x0), some (.ref p1), some (.int x2), none, none, none], [], w) = (if ¬ (gI w 121 (x0).toNatClampNeg) = 0 then (if ¬ (gI w 121 (x0).toNatClampNeg) = 1 then (if ¬ (gI w 121 (x0).toNatClampNeg) = 2 then (if ¬ (gI w 121 (x0).toNatClampNeg) = 3 then (if ¬ (gI w 121 (x0).toNatClampNeg) = 5 then (if ¬ (gI w 121 (x0).toNatClampNeg) = 6 then (if ¬ (gI w 121 (x0).toNatClampNeg) = 7 then val (202, d + 2, 226, [some (.ref 108), some (.int x0), some (.ref p1), some (.int x2), some (.int (gI w 121 (x0).toNatClampNeg)), none, none], [], w) else val (202, d + 2, 223, [some (.ref 108), some (.int x0), some (.ref p1), some (.int x2), some (.int (gI w 121 (x0).toNatClampNeg)), none, none], [.int x2, .ref p1, .int (gI w 124 (x0).toNatClampNeg), .ref 108], w)) else (if ¬ x2 = 0 then val (202, d + 2, 201, [some (.ref 108), some (.int x0), some (.ref p1), some (.int x2), some (.int (gI w 121 (x0).toNatClampNeg)), none, none], [.int 0, .ref p1, .int (gI w 124 (x0).toNatClampNeg), .ref 108], w) else val (202, d + 2, 201, [some (.ref 108), some (.int x0), some (.ref p1), some (.int x2), some (.int (gI w 121 (x0).toNatClampNeg)), none, none], [.int 1, .ref p1, .int (gI w 124 (x0).toNatClampNeg), .ref 108], w))) else val (202, d + 2, 159, [some (.ref 108), some (.int x0), some (.ref p1), some (.int x2), some (.int (gI w 121 (x0).toNatClampNeg)), none, none], [.int x2, .ref p1, .int (gI w 124 (x0).toNatClampNeg), .ref 108], w)) else val (202, d + 2, 116, [some (.ref 108), some (.int x0), some (.ref p1), some (.int x2), some (.int (gI w 121 (x0).toNatClampNeg)), some (.int (gI w 122 (x0).toNatClampNeg)), some (.int (gI w 123 (x0).toNatClampNeg))], [], w)) else (if x2 = 0 then (if x2 = 0 then val (202, d + 2, 88, [some (.ref 108), some (.int x0), some (.ref p1), some (.int x2), some (.int (gI w 121 (x0).toNatClampNeg)), none, none], [.int (gI w 123 (x0).toNatClampNeg), .int (gI w 122 (x0).toNatClampNeg), .ref p1, .ref 108], w) else val (202, d + 2, 88, [some (.ref 108), some (.int x0), some (.ref p1), some (.int x2), some (.int (gI w 121 (x0).toNatClampNeg)), none, none], [.int (gI w 122 (x0).toNatClampNeg), .int (gI w 122 (x0).toNatClampNeg), .ref p1, .ref 108], w)) else (if x2 = 0 then val (202, d + 2, 88, [some (.ref 108), some (.int x0), some (.ref p1), some (.int x2), some (.int (gI w 121 (x0).toNatClampNeg)), none, none], [.int (gI w 123 (x0).toNatClampNeg), .int (gI w 123 (x0).toNatClampNeg), .ref p1, .ref 108], w) else val (202, d + 2, 88, [some (.ref 108), some (.int x0), some (.ref p1), some (.int x2), some (.int (gI w 121 (x0).toNatClampNeg)), none, none], [.int (gI w 122 (x0).toNatClampNeg), .int (gI w 123 (x0).toNatClampNeg), .ref p1, .ref 108], w)))) else val (202, d + 2, 36, [some (.ref 108), some (.int x0), some (.ref p1), some (.int x2), some (.int (gI w 121 (x0).toNatClampNeg)), none, none], [.int (gI w 122 (x0).toNatClampNeg), .ref p1, .ref 108], w)) else val (202, d + 2, 16, [some (.ref 108), some (.int x0), some (.ref p1), some (.int x2), some (.int (gI w 121 (x0).toNatClampNeg)), none, none], [.int 0, .ref p1, .ref 108], w)) := by
  refine (val_g (c2 := (202, d + 2, 1, [some (.ref 108), some (.int x0), some (.ref p1), some (.int x2), none, none, none], [.ref 108], w)) rfl).trans ?_
  refine (val_gf rfl (hW.k 108 (Nat.le_of_ble_eq_true rfl) (Nat.le_of_ble_eq_true rfl)) (fvR (hW.r 108 21 121 rfl))).trans ?_
  show val (202, d + 2, 4, [some (.ref 108), some (.int x0), some (.ref p1), some (.int x2), none, none, none], [.ref 121], w) = _
  refine (val_g (c2 := (202, d + 2, 5, [some (.ref 108), some (.int x0), some (.ref p1), some (.int x2), none, none, none], [.int x0, .ref 121], w)) rfl).trans ?_
  refine (val_ial rfl (hW.k 121 (Nat.le_of_ble_eq_true rfl) (Nat.le_of_ble_eq_true rfl)) rfl hy1).trans ?_
  show val (202, d + 2, 6, [some (.ref 108), some (.int x0), some (.ref p1), some (.int x2), none, none, none], [.int (gI w 121 (x0).toNatClampNeg)], w) = _
  refine (val_g (c2 := (202, d + 2, 8, [some (.ref 108), some (.int x0), some (.ref p1), some (.int x2), some (.int (gI w 121 (x0).toNatClampNeg)), none, none], [], w)) rfl).trans ?_
  refine (val_g (c2 := (202, d + 2, 10, [some (.ref 108), some (.int x0), some (.ref p1), some (.int x2), some (.int (gI w 121 (x0).toNatClampNeg)), none, none], [.int (gI w 121 (x0).toNatClampNeg)], w)) rfl).trans ?_
  by_cases hc1291 : ¬ (gI w 121 (x0).toNatClampNeg) = 0
  · refine ((val_if_ne rfl).trans (if_pos hc1291)).trans ?_
    show val (202, d + 2, 22, [some (.ref 108), some (.int x0), some (.ref p1), some (.int x2), some (.int (gI w 121 (x0).toNatClampNeg)), none, none], [], w) = _
    refine Eq.trans ?_ (if_pos hc1291).symm
    refine (val_g (c2 := (202, d + 2, 24, [some (.ref 108), some (.int x0), some (.ref p1), some (.int x2), some (.int (gI w 121 (x0).toNatClampNeg)), none, none], [.int (gI w 121 (x0).toNatClampNeg)], w)) rfl).trans ?_
    refine (val_g (c2 := (202, d + 2, 25, [some (.ref 108), some (.int x0), some (.ref p1), some (.int x2), some (.int (gI w 121 (x0).toNatClampNeg)), none, none], [.int 1, .int (gI w 121 (x0).toNatClampNeg)], w)) rfl).trans ?_
    by_cases hc1292 : ¬ (gI w 121 (x0).toNatClampNeg) = 1
    · refine ((val_ic_ne rfl).trans (if_pos hc1292)).trans ?_
      show val (202, d + 2, 42, [some (.ref 108), some (.int x0), some (.ref p1), some (.int x2), some (.int (gI w 121 (x0).toNatClampNeg)), none, none], [], w) = _
      refine Eq.trans ?_ (if_pos hc1292).symm
      refine (val_g (c2 := (202, d + 2, 44, [some (.ref 108), some (.int x0), some (.ref p1), some (.int x2), some (.int (gI w 121 (x0).toNatClampNeg)), none, none], [.int (gI w 121 (x0).toNatClampNeg)], w)) rfl).trans ?_
      refine (val_g (c2 := (202, d + 2, 45, [some (.ref 108), some (.int x0), some (.ref p1), some (.int x2), some (.int (gI w 121 (x0).toNatClampNeg)), none, none], [.int 2, .int (gI w 121 (x0).toNatClampNeg)], w)) rfl).trans ?_
      by_cases hc1293 : ¬ (gI w 121 (x0).toNatClampNeg) = 2
      · refine ((val_ic_ne rfl).trans (if_pos hc1293)).trans ?_
        show val (202, d + 2, 94, [some (.ref 108), some (.int x0), some (.ref p1), some (.int x2), some (.int (gI w 121 (x0).toNatClampNeg)), none, none], [], w) = _
        refine Eq.trans ?_ (if_pos hc1293).symm
        refine (val_g (c2 := (202, d + 2, 96, [some (.ref 108), some (.int x0), some (.ref p1), some (.int x2), some (.int (gI w 121 (x0).toNatClampNeg)), none, none], [.int (gI w 121 (x0).toNatClampNeg)], w)) rfl).trans ?_
        refine (val_g (c2 := (202, d + 2, 97, [some (.ref 108), some (.int x0), some (.ref p1), some (.int x2), some (.int (gI w 121 (x0).toNatClampNeg)), none, none], [.int 3, .int (gI w 121 (x0).toNatClampNeg)], w)) rfl).trans ?_
        by_cases hc1294 : ¬ (gI w 121 (x0).toNatClampNeg) = 3
        · refine ((val_ic_ne rfl).trans (if_pos hc1294)).trans ?_
          show val (202, d + 2, 144, [some (.ref 108), some (.int x0), some (.ref p1), some (.int x2), some (.int (gI w 121 (x0).toNatClampNeg)), none, none], [], w) = _
          refine Eq.trans ?_ (if_pos hc1294).symm
          refine (val_g (c2 := (202, d + 2, 146, [some (.ref 108), some (.int x0), some (.ref p1), some (.int x2), some (.int (gI w 121 (x0).toNatClampNeg)), none, none], [.int (gI w 121 (x0).toNatClampNeg)], w)) rfl).trans ?_
          refine (val_g (c2 := (202, d + 2, 147, [some (.ref 108), some (.int x0), some (.ref p1), some (.int x2), some (.int (gI w 121 (x0).toNatClampNeg)), none, none], [.int 5, .int (gI w 121 (x0).toNatClampNeg)], w)) rfl).trans ?_
          by_cases hc1295 : ¬ (gI w 121 (x0).toNatClampNeg) = 5
          · refine ((val_ic_ne rfl).trans (if_pos hc1295)).trans ?_
            show val (202, d + 2, 177, [some (.ref 108), some (.int x0), some (.ref p1), some (.int x2), some (.int (gI w 121 (x0).toNatClampNeg)), none, none], [], w) = _
            refine Eq.trans ?_ (if_pos hc1295).symm
            refine (val_g (c2 := (202, d + 2, 179, [some (.ref 108), some (.int x0), some (.ref p1), some (.int x2), some (.int (gI w 121 (x0).toNatClampNeg)), none, none], [.int (gI w 121 (x0).toNatClampNeg)], w)) rfl).trans ?_
            refine (val_g (c2 := (202, d + 2, 181, [some (.ref 108), some (.int x0), some (.ref p1), some (.int x2), some (.int (gI w 121 (x0).toNatClampNeg)), none, none], [.int 6, .int (gI w 121 (x0).toNatClampNeg)], w)) rfl).trans ?_
            by_cases hc1296 : ¬ (gI w 121 (x0).toNatClampNeg) = 6
            · refine ((val_ic_ne rfl).trans (if_pos hc1296)).trans ?_
              show val (202, d + 2, 207, [some (.ref 108), some (.int x0), some (.ref p1), some (.int x2), some (.int (gI w 121 (x0).toNatClampNeg)), none, none], [], w) = _
              refine Eq.trans ?_ (if_pos hc1296).symm
              refine (val_g (c2 := (202, d + 2, 209, [some (.ref 108), some (.int x0), some (.ref p1), some (.int x2), some (.int (gI w 121 (x0).toNatClampNeg)), none, none], [.int (gI w 121 (x0).toNatClampNeg)], w)) rfl).trans ?_
              refine (val_g (c2 := (202, d + 2, 211, [some (.ref 108), some (.int x0), some (.ref p1), some (.int x2), some (.int (gI w 121 (x0).toNatClampNeg)), none, none], [.int 7, .int (gI w 121 (x0).toNatClampNeg)], w)) rfl).trans ?_
              by_cases hc1297 : ¬ (gI w 121 (x0).toNatClampNeg) = 7
              · refine ((val_ic_ne rfl).trans (if_pos hc1297)).trans ?_
                show val (202, d + 2, 226, [some (.ref 108), some (.int x0), some (.ref p1), some (.int x2), some (.int (gI w 121 (x0).toNatClampNeg)), none, none], [], w) = _
                refine Eq.trans ?_ (if_pos hc1297).symm
                rfl
              · refine ((val_ic_ne rfl).trans (if_neg hc1297)).trans ?_
                show val (202, d + 2, 214, [some (.ref 108), some (.int x0), some (.ref p1), some (.int x2), some (.int (gI w 121 (x0).toNatClampNeg)), none, none], [], w) = _
                refine Eq.trans ?_ (if_neg hc1297).symm
                refine (val_g (c2 := (202, d + 2, 215, [some (.ref 108), some (.int x0), some (.ref p1), some (.int x2), some (.int (gI w 121 (x0).toNatClampNeg)), none, none], [.ref 108], w)) rfl).trans ?_
                refine (val_g (c2 := (202, d + 2, 216, [some (.ref 108), some (.int x0), some (.ref p1), some (.int x2), some (.int (gI w 121 (x0).toNatClampNeg)), none, none], [.ref 108, .ref 108], w)) rfl).trans ?_
                refine (val_gf rfl (hW.k 108 (Nat.le_of_ble_eq_true rfl) (Nat.le_of_ble_eq_true rfl)) (fvR (hW.r 108 24 124 rfl))).trans ?_
                show val (202, d + 2, 219, [some (.ref 108), some (.int x0), some (.ref p1), some (.int x2), some (.int (gI w 121 (x0).toNatClampNeg)), none, none], [.ref 124, .ref 108], w) = _
                refine (val_g (c2 := (202, d + 2, 220, [some (.ref 108), some (.int x0), some (.ref p1), some (.int x2), some (.int (gI w 121 (x0).toNatClampNeg)), none, none], [.int x0, .ref 124, .ref 108], w)) rfl).trans ?_
                refine (val_ial rfl (hW.k 124 (Nat.le_of_ble_eq_true rfl) (Nat.le_of_ble_eq_true rfl)) rfl (hy2 hc1291 hc1292 hc1293 hc1294 hc1295 hc1296 hc1297)).trans ?_
                show val (202, d + 2, 221, [some (.ref 108), some (.int x0), some (.ref p1), some (.int x2), some (.int (gI w 121 (x0).toNatClampNeg)), none, none], [.int (gI w 124 (x0).toNatClampNeg), .ref 108], w) = _
                refine (val_g (c2 := (202, d + 2, 222, [some (.ref 108), some (.int x0), some (.ref p1), some (.int x2), some (.int (gI w 121 (x0).toNatClampNeg)), none, none], [.ref p1, .int (gI w 124 (x0).toNatClampNeg), .ref 108], w)) rfl).trans ?_
                refine (val_g (c2 := (202, d + 2, 223, [some (.ref 108), some (.int x0), some (.ref p1), some (.int x2), some (.int (gI w 121 (x0).toNatClampNeg)), none, none], [.int x2, .ref p1, .int (gI w 124 (x0).toNatClampNeg), .ref 108], w)) rfl).trans ?_
                rfl
            · refine ((val_ic_ne rfl).trans (if_neg hc1296)).trans ?_
              show val (202, d + 2, 184, [some (.ref 108), some (.int x0), some (.ref p1), some (.int x2), some (.int (gI w 121 (x0).toNatClampNeg)), none, none], [], w) = _
              refine Eq.trans ?_ (if_neg hc1296).symm
              refine (val_g (c2 := (202, d + 2, 185, [some (.ref 108), some (.int x0), some (.ref p1), some (.int x2), some (.int (gI w 121 (x0).toNatClampNeg)), none, none], [.ref 108], w)) rfl).trans ?_
              refine (val_g (c2 := (202, d + 2, 186, [some (.ref 108), some (.int x0), some (.ref p1), some (.int x2), some (.int (gI w 121 (x0).toNatClampNeg)), none, none], [.ref 108, .ref 108], w)) rfl).trans ?_
              refine (val_gf rfl (hW.k 108 (Nat.le_of_ble_eq_true rfl) (Nat.le_of_ble_eq_true rfl)) (fvR (hW.r 108 24 124 rfl))).trans ?_
              show val (202, d + 2, 189, [some (.ref 108), some (.int x0), some (.ref p1), some (.int x2), some (.int (gI w 121 (x0).toNatClampNeg)), none, none], [.ref 124, .ref 108], w) = _
              refine (val_g (c2 := (202, d + 2, 190, [some (.ref 108), some (.int x0), some (.ref p1), some (.int x2), some (.int (gI w 121 (x0).toNatClampNeg)), none, none], [.int x0, .ref 124, .ref 108], w)) rfl).trans ?_
              refine (val_ial rfl (hW.k 124 (Nat.le_of_ble_eq_true rfl) (Nat.le_of_ble_eq_true rfl)) rfl (hy3 hc1291 hc1292 hc1293 hc1294 hc1295 hc1296)).trans ?_
              show val (202, d + 2, 191, [some (.ref 108), some (.int x0), some (.ref p1), some (.int x2), some (.int (gI w 121 (x0).toNatClampNeg)), none, none], [.int (gI w 124 (x0).toNatClampNeg), .ref 108], w) = _
              refine (val_g (c2 := (202, d + 2, 192, [some (.ref 108), some (.int x0), some (.ref p1), some (.int x2), some (.int (gI w 121 (x0).toNatClampNeg)), none, none], [.ref p1, .int (gI w 124 (x0).toNatClampNeg), .ref 108], w)) rfl).trans ?_
              refine (val_g (c2 := (202, d + 2, 193, [some (.ref 108), some (.int x0), some (.ref p1), some (.int x2), some (.int (gI w 121 (x0).toNatClampNeg)), none, none], [.int x2, .ref p1, .int (gI w 124 (x0).toNatClampNeg), .ref 108], w)) rfl).trans ?_
              by_cases hc1298 : ¬ x2 = 0
              · refine ((val_if_ne rfl).trans (if_pos hc1298)).trans ?_
                show val (202, d + 2, 200, [some (.ref 108), some (.int x0), some (.ref p1), some (.int x2), some (.int (gI w 121 (x0).toNatClampNeg)), none, none], [.ref p1, .int (gI w 124 (x0).toNatClampNeg), .ref 108], w) = _
                refine Eq.trans ?_ (if_pos hc1298).symm
                refine (val_g (c2 := (202, d + 2, 201, [some (.ref 108), some (.int x0), some (.ref p1), some (.int x2), some (.int (gI w 121 (x0).toNatClampNeg)), none, none], [.int 0, .ref p1, .int (gI w 124 (x0).toNatClampNeg), .ref 108], w)) rfl).trans ?_
                rfl
              · refine ((val_if_ne rfl).trans (if_neg hc1298)).trans ?_
                show val (202, d + 2, 196, [some (.ref 108), some (.int x0), some (.ref p1), some (.int x2), some (.int (gI w 121 (x0).toNatClampNeg)), none, none], [.ref p1, .int (gI w 124 (x0).toNatClampNeg), .ref 108], w) = _
                refine Eq.trans ?_ (if_neg hc1298).symm
                refine (val_g (c2 := (202, d + 2, 197, [some (.ref 108), some (.int x0), some (.ref p1), some (.int x2), some (.int (gI w 121 (x0).toNatClampNeg)), none, none], [.int 1, .ref p1, .int (gI w 124 (x0).toNatClampNeg), .ref 108], w)) rfl).trans ?_
                refine (val_g (c2 := (202, d + 2, 201, [some (.ref 108), some (.int x0), some (.ref p1), some (.int x2), some (.int (gI w 121 (x0).toNatClampNeg)), none, none], [.int 1, .ref p1, .int (gI w 124 (x0).toNatClampNeg), .ref 108], w)) rfl).trans ?_
                rfl
          · refine ((val_ic_ne rfl).trans (if_neg hc1295)).trans ?_
            show val (202, d + 2, 150, [some (.ref 108), some (.int x0), some (.ref p1), some (.int x2), some (.int (gI w 121 (x0).toNatClampNeg)), none, none], [], w) = _
            refine Eq.trans ?_ (if_neg hc1295).symm
            refine (val_g (c2 := (202, d + 2, 151, [some (.ref 108), some (.int x0), some (.ref p1), some (.int x2), some (.int (gI w 121 (x0).toNatClampNeg)), none, none], [.ref 108], w)) rfl).trans ?_
            refine (val_g (c2 := (202, d + 2, 152, [some (.ref 108), some (.int x0), some (.ref p1), some (.int x2), some (.int (gI w 121 (x0).toNatClampNeg)), none, none], [.ref 108, .ref 108], w)) rfl).trans ?_
            refine (val_gf rfl (hW.k 108 (Nat.le_of_ble_eq_true rfl) (Nat.le_of_ble_eq_true rfl)) (fvR (hW.r 108 24 124 rfl))).trans ?_
            show val (202, d + 2, 155, [some (.ref 108), some (.int x0), some (.ref p1), some (.int x2), some (.int (gI w 121 (x0).toNatClampNeg)), none, none], [.ref 124, .ref 108], w) = _
            refine (val_g (c2 := (202, d + 2, 156, [some (.ref 108), some (.int x0), some (.ref p1), some (.int x2), some (.int (gI w 121 (x0).toNatClampNeg)), none, none], [.int x0, .ref 124, .ref 108], w)) rfl).trans ?_
            refine (val_ial rfl (hW.k 124 (Nat.le_of_ble_eq_true rfl) (Nat.le_of_ble_eq_true rfl)) rfl (hy4 hc1291 hc1292 hc1293 hc1294 hc1295)).trans ?_
            show val (202, d + 2, 157, [some (.ref 108), some (.int x0), some (.ref p1), some (.int x2), some (.int (gI w 121 (x0).toNatClampNeg)), none, none], [.int (gI w 124 (x0).toNatClampNeg), .ref 108], w) = _
            refine (val_g (c2 := (202, d + 2, 158, [some (.ref 108), some (.int x0), some (.ref p1), some (.int x2), some (.int (gI w 121 (x0).toNatClampNeg)), none, none], [.ref p1, .int (gI w 124 (x0).toNatClampNeg), .ref 108], w)) rfl).trans ?_
            refine (val_g (c2 := (202, d + 2, 159, [some (.ref 108), some (.int x0), some (.ref p1), some (.int x2), some (.int (gI w 121 (x0).toNatClampNeg)), none, none], [.int x2, .ref p1, .int (gI w 124 (x0).toNatClampNeg), .ref 108], w)) rfl).trans ?_
            rfl
        · refine ((val_ic_ne rfl).trans (if_neg hc1294)).trans ?_
          show val (202, d + 2, 100, [some (.ref 108), some (.int x0), some (.ref p1), some (.int x2), some (.int (gI w 121 (x0).toNatClampNeg)), none, none], [], w) = _
          refine Eq.trans ?_ (if_neg hc1294).symm
          refine (val_g (c2 := (202, d + 2, 101, [some (.ref 108), some (.int x0), some (.ref p1), some (.int x2), some (.int (gI w 121 (x0).toNatClampNeg)), none, none], [.ref 108], w)) rfl).trans ?_
          refine (val_gf rfl (hW.k 108 (Nat.le_of_ble_eq_true rfl) (Nat.le_of_ble_eq_true rfl)) (fvR (hW.r 108 22 122 rfl))).trans ?_
          show val (202, d + 2, 104, [some (.ref 108), some (.int x0), some (.ref p1), some (.int x2), some (.int (gI w 121 (x0).toNatClampNeg)), none, none], [.ref 122], w) = _
          refine (val_g (c2 := (202, d + 2, 105, [some (.ref 108), some (.int x0), some (.ref p1), some (.int x2), some (.int (gI w 121 (x0).toNatClampNeg)), none, none], [.int x0, .ref 122], w)) rfl).trans ?_
          refine (val_ial rfl (hW.k 122 (Nat.le_of_ble_eq_true rfl) (Nat.le_of_ble_eq_true rfl)) rfl (hy5 hc1291 hc1292 hc1293 hc1294)).trans ?_
          show val (202, d + 2, 106, [some (.ref 108), some (.int x0), some (.ref p1), some (.int x2), some (.int (gI w 121 (x0).toNatClampNeg)), none, none], [.int (gI w 122 (x0).toNatClampNeg)], w) = _
          refine (val_g (c2 := (202, d + 2, 108, [some (.ref 108), some (.int x0), some (.ref p1), some (.int x2), some (.int (gI w 121 (x0).toNatClampNeg)), some (.int (gI w 122 (x0).toNatClampNeg)), none], [], w)) rfl).trans ?_
          refine (val_g (c2 := (202, d + 2, 109, [some (.ref 108), some (.int x0), some (.ref p1), some (.int x2), some (.int (gI w 121 (x0).toNatClampNeg)), some (.int (gI w 122 (x0).toNatClampNeg)), none], [.ref 108], w)) rfl).trans ?_
          refine (val_gf rfl (hW.k 108 (Nat.le_of_ble_eq_true rfl) (Nat.le_of_ble_eq_true rfl)) (fvR (hW.r 108 23 123 rfl))).trans ?_
          show val (202, d + 2, 112, [some (.ref 108), some (.int x0), some (.ref p1), some (.int x2), some (.int (gI w 121 (x0).toNatClampNeg)), some (.int (gI w 122 (x0).toNatClampNeg)), none], [.ref 123], w) = _
          refine (val_g (c2 := (202, d + 2, 113, [some (.ref 108), some (.int x0), some (.ref p1), some (.int x2), some (.int (gI w 121 (x0).toNatClampNeg)), some (.int (gI w 122 (x0).toNatClampNeg)), none], [.int x0, .ref 123], w)) rfl).trans ?_
          refine (val_ial rfl (hW.k 123 (Nat.le_of_ble_eq_true rfl) (Nat.le_of_ble_eq_true rfl)) rfl (hy5 hc1291 hc1292 hc1293 hc1294)).trans ?_
          show val (202, d + 2, 114, [some (.ref 108), some (.int x0), some (.ref p1), some (.int x2), some (.int (gI w 121 (x0).toNatClampNeg)), some (.int (gI w 122 (x0).toNatClampNeg)), none], [.int (gI w 123 (x0).toNatClampNeg)], w) = _
          refine (val_g (c2 := (202, d + 2, 116, [some (.ref 108), some (.int x0), some (.ref p1), some (.int x2), some (.int (gI w 121 (x0).toNatClampNeg)), some (.int (gI w 122 (x0).toNatClampNeg)), some (.int (gI w 123 (x0).toNatClampNeg))], [], w)) rfl).trans ?_
          rfl
      · refine ((val_ic_ne rfl).trans (if_neg hc1293)).trans ?_
        show val (202, d + 2, 48, [some (.ref 108), some (.int x0), some (.ref p1), some (.int x2), some (.int (gI w 121 (x0).toNatClampNeg)), none, none], [], w) = _
        refine Eq.trans ?_ (if_neg hc1293).symm
        refine (val_g (c2 := (202, d + 2, 49, [some (.ref 108), some (.int x0), some (.ref p1), some (.int x2), some (.int (gI w 121 (x0).toNatClampNeg)), none, none], [.ref 108], w)) rfl).trans ?_
        refine (val_g (c2 := (202, d + 2, 50, [some (.ref 108), some (.int x0), some (.ref p1), some (.int x2), some (.int (gI w 121 (x0).toNatClampNeg)), none, none], [.ref p1, .ref 108], w)) rfl).trans ?_
        refine (val_g (c2 := (202, d + 2, 51, [some (.ref 108), some (.int x0), some (.ref p1), some (.int x2), some (.int (gI w 121 (x0).toNatClampNeg)), none, none], [.int x2, .ref p1, .ref 108], w)) rfl).trans ?_
        by_cases hc1299 : x2 = 0
        · refine ((val_if_eq rfl).trans (if_pos hc1299)).trans ?_
          show val (202, d + 2, 63, [some (.ref 108), some (.int x0), some (.ref p1), some (.int x2), some (.int (gI w 121 (x0).toNatClampNeg)), none, none], [.ref p1, .ref 108], w) = _
          refine Eq.trans ?_ (if_pos hc1299).symm
          refine (val_g (c2 := (202, d + 2, 64, [some (.ref 108), some (.int x0), some (.ref p1), some (.int x2), some (.int (gI w 121 (x0).toNatClampNeg)), none, none], [.ref 108, .ref p1, .ref 108], w)) rfl).trans ?_
          refine (val_gf rfl (hW.k 108 (Nat.le_of_ble_eq_true rfl) (Nat.le_of_ble_eq_true rfl)) (fvR (hW.r 108 22 122 rfl))).trans ?_
          show val (202, d + 2, 67, [some (.ref 108), some (.int x0), some (.ref p1), some (.int x2), some (.int (gI w 121 (x0).toNatClampNeg)), none, none], [.ref 122, .ref p1, .ref 108], w) = _
          refine (val_g (c2 := (202, d + 2, 68, [some (.ref 108), some (.int x0), some (.ref p1), some (.int x2), some (.int (gI w 121 (x0).toNatClampNeg)), none, none], [.int x0, .ref 122, .ref p1, .ref 108], w)) rfl).trans ?_
          refine (val_ial rfl (hW.k 122 (Nat.le_of_ble_eq_true rfl) (Nat.le_of_ble_eq_true rfl)) rfl (hy6 hc1291 hc1292 hc1293 hc1299)).trans ?_
          show val (202, d + 2, 69, [some (.ref 108), some (.int x0), some (.ref p1), some (.int x2), some (.int (gI w 121 (x0).toNatClampNeg)), none, none], [.int (gI w 122 (x0).toNatClampNeg), .ref p1, .ref 108], w) = _
          refine (val_g (c2 := (202, d + 2, 70, [some (.ref 108), some (.int x0), some (.ref p1), some (.int x2), some (.int (gI w 121 (x0).toNatClampNeg)), none, none], [.int x2, .int (gI w 122 (x0).toNatClampNeg), .ref p1, .ref 108], w)) rfl).trans ?_
          by_cases hc1300 : x2 = 0
          · refine ((val_if_eq rfl).trans (if_pos hc1300)).trans ?_
            show val (202, d + 2, 82, [some (.ref 108), some (.int x0), some (.ref p1), some (.int x2), some (.int (gI w 121 (x0).toNatClampNeg)), none, none], [.int (gI w 122 (x0).toNatClampNeg), .ref p1, .ref 108], w) = _
            refine Eq.trans ?_ (if_pos hc1300).symm
            refine (val_g (c2 := (202, d + 2, 83, [some (.ref 108), some (.int x0), some (.ref p1), some (.int x2), some (.int (gI w 121 (x0).toNatClampNeg)), none, none], [.ref 108, .int (gI w 122 (x0).toNatClampNeg), .ref p1, .ref 108], w)) rfl).trans ?_
            refine (val_gf rfl (hW.k 108 (Nat.le_of_ble_eq_true rfl) (Nat.le_of_ble_eq_true rfl)) (fvR (hW.r 108 23 123 rfl))).trans ?_
            show val (202, d + 2, 86, [some (.ref 108), some (.int x0), some (.ref p1), some (.int x2), some (.int (gI w 121 (x0).toNatClampNeg)), none, none], [.ref 123, .int (gI w 122 (x0).toNatClampNeg), .ref p1, .ref 108], w) = _
            refine (val_g (c2 := (202, d + 2, 87, [some (.ref 108), some (.int x0), some (.ref p1), some (.int x2), some (.int (gI w 121 (x0).toNatClampNeg)), none, none], [.int x0, .ref 123, .int (gI w 122 (x0).toNatClampNeg), .ref p1, .ref 108], w)) rfl).trans ?_
            refine (val_ial rfl (hW.k 123 (Nat.le_of_ble_eq_true rfl) (Nat.le_of_ble_eq_true rfl)) rfl (hy7 hc1291 hc1292 hc1293 hc1299 hc1300)).trans ?_
            show val (202, d + 2, 88, [some (.ref 108), some (.int x0), some (.ref p1), some (.int x2), some (.int (gI w 121 (x0).toNatClampNeg)), none, none], [.int (gI w 123 (x0).toNatClampNeg), .int (gI w 122 (x0).toNatClampNeg), .ref p1, .ref 108], w) = _
            rfl
          · refine ((val_if_eq rfl).trans (if_neg hc1300)).trans ?_
            show val (202, d + 2, 73, [some (.ref 108), some (.int x0), some (.ref p1), some (.int x2), some (.int (gI w 121 (x0).toNatClampNeg)), none, none], [.int (gI w 122 (x0).toNatClampNeg), .ref p1, .ref 108], w) = _
            refine Eq.trans ?_ (if_neg hc1300).symm
            refine (val_g (c2 := (202, d + 2, 74, [some (.ref 108), some (.int x0), some (.ref p1), some (.int x2), some (.int (gI w 121 (x0).toNatClampNeg)), none, none], [.ref 108, .int (gI w 122 (x0).toNatClampNeg), .ref p1, .ref 108], w)) rfl).trans ?_
            refine (val_gf rfl (hW.k 108 (Nat.le_of_ble_eq_true rfl) (Nat.le_of_ble_eq_true rfl)) (fvR (hW.r 108 22 122 rfl))).trans ?_
            show val (202, d + 2, 77, [some (.ref 108), some (.int x0), some (.ref p1), some (.int x2), some (.int (gI w 121 (x0).toNatClampNeg)), none, none], [.ref 122, .int (gI w 122 (x0).toNatClampNeg), .ref p1, .ref 108], w) = _
            refine (val_g (c2 := (202, d + 2, 78, [some (.ref 108), some (.int x0), some (.ref p1), some (.int x2), some (.int (gI w 121 (x0).toNatClampNeg)), none, none], [.int x0, .ref 122, .int (gI w 122 (x0).toNatClampNeg), .ref p1, .ref 108], w)) rfl).trans ?_
            refine (val_ial rfl (hW.k 122 (Nat.le_of_ble_eq_true rfl) (Nat.le_of_ble_eq_true rfl)) rfl (hy8 hc1291 hc1292 hc1293 hc1299 hc1300)).trans ?_
            show val (202, d + 2, 79, [some (.ref 108), some (.int x0), some (.ref p1), some (.int x2), some (.int (gI w 121 (x0).toNatClampNeg)), none, none], [.int (gI w 122 (x0).toNatClampNeg), .int (gI w 122 (x0).toNatClampNeg), .ref p1, .ref 108], w) = _
            refine (val_g (c2 := (202, d + 2, 88, [some (.ref 108), some (.int x0), some (.ref p1), some (.int x2), some (.int (gI w 121 (x0).toNatClampNeg)), none, none], [.int (gI w 122 (x0).toNatClampNeg), .int (gI w 122 (x0).toNatClampNeg), .ref p1, .ref 108], w)) rfl).trans ?_
            rfl
        · refine ((val_if_eq rfl).trans (if_neg hc1299)).trans ?_
          show val (202, d + 2, 54, [some (.ref 108), some (.int x0), some (.ref p1), some (.int x2), some (.int (gI w 121 (x0).toNatClampNeg)), none, none], [.ref p1, .ref 108], w) = _
          refine Eq.trans ?_ (if_neg hc1299).symm
          refine (val_g (c2 := (202, d + 2, 55, [some (.ref 108), some (.int x0), some (.ref p1), some (.int x2), some (.int (gI w 121 (x0).toNatClampNeg)), none, none], [.ref 108, .ref p1, .ref 108], w)) rfl).trans ?_
          refine (val_gf rfl (hW.k 108 (Nat.le_of_ble_eq_true rfl) (Nat.le_of_ble_eq_true rfl)) (fvR (hW.r 108 23 123 rfl))).trans ?_
          show val (202, d + 2, 58, [some (.ref 108), some (.int x0), some (.ref p1), some (.int x2), some (.int (gI w 121 (x0).toNatClampNeg)), none, none], [.ref 123, .ref p1, .ref 108], w) = _
          refine (val_g (c2 := (202, d + 2, 59, [some (.ref 108), some (.int x0), some (.ref p1), some (.int x2), some (.int (gI w 121 (x0).toNatClampNeg)), none, none], [.int x0, .ref 123, .ref p1, .ref 108], w)) rfl).trans ?_
          refine (val_ial rfl (hW.k 123 (Nat.le_of_ble_eq_true rfl) (Nat.le_of_ble_eq_true rfl)) rfl (hy9 hc1291 hc1292 hc1293 hc1299)).trans ?_
          show val (202, d + 2, 60, [some (.ref 108), some (.int x0), some (.ref p1), some (.int x2), some (.int (gI w 121 (x0).toNatClampNeg)), none, none], [.int (gI w 123 (x0).toNatClampNeg), .ref p1, .ref 108], w) = _
          refine (val_g (c2 := (202, d + 2, 69, [some (.ref 108), some (.int x0), some (.ref p1), some (.int x2), some (.int (gI w 121 (x0).toNatClampNeg)), none, none], [.int (gI w 123 (x0).toNatClampNeg), .ref p1, .ref 108], w)) rfl).trans ?_
          refine (val_g (c2 := (202, d + 2, 70, [some (.ref 108), some (.int x0), some (.ref p1), some (.int x2), some (.int (gI w 121 (x0).toNatClampNeg)), none, none], [.int x2, .int (gI w 123 (x0).toNatClampNeg), .ref p1, .ref 108], w)) rfl).trans ?_
          by_cases hc1301 : x2 = 0
          · refine ((val_if_eq rfl).trans (if_pos hc1301)).trans ?_
            show val (202, d + 2, 82, [some (.ref 108), some (.int x0), some (.ref p1), some (.int x2), some (.int (gI w 121 (x0).toNatClampNeg)), none, none], [.int (gI w 123 (x0).toNatClampNeg), .ref p1, .ref 108], w) = _
            refine Eq.trans ?_ (if_pos hc1301).symm
            refine (val_g (c2 := (202, d + 2, 83, [some (.ref 108), some (.int x0), some (.ref p1), some (.int x2), some (.int (gI w 121 (x0).toNatClampNeg)), none, none], [.ref 108, .int (gI w 123 (x0).toNatClampNeg), .ref p1, .ref 108], w)) rfl).trans ?_
            refine (val_gf rfl (hW.k 108 (Nat.le_of_ble_eq_true rfl) (Nat.le_of_ble_eq_true rfl)) (fvR (hW.r 108 23 123 rfl))).trans ?_
            show val (202, d + 2, 86, [some (.ref 108), some (.int x0), some (.ref p1), some (.int x2), some (.int (gI w 121 (x0).toNatClampNeg)), none, none], [.ref 123, .int (gI w 123 (x0).toNatClampNeg), .ref p1, .ref 108], w) = _
            refine (val_g (c2 := (202, d + 2, 87, [some (.ref 108), some (.int x0), some (.ref p1), some (.int x2), some (.int (gI w 121 (x0).toNatClampNeg)), none, none], [.int x0, .ref 123, .int (gI w 123 (x0).toNatClampNeg), .ref p1, .ref 108], w)) rfl).trans ?_
            refine (val_ial rfl (hW.k 123 (Nat.le_of_ble_eq_true rfl) (Nat.le_of_ble_eq_true rfl)) rfl (hy10 hc1291 hc1292 hc1293 hc1299 hc1301)).trans ?_
            show val (202, d + 2, 88, [some (.ref 108), some (.int x0), some (.ref p1), some (.int x2), some (.int (gI w 121 (x0).toNatClampNeg)), none, none], [.int (gI w 123 (x0).toNatClampNeg), .int (gI w 123 (x0).toNatClampNeg), .ref p1, .ref 108], w) = _
            rfl
          · refine ((val_if_eq rfl).trans (if_neg hc1301)).trans ?_
            show val (202, d + 2, 73, [some (.ref 108), some (.int x0), some (.ref p1), some (.int x2), some (.int (gI w 121 (x0).toNatClampNeg)), none, none], [.int (gI w 123 (x0).toNatClampNeg), .ref p1, .ref 108], w) = _
            refine Eq.trans ?_ (if_neg hc1301).symm
            refine (val_g (c2 := (202, d + 2, 74, [some (.ref 108), some (.int x0), some (.ref p1), some (.int x2), some (.int (gI w 121 (x0).toNatClampNeg)), none, none], [.ref 108, .int (gI w 123 (x0).toNatClampNeg), .ref p1, .ref 108], w)) rfl).trans ?_
            refine (val_gf rfl (hW.k 108 (Nat.le_of_ble_eq_true rfl) (Nat.le_of_ble_eq_true rfl)) (fvR (hW.r 108 22 122 rfl))).trans ?_
            show val (202, d + 2, 77, [some (.ref 108), some (.int x0), some (.ref p1), some (.int x2), some (.int (gI w 121 (x0).toNatClampNeg)), none, none], [.ref 122, .int (gI w 123 (x0).toNatClampNeg), .ref p1, .ref 108], w) = _
            refine (val_g (c2 := (202, d + 2, 78, [some (.ref 108), some (.int x0), some (.ref p1), some (.int x2), some (.int (gI w 121 (x0).toNatClampNeg)), none, none], [.int x0, .ref 122, .int (gI w 123 (x0).toNatClampNeg), .ref p1, .ref 108], w)) rfl).trans ?_
            refine (val_ial rfl (hW.k 122 (Nat.le_of_ble_eq_true rfl) (Nat.le_of_ble_eq_true rfl)) rfl (hy11 hc1291 hc1292 hc1293 hc1299 hc1301)).trans ?_
            show val (202, d + 2, 79, [some (.ref 108), some (.int x0), some (.ref p1), some (.int x2), some (.int (gI w 121 (x0).toNatClampNeg)), none, none], [.int (gI w 122 (x0).toNatClampNeg), .int (gI w 123 (x0).toNatClampNeg), .ref p1, .ref 108], w) = _
            refine (val_g (c2 := (202, d + 2, 88, [some (.ref 108), some (.int x0), some (.ref p1), some (.int x2), some (.int (gI w 121 (x0).toNatClampNeg)), none, none], [.int (gI w 122 (x0).toNatClampNeg), .int (gI w 123 (x0).toNatClampNeg), .ref p1, .ref 108], w)) rfl).trans ?_
            rfl
    · refine ((val_ic_ne rfl).trans (if_neg hc1292)).trans ?_
      show val (202, d + 2, 28, [some (.ref 108), some (.int x0), some (.ref p1), some (.int x2), some (.int (gI w 121 (x0).toNatClampNeg)), none, none], [], w) = _
      refine Eq.trans ?_ (if_neg hc1292).symm
      refine (val_g (c2 := (202, d + 2, 29, [some (.ref 108), some (.int x0), some (.ref p1), some (.int x2), some (.int (gI w 121 (x0).toNatClampNeg)), none, none], [.ref 108], w)) rfl).trans ?_
      refine (val_g (c2 := (202, d + 2, 30, [some (.ref 108), some (.int x0), some (.ref p1), some (.int x2), some (.int (gI w 121 (x0).toNatClampNeg)), none, none], [.ref p1, .ref 108], w)) rfl).trans ?_
      refine (val_g (c2 := (202, d + 2, 31, [some (.ref 108), some (.int x0), some (.ref p1), some (.int x2), some (.int (gI w 121 (x0).toNatClampNeg)), none, none], [.ref 108, .ref p1, .ref 108], w)) rfl).trans ?_
      refine (val_gf rfl (hW.k 108 (Nat.le_of_ble_eq_true rfl) (Nat.le_of_ble_eq_true rfl)) (fvR (hW.r 108 22 122 rfl))).trans ?_
      show val (202, d + 2, 34, [some (.ref 108), some (.int x0), some (.ref p1), some (.int x2), some (.int (gI w 121 (x0).toNatClampNeg)), none, none], [.ref 122, .ref p1, .ref 108], w) = _
      refine (val_g (c2 := (202, d + 2, 35, [some (.ref 108), some (.int x0), some (.ref p1), some (.int x2), some (.int (gI w 121 (x0).toNatClampNeg)), none, none], [.int x0, .ref 122, .ref p1, .ref 108], w)) rfl).trans ?_
      refine (val_ial rfl (hW.k 122 (Nat.le_of_ble_eq_true rfl) (Nat.le_of_ble_eq_true rfl)) rfl (hy12 hc1291 hc1292)).trans ?_
      show val (202, d + 2, 36, [some (.ref 108), some (.int x0), some (.ref p1), some (.int x2), some (.int (gI w 121 (x0).toNatClampNeg)), none, none], [.int (gI w 122 (x0).toNatClampNeg), .ref p1, .ref 108], w) = _
      rfl
  · refine ((val_if_ne rfl).trans (if_neg hc1291)).trans ?_
    show val (202, d + 2, 13, [some (.ref 108), some (.int x0), some (.ref p1), some (.int x2), some (.int (gI w 121 (x0).toNatClampNeg)), none, none], [], w) = _
    refine Eq.trans ?_ (if_neg hc1291).symm
    refine (val_g (c2 := (202, d + 2, 14, [some (.ref 108), some (.int x0), some (.ref p1), some (.int x2), some (.int (gI w 121 (x0).toNatClampNeg)), none, none], [.ref 108], w)) rfl).trans ?_
    refine (val_g (c2 := (202, d + 2, 15, [some (.ref 108), some (.int x0), some (.ref p1), some (.int x2), some (.int (gI w 121 (x0).toNatClampNeg)), none, none], [.ref p1, .ref 108], w)) rfl).trans ?_
    refine (val_g (c2 := (202, d + 2, 16, [some (.ref 108), some (.int x0), some (.ref p1), some (.int x2), some (.int (gI w 121 (x0).toNatClampNeg)), none, none], [.int 0, .ref p1, .ref 108], w)) rfl).trans ?_
    rfl
theorem tr_202_19 (d : Nat) (w : Wd) (l1 : Int32) (l2 : Nat) (l3 : Int32) (l4 : Int32)     : val (202, d + 2, 19, [some (.ref 108), some (.int l1), some (.ref l2), some (.int l3), some (.int l4), none, none], [], w) = val (202, d + 2, 226, [some (.ref 108), some (.int l1), some (.ref l2), some (.int l3), some (.int l4), none, none], [], w) := by
  refine (val_g (c2 := (202, d + 2, 226, [some (.ref 108), some (.int l1), some (.ref l2), some (.int l3), some (.int l4), none, none], [], w)) rfl).trans ?_
  rfl
theorem tr_202_39 (d : Nat) (w : Wd) (l1 : Int32) (l2 : Nat) (l3 : Int32) (l4 : Int32)     : val (202, d + 2, 39, [some (.ref 108), some (.int l1), some (.ref l2), some (.int l3), some (.int l4), none, none], [], w) = val (202, d + 2, 226, [some (.ref 108), some (.int l1), some (.ref l2), some (.int l3), some (.int l4), none, none], [], w) := by
  refine (val_g (c2 := (202, d + 2, 226, [some (.ref 108), some (.int l1), some (.ref l2), some (.int l3), some (.int l4), none, none], [], w)) rfl).trans ?_
  rfl
theorem tr_202_91 (d : Nat) (w : Wd) (l1 : Int32) (l2 : Nat) (l3 : Int32) (l4 : Int32)     : val (202, d + 2, 91, [some (.ref 108), some (.int l1), some (.ref l2), some (.int l3), some (.int l4), none, none], [], w) = val (202, d + 2, 226, [some (.ref 108), some (.int l1), some (.ref l2), some (.int l3), some (.int l4), none, none], [], w) := by
  refine (val_g (c2 := (202, d + 2, 226, [some (.ref 108), some (.int l1), some (.ref l2), some (.int l3), some (.int l4), none, none], [], w)) rfl).trans ?_
  rfl
theorem tr_202_116 (d : Nat) (w : Wd) (l1 : Int32) (l2 : Nat) (l3 : Int32) (l4 : Int32) (l5 : Int32) (l6 : Int32)     : val (202, d + 2, 116, [some (.ref 108), some (.int l1), some (.ref l2), some (.int l3), some (.int l4), some (.int l5), some (.int l6)], [], w) = (if l6 ≤ l5 then val (202, d + 2, 226, [some (.ref 108), some (.int l1), some (.ref l2), some (.int l3), some (.int l4), some (.int l5), some (.int l6)], [], w) else val (202, d + 2, 129, [some (.ref 108), some (.int l1), some (.ref l2), some (.int l3), some (.int l4), some (.int l5), some (.int l6)], [.int l6, .int l5, .ref l2, .ref 108], w)) := by
  refine (val_g (c2 := (202, d + 2, 118, [some (.ref 108), some (.int l1), some (.ref l2), some (.int l3), some (.int l4), some (.int l5), some (.int l6)], [.int l5], w)) rfl).trans ?_
  refine (val_g (c2 := (202, d + 2, 120, [some (.ref 108), some (.int l1), some (.ref l2), some (.int l3), some (.int l4), some (.int l5), some (.int l6)], [.int l6, .int l5], w)) rfl).trans ?_
  by_cases hc1302 : l6 ≤ l5
  · refine ((val_ic_ge rfl).trans (if_pos hc1302)).trans ?_
    show val (202, d + 2, 141, [some (.ref 108), some (.int l1), some (.ref l2), some (.int l3), some (.int l4), some (.int l5), some (.int l6)], [], w) = _
    refine Eq.trans ?_ (if_pos hc1302).symm
    refine (val_g (c2 := (202, d + 2, 226, [some (.ref 108), some (.int l1), some (.ref l2), some (.int l3), some (.int l4), some (.int l5), some (.int l6)], [], w)) rfl).trans ?_
    rfl
  · refine ((val_ic_ge rfl).trans (if_neg hc1302)).trans ?_
    show val (202, d + 2, 123, [some (.ref 108), some (.int l1), some (.ref l2), some (.int l3), some (.int l4), some (.int l5), some (.int l6)], [], w) = _
    refine Eq.trans ?_ (if_neg hc1302).symm
    refine (val_g (c2 := (202, d + 2, 124, [some (.ref 108), some (.int l1), some (.ref l2), some (.int l3), some (.int l4), some (.int l5), some (.int l6)], [.ref 108], w)) rfl).trans ?_
    refine (val_g (c2 := (202, d + 2, 125, [some (.ref 108), some (.int l1), some (.ref l2), some (.int l3), some (.int l4), some (.int l5), some (.int l6)], [.ref l2, .ref 108], w)) rfl).trans ?_
    refine (val_g (c2 := (202, d + 2, 127, [some (.ref 108), some (.int l1), some (.ref l2), some (.int l3), some (.int l4), some (.int l5), some (.int l6)], [.int l5, .ref l2, .ref 108], w)) rfl).trans ?_
    refine (val_g (c2 := (202, d + 2, 129, [some (.ref 108), some (.int l1), some (.ref l2), some (.int l3), some (.int l4), some (.int l5), some (.int l6)], [.int l6, .int l5, .ref l2, .ref 108], w)) rfl).trans ?_
    rfl
theorem tr_202_132 (d : Nat) (w : Wd) (l1 : Int32) (l2 : Nat) (l3 : Int32) (l4 : Int32) (l5 : Int32) (l6 : Int32)     : val (202, d + 2, 132, [some (.ref 108), some (.int l1), some (.ref l2), some (.int l3), some (.int l4), some (.int l5), some (.int l6)], [], w) = val (202, d + 2, 116, [some (.ref 108), some (.int l1), some (.ref l2), some (.int l3), some (.int l4), some (.int (l5 + 1)), some (.int (l6 + (-1)))], [], w) := by
  refine (val_g (c2 := (202, d + 2, 135, [some (.ref 108), some (.int l1), some (.ref l2), some (.int l3), some (.int l4), some (.int (l5 + 1)), some (.int l6)], [], w)) rfl).trans ?_
  refine (val_g (c2 := (202, d + 2, 138, [some (.ref 108), some (.int l1), some (.ref l2), some (.int l3), some (.int l4), some (.int (l5 + 1)), some (.int (l6 + (-1)))], [], w)) rfl).trans ?_
  refine (val_g (c2 := (202, d + 2, 116, [some (.ref 108), some (.int l1), some (.ref l2), some (.int l3), some (.int l4), some (.int (l5 + 1)), some (.int (l6 + (-1)))], [], w)) rfl).trans ?_
  rfl
theorem tr_202_162 (d : Nat) (w : Wd) (hW : Fix w) (l1 : Int32) (l2 : Nat) (l3 : Int32) (l4 : Int32)    (hy1 : inB l1 369 = true) : val (202, d + 2, 162, [some (.ref 108), some (.int l1), some (.ref l2), some (.int l3), some (.int l4), none, none], [], w) = val (202, d + 2, 171, [some (.ref 108), some (.int l1), some (.ref l2), some (.int l3), some (.int l4), none, none], [.int l3, .ref l2, .int (gI w 124 (l1).toNatClampNeg), .ref 108], w) := by
  refine (val_g (c2 := (202, d + 2, 163, [some (.ref 108), some (.int l1), some (.ref l2), some (.int l3), some (.int l4), none, none], [.ref 108], w)) rfl).trans ?_
  refine (val_g (c2 := (202, d + 2, 164, [some (.ref 108), some (.int l1), some (.ref l2), some (.int l3), some (.int l4), none, none], [.ref 108, .ref 108], w)) rfl).trans ?_
  refine (val_gf rfl (hW.k 108 (Nat.le_of_ble_eq_true rfl) (Nat.le_of_ble_eq_true rfl)) (fvR (hW.r 108 24 124 rfl))).trans ?_
  show val (202, d + 2, 167, [some (.ref 108), some (.int l1), some (.ref l2), some (.int l3), some (.int l4), none, none], [.ref 124, .ref 108], w) = _
  refine (val_g (c2 := (202, d + 2, 168, [some (.ref 108), some (.int l1), some (.ref l2), some (.int l3), some (.int l4), none, none], [.int l1, .ref 124, .ref 108], w)) rfl).trans ?_
  refine (val_ial rfl (hW.k 124 (Nat.le_of_ble_eq_true rfl) (Nat.le_of_ble_eq_true rfl)) rfl hy1).trans ?_
  show val (202, d + 2, 169, [some (.ref 108), some (.int l1), some (.ref l2), some (.int l3), some (.int l4), none, none], [.int (gI w 124 (l1).toNatClampNeg), .ref 108], w) = _
  refine (val_g (c2 := (202, d + 2, 170, [some (.ref 108), some (.int l1), some (.ref l2), some (.int l3), some (.int l4), none, none], [.ref l2, .int (gI w 124 (l1).toNatClampNeg), .ref 108], w)) rfl).trans ?_
  refine (val_g (c2 := (202, d + 2, 171, [some (.ref 108), some (.int l1), some (.ref l2), some (.int l3), some (.int l4), none, none], [.int l3, .ref l2, .int (gI w 124 (l1).toNatClampNeg), .ref 108], w)) rfl).trans ?_
  rfl
theorem tr_202_174 (d : Nat) (w : Wd) (l1 : Int32) (l2 : Nat) (l3 : Int32) (l4 : Int32)     : val (202, d + 2, 174, [some (.ref 108), some (.int l1), some (.ref l2), some (.int l3), some (.int l4), none, none], [], w) = val (202, d + 2, 226, [some (.ref 108), some (.int l1), some (.ref l2), some (.int l3), some (.int l4), none, none], [], w) := by
  refine (val_g (c2 := (202, d + 2, 226, [some (.ref 108), some (.int l1), some (.ref l2), some (.int l3), some (.int l4), none, none], [], w)) rfl).trans ?_
  rfl
theorem tr_202_204 (d : Nat) (w : Wd) (l1 : Int32) (l2 : Nat) (l3 : Int32) (l4 : Int32)     : val (202, d + 2, 204, [some (.ref 108), some (.int l1), some (.ref l2), some (.int l3), some (.int l4), none, none], [], w) = val (202, d + 2, 226, [some (.ref 108), some (.int l1), some (.ref l2), some (.int l3), some (.int l4), none, none], [], w) := by
  refine (val_g (c2 := (202, d + 2, 226, [some (.ref 108), some (.int l1), some (.ref l2), some (.int l3), some (.int l4), none, none], [], w)) rfl).trans ?_
  rfl
theorem tr_202_226 (d : Nat) (w : Wd) (l1 : Int32) (l2 : Nat) (l3 : Int32) (l4 : Int32)     : val (202, d + 2, 226, [some (.ref 108), some (.int l1), some (.ref l2), some (.int l3), some (.int l4), none, none], [], w) = some (none, w) := by
  exact val_r rfl
/-- BelfryHouseModel.some(I[IZ)V -/
theorem tr_203 (d : Nat) (w : Wd) (hW : Fix w) (x0 : Int32) (p1 : Nat) (x2 : Int32)    (hy1 : (¬ x0 = (-9)) → (¬ (x2 = 0)) → inB x0 369 = true) : val (203, d, 0, [some (.ref 108), some (.int x0), some (.ref p1), some (.int x2)], [], w) = (if ¬ x0 = (-9) then (if x2 = 0 then val (203, d, 23, [some (.ref 108), some (.int x0), some (.ref p1), some (.int x2)], [], w) else val (203, d, 20, [some (.ref 108), some (.int x0), some (.ref p1), some (.int x2)], [.int 1, .ref p1, .int (gI w 125 (x0).toNatClampNeg), .ref 108], w)) else some (none, w)) := by
  refine (val_g (c2 := (203, d, 1, [some (.ref 108), some (.int x0), some (.ref p1), some (.int x2)], [.int x0], w)) rfl).trans ?_
  refine (val_g (c2 := (203, d, 3, [some (.ref 108), some (.int x0), some (.ref p1), some (.int x2)], [.int (-9), .int x0], w)) rfl).trans ?_
  by_cases hc1306 : ¬ x0 = (-9)
  · refine ((val_ic_ne rfl).trans (if_pos hc1306)).trans ?_
    show val (203, d, 7, [some (.ref 108), some (.int x0), some (.ref p1), some (.int x2)], [], w) = _
    refine Eq.trans ?_ (if_pos hc1306).symm
    refine (val_g (c2 := (203, d, 8, [some (.ref 108), some (.int x0), some (.ref p1), some (.int x2)], [.int x2], w)) rfl).trans ?_
    by_cases hc1307 : x2 = 0
    · refine ((val_if_eq rfl).trans (if_pos hc1307)).trans ?_
      show val (203, d, 23, [some (.ref 108), some (.int x0), some (.ref p1), some (.int x2)], [], w) = _
      refine Eq.trans ?_ (if_pos hc1307).symm
      rfl
    · refine ((val_if_eq rfl).trans (if_neg hc1307)).trans ?_
      show val (203, d, 11, [some (.ref 108), some (.int x0), some (.ref p1), some (.int x2)], [], w) = _
      refine Eq.trans ?_ (if_neg hc1307).symm
      refine (val_g (c2 := (203, d, 12, [some (.ref 108), some (.int x0), some (.ref p1), some (.int x2)], [.ref 108], w)) rfl).trans ?_
      refine (val_g (c2 := (203, d, 13, [some (.ref 108), some (.int x0), some (.ref p1), some (.int x2)], [.ref 108, .ref 108], w)) rfl).trans ?_
      refine (val_gf rfl (hW.k 108 (Nat.le_of_ble_eq_true rfl) (Nat.le_of_ble_eq_true rfl)) (fvR (hW.r 108 25 125 rfl))).trans ?_
      show val (203, d, 16, [some (.ref 108), some (.int x0), some (.ref p1), some (.int x2)], [.ref 125, .ref 108], w) = _
      refine (val_g (c2 := (203, d, 17, [some (.ref 108), some (.int x0), some (.ref p1), some (.int x2)], [.int x0, .ref 125, .ref 108], w)) rfl).trans ?_
      refine (val_ial rfl (hW.k 125 (Nat.le_of_ble_eq_true rfl) (Nat.le_of_ble_eq_true rfl)) rfl (hy1 hc1306 hc1307)).trans ?_
      show val (203, d, 18, [some (.ref 108), some (.int x0), some (.ref p1), some (.int x2)], [.int (gI w 125 (x0).toNatClampNeg), .ref 108], w) = _
      refine (val_g (c2 := (203, d, 19, [some (.ref 108), some (.int x0), some (.ref p1), some (.int x2)], [.ref p1, .int (gI w 125 (x0).toNatClampNeg), .ref 108], w)) rfl).trans ?_
      refine (val_g (c2 := (203, d, 20, [some (.ref 108), some (.int x0), some (.ref p1), some (.int x2)], [.int 1, .ref p1, .int (gI w 125 (x0).toNatClampNeg), .ref 108], w)) rfl).trans ?_
      rfl
  · refine ((val_ic_ne rfl).trans (if_neg hc1306)).trans ?_
    show val (203, d, 6, [some (.ref 108), some (.int x0), some (.ref p1), some (.int x2)], [], w) = _
    refine Eq.trans ?_ (if_neg hc1306).symm
    exact val_r rfl
theorem tr_203_23 (d : Nat) (w : Wd) (l1 : Int32) (l2 : Nat) (l3 : Int32)     : val (203, d, 23, [some (.ref 108), some (.int l1), some (.ref l2), some (.int l3)], [], w) = val (203, d, 27, [some (.ref 108), some (.int l1), some (.ref l2), some (.int l3)], [.int l3, .ref l2, .int l1, .ref 108], w) := by
  refine (val_g (c2 := (203, d, 24, [some (.ref 108), some (.int l1), some (.ref l2), some (.int l3)], [.ref 108], w)) rfl).trans ?_
  refine (val_g (c2 := (203, d, 25, [some (.ref 108), some (.int l1), some (.ref l2), some (.int l3)], [.int l1, .ref 108], w)) rfl).trans ?_
  refine (val_g (c2 := (203, d, 26, [some (.ref 108), some (.int l1), some (.ref l2), some (.int l3)], [.ref l2, .int l1, .ref 108], w)) rfl).trans ?_
  refine (val_g (c2 := (203, d, 27, [some (.ref 108), some (.int l1), some (.ref l2), some (.int l3)], [.int l3, .ref l2, .int l1, .ref 108], w)) rfl).trans ?_
  rfl
theorem tr_203_30 (d : Nat) (w : Wd) (hW : Fix w) (l1 : Int32) (l2 : Nat) (l3 : Int32)    (hy1 : (¬ (¬ l3 = 0)) → inB l1 369 = true) : val (203, d, 30, [some (.ref 108), some (.int l1), some (.ref l2), some (.int l3)], [], w) = (if ¬ l3 = 0 then val (203, d, 46, [some (.ref 108), some (.int l1), some (.ref l2), some (.int l3)], [], w) else val (203, d, 43, [some (.ref 108), some (.int l1), some (.ref l2), some (.int l3)], [.int 0, .ref l2, .int (gI w 125 (l1).toNatClampNeg), .ref 108], w)) := by
  refine (val_g (c2 := (203, d, 31, [some (.ref 108), some (.int l1), some (.ref l2), some (.int l3)], [.int l3], w)) rfl).trans ?_
  by_cases hc1308 : ¬ l3 = 0
  · refine ((val_if_ne rfl).trans (if_pos hc1308)).trans ?_
    show val (203, d, 46, [some (.ref 108), some (.int l1), some (.ref l2), some (.int l3)], [], w) = _
    refine Eq.trans ?_ (if_pos hc1308).symm
    rfl
  · refine ((val_if_ne rfl).trans (if_neg hc1308)).trans ?_
    show val (203, d, 34, [some (.ref 108), some (.int l1), some (.ref l2), some (.int l3)], [], w) = _
    refine Eq.trans ?_ (if_neg hc1308).symm
    refine (val_g (c2 := (203, d, 35, [some (.ref 108), some (.int l1), some (.ref l2), some (.int l3)], [.ref 108], w)) rfl).trans ?_
    refine (val_g (c2 := (203, d, 36, [some (.ref 108), some (.int l1), some (.ref l2), some (.int l3)], [.ref 108, .ref 108], w)) rfl).trans ?_
    refine (val_gf rfl (hW.k 108 (Nat.le_of_ble_eq_true rfl) (Nat.le_of_ble_eq_true rfl)) (fvR (hW.r 108 25 125 rfl))).trans ?_
    show val (203, d, 39, [some (.ref 108), some (.int l1), some (.ref l2), some (.int l3)], [.ref 125, .ref 108], w) = _
    refine (val_g (c2 := (203, d, 40, [some (.ref 108), some (.int l1), some (.ref l2), some (.int l3)], [.int l1, .ref 125, .ref 108], w)) rfl).trans ?_
    refine (val_ial rfl (hW.k 125 (Nat.le_of_ble_eq_true rfl) (Nat.le_of_ble_eq_true rfl)) rfl (hy1 hc1308)).trans ?_
    show val (203, d, 41, [some (.ref 108), some (.int l1), some (.ref l2), some (.int l3)], [.int (gI w 125 (l1).toNatClampNeg), .ref 108], w) = _
    refine (val_g (c2 := (203, d, 42, [some (.ref 108), some (.int l1), some (.ref l2), some (.int l3)], [.ref l2, .int (gI w 125 (l1).toNatClampNeg), .ref 108], w)) rfl).trans ?_
    refine (val_g (c2 := (203, d, 43, [some (.ref 108), some (.int l1), some (.ref l2), some (.int l3)], [.int 0, .ref l2, .int (gI w 125 (l1).toNatClampNeg), .ref 108], w)) rfl).trans ?_
    rfl
theorem tr_203_46 (d : Nat) (w : Wd) (l1 : Int32) (l2 : Nat) (l3 : Int32)     : val (203, d, 46, [some (.ref 108), some (.int l1), some (.ref l2), some (.int l3)], [], w) = some (none, w) := by
  exact val_r rfl
/-- BelfryHouseModel.changed(II)I -/
theorem tr_204 (d : Nat) (w : Wd) (hW : Fix w) (x0 : Int32) (x1 : Int32)     : val (204, d + 3, 0, [some (.ref 108), some (.int x0), some (.int x1)], [], w) = val (204, d + 3, 6, [some (.ref 108), some (.int x0), some (.int x1)], [.int x1, .ref 126, .ref 108], w) := by
  refine (val_g (c2 := (204, d + 3, 1, [some (.ref 108), some (.int x0), some (.int x1)], [.ref 108], w)) rfl).trans ?_
  refine (val_g (c2 := (204, d + 3, 2, [some (.ref 108), some (.int x0), some (.int x1)], [.ref 108, .ref 108], w)) rfl).trans ?_
  refine (val_gf rfl (hW.k 108 (Nat.le_of_ble_eq_true rfl) (Nat.le_of_ble_eq_true rfl)) (fvR (hW.r 108 26 126 rfl))).trans ?_
  show val (204, d + 3, 5, [some (.ref 108), some (.int x0), some (.int x1)], [.ref 126, .ref 108], w) = _
  refine (val_g (c2 := (204, d + 3, 6, [some (.ref 108), some (.int x0), some (.int x1)], [.int x1, .ref 126, .ref 108], w)) rfl).trans ?_
  rfl
theorem tr_204_9 (d : Nat) (w : Wd) (hW : Fix w) (l1 : Int32) (l2 : Int32) (s0 : Int32)    (hy1 : inB l1 180 = true) : val (204, d + 3, 9, [some (.ref 108), some (.int l1), some (.int l2)], [.int s0], w) = val (204, d + 3, 22, [some (.ref 108), some (.int l1), some (.int l2)], [.int 0, .ref 126, .int (gI w 120 (l1).toNatClampNeg), .ref 108], w) := by
  refine (val_g (c2 := (204, d + 3, 10, [some (.ref 108), some (.int l1), some (.int l2)], [], w)) rfl).trans ?_
  refine (val_g (c2 := (204, d + 3, 11, [some (.ref 108), some (.int l1), some (.int l2)], [.ref 108], w)) rfl).trans ?_
  refine (val_g (c2 := (204, d + 3, 12, [some (.ref 108), some (.int l1), some (.int l2)], [.ref 108, .ref 108], w)) rfl).trans ?_
  refine (val_gf rfl (hW.k 108 (Nat.le_of_ble_eq_true rfl) (Nat.le_of_ble_eq_true rfl)) (fvR (hW.r 108 19 120 rfl))).trans ?_
  show val (204, d + 3, 15, [some (.ref 108), some (.int l1), some (.int l2)], [.ref 120, .ref 108], w) = _
  refine (val_g (c2 := (204, d + 3, 16, [some (.ref 108), some (.int l1), some (.int l2)], [.int l1, .ref 120, .ref 108], w)) rfl).trans ?_
  refine (val_ial rfl (hW.k 120 (Nat.le_of_ble_eq_true rfl) (Nat.le_of_ble_eq_true rfl)) rfl hy1).trans ?_
  show val (204, d + 3, 17, [some (.ref 108), some (.int l1), some (.int l2)], [.int (gI w 120 (l1).toNatClampNeg), .ref 108], w) = _
  refine (val_g (c2 := (204, d + 3, 18, [some (.ref 108), some (.int l1), some (.int l2)], [.ref 108, .int (gI w 120 (l1).toNatClampNeg), .ref 108], w)) rfl).trans ?_
  refine (val_gf rfl (hW.k 108 (Nat.le_of_ble_eq_true rfl) (Nat.le_of_ble_eq_true rfl)) (fvR (hW.r 108 26 126 rfl))).trans ?_
  show val (204, d + 3, 21, [some (.ref 108), some (.int l1), some (.int l2)], [.ref 126, .int (gI w 120 (l1).toNatClampNeg), .ref 108], w) = _
  refine (val_g (c2 := (204, d + 3, 22, [some (.ref 108), some (.int l1), some (.int l2)], [.int 0, .ref 126, .int (gI w 120 (l1).toNatClampNeg), .ref 108], w)) rfl).trans ?_
  rfl
theorem tr_204_25 (d : Nat) (w : Wd) (hW : Fix w) (l1 : Int32) (l2 : Int32)     : val (204, d + 3, 25, [some (.ref 108), some (.int l1), some (.int l2)], [], w) = val (204, d + 3, 30, [some (.ref 108), some (.int l1), some (.int l2)], [.ref 126, .ref 108], w) := by
  refine (val_g (c2 := (204, d + 3, 26, [some (.ref 108), some (.int l1), some (.int l2)], [.ref 108], w)) rfl).trans ?_
  refine (val_g (c2 := (204, d + 3, 27, [some (.ref 108), some (.int l1), some (.int l2)], [.ref 108, .ref 108], w)) rfl).trans ?_
  refine (val_gf rfl (hW.k 108 (Nat.le_of_ble_eq_true rfl) (Nat.le_of_ble_eq_true rfl)) (fvR (hW.r 108 26 126 rfl))).trans ?_
  show val (204, d + 3, 30, [some (.ref 108), some (.int l1), some (.int l2)], [.ref 126, .ref 108], w) = _
  rfl
theorem tr_204_33 (d : Nat) (w : Wd) (l1 : Int32) (l2 : Int32) (s0 : Int32)     : val (204, d + 3, 33, [some (.ref 108), some (.int l1), some (.int l2)], [.int s0], w) = some (some (.int s0), w) := by
  exact val_r rfl
/-- BelfryHouseModel.change(III)I -/
theorem tr_205 (d : Nat) (w : Wd) (hW : Fix w) (x0 : Int32) (x1 : Int32) (x2 : Int32)    (hy1 : (¬ (x0 < 0)) → (¬ ((gI w 108 11) ≤ x0)) → (¬ (x1 < 0)) → inB x0 9 = true) : val (205, d + 4, 0, [some (.ref 108), some (.int x0), some (.int x1), some (.int x2)], [], w) = (if x0 < 0 then some (some (.int (-1)), w) else (if (gI w 108 11) ≤ x0 then some (some (.int (-1)), w) else (if x1 < 0 then some (some (.int (-1)), w) else (if (gI w 113 (x0).toNatClampNeg) ≤ x1 then some (some (.int (-1)), w) else val (205, d + 4, 28, [some (.ref 108), some (.int x0), some (.int x1), some (.int x2)], [.int x2, .ref 108], w))))) := by
  refine (val_g (c2 := (205, d + 4, 1, [some (.ref 108), some (.int x0), some (.int x1), some (.int x2)], [.int x0], w)) rfl).trans ?_
  by_cases hc1314 : x0 < 0
  · refine ((val_if_lt rfl).trans (if_pos hc1314)).trans ?_
    show val (205, d + 4, 34, [some (.ref 108), some (.int x0), some (.int x1), some (.int x2)], [], w) = _
    refine Eq.trans ?_ (if_pos hc1314).symm
    refine (val_g (c2 := (205, d + 4, 35, [some (.ref 108), some (.int x0), some (.int x1), some (.int x2)], [.int (-1)], w)) rfl).trans ?_
    exact val_r rfl
  · refine ((val_if_lt rfl).trans (if_neg hc1314)).trans ?_
    show val (205, d + 4, 4, [some (.ref 108), some (.int x0), some (.int x1), some (.int x2)], [], w) = _
    refine Eq.trans ?_ (if_neg hc1314).symm
    refine (val_g (c2 := (205, d + 4, 5, [some (.ref 108), some (.int x0), some (.int x1), some (.int x2)], [.int x0], w)) rfl).trans ?_
    refine (val_g (c2 := (205, d + 4, 6, [some (.ref 108), some (.int x0), some (.int x1), some (.int x2)], [.ref 108, .int x0], w)) rfl).trans ?_
    refine (val_gf rfl (hW.k 108 (Nat.le_of_ble_eq_true rfl) (Nat.le_of_ble_eq_true rfl)) rfl).trans ?_
    show val (205, d + 4, 9, [some (.ref 108), some (.int x0), some (.int x1), some (.int x2)], [.int (gI w 108 11), .int x0], w) = _
    by_cases hc1315 : (gI w 108 11) ≤ x0
    · refine ((val_ic_ge rfl).trans (if_pos hc1315)).trans ?_
      show val (205, d + 4, 34, [some (.ref 108), some (.int x0), some (.int x1), some (.int x2)], [], w) = _
      refine Eq.trans ?_ (if_pos hc1315).symm
      refine (val_g (c2 := (205, d + 4, 35, [some (.ref 108), some (.int x0), some (.int x1), some (.int x2)], [.int (-1)], w)) rfl).trans ?_
      exact val_r rfl
    · refine ((val_ic_ge rfl).trans (if_neg hc1315)).trans ?_
      show val (205, d + 4, 12, [some (.ref 108), some (.int x0), some (.int x1), some (.int x2)], [], w) = _
      refine Eq.trans ?_ (if_neg hc1315).symm
      refine (val_g (c2 := (205, d + 4, 13, [some (.ref 108), some (.int x0), some (.int x1), some (.int x2)], [.int x1], w)) rfl).trans ?_
      by_cases hc1316 : x1 < 0
      · refine ((val_if_lt rfl).trans (if_pos hc1316)).trans ?_
        show val (205, d + 4, 34, [some (.ref 108), some (.int x0), some (.int x1), some (.int x2)], [], w) = _
        refine Eq.trans ?_ (if_pos hc1316).symm
        refine (val_g (c2 := (205, d + 4, 35, [some (.ref 108), some (.int x0), some (.int x1), some (.int x2)], [.int (-1)], w)) rfl).trans ?_
        exact val_r rfl
      · refine ((val_if_lt rfl).trans (if_neg hc1316)).trans ?_
        show val (205, d + 4, 16, [some (.ref 108), some (.int x0), some (.int x1), some (.int x2)], [], w) = _
        refine Eq.trans ?_ (if_neg hc1316).symm
        refine (val_g (c2 := (205, d + 4, 17, [some (.ref 108), some (.int x0), some (.int x1), some (.int x2)], [.int x1], w)) rfl).trans ?_
        refine (val_g (c2 := (205, d + 4, 18, [some (.ref 108), some (.int x0), some (.int x1), some (.int x2)], [.ref 108, .int x1], w)) rfl).trans ?_
        refine (val_gf rfl (hW.k 108 (Nat.le_of_ble_eq_true rfl) (Nat.le_of_ble_eq_true rfl)) (fvR (hW.r 108 12 113 rfl))).trans ?_
        show val (205, d + 4, 21, [some (.ref 108), some (.int x0), some (.int x1), some (.int x2)], [.ref 113, .int x1], w) = _
        refine (val_g (c2 := (205, d + 4, 22, [some (.ref 108), some (.int x0), some (.int x1), some (.int x2)], [.int x0, .ref 113, .int x1], w)) rfl).trans ?_
        refine (val_ial rfl (hW.k 113 (Nat.le_of_ble_eq_true rfl) (Nat.le_of_ble_eq_true rfl)) rfl (hy1 hc1314 hc1315 hc1316)).trans ?_
        show val (205, d + 4, 23, [some (.ref 108), some (.int x0), some (.int x1), some (.int x2)], [.int (gI w 113 (x0).toNatClampNeg), .int x1], w) = _
        by_cases hc1317 : (gI w 113 (x0).toNatClampNeg) ≤ x1
        · refine ((val_ic_ge rfl).trans (if_pos hc1317)).trans ?_
          show val (205, d + 4, 34, [some (.ref 108), some (.int x0), some (.int x1), some (.int x2)], [], w) = _
          refine Eq.trans ?_ (if_pos hc1317).symm
          refine (val_g (c2 := (205, d + 4, 35, [some (.ref 108), some (.int x0), some (.int x1), some (.int x2)], [.int (-1)], w)) rfl).trans ?_
          exact val_r rfl
        · refine ((val_ic_ge rfl).trans (if_neg hc1317)).trans ?_
          show val (205, d + 4, 26, [some (.ref 108), some (.int x0), some (.int x1), some (.int x2)], [], w) = _
          refine Eq.trans ?_ (if_neg hc1317).symm
          refine (val_g (c2 := (205, d + 4, 27, [some (.ref 108), some (.int x0), some (.int x1), some (.int x2)], [.ref 108], w)) rfl).trans ?_
          refine (val_g (c2 := (205, d + 4, 28, [some (.ref 108), some (.int x0), some (.int x1), some (.int x2)], [.int x2, .ref 108], w)) rfl).trans ?_
          rfl
theorem tr_205_31 (d : Nat) (w : Wd) (l1 : Int32) (l2 : Int32) (l3 : Int32) (s0 : Int32)     : val (205, d + 4, 31, [some (.ref 108), some (.int l1), some (.int l2), some (.int l3)], [.int s0], w) = (if ¬ s0 = 0 then val (205, d + 4, 44, [some (.ref 108), some (.int l1), some (.int l2), some (.int l3)], [.int l3, .int ((20 * l1) + l2), .ref 108], w) else some (some (.int (-1)), w)) := by
  by_cases hc1318 : ¬ s0 = 0
  · refine ((val_if_ne rfl).trans (if_pos hc1318)).trans ?_
    show val (205, d + 4, 36, [some (.ref 108), some (.int l1), some (.int l2), some (.int l3)], [], w) = _
    refine Eq.trans ?_ (if_pos hc1318).symm
    refine (val_g (c2 := (205, d + 4, 37, [some (.ref 108), some (.int l1), some (.int l2), some (.int l3)], [.ref 108], w)) rfl).trans ?_
    refine (val_g (c2 := (205, d + 4, 39, [some (.ref 108), some (.int l1), some (.int l2), some (.int l3)], [.int 20, .ref 108], w)) rfl).trans ?_
    refine (val_g (c2 := (205, d + 4, 40, [some (.ref 108), some (.int l1), some (.int l2), some (.int l3)], [.int l1, .int 20, .ref 108], w)) rfl).trans ?_
    refine (val_g (c2 := (205, d + 4, 41, [some (.ref 108), some (.int l1), some (.int l2), some (.int l3)], [.int (20 * l1), .ref 108], w)) rfl).trans ?_
    refine (val_g (c2 := (205, d + 4, 42, [some (.ref 108), some (.int l1), some (.int l2), some (.int l3)], [.int l2, .int (20 * l1), .ref 108], w)) rfl).trans ?_
    refine (val_g (c2 := (205, d + 4, 43, [some (.ref 108), some (.int l1), some (.int l2), some (.int l3)], [.int ((20 * l1) + l2), .ref 108], w)) rfl).trans ?_
    refine (val_g (c2 := (205, d + 4, 44, [some (.ref 108), some (.int l1), some (.int l2), some (.int l3)], [.int l3, .int ((20 * l1) + l2), .ref 108], w)) rfl).trans ?_
    rfl
  · refine ((val_if_ne rfl).trans (if_neg hc1318)).trans ?_
    show val (205, d + 4, 34, [some (.ref 108), some (.int l1), some (.int l2), some (.int l3)], [], w) = _
    refine Eq.trans ?_ (if_neg hc1318).symm
    refine (val_g (c2 := (205, d + 4, 35, [some (.ref 108), some (.int l1), some (.int l2), some (.int l3)], [.int (-1)], w)) rfl).trans ?_
    exact val_r rfl
theorem tr_205_47 (d : Nat) (w : Wd) (l1 : Int32) (l2 : Int32) (l3 : Int32) (s0 : Int32)     : val (205, d + 4, 47, [some (.ref 108), some (.int l1), some (.int l2), some (.int l3)], [.int s0], w) = some (some (.int s0), w) := by
  exact val_r rfl
