/-! the law's cases keep the invariant; printed by program (wip/gen/p_h1.py) -/
theorem n_1 {w : Wd} {c N C L : Nat} {T bl : Nat → Nat} (h : InvS w c N C T bl) (hc : c < 512) (hL : wK w 0 = (30, L)) {i : Int32} (y1 : inB (i + 1) L = true) (y2 : inB (i + 2) L = true) : Nx w i c L 227 := by
  obtain ⟨r, w2, e1, e2, f⟩ := a_product h.hW h.hB 996 (gI w 0 ((i + 1)).toNatClampNeg) (gI w 0 ((i + 2)).toNatClampNeg)
  refine ⟨w2, law_1 w w w2 i L r hL hL (h.hW.k 64 (by decide) (by decide)) (h.hW.k 108 (by decide) (by decide)) y1 y2 e1 e2, ?_, by rw [f.k]; exact hL⟩
  exact InvX.mk (f.fix rfl h.hW) (h.hX.fr f rfl) (by rw [f.1.2.1]; exact h.hn1) (by rw [f.1.2.1]; have := h.hn2; omega) (by rw [f.1.2.2]; have := h.hs; omega) (h.hB.fr f rfl) (h.hT.fr f rfl) (h.hM.fr f h.hn1 rfl rfl) (h.hR.fa f.a rfl rfl rfl) (h.hG.fa f.a rfl) (h.hH.fa f.a rfl) ((h.hBd.fr f rfl).mono (Nat.le_succ c)) (h.hRg.fr f rfl) (h.hS.fr f rfl) (h.hK) (h.hC.fa f.a rfl) (h.hMm.fa f.a rfl) (h.hL.keep (KP.of (f.i 91 6 rfl)) f.a rfl)
theorem n_2 {w : Wd} {c N C L : Nat} {T bl : Nat → Nat} (h : InvS w c N C T bl) (hc : c < 512) (hL : wK w 0 = (30, L)) {i : Int32} (y1 : inB (i + 1) L = true) : Nx w i c L 260 := by
  obtain ⟨r, w2, e1, e2, f⟩ := a_inverse h.hW h.hB 996 (gI w 0 ((i + 1)).toNatClampNeg)
  refine ⟨w2, law_2 w w w2 i L r hL hL (h.hW.k 64 (by decide) (by decide)) (h.hW.k 108 (by decide) (by decide)) y1 e1 e2, ?_, by rw [f.k]; exact hL⟩
  exact InvX.mk (f.fix rfl h.hW) (h.hX.fr f rfl) (by rw [f.1.2.1]; exact h.hn1) (by rw [f.1.2.1]; have := h.hn2; omega) (by rw [f.1.2.2]; have := h.hs; omega) (h.hB.fr f rfl) (h.hT.fr f rfl) (h.hM.fr f h.hn1 rfl rfl) (h.hR.fa f.a rfl rfl rfl) (h.hG.fa f.a rfl) (h.hH.fa f.a rfl) ((h.hBd.fr f rfl).mono (Nat.le_succ c)) (h.hRg.fr f rfl) (h.hS.fr f rfl) (h.hK) (h.hC.fa f.a rfl) (h.hMm.fa f.a rfl) (h.hL.keep (KP.of (f.i 91 6 rfl)) f.a rfl)
theorem n_3 {w : Wd} {c N C L : Nat} {T bl : Nat → Nat} (h : InvS w c N C T bl) (hc : c < 512) (hL : wK w 0 = (30, L)) {i : Int32} (y1 : inB (i + 1) L = true) (y2 : inB (i + 2) L = true) : Nx w i c L 283 := by
  obtain ⟨r, w2, e1, e2, f⟩ := a_told h.hW h.hB 996 (gI w 0 ((i + 1)).toNatClampNeg) (gI w 0 ((i + 2)).toNatClampNeg)
  refine ⟨w2, law_3 w w w2 i L r hL hL (h.hW.k 64 (by decide) (by decide)) (h.hW.k 108 (by decide) (by decide)) y1 y2 e1 e2, ?_, by rw [f.k]; exact hL⟩
  exact InvX.mk (f.fix rfl h.hW) (h.hX.fr f rfl) (by rw [f.1.2.1]; exact h.hn1) (by rw [f.1.2.1]; have := h.hn2; omega) (by rw [f.1.2.2]; have := h.hs; omega) (h.hB.fr f rfl) (h.hT.fr f rfl) (h.hM.fr f h.hn1 rfl rfl) (h.hR.fa f.a rfl rfl rfl) (h.hG.fa f.a rfl) (h.hH.fa f.a rfl) ((h.hBd.fr f rfl).mono (Nat.le_succ c)) (h.hRg.fr f rfl) (h.hS.fr f rfl) (h.hK) (h.hC.fa f.a rfl) (h.hMm.fa f.a rfl) (h.hL.keep (KP.of (f.i 91 6 rfl)) f.a rfl)
theorem n_4 {w : Wd} {c N C L : Nat} {T bl : Nat → Nat} (h : InvS w c N C T bl) (hc : c < 512) (hL : wK w 0 = (30, L)) {i : Int32} (y1 : inB (i + 1) L = true) : Nx w i c L 316 := by
  obtain ⟨r, e1, e2⟩ := a_ranked h.hW h.hB 996 (gI w 0 ((i + 1)).toNatClampNeg)
  exact ⟨w, law_4 w w w i L r hL hL (h.hW.k 64 (by decide) (by decide)) (h.hW.k 108 (by decide) (by decide)) y1 e1 e2, h.same, hL⟩
theorem n_5 {w : Wd} {c N C L : Nat} {T bl : Nat → Nat} (h : InvS w c N C T bl) (hc : c < 512) (hL : wK w 0 = (30, L)) {i : Int32} (y1 : inB (i + 1) L = true) (y2 : inB (i + 2) L = true) (y3 : inB (i + 3) L = true) : Nx w i c L 339 := by
  obtain ⟨r, w1, w2, e1, e2, f1, f, q1⟩ := a_feed h.hW h.hT 999 (gI w 0 ((i + 1)).toNatClampNeg) ((shlL ((Int32.toInt64 ((gI w 0 ((i + 2)).toNatClampNeg)))) 32) ||| ((Int32.toInt64 ((gI w 0 ((i + 3)).toNatClampNeg))) &&& 4294967295))
  have g0 : gI w1 0 = gI w 0 := funext (fun j => f1.i 0 j rfl)
  have hW1 := f1.fix rfl h.hW
  refine ⟨w2, law_5 w w1 w2 i L r hL (by rw [f1.k]; exact hL) (h.hW.k 64 (by decide) (by decide)) (hW1.k 108 (by decide) (by decide)) y1 y2 y3 e1 (by rw [g0]; exact e2), ?_, by rw [f.k]; exact hL⟩
  exact InvX.mk (f.fix rfl h.hW) (h.hX.fr f rfl) (by rw [f.1.2.1]; exact h.hn1) (by rw [f.1.2.1]; have := h.hn2; omega) (by rw [f.1.2.2]; have := h.hs; omega) (h.hB.fr f rfl) (q1) (h.hM.fr f h.hn1 rfl rfl) (h.hR.fa f.a rfl rfl rfl) (h.hG.fa f.a rfl) (h.hH.fa f.a rfl) ((h.hBd.fr f rfl).mono (Nat.le_succ c)) (h.hRg.fr f rfl) (h.hS.fr f rfl) (h.hK) (h.hC.fa f.a rfl) (h.hMm.fa f.a rfl) (h.hL.keep (KP.of (f.i 91 6 rfl)) f.a rfl)
theorem n_7 {w : Wd} {c N C L : Nat} {T bl : Nat → Nat} (h : InvS w c N C T bl) (hc : c < 512) (hL : wK w 0 = (30, L)) {i : Int32} (y1 : inB (i + 1) L = true) (y2 : inB (i + 2) L = true) : Nx w i c L 415 := by
  obtain ⟨r, e1, e2⟩ := a_about h.hW h.hM 998 (gI w 0 ((i + 1)).toNatClampNeg) (gI w 0 ((i + 2)).toNatClampNeg)
  exact ⟨w, law_7 w w w i L r hL hL (h.hW.k 64 (by decide) (by decide)) (h.hW.k 108 (by decide) (by decide)) y1 y2 e1 e2, h.same, hL⟩
theorem n_8 {w : Wd} {c N C L : Nat} {T bl : Nat → Nat} (h : InvS w c N C T bl) (hc : c < 512) (hL : wK w 0 = (30, L)) {i : Int32} (y1 : inB (i + 1) L = true) (y2 : inB (i + 2) L = true) (y3 : inB (i + 3) L = true) : Nx w i c L 448 := by
  obtain ⟨r, w2, e1, e2, f⟩ := a_change h.hW h.hB h.hM (d := 995) (by decide) (gI w 0 ((i + 1)).toNatClampNeg) (gI w 0 ((i + 2)).toNatClampNeg) (gI w 0 ((i + 3)).toNatClampNeg)
  refine ⟨w2, law_8 w w w2 i L r hL hL (h.hW.k 64 (by decide) (by decide)) (h.hW.k 108 (by decide) (by decide)) y1 y2 y3 e1 e2, ?_, by rw [f.k]; exact hL⟩
  exact InvX.mk (f.fix rfl h.hW) (h.hX.fr f rfl) (by rw [f.1.2.1]; exact h.hn1) (by rw [f.1.2.1]; have := h.hn2; omega) (by rw [f.1.2.2]; have := h.hs; omega) (h.hB.fr f rfl) (h.hT.fr f rfl) (h.hM.fr f h.hn1 rfl rfl) (h.hR.fa f.a rfl rfl rfl) (h.hG.fa f.a rfl) (h.hH.fa f.a rfl) ((h.hBd.fr f rfl).mono (Nat.le_succ c)) (h.hRg.fr f rfl) (h.hS.fr f rfl) (h.hK) (h.hC.fa f.a rfl) (h.hMm.fa f.a rfl) (h.hL.keep (KP.of (f.i 91 6 rfl)) f.a rfl)
theorem n_9 {w : Wd} {c N C L : Nat} {T bl : Nat → Nat} (h : InvS w c N C T bl) (hc : c < 512) (hL : wK w 0 = (30, L)) {i : Int32} (y1 : inB (i + 1) L = true) : Nx w i c L 491 := by
  obtain ⟨r, w1, w2, e1, e2, f1, f2, q1⟩ := a_ring h.hW h.hB h.hM h.hR 997 (gI w 0 ((i + 1)).toNatClampNeg)
  have f := f1.cl.trans f2.cr
  have g0 : gI w1 0 = gI w 0 := funext (fun j => f1.i 0 j rfl)
  have hW1 := f1.fix rfl h.hW
  refine ⟨w2, law_9 w w1 w2 i L r hL (by rw [f1.k]; exact hL) (h.hW.k 64 (by decide) (by decide)) (hW1.k 108 (by decide) (by decide)) y1 e1 (by rw [g0]; exact e2), ?_, by rw [f.k]; exact hL⟩
  exact InvX.mk (f.fix rfl h.hW) (h.hX.fr f rfl) (by rw [f.1.2.1]; exact h.hn1) (by rw [f.1.2.1]; have := h.hn2; omega) (by rw [f.1.2.2]; have := h.hs; omega) (h.hB.fr f rfl) (h.hT.fr f rfl) (h.hM.fr f h.hn1 rfl rfl) (q1) (h.hG.fa f.a rfl) (h.hH.fa f.a rfl) ((h.hBd.fr f rfl).mono (Nat.le_succ c)) (h.hRg.fr f rfl) (h.hS.fr f rfl) (h.hK) (h.hC.fa f.a rfl) (h.hMm.fa f.a rfl) (h.hL.keep (KP.of (f.i 91 6 rfl)) f.a rfl)
theorem n_10 {w : Wd} {c N C L : Nat} {T bl : Nat → Nat} (h : InvS w c N C T bl) (hc : c < 512) (hL : wK w 0 = (30, L)) {i : Int32} (y1 : inB (i + 1) L = true) (y2 : inB (i + 2) L = true) : Nx w i c L 514 := by
  obtain ⟨r, w1, w2, e1, e2, f1, f2, q1⟩ := a_call h.hW h.hR 998 (gI w 0 ((i + 1)).toNatClampNeg) (gI w 0 ((i + 2)).toNatClampNeg)
  have f := f1.cl.trans f2.cr
  have g0 : gI w1 0 = gI w 0 := funext (fun j => f1.i 0 j rfl)
  have hW1 := f1.fix rfl h.hW
  refine ⟨w2, law_10 w w1 w2 i L r hL (by rw [f1.k]; exact hL) (h.hW.k 64 (by decide) (by decide)) (hW1.k 108 (by decide) (by decide)) y1 y2 e1 (by rw [g0]; exact e2), ?_, by rw [f.k]; exact hL⟩
  exact InvX.mk (f.fix rfl h.hW) (h.hX.fr f rfl) (by rw [f.1.2.1]; exact h.hn1) (by rw [f.1.2.1]; have := h.hn2; omega) (by rw [f.1.2.2]; have := h.hs; omega) (h.hB.fr f rfl) (h.hT.fr f rfl) (h.hM.fr f h.hn1 rfl rfl) (q1) (h.hG.fa f.a rfl) (h.hH.fa f.a rfl) ((h.hBd.fr f rfl).mono (Nat.le_succ c)) (h.hRg.fr f rfl) (h.hS.fr f rfl) (h.hK) (h.hC.fa f.a rfl) (h.hMm.fa f.a rfl) (h.hL.keep (KP.of (f.i 91 6 rfl)) f.a rfl)
theorem n_11 {w : Wd} {c N C L : Nat} {T bl : Nat → Nat} (h : InvS w c N C T bl) (hc : c < 512) (hL : wK w 0 = (30, L)) {i : Int32} (y1 : inB (i + 1) L = true) : Nx w i c L 547 := by
  obtain ⟨r, w1, w2, e1, e2, f1, f2, q1⟩ := a_go h.hW h.hB h.hM h.hR (d := 992) (by decide) (gI w 0 ((i + 1)).toNatClampNeg)
  have f := f1.cl.trans f2.cr
  have g0 : gI w1 0 = gI w 0 := funext (fun j => f1.i 0 j rfl)
  have hW1 := f1.fix rfl h.hW
  refine ⟨w2, law_11 w w1 w2 i L r hL (by rw [f1.k]; exact hL) (h.hW.k 64 (by decide) (by decide)) (hW1.k 108 (by decide) (by decide)) y1 e1 (by rw [g0]; exact e2), ?_, by rw [f.k]; exact hL⟩
  exact InvX.mk (f.fix rfl h.hW) (h.hX.fr f rfl) (by rw [f.1.2.1]; exact h.hn1) (by rw [f.1.2.1]; have := h.hn2; omega) (by rw [f.1.2.2]; have := h.hs; omega) (h.hB.fr f rfl) (h.hT.fr f rfl) (h.hM.fr f h.hn1 rfl rfl) (q1) (h.hG.fa f.a rfl) (h.hH.fa f.a rfl) ((h.hBd.fr f rfl).mono (Nat.le_succ c)) (h.hRg.fr f rfl) (h.hS.fr f rfl) (h.hK) (h.hC.fa f.a rfl) (h.hMm.fa f.a rfl) (h.hL.keep (KP.of (f.i 91 6 rfl)) f.a rfl)
theorem n_12 {w : Wd} {c N C L : Nat} {T bl : Nat → Nat} (h : InvS w c N C T bl) (hc : c < 512) (hL : wK w 0 = (30, L)) {i : Int32} (y1 : inB (i + 1) L = true) : Nx w i c L 570 := by
  obtain ⟨r, e1, e2⟩ := a_rowAt h.hW h.hB h.hR.v 996 (gI w 0 ((i + 1)).toNatClampNeg)
  exact ⟨w, law_12 w w w i L r hL hL (h.hW.k 64 (by decide) (by decide)) (h.hW.k 108 (by decide) (by decide)) y1 e1 e2, h.same, hL⟩
theorem n_13 {w : Wd} {c N C L : Nat} {T bl : Nat → Nat} (h : InvS w c N C T bl) (hc : c < 512) (hL : wK w 0 = (30, L)) {i : Int32} (y1 : inB (i + 1) L = true) : Nx w i c L 593 := by
  obtain ⟨r, w2, e1, e2, f⟩ := a_run h.hW h.hB h.hR 997 (gI w 0 ((i + 1)).toNatClampNeg)
  refine ⟨w2, law_13 w w w2 i L r hL hL (h.hW.k 64 (by decide) (by decide)) (h.hW.k 108 (by decide) (by decide)) y1 e1 e2, ?_, by rw [f.k]; exact hL⟩
  exact InvX.mk (f.fix rfl h.hW) (h.hX.fr f rfl) (by rw [f.1.2.1]; exact h.hn1) (by rw [f.1.2.1]; have := h.hn2; omega) (by rw [f.1.2.2]; have := h.hs; omega) (h.hB.fr f rfl) (h.hT.fr f rfl) (h.hM.fr f h.hn1 rfl rfl) (h.hR.fa f.a rfl rfl rfl) (h.hG.fa f.a rfl) (h.hH.fa f.a rfl) ((h.hBd.fr f rfl).mono (Nat.le_succ c)) (h.hRg.fr f rfl) (h.hS.fr f rfl) (h.hK) (h.hC.fa f.a rfl) (h.hMm.fa f.a rfl) (h.hL.keep (KP.of (f.i 91 6 rfl)) f.a rfl)
theorem n_14 {w : Wd} {c N C L : Nat} {T bl : Nat → Nat} (h : InvS w c N C T bl) (hc : c < 512) (hL : wK w 0 = (30, L)) {i : Int32} (y1 : inB (i + 1) L = true) (y2 : inB (i + 2) L = true) : Nx w i c L 616 := by
  obtain ⟨r, w2, e1, e2, f⟩ := a_truth h.hW h.hB h.hR 997 (gI w 0 ((i + 1)).toNatClampNeg) (gI w 0 ((i + 2)).toNatClampNeg)
  refine ⟨w2, law_14 w w w2 i L r hL hL (h.hW.k 64 (by decide) (by decide)) (h.hW.k 108 (by decide) (by decide)) y1 y2 e1 e2, ?_, by rw [f.k]; exact hL⟩
  exact InvX.mk (f.fix rfl h.hW) (h.hX.fr f rfl) (by rw [f.1.2.1]; exact h.hn1) (by rw [f.1.2.1]; have := h.hn2; omega) (by rw [f.1.2.2]; have := h.hs; omega) (h.hB.fr f rfl) (h.hT.fr f rfl) (h.hM.fr f h.hn1 rfl rfl) (h.hR.fa f.a rfl rfl rfl) (h.hG.fa f.a rfl) (h.hH.fa f.a rfl) ((h.hBd.fr f rfl).mono (Nat.le_succ c)) (h.hRg.fr f rfl) (h.hS.fr f rfl) (h.hK) (h.hC.fa f.a rfl) (h.hMm.fa f.a rfl) (h.hL.keep (KP.of (f.i 91 6 rfl)) f.a rfl)
theorem n_15 {w : Wd} {c N C L : Nat} {T bl : Nat → Nat} (h : InvS w c N C T bl) (hc : c < 512) (hL : wK w 0 = (30, L)) {i : Int32} (y1 : inB (i + 1) L = true) : Nx w i c L 649 := by
  obtain ⟨r, w1, w2, e1, e2, f1, f2, q1⟩ := a_generator h.hW h.hB h.hG 994 (gI w 0 ((i + 1)).toNatClampNeg)
  have f := f1.cl.trans f2.cr
  have g0 : gI w1 0 = gI w 0 := funext (fun j => f1.i 0 j rfl)
  have hW1 := f1.fix rfl h.hW
  refine ⟨w2, law_15 w w1 w2 i L r hL (by rw [f1.k]; exact hL) (h.hW.k 64 (by decide) (by decide)) (hW1.k 108 (by decide) (by decide)) y1 e1 (by rw [g0]; exact e2), ?_, by rw [f.k]; exact hL⟩
  exact InvX.mk (f.fix rfl h.hW) (h.hX.fr f rfl) (by rw [f.1.2.1]; exact h.hn1) (by rw [f.1.2.1]; have := h.hn2; omega) (by rw [f.1.2.2]; have := h.hs; omega) (h.hB.fr f rfl) (h.hT.fr f rfl) (h.hM.fr f h.hn1 rfl rfl) (h.hR.fa f.a rfl rfl rfl) (q1) (h.hH.fa f.a rfl) ((h.hBd.fr f rfl).mono (Nat.le_succ c)) (h.hRg.fr f rfl) (h.hS.fr f rfl) (h.hK) (h.hC.fa f.a rfl) (h.hMm.fa f.a rfl) (h.hL.keep (KP.of (f.i 91 6 rfl)) f.a rfl)
theorem n_16 {w : Wd} {c N C L : Nat} {T bl : Nat → Nat} (h : InvS w c N C T bl) (hc : c < 512) (hL : wK w 0 = (30, L)) {i : Int32}  : Nx w i c L 672 := by
  obtain ⟨r, w1, w2, e1, e2, f1, f2, q1⟩ := a_free h.hW h.hB h.hG 994 
  have f := f1.cl.trans f2.cr
  have g0 : gI w1 0 = gI w 0 := funext (fun j => f1.i 0 j rfl)
  have hW1 := f1.fix rfl h.hW
  refine ⟨w2, law_16 w w1 w2 i L r hL (by rw [f1.k]; exact hL) (h.hW.k 64 (by decide) (by decide)) (hW1.k 108 (by decide) (by decide))  e1 (by exact e2), ?_, by rw [f.k]; exact hL⟩
  exact InvX.mk (f.fix rfl h.hW) (h.hX.fr f rfl) (by rw [f.1.2.1]; exact h.hn1) (by rw [f.1.2.1]; have := h.hn2; omega) (by rw [f.1.2.2]; have := h.hs; omega) (h.hB.fr f rfl) (h.hT.fr f rfl) (h.hM.fr f h.hn1 rfl rfl) (h.hR.fa f.a rfl rfl rfl) (q1) (h.hH.fa f.a rfl) ((h.hBd.fr f rfl).mono (Nat.le_succ c)) (h.hRg.fr f rfl) (h.hS.fr f rfl) (h.hK) (h.hC.fa f.a rfl) (h.hMm.fa f.a rfl) (h.hL.keep (KP.of (f.i 91 6 rfl)) f.a rfl)
theorem n_17 {w : Wd} {c N C L : Nat} {T bl : Nat → Nat} (h : InvS w c N C T bl) (hc : c < 512) (hL : wK w 0 = (30, L)) {i : Int32}  : Nx w i c L 685 := by
  obtain ⟨r, w2, e1, e2, f⟩ := a_group h.hW h.hB h.hG 996 
  refine ⟨w2, law_17 w w w2 i L r hL hL (h.hW.k 64 (by decide) (by decide)) (h.hW.k 108 (by decide) (by decide))  e1 e2, ?_, by rw [f.k]; exact hL⟩
  exact InvX.mk (f.fix rfl h.hW) (h.hX.fr f rfl) (by rw [f.1.2.1]; exact h.hn1) (by rw [f.1.2.1]; have := h.hn2; omega) (by rw [f.1.2.2]; have := h.hs; omega) (h.hB.fr f rfl) (h.hT.fr f rfl) (h.hM.fr f h.hn1 rfl rfl) (h.hR.fa f.a rfl rfl rfl) (h.hG.fa f.a rfl) (h.hH.fa f.a rfl) ((h.hBd.fr f rfl).mono (Nat.le_succ c)) (h.hRg.fr f rfl) (h.hS.fr f rfl) (h.hK) (h.hC.fa f.a rfl) (h.hMm.fa f.a rfl) (h.hL.keep (KP.of (f.i 91 6 rfl)) f.a rfl)
theorem n_18 {w : Wd} {c N C L : Nat} {T bl : Nat → Nat} (h : InvS w c N C T bl) (hc : c < 512) (hL : wK w 0 = (30, L)) {i : Int32} (y1 : inB (i + 1) L = true) : Nx w i c L 698 := by
  obtain ⟨r, w2, e1, e2, f⟩ := a_coset h.hW h.hB h.hG 996 (gI w 0 ((i + 1)).toNatClampNeg)
  refine ⟨w2, law_18 w w w2 i L r hL hL (h.hW.k 64 (by decide) (by decide)) (h.hW.k 108 (by decide) (by decide)) y1 e1 e2, ?_, by rw [f.k]; exact hL⟩
  exact InvX.mk (f.fix rfl h.hW) (h.hX.fr f rfl) (by rw [f.1.2.1]; exact h.hn1) (by rw [f.1.2.1]; have := h.hn2; omega) (by rw [f.1.2.2]; have := h.hs; omega) (h.hB.fr f rfl) (h.hT.fr f rfl) (h.hM.fr f h.hn1 rfl rfl) (h.hR.fa f.a rfl rfl rfl) (h.hG.fa f.a rfl) (h.hH.fa f.a rfl) ((h.hBd.fr f rfl).mono (Nat.le_succ c)) (h.hRg.fr f rfl) (h.hS.fr f rfl) (h.hK) (h.hC.fa f.a rfl) (h.hMm.fa f.a rfl) (h.hL.keep (KP.of (f.i 91 6 rfl)) f.a rfl)
theorem n_19 {w : Wd} {c N C L : Nat} {T bl : Nat → Nat} (h : InvS w c N C T bl) (hc : c < 512) (hL : wK w 0 = (30, L)) {i : Int32} (y1 : inB (i + 1) L = true) (y2 : inB (i + 2) L = true) : Nx w i c L 721 := by
  obtain ⟨r, w1, w2, e1, e2, f1, f2, q1⟩ := a_heads h.hW h.hB h.hR h.hH 995 (gI w 0 ((i + 1)).toNatClampNeg) (gI w 0 ((i + 2)).toNatClampNeg)
  have f := f1.cl.trans f2.cr
  have g0 : gI w1 0 = gI w 0 := funext (fun j => f1.i 0 j rfl)
  have hW1 := f1.fix rfl h.hW
  refine ⟨w2, law_19 w w1 w2 i L r hL (by rw [f1.k]; exact hL) (h.hW.k 64 (by decide) (by decide)) (hW1.k 108 (by decide) (by decide)) y1 y2 e1 (by rw [g0]; exact e2), ?_, by rw [f.k]; exact hL⟩
  exact InvX.mk (f.fix rfl h.hW) (h.hX.fr f rfl) (by rw [f.1.2.1]; exact h.hn1) (by rw [f.1.2.1]; have := h.hn2; omega) (by rw [f.1.2.2]; have := h.hs; omega) (h.hB.fr f rfl) (h.hT.fr f rfl) (h.hM.fr f h.hn1 rfl rfl) (h.hR.fa f.a rfl rfl rfl) (h.hG.fa f.a rfl) (q1) ((h.hBd.fr f rfl).mono (Nat.le_succ c)) (h.hRg.fr f rfl) (h.hS.fr f rfl) (h.hK) (h.hC.fa f.a rfl) (h.hMm.fa f.a rfl) (h.hL.keep (KP.of (f.i 91 6 rfl)) f.a rfl)
theorem n_20 {w : Wd} {c N C L : Nat} {T bl : Nat → Nat} (h : InvS w c N C T bl) (hc : c < 512) (hL : wK w 0 = (30, L)) {i : Int32} (y1 : inB (i + 1) L = true) : Nx w i c L 754 := by
  obtain ⟨r, e1, e2⟩ := a_head h.hW h.hB h.hH 996 (gI w 0 ((i + 1)).toNatClampNeg)
  exact ⟨w, law_20 w w w i L r hL hL (h.hW.k 64 (by decide) (by decide)) (h.hW.k 108 (by decide) (by decide)) y1 e1 e2, h.same, hL⟩
theorem n_21 {w : Wd} {c N C L : Nat} {T bl : Nat → Nat} (h : InvS w c N C T bl) (hc : c < 512) (hL : wK w 0 = (30, L)) {i : Int32} (y1 : inB (i + 1) L = true) (y2 : inB (i + 2) L = true) (y3 : inB (i + 3) L = true) : Nx w i c L 777 := by
  obtain ⟨r, w1, w2, e1, e2, f1, f2, q1⟩ := a_ringer h.hW h.hB h.hBd 998 (gI w 0 ((i + 1)).toNatClampNeg) (gI w 0 ((i + 2)).toNatClampNeg) (gI w 0 ((i + 3)).toNatClampNeg)
  have f := f1.cl.trans f2.cr
  have g0 : gI w1 0 = gI w 0 := funext (fun j => f1.i 0 j rfl)
  have hW1 := f1.fix rfl h.hW
  refine ⟨w2, law_21 w w1 w2 i L r hL (by rw [f1.k]; exact hL) (h.hW.k 64 (by decide) (by decide)) (hW1.k 108 (by decide) (by decide)) y1 y2 y3 e1 (by rw [g0]; exact e2), ?_, by rw [f.k]; exact hL⟩
  exact InvX.mk (f.fix rfl h.hW) (h.hX.fr f rfl) (by rw [f.1.2.1]; exact h.hn1) (by rw [f.1.2.1]; have := h.hn2; omega) (by rw [f.1.2.2]; have := h.hs; omega) (h.hB.fr f rfl) (h.hT.fr f rfl) (h.hM.fr f h.hn1 rfl rfl) (h.hR.fa f.a rfl rfl rfl) (h.hG.fa f.a rfl) (h.hH.fa f.a rfl) (q1.mono (Nat.le_succ c)) (h.hRg.fr f rfl) (h.hS.fr f rfl) (h.hK) (h.hC.fa f.a rfl) (h.hMm.fa f.a rfl) (h.hL.keep (KP.of (f.i 91 6 rfl)) f.a rfl)
theorem n_22 {w : Wd} {c N C L : Nat} {T bl : Nat → Nat} (h : InvS w c N C T bl) (hc : c < 512) (hL : wK w 0 = (30, L)) {i : Int32} (y1 : inB (i + 1) L = true) (y2 : inB (i + 2) L = true) (y3 : inB (i + 3) L = true) : Nx w i c L 820 := by
  obtain ⟨r, w1, w2, e1, e2, f1, f2, q1, q2⟩ := a_band h.hW h.hB h.hR.v h.hBd (Nat.le_of_lt hc) h.hRg 996 (gI w 0 ((i + 1)).toNatClampNeg) (gI w 0 ((i + 2)).toNatClampNeg) (gI w 0 ((i + 3)).toNatClampNeg)
  have f := f1.cl.trans f2.cr
  have g0 : gI w1 0 = gI w 0 := funext (fun j => f1.i 0 j rfl)
  have hW1 := f1.fix rfl h.hW
  refine ⟨w2, law_22 w w1 w2 i L r hL (by rw [f1.k]; exact hL) (h.hW.k 64 (by decide) (by decide)) (hW1.k 108 (by decide) (by decide)) y1 y2 y3 e1 (by rw [g0]; exact e2), ?_, by rw [f.k]; exact hL⟩
  exact InvX.mk (f.fix rfl h.hW) (h.hX.fr f rfl) (by rw [f.1.2.1]; exact h.hn1) (by rw [f.1.2.1]; have := h.hn2; omega) (by rw [f.1.2.2]; have := h.hs; omega) (h.hB.fr f rfl) (h.hT.fr f rfl) (h.hM.fr f h.hn1 rfl rfl) (h.hR.fa f.a rfl rfl rfl) (h.hG.fa f.a rfl) (h.hH.fa f.a rfl) (q1) (q2) (h.hS.fr f rfl) (h.hK) (h.hC.fa f.a rfl) (h.hMm.fa f.a rfl) (h.hL.keep (KP.of (f.i 91 6 rfl)) f.a rfl)
theorem n_23 {w : Wd} {c N C L : Nat} {T bl : Nat → Nat} (h : InvS w c N C T bl) (hc : c < 512) (hL : wK w 0 = (30, L)) {i : Int32} (y1 : inB (i + 1) L = true) (y2 : inB (i + 2) L = true) : Nx w i c L 863 := by
  obtain ⟨r, e1, e2⟩ := a_blow h.hW h.hB h.hRg 996 (gI w 0 ((i + 1)).toNatClampNeg) (gI w 0 ((i + 2)).toNatClampNeg)
  exact ⟨w, law_23 w w w i L r hL hL (h.hW.k 64 (by decide) (by decide)) (h.hW.k 108 (by decide) (by decide)) y1 y2 e1 e2, h.same, hL⟩
theorem n_24 {w : Wd} {c N C L : Nat} {T bl : Nat → Nat} (h : InvS w c N C T bl) (hc : c < 512) (hL : wK w 0 = (30, L)) {i : Int32} (y1 : inB (i + 1) L = true) : Nx w i c L 896 := by
  obtain ⟨r, e1, e2⟩ := a_ringing h.hW h.hRg 999 (gI w 0 ((i + 1)).toNatClampNeg)
  exact ⟨w, law_24 w w w i L r hL hL (h.hW.k 64 (by decide) (by decide)) (h.hW.k 108 (by decide) (by decide)) y1 e1 e2, h.same, hL⟩
theorem n_25 {w : Wd} {c N C L : Nat} {T bl : Nat → Nat} (h : InvS w c N C T bl) (hc : c < 512) (hL : wK w 0 = (30, L)) {i : Int32} (y1 : inB (i + 1) L = true) : Nx w i c L 919 := by
  obtain ⟨r, e1, e2⟩ := a_slips h.hW h.hB h.hBd 998 (gI w 0 ((i + 1)).toNatClampNeg)
  exact ⟨w, law_25 w w w i L r hL hL (h.hW.k 64 (by decide) (by decide)) (h.hW.k 108 (by decide) (by decide)) y1 e1 e2, h.same, hL⟩
theorem n_26 {w : Wd} {c N C L : Nat} {T bl : Nat → Nat} (h : InvS w c N C T bl) (hc : c < 512) (hL : wK w 0 = (30, L)) {i : Int32} (y1 : inB (i + 1) L = true) (y2 : inB (i + 2) L = true) (y3 : inB (i + 3) L = true) : Nx w i c L 942 := by
  obtain ⟨r, w1, w2, C2, T2, bl2, e1, e2, f1, f2, q1, q2, q3, q4⟩ := a_note h.hW h.hB h.hK h.hC h.hMm 994 (gI w 0 ((i + 1)).toNatClampNeg) ((shlL ((Int32.toInt64 ((gI w 0 ((i + 2)).toNatClampNeg)))) 32) ||| ((Int32.toInt64 ((gI w 0 ((i + 3)).toNatClampNeg))) &&& 4294967295))
  have f := f1.cl.trans f2.cr
  have g0 : gI w1 0 = gI w 0 := funext (fun j => f1.i 0 j rfl)
  have hW1 := f1.fix rfl h.hW
  refine ⟨w2, law_26 w w1 w2 i L r hL (by rw [f1.k]; exact hL) (h.hW.k 64 (by decide) (by decide)) (hW1.k 108 (by decide) (by decide)) y1 y2 y3 e1 (by rw [g0]; exact e2), ?_, by rw [f.k]; exact hL⟩
  exact InvX.mk (f.fix rfl h.hW) (h.hX.fr f rfl) (by rw [f.1.2.1]; exact h.hn1) (by rw [f.1.2.1]; have := h.hn2; omega) (by rw [f.1.2.2]; have := h.hs; omega) (h.hB.fr f rfl) (h.hT.fr f rfl) (h.hM.fr f h.hn1 rfl rfl) (h.hR.fa f.a rfl rfl rfl) (h.hG.fa f.a rfl) (h.hH.fa f.a rfl) ((h.hBd.fr f rfl).mono (Nat.le_succ c)) (h.hRg.fr f rfl) (h.hS.fr f rfl) (q1) (q2) (q3) (h.hL.keep q4 f.a rfl)
theorem n_27 {w : Wd} {c N C L : Nat} {T bl : Nat → Nat} (h : InvS w c N C T bl) (hc : c < 512) (hL : wK w 0 = (30, L)) {i : Int32}  : Nx w i c L 1005 := by
  obtain ⟨r, w1, w2, e1, e2, f1, f2, q1, q2, q3, q4⟩ := a_wipe h.hW h.hK h.hC h.hMm 998 
  have f := f1.cl.trans f2.cr
  have g0 : gI w1 0 = gI w 0 := funext (fun j => f1.i 0 j rfl)
  have hW1 := f1.fix rfl h.hW
  refine ⟨w2, law_27 w w1 w2 i L r hL (by rw [f1.k]; exact hL) (h.hW.k 64 (by decide) (by decide)) (hW1.k 108 (by decide) (by decide))  e1 (by exact e2), ?_, by rw [f.k]; exact hL⟩
  exact InvX.mk (f.fix rfl h.hW) (h.hX.fr f rfl) (by rw [f.1.2.1]; exact h.hn1) (by rw [f.1.2.1]; have := h.hn2; omega) (by rw [f.1.2.2]; have := h.hs; omega) (h.hB.fr f rfl) (h.hT.fr f rfl) (h.hM.fr f h.hn1 rfl rfl) (h.hR.fa f.a rfl rfl rfl) (h.hG.fa f.a rfl) (h.hH.fa f.a rfl) ((h.hBd.fr f rfl).mono (Nat.le_succ c)) (h.hRg.fr f rfl) (h.hS.fr f rfl) (q1) (q2) (q3) (Or.inl q4)
theorem n_28 {w : Wd} {c N C L : Nat} {T bl : Nat → Nat} (h : InvS w c N C T bl) (hc : c < 512) (hL : wK w 0 = (30, L)) {i : Int32}  : Nx w i c L 1018 := by
  obtain ⟨r, w1, w2, C2, T2, bl2, e1, e2, f1, f2, q1, q2, q3, q4⟩ := a_listen h.hW h.hB h.hRg h.hK h.hC h.hMm 994 
  have f := f1.cl.trans f2.cr
  have g0 : gI w1 0 = gI w 0 := funext (fun j => f1.i 0 j rfl)
  have hW1 := f1.fix rfl h.hW
  refine ⟨w2, law_28 w w1 w2 i L r hL (by rw [f1.k]; exact hL) (h.hW.k 64 (by decide) (by decide)) (hW1.k 108 (by decide) (by decide))  e1 (by exact e2), ?_, by rw [f.k]; exact hL⟩
  exact InvX.mk (f.fix rfl h.hW) (h.hX.fr f rfl) (by rw [f.1.2.1]; exact h.hn1) (by rw [f.1.2.1]; have := h.hn2; omega) (by rw [f.1.2.2]; have := h.hs; omega) (h.hB.fr f rfl) (h.hT.fr f rfl) (h.hM.fr f h.hn1 rfl rfl) (h.hR.fa f.a rfl rfl rfl) (h.hG.fa f.a rfl) (h.hH.fa f.a rfl) ((h.hBd.fr f rfl).mono (Nat.le_succ c)) (h.hRg.fr f rfl) (h.hS.fr f rfl) (q1) (q2) (q3) (h.hL.keep q4 f.a rfl)
theorem n_29 {w : Wd} {c N C L : Nat} {T bl : Nat → Nat} (h : InvS w c N C T bl) (hc : c < 512) (hL : wK w 0 = (30, L)) {i : Int32} (y1 : inB (i + 1) L = true) (y2 : inB (i + 2) L = true) : Nx w i c L 1031 := by
  obtain ⟨r, w2, e1, e2, f⟩ := a_inOrder h.hW h.hK h.hC h.hMm 998 (gI w 0 ((i + 1)).toNatClampNeg) (gI w 0 ((i + 2)).toNatClampNeg)
  refine ⟨w2, law_29 w w w2 i L r hL hL (h.hW.k 64 (by decide) (by decide)) (h.hW.k 108 (by decide) (by decide)) y1 y2 e1 e2, ?_, by rw [f.k]; exact hL⟩
  exact InvX.mk (f.fix rfl h.hW) (h.hX.fr f rfl) (by rw [f.1.2.1]; exact h.hn1) (by rw [f.1.2.1]; have := h.hn2; omega) (by rw [f.1.2.2]; have := h.hs; omega) (h.hB.fr f rfl) (h.hT.fr f rfl) (h.hM.fr f h.hn1 rfl rfl) (h.hR.fa f.a rfl rfl rfl) (h.hG.fa f.a rfl) (h.hH.fa f.a rfl) ((h.hBd.fr f rfl).mono (Nat.le_succ c)) (h.hRg.fr f rfl) (h.hS.fr f rfl) (h.hK) (h.hC.fa f.a rfl) (h.hMm.fa f.a rfl) (h.hL.keep (KP.of (f.i 91 6 rfl)) f.a rfl)
theorem n_30 {w : Wd} {c N C L : Nat} {T bl : Nat → Nat} (h : InvS w c N C T bl) (hc : c < 512) (hL : wK w 0 = (30, L)) {i : Int32} (y1 : inB (i + 1) L = true) : Nx w i c L 1064 := by
  obtain ⟨r, w2, e1, e2, f⟩ := a_heard h.hW h.hB h.hK h.hC h.hMm 998 (gI w 0 ((i + 1)).toNatClampNeg)
  refine ⟨w2, law_30 w w w2 i L r hL hL (h.hW.k 64 (by decide) (by decide)) (h.hW.k 108 (by decide) (by decide)) y1 e1 e2, ?_, by rw [f.k]; exact hL⟩
  exact InvX.mk (f.fix rfl h.hW) (h.hX.fr f rfl) (by rw [f.1.2.1]; exact h.hn1) (by rw [f.1.2.1]; have := h.hn2; omega) (by rw [f.1.2.2]; have := h.hs; omega) (h.hB.fr f rfl) (h.hT.fr f rfl) (h.hM.fr f h.hn1 rfl rfl) (h.hR.fa f.a rfl rfl rfl) (h.hG.fa f.a rfl) (h.hH.fa f.a rfl) ((h.hBd.fr f rfl).mono (Nat.le_succ c)) (h.hRg.fr f rfl) (h.hS.fr f rfl) (h.hK) (h.hC.fa f.a rfl) (h.hMm.fa f.a rfl) (h.hL.keep (KP.of (f.i 91 6 rfl)) f.a rfl)
theorem n_31 {w : Wd} {c N C L : Nat} {T bl : Nat → Nat} (h : InvS w c N C T bl) (hc : c < 512) (hL : wK w 0 = (30, L)) {i : Int32} (y1 : inB (i + 1) L = true) : Nx w i c L 1087 := by
  obtain ⟨r, w1, w2, e1, e2, f1, f2, q1, q2, q3⟩ := a_line h.hW h.hK h.hC h.hMm h.hL 992 (gI w 0 ((i + 1)).toNatClampNeg)
  have f := f1.cl.trans f2.cr
  have g0 : gI w1 0 = gI w 0 := funext (fun j => f1.i 0 j rfl)
  have hW1 := f1.fix rfl h.hW
  refine ⟨w2, law_31 w w1 w2 i L r hL (by rw [f1.k]; exact hL) (h.hW.k 64 (by decide) (by decide)) (hW1.k 108 (by decide) (by decide)) y1 e1 (by rw [g0]; exact e2), ?_, by rw [f.k]; exact hL⟩
  exact InvX.mk (f.fix rfl h.hW) (h.hX.fr f rfl) (by rw [f.1.2.1]; exact h.hn1) (by rw [f.1.2.1]; have := h.hn2; omega) (by rw [f.1.2.2]; have := h.hs; omega) (h.hB.fr f rfl) (h.hT.fr f rfl) (h.hM.fr f h.hn1 rfl rfl) (h.hR.fa f.a rfl rfl rfl) (h.hG.fa f.a rfl) (h.hH.fa f.a rfl) ((h.hBd.fr f rfl).mono (Nat.le_succ c)) (h.hRg.fr f rfl) (h.hS.fr f rfl) (h.hK) (q1) (q2) (q3)
theorem n_32 {w : Wd} {c N C L : Nat} {T bl : Nat → Nat} (h : InvS w c N C T bl) (hc : c < 512) (hL : wK w 0 = (30, L)) {i : Int32} (y1 : inB (i + 1) L = true) (y2 : inB (i + 2) L = true) : Nx w i c L 1111 := by
  obtain ⟨r, w1, w2, e1, e2, f1, f2, q1, q2, q3⟩ := a_along h.hW h.hK h.hC h.hMm h.hL 992 (gI w 0 ((i + 1)).toNatClampNeg) (gI w 0 ((i + 2)).toNatClampNeg)
  have f := f1.cl.trans f2.cr
  have g0 : gI w1 0 = gI w 0 := funext (fun j => f1.i 0 j rfl)
  have hW1 := f1.fix rfl h.hW
  refine ⟨w2, law_32 w w1 w2 i L r hL (by rw [f1.k]; exact hL) (h.hW.k 64 (by decide) (by decide)) (hW1.k 108 (by decide) (by decide)) y1 y2 e1 (by rw [g0]; exact e2), ?_, by rw [f.k]; exact hL⟩
  exact InvX.mk (f.fix rfl h.hW) (h.hX.fr f rfl) (by rw [f.1.2.1]; exact h.hn1) (by rw [f.1.2.1]; have := h.hn2; omega) (by rw [f.1.2.2]; have := h.hs; omega) (h.hB.fr f rfl) (h.hT.fr f rfl) (h.hM.fr f h.hn1 rfl rfl) (h.hR.fa f.a rfl rfl rfl) (h.hG.fa f.a rfl) (h.hH.fa f.a rfl) ((h.hBd.fr f rfl).mono (Nat.le_succ c)) (h.hRg.fr f rfl) (h.hS.fr f rfl) (h.hK) (q1) (q2) (q3)
theorem n_33 {w : Wd} {c N C L : Nat} {T bl : Nat → Nat} (h : InvS w c N C T bl) (hc : c < 512) (hL : wK w 0 = (30, L)) {i : Int32} (y1 : inB (i + 1) L = true) (y2 : inB (i + 2) L = true) (y3 : inB (i + 3) L = true) : Nx w i c L 1145 := by
  obtain ⟨r, w1, w2, e1, e2, f1, f, q1⟩ := a_board h.hW h.hS 997 (gI w 0 ((i + 1)).toNatClampNeg) (gI w 0 ((i + 2)).toNatClampNeg) (gI w 0 ((i + 3)).toNatClampNeg)
  have g0 : gI w1 0 = gI w 0 := funext (fun j => f1.i 0 j rfl)
  have hW1 := f1.fix rfl h.hW
  refine ⟨w2, law_33 w w1 w2 i L r hL (by rw [f1.k]; exact hL) (h.hW.k 64 (by decide) (by decide)) (hW1.k 108 (by decide) (by decide)) y1 y2 y3 e1 (by rw [g0]; exact e2), ?_, by rw [f.k]; exact hL⟩
  exact InvX.mk (f.fix rfl h.hW) (h.hX.fr f rfl) (by rw [f.1.2.1]; exact h.hn1) (by rw [f.1.2.1]; have := h.hn2; omega) (by rw [f.1.2.2]; have := h.hs; omega) (h.hB.fr f rfl) (h.hT.fr f rfl) (h.hM.fr f h.hn1 rfl rfl) (h.hR.fa f.a rfl rfl rfl) (h.hG.fa f.a rfl) (h.hH.fa f.a rfl) ((h.hBd.fr f rfl).mono (Nat.le_succ c)) (h.hRg.fr f rfl) (q1) (h.hK) (h.hC.fa f.a rfl) (h.hMm.fa f.a rfl) (h.hL.keep (KP.of (f.i 91 6 rfl)) f.a rfl)
theorem n_34 {w : Wd} {c N C L : Nat} {T bl : Nat → Nat} (h : InvS w c N C T bl) (hc : c < 512) (hL : wK w 0 = (30, L)) {i : Int32} (y1 : inB (i + 1) L = true) : Nx w i c L 1188 := by
  obtain ⟨r, w1, w2, e1, e2, f1, f, q1⟩ := a_clear h.hW h.hS 998 (gI w 0 ((i + 1)).toNatClampNeg)
  have g0 : gI w1 0 = gI w 0 := funext (fun j => f1.i 0 j rfl)
  have hW1 := f1.fix rfl h.hW
  refine ⟨w2, law_34 w w1 w2 i L r hL (by rw [f1.k]; exact hL) (h.hW.k 64 (by decide) (by decide)) (hW1.k 108 (by decide) (by decide)) y1 e1 (by rw [g0]; exact e2), ?_, by rw [f.k]; exact hL⟩
  exact InvX.mk (f.fix rfl h.hW) (h.hX.fr f rfl) (by rw [f.1.2.1]; exact h.hn1) (by rw [f.1.2.1]; have := h.hn2; omega) (by rw [f.1.2.2]; have := h.hs; omega) (h.hB.fr f rfl) (h.hT.fr f rfl) (h.hM.fr f h.hn1 rfl rfl) (h.hR.fa f.a rfl rfl rfl) (h.hG.fa f.a rfl) (h.hH.fa f.a rfl) ((h.hBd.fr f rfl).mono (Nat.le_succ c)) (h.hRg.fr f rfl) (q1) (h.hK) (h.hC.fa f.a rfl) (h.hMm.fa f.a rfl) (h.hL.keep (KP.of (f.i 91 6 rfl)) f.a rfl)
theorem n_35 {w : Wd} {c N C L : Nat} {T bl : Nat → Nat} (h : InvS w c N C T bl) (hc : c < 512) (hL : wK w 0 = (30, L)) {i : Int32} (y1 : inB (i + 1) L = true) : Nx w i c L 1211 := by
  obtain ⟨r, e1, e2⟩ := a_items h.hW h.hS 998 (gI w 0 ((i + 1)).toNatClampNeg)
  exact ⟨w, law_35 w w w i L r hL hL (h.hW.k 64 (by decide) (by decide)) (h.hW.k 108 (by decide) (by decide)) y1 e1 e2, h.same, hL⟩
theorem n_36 {w : Wd} {c N C L : Nat} {T bl : Nat → Nat} (h : InvS w c N C T bl) (hc : c < 512) (hL : wK w 0 = (30, L)) {i : Int32} (y1 : inB (i + 1) L = true) (y2 : inB (i + 2) L = true) (y3 : inB (i + 3) L = true) : Nx w i c L 1234 := by
  obtain ⟨r, w1, w2, e1, e2, f1, f2, q1⟩ := a_fill h.hW h.hB h.hR h.hS 995 (gI w 0 ((i + 1)).toNatClampNeg) (gI w 0 ((i + 2)).toNatClampNeg) (gI w 0 ((i + 3)).toNatClampNeg)
  have f := f1.cl.trans f2.cr
  have g0 : gI w1 0 = gI w 0 := funext (fun j => f1.i 0 j rfl)
  have hW1 := f1.fix rfl h.hW
  refine ⟨w2, law_36 w w1 w2 i L r hL (by rw [f1.k]; exact hL) (h.hW.k 64 (by decide) (by decide)) (hW1.k 108 (by decide) (by decide)) y1 y2 y3 e1 (by rw [g0]; exact e2), ?_, by rw [f.k]; exact hL⟩
  exact InvX.mk (f.fix rfl h.hW) (h.hX.fr f rfl) (by rw [f.1.2.1]; exact h.hn1) (by rw [f.1.2.1]; have := h.hn2; omega) (by rw [f.1.2.2]; have := h.hs; omega) (h.hB.fr f rfl) (h.hT.fr f rfl) (h.hM.fr f h.hn1 rfl rfl) (h.hR.fa f.a rfl rfl rfl) (h.hG.fa f.a rfl) (h.hH.fa f.a rfl) ((h.hBd.fr f rfl).mono (Nat.le_succ c)) (h.hRg.fr f rfl) (q1) (h.hK) (h.hC.fa f.a rfl) (h.hMm.fa f.a rfl) (h.hL.keep (KP.of (f.i 91 6 rfl)) f.a rfl)
theorem n_37 {w : Wd} {c N C L : Nat} {T bl : Nat → Nat} (h : InvS w c N C T bl) (hc : c < 512) (hL : wK w 0 = (30, L)) {i : Int32} (y1 : inB (i + 1) L = true) (y2 : inB (i + 2) L = true) (y3 : inB (i + 3) L = true) (y4 : inB (i + 4) L = true) (y5 : inB (i + 5) L = true) : Nx w i c L 1277 := by
  obtain ⟨r, w1, w2, e1, e2, f1, f, q1⟩ := a_copy h.hW h.hB h.hS 996 (gI w 0 ((i + 1)).toNatClampNeg) (gI w 0 ((i + 2)).toNatClampNeg) (gI w 0 ((i + 3)).toNatClampNeg) (gI w 0 ((i + 4)).toNatClampNeg) (gI w 0 ((i + 5)).toNatClampNeg)
  have g0 : gI w1 0 = gI w 0 := funext (fun j => f1.i 0 j rfl)
  have hW1 := f1.fix rfl h.hW
  refine ⟨w2, law_37 w w1 w2 i L r hL (by rw [f1.k]; exact hL) (h.hW.k 64 (by decide) (by decide)) (hW1.k 108 (by decide) (by decide)) y1 y2 y3 y4 y5 e1 (by rw [g0]; exact e2), ?_, by rw [f.k]; exact hL⟩
  exact InvX.mk (f.fix rfl h.hW) (h.hX.fr f rfl) (by rw [f.1.2.1]; exact h.hn1) (by rw [f.1.2.1]; have := h.hn2; omega) (by rw [f.1.2.2]; have := h.hs; omega) (h.hB.fr f rfl) (h.hT.fr f rfl) (h.hM.fr f h.hn1 rfl rfl) (h.hR.fa f.a rfl rfl rfl) (h.hG.fa f.a rfl) (h.hH.fa f.a rfl) ((h.hBd.fr f rfl).mono (Nat.le_succ c)) (h.hRg.fr f rfl) (q1) (h.hK) (h.hC.fa f.a rfl) (h.hMm.fa f.a rfl) (h.hL.keep (KP.of (f.i 91 6 rfl)) f.a rfl)
theorem n_38 {w : Wd} {c N C L : Nat} {T bl : Nat → Nat} (h : InvS w c N C T bl) (hc : c < 512) (hL : wK w 0 = (30, L)) {i : Int32} (y1 : inB (i + 1) L = true) (y2 : inB (i + 2) L = true) (y3 : inB (i + 3) L = true) : Nx w i c L 1340 := by
  obtain ⟨r, e1, e2⟩ := a_item h.hW h.hB h.hS 996 (gI w 0 ((i + 1)).toNatClampNeg) (gI w 0 ((i + 2)).toNatClampNeg) (gI w 0 ((i + 3)).toNatClampNeg)
  exact ⟨w, law_38 w w w i L r hL hL (h.hW.k 64 (by decide) (by decide)) (h.hW.k 108 (by decide) (by decide)) y1 y2 y3 e1 e2, h.same, hL⟩
