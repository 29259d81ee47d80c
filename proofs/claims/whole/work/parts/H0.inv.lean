/-! THE INVARIANT between calls -/
def InvX (w : Wd) (c N C : Nat) (T bl : Nat → Nat) : Prop := Fix w ∧ TX w ∧ 151 ≤ wN w ∧ wN w ≤ 151 + 103 * c ∧ wS w ≤ 146816 + 800 * c ∧ Bl w N ∧ secT w ∧ secM w N ∧ secR w N ∧ secG w N ∧ secH w N ∧ secB w c ∧ secRg w N ∧ secS w N ∧ NOK N C T bl ∧ NC w C T bl ∧ NM w C T bl ∧ LDs w C T
def InvE (w : Wd) (c : Nat) : Prop := ∃ N C T bl, InvX w c N C T bl
section INV
variable {w : Wd} {c N C : Nat} {T bl : Nat → Nat}
theorem InvX.mk (h1 : Fix w) (h2 : TX w) (h3 : 151 ≤ wN w) (h4 : wN w ≤ 151 + 103 * c) (h5 : wS w ≤ 146816 + 800 * c) (h6 : Bl w N) (h7 : secT w) (h8 : secM w N) (h9 : secR w N) (h10 : secG w N) (h11 : secH w N) (h12 : secB w c) (h13 : secRg w N) (h14 : secS w N) (h15 : NOK N C T bl) (h16 : NC w C T bl) (h17 : NM w C T bl) (h18 : LDs w C T) : InvE w c := ⟨N, C, T, bl, h1, h2, h3, h4, h5, h6, h7, h8, h9, h10, h11, h12, h13, h14, h15, h16, h17, h18⟩
abbrev InvS (w : Wd) (c N C : Nat) (T bl : Nat → Nat) : Prop := InvX w c N C T bl
theorem InvX.hW (h : InvX w c N C T bl) : Fix w := h.1
theorem InvX.hX (h : InvX w c N C T bl) : TX w := h.2.1
theorem InvX.hn1 (h : InvX w c N C T bl) : 151 ≤ wN w := h.2.2.1
theorem InvX.hn2 (h : InvX w c N C T bl) : wN w ≤ 151 + 103 * c := h.2.2.2.1
theorem InvX.hs (h : InvX w c N C T bl) : wS w ≤ 146816 + 800 * c := h.2.2.2.2.1
theorem InvX.hB (h : InvX w c N C T bl) : Bl w N := h.2.2.2.2.2.1
theorem InvX.hT (h : InvX w c N C T bl) : secT w := h.2.2.2.2.2.2.1
theorem InvX.hM (h : InvX w c N C T bl) : secM w N := h.2.2.2.2.2.2.2.1
theorem InvX.hR (h : InvX w c N C T bl) : secR w N := h.2.2.2.2.2.2.2.2.1
theorem InvX.hG (h : InvX w c N C T bl) : secG w N := h.2.2.2.2.2.2.2.2.2.1
theorem InvX.hH (h : InvX w c N C T bl) : secH w N := h.2.2.2.2.2.2.2.2.2.2.1
theorem InvX.hBd (h : InvX w c N C T bl) : secB w c := h.2.2.2.2.2.2.2.2.2.2.2.1
theorem InvX.hRg (h : InvX w c N C T bl) : secRg w N := h.2.2.2.2.2.2.2.2.2.2.2.2.1
theorem InvX.hS (h : InvX w c N C T bl) : secS w N := h.2.2.2.2.2.2.2.2.2.2.2.2.2.1
theorem InvX.hK (h : InvX w c N C T bl) : NOK N C T bl := h.2.2.2.2.2.2.2.2.2.2.2.2.2.2.1
theorem InvX.hC (h : InvX w c N C T bl) : NC w C T bl := h.2.2.2.2.2.2.2.2.2.2.2.2.2.2.2.1
theorem InvX.hMm (h : InvX w c N C T bl) : NM w C T bl := h.2.2.2.2.2.2.2.2.2.2.2.2.2.2.2.2.1
theorem InvX.hL (h : InvX w c N C T bl) : LDs w C T := h.2.2.2.2.2.2.2.2.2.2.2.2.2.2.2.2.2
theorem InvX.same (h : InvX w c N C T bl) : InvE w (c + 1) := InvX.mk h.hW h.hX h.hn1 (by have := h.hn2; omega) (by have := h.hs; omega) h.hB h.hT h.hM h.hR h.hG h.hH (h.hBd.mono (Nat.le_succ c)) h.hRg h.hS h.hK h.hC h.hMm h.hL
theorem KP.of {v : Wd} (h : gI v 91 6 = gI w 91 6) : KP w v T C T C := Or.inr ⟨h, rfl, fun _ _ => rfl⟩
end INV
theorem TX.gw {S : List (Nat × Option Nat)} {n s : Nat} {w v : Wd} (h : TX w) (hf : Gw S n s w v) (hb : 151 ≤ wN w) (hs : S.all (fun s => Nat.ble 64 s.1) = true) : TX v := fun k hk => by
  obtain ⟨h1, h2, h3⟩ := h k hk
  exact ⟨(hf.r (by omega) (lo_off hs (by omega))).trans h1, (hf.i (by omega) (lo_off hs (by omega))).trans h2, fun j hj => (hf.i (by omega) (lo_off hs (by omega))).trans (h3 j hj)⟩
/-- one round of the law's loop -/
def Nx (w : Wd) (i : Int32) (c L pc : Nat) : Prop := ∃ w2, val (0, 1000, pc, [some (.ref 0), some (.ref 64), some (.ref 108), some (.int i)], [], w) = val (0, 1000, 18, [some (.ref 0), some (.ref 64), some (.ref 108), some (.int (i + 6))], [], w2) ∧ InvE w2 (c + 1) ∧ wK w2 0 = (30, L)
theorem n_0 {w : Wd} {c N C L : Nat} {T bl : Nat → Nat} (h : InvS w c N C T bl) (hL : wK w 0 = (30, L)) {i : Int32} (y1 : inB (i + 1) L = true) : Nx w i c L 204 := by
  obtain ⟨r, w1, w2, e1, e2, f1, f2, hz⟩ := a_stage h.hW h.hB h.hR.z 993 (gI w 0 ((i + 1)).toNatClampNeg)
  have f := f1.cl.trans f2.cr
  have g0 : gI w1 0 = gI w 0 := funext (fun j => f1.i 0 j rfl)
  have hW1 := f1.fix rfl h.hW
  refine ⟨w2, law_0 w w1 w2 i L r hL (by rw [f1.k]; exact hL) (h.hW.k 64 (by decide) (by decide)) (hW1.k 108 (by decide) (by decide)) y1 e1 (by rw [g0]; exact e2), ?_, by rw [f.k]; exact hL⟩
  rcases hz with ⟨z1, z2⟩ | ⟨M, s1, s2, s3, s4, s5, s6, s7, s8, s9, s10, s11, s12⟩
  · rw [z2]
    exact h.same
  · exact InvX.mk (f.fix rfl h.hW) (h.hX.fr f rfl) (by rw [f.1.2.1]; exact h.hn1) (by rw [f.1.2.1]; have := h.hn2; omega) (by rw [f.1.2.2]; have := h.hs; omega) s1 (h.hT.fr f rfl) s2 s3 s4 s5 (s6.mono (Nat.zero_le _)) s7 s8 s9 s10 s11 (Or.inl s12)
theorem n_6 {w : Wd} {c N C L : Nat} {T bl : Nat → Nat} (h : InvS w c N C T bl) (hL : wK w 0 = (30, L)) {i : Int32} : Nx w i c L 402 := by
  obtain ⟨r, w1, w2, e1, e2, f1, f2, q1, q2, q3⟩ := a_method h.hW h.hX h.hn1 h.hB h.hT h.hM 978
  have hW1 := f1.fix h.hn1 rfl h.hW
  have hb1 : 151 ≤ wN w1 := Nat.le_trans h.hn1 f1.1.1
  have hN0 : 0 < wN w := by have := h.hn1; omega
  have k0 : wK w1 0 = (30, L) := (f1.2.1 0 hN0).trans hL
  have g1 := f1.sub (T := FMc ++ FMm) (fun x hx _ => List.mem_append_left _ hx)
  have g2 : Fr (FMc ++ FMm) w1 w2 := f2.cr
  have fa : FrA (FMc ++ FMm) w w2 := fun a k ha hs => (g1.a h.hn1 a k ha hs).trans (g2.a a k ha hs)
  refine ⟨w2, law_6 w w1 w2 i L r hL k0 (h.hW.k 64 (by decide) (by decide)) (hW1.k 108 (by decide) (by decide)) e1 e2, ?_, by rw [f2.k]; exact k0⟩
  have n2 : wN w2 ≤ 151 + 103 * (c + 1) := by
    have a1 := h.hn2
    have a2 : wN w1 ≤ wN w + 103 := f1.1.2.1
    have a3 : wN w2 = wN w1 := f2.1.2.1
    omega
  have n3 : wS w2 ≤ 146816 + 800 * (c + 1) := by
    have a1 := h.hs
    have a2 : wS w1 ≤ wS w + 792 := f1.1.2.2
    have a3 : wS w2 = wS w1 := f2.1.2.2
    omega
  exact InvX.mk (f2.fix rfl hW1) ((h.hX.gw f1 h.hn1 rfl).fr f2 rfl) (by rw [f2.1.2.1]; exact hb1) n2 n3 (h.hB.fa fa rfl) q1 q2 (h.hR.fl fa rfl rfl q3) (h.hG.fa fa rfl) (h.hH.fa fa rfl) ((h.hBd.fa fa rfl).mono (Nat.le_succ c)) (h.hRg.fa fa rfl) (h.hS.fa fa rfl) h.hK (h.hC.fa fa rfl) (h.hMm.fa fa rfl) (h.hL.keep (KP.of (fa 91 6 (by decide) rfl).1) fa rfl)
