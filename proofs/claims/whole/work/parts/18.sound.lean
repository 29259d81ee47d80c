/-! THE TIE, the induction -/
set_option maxHeartbeats 4000000 in
theorem pln_cnt {y d pc n y2 d2 pc2 : Nat} {L L2 : List (Option Value)} {st st2 : List Value} {w w2 : Wd} {i : Instr} {ax : List Nat} {sw : List (Int32 × Nat)} (h : pln y d pc L st w i n ax sw = .inr (.inl (y2, d2, pc2, L2, st2, w2))) : wN w ≤ wN w2 ∧ wS w ≤ wS w2 := by
  have kz : ∀ {y3 d3 p3 : Nat} {L3 : List (Option Value)} {s3 : List Value}, gto y3 d3 p3 L3 s3 w = .inr (.inl (y2, d2, pc2, L2, st2, w2)) → wN w ≤ wN w2 ∧ wS w ≤ wS w2 := by
    intro y3 d3 p3 L3 s3 h3
    obtain ⟨-, -, -, -, -, rfl⟩ := gto_inj h3
    exact ⟨Nat.le_refl _, Nat.le_refl _⟩
  have kb : ∀ {t : Nat} {r : List Value} {cd : Prop} {hc : Decidable cd}, pbr y d pc L r w t cd hc = .inr (.inl (y2, d2, pc2, L2, st2, w2)) → wN w ≤ wN w2 ∧ wS w ≤ wS w2 := by
    intro t r cd hc h3
    unfold pbr at h3
    split at h3 <;> exact kz h3
  cases i
  case ifCond c off =>
    dsimp only [pln] at h
    split at h
    · split at h
      · cases c <;> exact kb h
      · cases h
    · cases h
  case if_icmp c off =>
    dsimp only [pln] at h
    split at h
    · split at h
      · cases c <;> exact kb h
      · cases h
    · cases h
  case tableswitch df lo hi offs =>
    dsimp only [pln] at h
    split at h
    · split at h
      · rcases swk_first h with ⟨j, q, g1, g2, g3, g4⟩ | ⟨g1, g2⟩
        · exact kz g3
        · exact kz g2
      · cases h
    · cases h
  case lookupswitch df ps =>
    dsimp only [pln] at h
    split at h
    · split at h
      · rcases swk_first h with ⟨j, q, g1, g2, g3, g4⟩ | ⟨g1, g2⟩
        · exact kz g3
        · exact kz g2
      · cases h
    · cases h
  case putfield idx =>
    dsimp only [pln] at h
    split at h
    · split at h
      · split at h
        · split at h
          · rename_i w3 hv
            obtain ⟨e1, e2⟩ := sval_N hv
            obtain ⟨-, -, -, -, -, rfl⟩ := gto_inj h
            exact ⟨Nat.le_of_eq e1.symm, Nat.le_of_eq e2.symm⟩
          · cases h
        · cases h
      · cases h
    · cases h
  case new idx =>
    dsimp only [pln] at h
    split at h
    · obtain ⟨-, -, -, -, -, rfl⟩ := gto_inj h
      exact ⟨Nat.le_succ _, Nat.le_add_right _ _⟩
    · cases h
  case newarray a9 =>
    dsimp only [pln] at h
    repeat' (first | (cases h; done) | split at h)
    obtain ⟨-, -, -, -, -, rfl⟩ := gto_inj h
    exact ⟨Nat.le_succ _, Nat.le_add_right _ _⟩
  case anewarray a9 =>
    dsimp only [pln] at h
    repeat' (first | (cases h; done) | split at h)
    obtain ⟨-, -, -, -, -, rfl⟩ := gto_inj h
    exact ⟨Nat.le_succ _, Nat.le_add_right _ _⟩
  case multianewarray a9 b9 =>
    dsimp only [pln] at h
    repeat' (first | (cases h; done) | split at h)
    obtain ⟨-, -, -, -, -, rfl⟩ := gto_inj h
    exact ⟨by show wN w ≤ wN w + 1 + _; omega, by show wS w ≤ wS w + _ + _; omega⟩
  case invokestatic idx =>
    dsimp only [pln] at h
    split at h
    · unfold pnat at h
      unfold dpos at h
      repeat' (first | (cases h; done) | split at h)
      all_goals first | exact kz h | (obtain ⟨-, -, -, -, -, rfl⟩ := gto_inj h; exact ⟨Nat.le_refl _, Nat.le_refl _⟩)
    · exact (pcall_ng h).elim
    · cases h
  case invokespecial idx =>
    dsimp only [pln] at h
    split at h
    · unfold pnat at h
      unfold dpos at h
      repeat' (first | (cases h; done) | split at h)
      all_goals first | exact kz h | (obtain ⟨-, -, -, -, -, rfl⟩ := gto_inj h; exact ⟨Nat.le_refl _, Nat.le_refl _⟩)
    · exact (pcall_ng h).elim
    · cases h
  case invokevirtual idx =>
    dsimp only [pln] at h
    split at h
    · exact (pcall_ng h).elim
    · cases h
  all_goals (dsimp only [pln] at h; repeat' (first | (cases h; done) | (exact kz h) | split at h))
  all_goals (obtain ⟨-, -, -, -, -, rfl⟩ := gto_inj h; exact ⟨Nat.le_refl _, Nat.le_refl _⟩)
theorem plan_eq (y d pc : Nat) (L : List (Option Value)) (st : List Value) (w : Wd) : plan (y, d, pc, L, st, w) = (match mtab y pc with
  | none => no
  | some e => match pst e.1 e.2.2.2.1 L st with
    | some q => gto y d (pc + e.2.1) q.1 q.2 w
    | none => pln y d pc L st w e.1 e.2.1 e.2.2.1 e.2.2.2.2) := rfl
theorem ex_cnt : ∀ (f : Nat) (y d pc : Nat) (L : List (Option Value)) (st : List Value) (w : Wd) (r : Option Value) (w2 : Wd), ex f (y, d, pc, L, st, w) = some (r, w2) → wN w ≤ wN w2 ∧ wS w ≤ wS w2 := by
  intro f
  induction f with
  | zero => intro y d pc L st w r w2 h; cases h
  | succ f ih =>
    intro y d pc L st w r w2 h
    have h : stp (ex f) (y, d, pc, L, st, w) = some (r, w2) := h
    unfold stp at h
    cases hp : plan (y, d, pc, L, st, w) with
    | inl rr =>
      rw [hp] at h
      dsimp only at h
      subst h
      rw [plan_eq] at hp
      split at hp
      · cases hp
      · rename_i en hen
        obtain ⟨q, -, -, hoke⟩ := mtab_ok hen
        unfold okE at hoke
        simp only [Bool.and_eq_true] at hoke
        split at hp
        · cases hp
        · obtain ⟨rfl, -⟩ := pln_ret hoke.2 hp
          exact ⟨Nat.le_refl _, Nat.le_refl _⟩
    | inr v =>
      cases v with
      | inl c2 =>
        obtain ⟨y2, d2, pc2, L2, st2, w3⟩ := c2
        rw [hp] at h
        have h3 := ih _ _ _ _ _ _ _ _ h
        rw [plan_eq] at hp
        split at hp
        · cases hp
        · split at hp
          · obtain ⟨-, -, -, -, -, e⟩ := gto_inj hp
            rw [e] at h3
            exact h3
          · have h4 := pln_cnt hp
            exact ⟨Nat.le_trans h4.1 h3.1, Nat.le_trans h4.2 h3.2⟩
      | inr qq =>
        rw [hp] at h
        dsimp only at h
        rw [plan_eq] at hp
        split at hp
        · cases hp
        · split at hp
          · cases hp
          · obtain ⟨idx, knd, y2, na, ci, mx, hi, hax, hpc⟩ := pln_call hp
            obtain ⟨a, d2, hpop, hrcv, hlen, hcat, hd, hqq⟩ := pcall_spec hpc
            subst hqq
            dsimp only at h
            cases hv : ex f (y2, d2, 0, lentry mx a.1, [], w) with
            | none => rw [hv] at h; cases h
            | some v =>
              obtain ⟨r1, w1⟩ := v
              rw [hv] at h
              have h1 := ih _ _ _ _ _ _ _ _ hv
              have h2 := ih _ _ _ _ _ _ _ _ h
              exact ⟨Nat.le_trans h1.1 h2.1, Nat.le_trans h1.2 h2.2⟩
theorem PcM_blind {ext : Nat → Value} {bs : Nat} {aC : Nat → ClassId} {D : va_G} {W0 : Wd} {as : List Value} {w : Wd} : FrameBlind (PcM ext bs aC D W0 as w) := by
  intro a U g mk q
  obtain ⟨q0, q1, q2, q3, q4⟩ := q
  exact ⟨q0, q1, q2, va_K.moved (u := U) (U := U.calling g mk a) (Vm.Alike.refl U.vm) q3, EXs_moved (s := U) (U := U.calling g mk a) (State.WarmedH.refl U) (Nat.le_refl _) (fun _ _ _ => rfl) q4⟩
section RUN
variable {p : Program} {l : Launch} {e : Env} {R : Room} {s : State} {m : MethodId} {args : Array Value} {below : List Frame} {meth : Method} {c : Code} {H : Heap} {locs : List Loc} {cells slots : Nat} {Q : State → Prop}
variable {pc bs mc ms : Nat} {ls : Array Slot} {rest st0 : List Value}
/-- behind a call: the answer on the stack, the callee's world -/
theorem run_go {v : Option Value} {B : State → Prop} (hr : va_Run p l e R s m args below meth c H locs cells slots mc ms (F0 m pc ls st0) rest (fun st oc t => oc = .returned v ∧ B t ∧ va_F (fun q => bs ≤ q) st t) (fun a => bs ≤ a)) (hS : va_S (fun q => bs ≤ q) s.heap H locs)
    (kk : ∀ (t : State) (locs1 : List Loc), B t → va_S (fun q => bs ≤ q) s.heap t.heap locs1 → W p l e R s m args below meth c t.heap locs1 (cells + mc) (slots + ms) Q (F0 m (pc + 3) ls (v.toList ++ rest))) : W p l e R s m args below meth c H locs cells slots Q (F0 m pc ls st0) := by
  intro T hT X
  obtain ⟨v2, st₀, t, T', L, h0, X', hL, e1, e2, ⟨hv, hb, hz, hk⟩, st⟩ := hr T hT X
  cases hv
  rw [h0] at hz hk
  have hS2 : va_S (fun q => bs ≤ q) s.heap t.heap (locs ++ L) := ⟨Nat.le_trans hS.1 hz, fun q h1 h2 => by rw [hk q (Nat.lt_of_lt_of_le h1 hS.1) h2]; exact hS.2.1 q h1 h2, fun q hq => by
    rcases List.mem_append.mp hq with h | h
    · exact hS.2.2 q h
    · exact hL q h⟩
  obtain ⟨t2, a1, b1⟩ := kk t (locs ++ L) hb hS2 T' e1 X'
  exact ⟨t2, st t2 a1, b1⟩
end RUN
theorem good_wsm {q : Mi} (h : Cond.code q.1 q.2.1 q.2.2.1 q.2.2.2.1 ∈ lwT) : GoodIn lwT (wsm q) := by
  intro w hw
  rcases List.mem_cons.mp hw with rfl | hw
  · exact ⟨h, good_of_word rfl⟩
  · have := List.mem_filter.mp hw
    exact ⟨this.1, good_of_word this.2⟩
set_option maxHeartbeats 4000000 in
theorem sound {l : Launch} {ext : Nat → Value} {bs : Nat} {aC : Nat → ClassId} {D : va_G} {W0 : Wd} : ∀ f, Snd l ext bs aC D W0 f := by
  intro f
  induction f with
  | zero => intro y d pc L st w r w2 h; cases h
  | succ f ih =>
    intro y d pc L st w r w2 hex0 q hq p e R s m args below meth c H locs cells slots Q ls hx hb hml hown hts hin hfr hlo hK hE hbs hS hR hL hz hrc hrs hend
    have hcnt := ex_cnt _ _ _ _ _ _ _ _ _ hex0
    have hex : stp (ex f) (y, d, pc, L, st, w) = some (r, w2) := hex0
    clear hex0
    have h64 := hR.2.2.2.2.1
    unfold stp at hex
    cases hp : plan (y, d, pc, L, st, w) with
    | inl rr =>
      rw [hp] at hex
      dsimp only at hex
      subst hex
      rw [plan_eq] at hp
      split at hp
      · cases hp
      · rename_i en hen
        obtain ⟨q2, hq2, -, hoke⟩ := mtab_ok hen
        cases hq.symm.trans hq2
        unfold okE at hoke
        simp only [Bool.and_eq_true, decide_eq_true_eq] at hoke
        obtain ⟨⟨⟨⟨hdg, hoke⟩, hokN⟩, hokC⟩, hokR⟩ := hoke
        split at hp
        · cases hp
        · obtain ⟨e0, hret⟩ := pln_ret hokR hp
          subst e0
          have hn1 : en.2.1 = 1 := by
            have hi : en.1 = .ireturn ∨ en.1 = .lreturn ∨ en.1 = .dreturn ∨ en.1 = .areturn ∨ en.1 = .return_ := by
              rcases hret with h | h | h | h | h
              · exact Or.inl h.1
              · exact Or.inr (Or.inl h.1)
              · exact Or.inr (Or.inr (Or.inl h.1))
              · exact Or.inr (Or.inr (Or.inr (Or.inl h.1)))
              · exact Or.inr (Or.inr (Or.inr (Or.inr h.1)))
            rcases hi with h | h | h | h | h <;> (rw [h] at hoke; simpa [isP, okL] using hoke)
          have h9 := hend en.1 pc ls st H locs hR hS hret (by rw [hdg, hn1])
          rw [Nat.sub_self, Nat.sub_self] at h9
          exact h9
    | inr v =>
      cases v with
      | inl c2 =>
        obtain ⟨y2, d2, pc2, L2, st2, w3⟩ := c2
        rw [hp] at hex
        have hex2 : ex f (y2, d2, pc2, L2, st2, w3) = some (r, w2) := hex
        clear hex
        rw [plan_eq] at hp
        split at hp
        · cases hp
        · rename_i en hen
          obtain ⟨q2, hq2, -, hoke⟩ := mtab_ok hen
          cases hq.symm.trans hq2
          unfold okE at hoke
          simp only [Bool.and_eq_true, decide_eq_true_eq] at hoke
          obtain ⟨⟨⟨⟨hdg, hoke⟩, hokN⟩, hokC⟩, hokR⟩ := hoke
          split at hp
          · rename_i qq hpst
            obtain ⟨rfl, rfl, rfl, rfl, rfl, rfl⟩ := gto_inj hp
            rw [if_pos (pst_isP hpst)] at hoke
            refine pst_ok hx hb hE hS hown hts hL hoke hpst hdg (fun ls2 hL2 => ?_)
            exact ih _ _ _ _ _ _ _ _ hex2 q hq p e R s m args below meth c H locs cells slots Q ls2 hx hb hml hown hts hin hfr hlo hK hE hbs hS hR hL2 hz hrc hrs hend
          · have hnp : ¬ isP en.1 = true := by
              intro h
              rw [pln_isP h] at hp
              cases hp
            rw [if_neg hnp] at hoke
            have h3 := ex_cnt _ _ _ _ _ _ _ _ _ hex2
            have h4 := pln_cnt hp
            refine pln_ok (fun h => hin (of_decide_eq_true h)) hx hb (hml.trans hL.1.symm) hE hown hts hK hS hR hz hbs hfr hlo hoke hokN hp (by omega) (by omega) hdg (fun e1 e2 e3 H2 locs2 hR2 hS2 => ?_)
            subst e1; subst e2; subst e3
            refine ih _ _ _ _ _ _ _ _ hex2 q hq p e R s m args below meth c H2 locs2 _ _ Q ls hx hb hml hown hts hin hfr hlo hK hE hbs hS2 hR2 hL (by omega) (by omega) (by omega) (fun i pc3 ls3 st3 H3 locs3 g1 g2 g3 g4 => ?_)
            have h9 := hend i pc3 ls3 st3 H3 locs3 g1 g2 g3 g4
            rw [show cells + (wN w3 - wN w) + (wN w2 - wN w3) = cells + (wN w2 - wN w) by omega, show slots + (wS w3 - wS w) + (wS w2 - wS w3) = slots + (wS w2 - wS w) by omega]
            exact h9
      | inr qq =>
        rw [hp] at hex
        dsimp only at hex
        rw [plan_eq] at hp
        split at hp
        · cases hp
        · rename_i en hen
          obtain ⟨q0, hq0, -, hoke⟩ := mtab_ok hen
          cases hq.symm.trans hq0
          unfold okE at hoke
          simp only [Bool.and_eq_true, decide_eq_true_eq] at hoke
          obtain ⟨⟨⟨⟨hdg, hoke⟩, hokN⟩, hokC⟩, hokR⟩ := hoke
          split at hp
          · cases hp
          · obtain ⟨idx, knd, y2, na, ci, mx, hi, hax, hpc⟩ := pln_call hp
            obtain ⟨a, d2, hpop, hrcv, hlen, hcat, hd, hqq⟩ := pcall_spec hpc
            subst hqq
            dsimp only at hex
            cases hv : ex f (y2, d2, 0, lentry mx a.1, [], w) with
            | none => rw [hv] at hex; cases hex
            | some v =>
              obtain ⟨r1, w1⟩ := v
              rw [hv] at hex
              have hex2 : ex f (y, d2 + 1, pc + 3, L, r1.toList ++ a.2, w1) = some (r, w2) := by subst hd; exact hex
              clear hex
              subst hd
              have c1 := ex_cnt _ _ _ _ _ _ _ _ _ hv
              have c2 := ex_cnt _ _ _ _ _ _ _ _ _ hex2
              obtain ⟨hst, hna⟩ := popn_spec _ _ _ hpop
              rw [hax] at hokC
              unfold okC at hokC
              dsimp only at hokC
              split at hokC
              · cases hokC
              rename_i q2 hq2
              simp only [Bool.and_eq_true, decide_eq_true_eq] at hokC
              obtain ⟨⟨hy2, hmx⟩, hokC⟩ := hokC
              subst hmx
              have hm2 := okM_of hq2
              unfold okM at hm2
              rw [hq2] at hm2
              simp only [Bool.and_eq_true, Bool.or_eq_true, decide_eq_true_eq, beq_iff_eq] at hm2
              obtain ⟨⟨⟨⟨⟨m1, m2⟩, m3⟩, m4⟩, m5⟩, m6⟩ := hm2
              have m2 : tbw (ixw q2 0) = some (.code q2.1 q2.2.1 q2.2.2.1 q2.2.2.2.1) := by
                rcases m2 with h | h
                · omega
                · exact h
              have hM := met_of (l := l) ih hq2 m1 hv hlen
              have hG := good_wsm (tbw_mem m2)
              have hRm : (rmm d2 (wN w1 - wN w) (wS w1 - wS w)).frames + 1 ≤ R.frames ∧ 8 + (q2.2.2.1 + 11) + (rmm d2 (wN w1 - wN w) (wS w1 - wS w)).locals ≤ R.locals := ⟨hfr, by show 8 + (q2.2.2.1 + 11) + 64 * d2 ≤ R.locals; omega⟩
              have hf : cells + (wN w1 - wN w) ≤ R.cells ∧ slots + (wS w1 - wS w) ≤ R.slots := ⟨by omega, by omega⟩
              have hWc : 2 * (F0 m pc ls (st.map (mv ext bs))).monitorRoom + ((a.2.map (mv ext bs)).map fun v => v.category).sum ≤ 8 := by
                rw [cat_map hE]
                show 2 * 0 + _ ≤ 8
                omega
              have hini : (Cond.initialized q2.1.cls).before args s = true := hts _ (tbw_mem m3)
              refine W_size (fun hzz => ?_)
              have hHs : H.size = bs + (wN w - 64) := Nat.le_antisymm (by omega) (HR_sz hR (Nat.le_trans hbs hS.1))
              have hPre : ∀ U : State, U.heap = H → s.WarmedH U.vm → PcM ext bs aC D W0 a.1 w (a.1.map (mv ext bs)).toArray U := fun U hU hW => ⟨rfl, by rw [hU]; exact hHs, by rw [hU]; exact hR, va_K.moved hW.alike hK, EXs_moved hW (by rw [hU]; exact hS.1) (fun b h1 h2 => by rw [hU]; exact hS.2.1 b h1 h2) hE⟩
              have kk : ∀ (t : State) (locs1 : List Loc), HR ext bs aC D W0 w1 t.heap → va_S (fun q => bs ≤ q) s.heap t.heap locs1 → W p l e R s m args below meth c t.heap locs1 (cells + (wN w1 - wN w)) (slots + (wS w1 - wS w)) Q (F0 m (pc + 3) ls ((r1.map (mv ext bs)).toList ++ a.2.map (mv ext bs))) := by
                intro t locs1 hR1 hS1
                have h9 := ih _ _ _ _ _ _ _ _ hex2 q hq p e R s m args below meth c t.heap locs1 (cells + (wN w1 - wN w)) (slots + (wS w1 - wS w)) Q ls hx hb hml hown hts hin hfr hlo hK hE hbs hS1 hR1 hL (by omega) (by omega) (by omega) (fun i pc3 ls3 st3 H3 locs3 g1 g2 g3 g4 => by
                  have h9 := hend i pc3 ls3 st3 H3 locs3 g1 g2 g3 g4
                  rw [show cells + (wN w1 - wN w) + (wN w2 - wN w1) = cells + (wN w2 - wN w) by omega, show slots + (wS w1 - wS w) + (wS w2 - wS w1) = slots + (wS w2 - wS w) by omega]
                  exact h9)
                have e9 : (r1.toList ++ a.2).map (mv ext bs) = (r1.map (mv ext bs)).toList ++ a.2.map (mv ext bs) := by cases r1 <;> simp
                rw [e9] at h9
                exact h9
              have hn3 : en.2.1 = 3 := by
                rcases hi with h | h | h <;> (rw [h] at hoke; simpa [isP, okL] using hoke)
              rw [hn3] at hdg
              have hsz : (F0 m pc ls (st.map (mv ext bs))).locals.size = q.2.2.1 := hL.1
              rcases hi with hi | hi | hi
              · rw [hi] at hokC hdg
                simp only [Bool.and_eq_true, decide_eq_true_eq, beq_iff_eq] at hokC
                obtain ⟨⟨⟨⟨k1, k2⟩, k3⟩, k4⟩, k5⟩ := hokC
                refine run_go (va_runS (As := a.1.map (mv ext bs)) (rest := a.2.map (mv ext bs)) (g := F0 m pc ls (st.map (mv ext bs))) ⟨hx, hb, hml, hown, hts⟩ hM ⟨callB_of na hts hG rfl rfl rfl hini (hts _ (tbw_mem k3)) ⟨m4, m5, k5⟩ hRm, hts _ (tbw_mem k4)⟩ ⟨PcM_blind, hPre⟩ rfl (by rw [List.length_map]; exact hna) hsz ?_ hWc hdg hf) hS kk
                show st.map (mv ext bs) = _
                rw [hst, List.map_append, List.map_reverse]
              · rw [hi] at hokC hdg
                simp only [Bool.and_eq_true, Bool.or_eq_true, decide_eq_true_eq, beq_iff_eq] at hokC
                obtain ⟨⟨⟨⟨⟨⟨⟨k1, k2⟩, k3⟩, k4⟩, k5⟩, k6⟩, k7⟩, k8⟩ := hokC
                unfold rcv at hrcv
                rw [if_neg k2] at hrcv
                split at hrcv
                · rename_i ra as2 e1
                  have hK1 := beq_iff_eq.mp hrcv
                  have hb2 : ∃ b : Nat, mv ext bs (.ref ra) = .ref b ∧ ∃ cellB : Cell, H[b]? = some cellB ∧ cellB.vm.isStatics = false ∧ s.vm.findClass (clsN ci) = some cellB.cls := by
                    by_cases h32 : ci = 32
                    · subst h32
                      have ha := HR_ext hR hK1 (by omega) (by omega)
                      have h5 := hK1
                      rw [(hR.2.2.1 ra ha).1] at h5
                      obtain ⟨t, e1, ⟨cellB, g1, g2, g3, g4⟩, -⟩ := hE.2.2.2.2.2.1 ra ha h5
                      refine ⟨t, by rw [mv_ext bs ext ha, e1], cellB, ?_, g2, g3⟩
                      rw [hS.2.1 t (Array.getElem?_eq_some_iff.mp g1).1 g4]
                      exact g1
                    · have hc11 : ci < 11 := by
                        rcases k8 with h | h
                        · exact absurd h h32
                        · exact h
                      obtain ⟨ha, hg⟩ := HR_obj hR hK1 hc11
                      obtain ⟨qc, hqc⟩ : ∃ qc, vwCl[ci]? = some qc := ⟨_, List.getElem?_eq_getElem hc11⟩
                      refine ⟨_, mv_in bs ext ha, ?_⟩
                      have h7 := va_recv hK (HR_P hR) (ci := ci) (q0 := ra - 64) hqc hg
                      unfold clsN
                      rw [if_neg h32, hqc]
                      exact h7
                  obtain ⟨b, hbm, hcell⟩ := hb2
                  rw [e1] at hPre hst hna
                  have e2 : (List.map (mv ext bs) (Value.ref ra :: as2)) = .ref b :: as2.map (mv ext bs) := by rw [List.map_cons, hbm]
                  rw [e2] at hPre
                  rw [e1] at hM
                  refine run_go (va_runV (C := clsN ci) (b := b) (As := as2.map (mv ext bs)) (rest := a.2.map (mv ext bs)) (g := F0 m pc ls (st.map (mv ext bs))) ⟨hx, hb, hml, hown, hts⟩ hM ⟨callB_of (na - 1) hts hG rfl rfl rfl hini (hts _ (tbw_mem k4)) ⟨m4, m5, k7⟩ hRm, hts _ (tbw_mem k5), hts _ (tbw_mem k6)⟩ ⟨PcM_blind, hcell, hPre⟩ rfl (by rw [List.length_map]; simp only [List.length_cons] at hna; omega) hsz ?_ hWc hdg hf) hS kk
                  show st.map (mv ext bs) = _
                  rw [hst, List.map_append, ← List.map_reverse, List.reverse_cons, List.map_append, List.map_cons, List.map_nil, hbm]
                  simp
                · cases hrcv
              · rw [hi] at hokC hdg
                simp only [Bool.and_eq_true, decide_eq_true_eq] at hokC
                obtain ⟨⟨⟨⟨⟨⟨k1, k2⟩, k3⟩, k4⟩, k5⟩, k6⟩, k7⟩ := hokC
                unfold rcv at hrcv
                rw [if_neg (by omega)] at hrcv
                split at hrcv
                · rename_i ra as2 e1
                  have hK1 := beq_iff_eq.mp hrcv
                  obtain ⟨ha, hg⟩ := HR_obj hR hK1 k3
                  have hbm := mv_in bs ext ha
                  rw [e1] at hPre hst hna
                  have e2 : (List.map (mv ext bs) (Value.ref ra :: as2)) = .ref (bs + (ra - 64)) :: as2.map (mv ext bs) := by rw [List.map_cons, hbm]
                  rw [e2] at hPre
                  rw [e1] at hM
                  have hstk : (F0 m pc ls (st.map (mv ext bs))).stack = (as2.map (mv ext bs)).reverse ++ .ref (bs + (ra - 64)) :: a.2.map (mv ext bs) := by
                    show st.map (mv ext bs) = _
                    rw [hst, List.map_append, ← List.map_reverse, List.reverse_cons, List.map_append, List.map_cons, List.map_nil, hbm]
                    simp
                  obtain ⟨nm, by2, mx2, ret2, ix2⟩ := q2
                  dsimp only at k2
                  subst k2
                  split at k7
                  · refine run_go (va_runI (b := bs + (ra - 64)) (As := as2.map (mv ext bs)) (rest := a.2.map (mv ext bs)) (g := F0 m pc ls (st.map (mv ext bs))) ⟨hx, hb, hml, hown, hts⟩ hM ⟨callB_of (na - 1) hts hG rfl rfl rfl hini (hts _ (tbw_mem (of_decide_eq_true k7))) ⟨m4, m5, k6⟩ hRm, k1, hts _ (tbw_mem k5)⟩ ⟨PcM_blind, hPre⟩ rfl (by rw [List.length_map]; simp only [List.length_cons] at hna; omega) hsz hstk hWc hdg hf) hS kk
                  · have h9 : va_Nw (.methodLinkNest q.1.cls idx nm "BelfryHouse") s := hE.2.2.2.2.2.2.2 _ (tbw_mem (of_decide_eq_true k7)) rfl
                    refine run_go (va_runIN (host := "BelfryHouse") (b := bs + (ra - 64)) (As := as2.map (mv ext bs)) (rest := a.2.map (mv ext bs)) (g := F0 m pc ls (st.map (mv ext bs))) ⟨hx, hb, hml, hown, hts⟩ hM ⟨va_cnB (na - 1) hts hG rfl rfl rfl h9 hini ⟨m4, m5, k6⟩ hRm, k1, hts _ (tbw_mem k5)⟩ ⟨PcM_blind, hPre⟩ rfl (by rw [List.length_map]; simp only [List.length_cons] at hna; omega) hsz hstk hWc hdg hf) hS kk
                · cases hrcv
