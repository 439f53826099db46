/-! All runs, by their length. -/
section XA
variable {d : Nat} {p : Program} {l : Launch} {e : Env} {R : Room} {s : State} {m : MethodId} {args : Array Value} {below : List Frame} {meth : Method} {c : Code} {D : va_G} {dA : Nat → ClassId} {A : Nat → Prop} {n0 : Nat} {ad0 : Nat → Nat} {E : xP0} {Q : State → Prop}
variable {M K : xM} {pc : Nat} {ls : List (Option Value)} {vs rest st : List Value} {S S' : xS}
/-- the callee's premise, where the callee has handlers -/
theorem xbackW {ad : Nat → Nat} {sz : Nat} {v : Option Value} (hM : xMet l K (d - 1) D dA E ad vs S sz (.inl v) S') (hts : ∀ w ∈ xWS, w.before args s = true) (hk : xMok K) (hnh : K.2.2.2.2.2.2 ≠ []) (hd : 0 < d) (hfr : d ≤ R.frames) (hlo : d * 35 ≤ R.locals) :
    Back l R p e below s args K.2.1 3 8 (PreOf R S.2.2.2.2.1 S.2.2.2.2.2 (xPc D dA E ad vs S sz)) (PostOf (fun _ st o t => xQc D dA E ad S sz (.inl v) S' st o t) (S.2.2.2.2.1 - S'.2.2.2.2.1) (S.2.2.2.2.2 - S'.2.2.2.2.2) (va_A (xW ad dA S) sz)) := by
  obtain ⟨k1, k2, k3, k4, k5, k6, k7, k8, -⟩ := hk
  have hcw := k8 hnh
  refine Back.of_freeWith (handlers := K.2.2.2.2.2.2.map fun h => (h.1, h.2.1, h.2.2.1, h.2.2.2.1)) (S := headSpec xWS (xroom (d - 1) S)) (P := xPc D dA E ad vs S sz) (K := fun _ _ _ _ _ => True) (Q := fun _ st o t => xQc D dA E ad S sz (.inl v) S' st o t ∧ xQf (va_A (xW ad dA S) sz) (S.2.2.2.2.1 - S'.2.2.2.2.1) (S.2.2.2.2.2 - S'.2.2.2.2.2) st t) (bytes := K.2.2.1) (maxL := K.2.2.2.1) (ret := K.2.2.2.2.1)
    (E := fun a st o t L k n => k = S.2.2.2.2.1 - S'.2.2.2.2.1 ∧ n = S.2.2.2.2.2 - S'.2.2.2.2.2 ∧ ∀ q ∈ L, va_A (xW ad dA S) sz q.base) hM ?_ ?_ ?_ ?_ (fun _ _ _ _ _ _ _ _ _ => trivial) ?_ ?_
  · show d - 1 + 1 ≤ R.frames
    omega
  · show 8 + (K.2.2.2.1 + 11) + (d - 1) * 35 ≤ R.locals
    omega
  · intro m meth c B a X hp
    exact ⟨atoms_intro fun w hw => xws_at hts w hw _ _ X.warmed, xws_at hts _ hcw _ _ X.warmed, xws_at hts _ k1 _ _ X.warmed, hp.1, hp.2.1⟩
  · intro m meth c B a g mk X hp
    exact xPc_blind D dA E ad vs S sz _ _ _ _ hp.2.2
  · intro a st o t ⟨hq, hW, L, hF, hL⟩
    refine ⟨L, _, _, ⟨?_, hW, hF⟩, rfl, rfl, hL⟩
    obtain ⟨ad', q1, -⟩ := hq
    exact ⟨_, q1⟩
  · intro m meth c B a g mk v' t L k n X hp hq hF ⟨e1, e2, hL⟩
    subst e1; subst e2
    exact ⟨g, mk, t, L, rfl, rfl, hq.1, rfl, hL, rfl, rfl⟩
set_option maxHeartbeats 4000000 in
set_option maxRecDepth 100000 in
/-- a static call of a method with handlers -/
theorem xcall_SW {ix len dat mi : Nat} {v : Option Value} (X : xCtx M d p l R s m args meth c D dA A E) (hok : xOK M pc (.invokestatic ix, len, dat)) (h : xstep d (.invokestatic ix, len, dat) pc ls st S = some (.inr (.inl (mi, vs, rest))))
    (hk : xMok (xP mi)) (hnh : (xP mi).2.2.2.2.2.2 ≠ []) (hM : ∀ ad sz, xMet l (xP mi) (d - 1) D dA E ad vs S sz (.inl v) S') (hc : S'.2.2.2.2.1 ≤ S.2.2.2.2.1) (hz : S'.2.2.2.2.2 ≤ S.2.2.2.2.2)
    (k : xGood M p l e R s m args below meth c D dA A n0 ad0 E Q (pc + 3, ls, v.toList ++ rest, S')) : xGood M p l e R s m args below meth c D dA A n0 ad0 E Q (pc, ls, st, S) := by
  have X0 := X
  obtain ⟨hx, hb, hml, hown, hts, hK, hA, hini, hfr, hlo, -⟩ := X
  obtain ⟨hd, hw⟩ := hok
  intro ad H locs cells slots lsC hR0 hL0 T hT Xs
  have hR : xRel D dA A s R n0 ad0 E ad S H locs cells slots := hR0
  have hL : xlv ad lsC M.2.2.2.1 ls := hL0
  dsimp only [xstep] at h
  cases hq : Nat.beq dat 14421 with
  | true =>
    rw [hq] at h
    exfalso
    dsimp only [cond, xcopy] at h
    split at h
    · obtain ⟨_, _, h⟩ := xarr_inv h
      obtain ⟨_, _, h⟩ := xarr_inv h
      obtain ⟨_, h⟩ := xif_inv h
      cases h
    · cases h
  | false =>
  rw [hq] at h
  have hdat : ¬ dat = 14421 := fun z => by rw [z] at hq; cases hq
  dsimp only at hw
  rw [if_neg hdat] at hw
  obtain ⟨h1, h2, o1, o2, rfl, hvl, hst⟩ := xcall_inv h
  obtain ⟨w1, w2, w3⟩ := hw
  obtain ⟨hk1, hk2, hk3, hk4, hk5, hk6, hk7, hk8, hk9⟩ := id hk
  obtain ⟨mk, methM, cM, hnamed, hmethM, -, -, -, -, -, -, hsigM⟩ := Cond.codeWith_spec (hts _ (hk8 hnh))
  have hstatic : methM.isStatic = true := Cond.static_spec hnamed hmethM (hts _ w2)
  obtain ⟨kP, hkP, -⟩ := className_of_methodNamed hnamed
  have hinitP : kP.init = .initialized := Cond.initialized_spec (findClass_of_methodNamed hnamed) hkP (hts _ hk1)
  have hlen : ∀ sig, parseMethodDescriptor (xP (dat / 16 % 1000)).2.1.desc = some sig → (vs.map (xv ad)).length = sig.parameters.length := fun sig hsig => by
    rw [hsig] at w3
    rw [List.length_map, hvl]
    exact (Option.some.inj w3).symm
  obtain ⟨vm₁, X₁, hstep₁⟩ := Xs.invokestatic hx hown (hts _ w1) hnamed hmethM hstatic hkP hinitP hk5 (g := F0 m pc lsC (st.map (xv ad))) rfl (argsL := vs.map (xv ad)) (rest := rest.map (xv ad)) (hlen _ hsigM) (xstk hst) (by rw [hb]; exact hd)
  obtain ⟨v', B, X', hpost, hsteps⟩ := xbackW (hM ad H.size) hts hk hnh h1 hfr hlo m meth c ⟨T.setVm vm₁, locs, cells, slots⟩ { F0 m pc lsC (st.map (xv ad)) with stack := rest.map (xv ad) } (.invokestatic ix) mk (vs.map (xv ad)).toArray X₁ rfl (hL.1.trans hml.symm) (by rw [hb]; exact hd) (lv_room (by rw [xcat_sum]; exact h2)) (X₁.named hnamed)
    ⟨by obtain ⟨-, -, -, e4, -⟩ := hR; exact Nat.le_of_eq e4, by obtain ⟨-, -, -, -, e5, -⟩ := hR; exact Nat.le_of_eq e5, xPc_at X0 hR vs (T.setVm vm₁) hT X₁.warmed⟩
  exact xafter hA hR hL hT o1 (fun w hw => o2 w (by rw [hst]; exact List.mem_append_right _ hw)) hc hz k X' hpost (fun target h => hstep₁ _ fun acts => by rw [doInvoke_state]; exact hsteps.trans h)
theorem xnest_at (hB : xBase E) (hE : E.1.WarmedH s.vm) : ∀ w ∈ xWN, w.before args s = true := by
  intro w hw
  obtain ⟨h1, h2⟩ := List.mem_filter.mp hw
  have h0 := hB.1 w h1
  cases w with
  | methodLinkNest a i x h => exact va_Nw.use rfl (va_Nw.warmM hE (va_Nw.of rfl h0))
  | _ => cases h2
theorem xcall_all {i : xC} {mi : Nat} {v : Option Value} (hB : xBase E) (X : xCtx M d p l R s m args meth c D dA A E) (hok : xOK M pc i) (h : xstep d i pc ls st S = some (.inr (.inl (mi, vs, rest))))
    (hk : xMok (xP mi)) (hM : ∀ ad sz, xMet l (xP mi) (d - 1) D dA E ad vs S sz (.inl v) S') (hc : S'.2.2.2.2.1 ≤ S.2.2.2.2.1) (hz : S'.2.2.2.2.2 ≤ S.2.2.2.2.2)
    (k : xGood M p l e R s m args below meth c D dA A n0 ad0 E Q (pc + 3, ls, v.toList ++ rest, S')) : xGood M p l e R s m args below meth c D dA A n0 ad0 E Q (pc, ls, st, S) := by
  obtain ⟨ins, len, dat⟩ := i
  cases ins with
  | invokestatic ix =>
    by_cases hnh : (xP mi).2.2.2.2.2.2 = []
    · exact xcall_S X hok h hk hnh hM hc hz k
    · exact xcall_SW X hok h hk hnh hM hc hz k
  | invokevirtual ix => exact xcall_V X hok h hk hM hc hz k
  | invokespecial ix =>
    obtain ⟨-, -, -, -, -, -, -, -, -, -, -, -, -, -, -, -, x6, -⟩ := id X
    exact xcall_I X hok h (xnest_at hB x6) hk hM hc hz k
  | ifCond cnd off =>
    exfalso
    cases cnd <;> (simp only [xstep, xi1] at h; split at h <;> cases h)
  | if_icmp cnd off =>
    exfalso
    cases cnd <;> (simp only [xstep, xi2] at h; split at h <;> cases h)
  | _ =>
    exfalso
    simp only [xstep, xi1, xi2, xj1, xj2, xji, xr1, xir, xiir, xjir, xli, xlj, xlr, xst1, xst2, xarr, xarrB, xobj, xin, Bool.cond_eq_ite] at h
    repeat' split at h
    all_goals cases h
end XA
theorem xkl_len (m : Nat) (ls : List (Option Value)) : (xkl m ls).length = ls.length := by
  induction ls generalizing m with
  | nil => rfl
  | cons o r ih => simp only [xkl, List.length_cons, ih]
theorem xkl_at {m i : Nat} {ls : List (Option Value)} {v : Value} (h : (xkl m ls)[i]? = some (some v)) : ls[i]? = some (some v) := by
  induction ls generalizing m i with
  | nil => cases i <;> cases h
  | cons o r ih =>
    cases i with
    | zero =>
      rw [xkl, List.getElem?_cons_zero] at h
      rw [List.getElem?_cons_zero]
      cases hq : Nat.beq (m % 2) 1 with
      | true => rw [hq] at h; cases h
      | false => rw [hq] at h; exact h
    | succ i =>
      rw [xkl, List.getElem?_cons_succ] at h
      rw [List.getElem?_cons_succ]
      exact ih h
theorem xlv.kl {ad : Nat → Nat} {lsC : Array Slot} {nL : Nat} {ls : List (Option Value)} (m : Nat) (h : xlv ad lsC nL ls) : xlv ad lsC nL (xkl m ls) := ⟨h.1, h.2.1, by rw [xkl_len]; exact h.2.2.1, fun i v hv => h.2.2.2 i v (xkl_at hv)⟩
theorem xGood.kl {M : xM} {p : Program} {l : Launch} {e : Env} {R : Room} {s : State} {m : MethodId} {args : Array Value} {below : List Frame} {meth : Method} {c : Code} {D : va_G} {dA : Nat → ClassId} {A : Nat → Prop} {n0 : Nat} {ad0 : Nat → Nat} {E : xP0} {Q : State → Prop} {pc : Nat} {ls : List (Option Value)} {st : List Value} {S : xS} (k : Nat)
    (h : xGood M p l e R s m args below meth c D dA A n0 ad0 E Q (pc, xkl k ls, st, S)) : xGood M p l e R s m args below meth c D dA A n0 ad0 E Q (pc, ls, st, S) := fun ad H locs cells slots lsC hR hL => h ad H locs cells slots lsC hR (hL.kl k)
theorem xdbl {n : Nat} {st : List Value} (h : ∀ w ∈ st, xokv n w = true) : ∀ b, Value.double b ∉ st := fun b hb => by
  have := h _ hb
  cases this
theorem xcall_ok {d n : Nat} {i : xC} {pc mi : Nat} {ls : List (Option Value)} {st vs rest : List Value} {S : xS} (h : xstep d i pc ls st S = some (.inr (.inl (mi, vs, rest)))) : ∀ b, Value.double b ∉ vs := by
  obtain ⟨ins, len, dat⟩ := i
  have key : ∀ {n dat : Nat}, xcall d dat n ls st = some (.inr (.inl (mi, vs, rest))) → ∀ b, Value.double b ∉ vs := fun h b hb => by
    obtain ⟨-, -, -, o2, -, -, hst⟩ := xcall_inv h
    exact xdbl o2 b (by rw [hst]; exact List.mem_append_left _ (List.mem_reverse.mpr hb))
  cases ins with
  | invokestatic j =>
    dsimp only [xstep] at h
    cases hq : Nat.beq dat 14421 with
    | true =>
      rw [hq] at h
      exfalso
      simp only [cond, xcopy, xarr, Bool.cond_eq_ite] at h
      repeat' split at h
      all_goals cases h
    | false => rw [hq] at h; exact key h
  | invokevirtual j =>
    dsimp only [xstep] at h
    split at h
    · obtain ⟨_, _, h⟩ := xobj_inv h
      exact key h
    · cases h
  | invokespecial j =>
    dsimp only [xstep] at h
    cases hq : Nat.beq dat 14401 with
    | true =>
      rw [hq] at h
      exfalso
      simp only [cond, xr1, Bool.cond_eq_ite] at h
      repeat' split at h
      all_goals cases h
    | false =>
      rw [hq] at h
      dsimp only [cond] at h
      split at h
      · exact key h
      · cases h
  | ifCond cnd off =>
    exfalso
    cases cnd <;> (simp only [xstep, xi1] at h; split at h <;> cases h)
  | if_icmp cnd off =>
    exfalso
    cases cnd <;> (simp only [xstep, xi2] at h; split at h <;> cases h)
  | _ =>
    exfalso
    simp only [xstep, xi1, xi2, xj1, xj2, xji, xr1, xir, xiir, xjir, xli, xlj, xlr, xst1, xst2, xarr, xarrB, xobj, xin, Bool.cond_eq_ite] at h
    repeat' split at h
    all_goals cases h
set_option maxHeartbeats 4000000 in
set_option maxRecDepth 100000 in
theorem xrun (hT : xThrows) (hC : xCatches) (htab : ∀ mi pc i, xat (xP mi).2.2.2.2.2.1 pc = some i → xOK (xP mi) pc i) (hok : ∀ mi, mi < 999 → xMok (xP mi)) (hlaw : ∀ mi, ¬ mi < 999 → (xP mi).2.2.2.2.2.2 = []) : ∀ n, xInv n := by
  intro n
  induction n with
  | zero =>
    intro d mi f out S' h
    cases h
  | succ n ih =>
    intro d mi f out S' h p l e R s m args below meth c D dA A n0 ad0 E Q hl hB X fin
    obtain ⟨pc, ls0, st, S⟩ := f
    unfold ax at h
    dsimp only at h
    refine xGood.kl (xmask mi pc) ?_
    generalize xkl (xmask mi pc) ls0 = ls at h ⊢
    cases hi : xat (xP mi).2.2.2.2.2.1 pc with
    | none => rw [hi] at h; cases h
    | some i =>
    rw [hi] at h
    dsimp only at h
    have hO := htab mi pc i hi
    cases hs : xstep d i pc ls st S with
    | none => rw [hs] at h; cases h
    | some r =>
    rw [hs] at h
    cases r with
    | inl f' => exact xnext X hO hs (ih d mi f' out S' h p l e R s m args below meth c D dA A n0 ad0 E Q hl hB X fin)
    | inr r =>
    cases r with
    | inr r =>
      dsimp only at h
      cases h
      exact fin pc ls st S i hi hs
    | inl kk =>
    obtain ⟨mk, vs, rest⟩ := kk
    dsimp only at h
    obtain ⟨hb1, hb2, h⟩ := xnb2 h
    have hsl : (xsl vs).length ≤ (xP mk).2.2.2.1 := Nat.le_of_ble_eq_true hb1
    have hmk : mk < 999 := Nat.blt_eq.mp hb2
    cases ha : ax xP n (d - 1) mk (0, xent (xP mk).2.2.2.1 vs, [], S) with
    | none => rw [ha] at h; cases h
    | some oS =>
    rw [ha] at h
    obtain ⟨o, S1⟩ := oS
    dsimp only at h
    obtain ⟨b1, b2, h⟩ := xnb2 h
    have hc : S1.2.2.2.2.1 ≤ S.2.2.2.2.1 := Nat.le_of_ble_eq_true b1
    have hz : S1.2.2.2.2.2 ≤ S.2.2.2.2.2 := Nat.le_of_ble_eq_true b2
    have hM : ∀ ad sz, xMet l (xP mk) (d - 1) D dA E ad vs S sz o S1 := fun ad sz => xmet ih hT hl (hok mk hmk) ha (xcall_ok (n := n) hs) hsl D dA E hB ad sz
    cases o with
    | inl v => exact xcall_all hB X hO hs (hok mk hmk) hM hc hz (ih d mi _ out S' h p l e R s m args below meth c D dA A n0 ad0 E Q hl hB X fin)
    | inr x =>
      dsimp only at h
      cases hv : xisV i.1 with
      | false => rw [hv] at h; cases h
      | true =>
      rw [hv] at h
      dsimp only [cond, Bool.not] at h
      cases hx : xcatch (xP mi).2.2.2.2.2.1 (xP mi).2.2.2.2.2.2 pc x with
      | none => rw [hx] at h; cases h
      | some q =>
      rw [hx] at h
      obtain ⟨b3, b4, h⟩ := xnb2 h
      have hmi : mi < 999 := by
        by_cases hmi : mi < 999
        · exact hmi
        · rw [hlaw mi hmi] at hx
          cases hx
      exact hC d p l e R s m args below meth c D dA A n0 ad0 E Q (xP mi) pc ls st vs rest S S1 i mk x q hl hB X (hok mi hmi) hi hv hs (hok mk hmk) hM hc hz hx b3 (Nat.blt_eq.mp b4) (ih d mi _ out S' h p l e R s m args below meth c D dA A n0 ad0 E Q hl hB X fin)
