/-- a call that throws, and is caught -/
def xCatches : Prop := ∀ (d : Nat) (p : Program) (l : Launch) (e : Env) (R : Room) (s : State) (m : MethodId) (args : Array Value) (below : List Frame) (meth : Method) (c : Code) (D : va_G) (dA : Nat → ClassId) (A : Nat → Prop) (n0 : Nat) (ad0 : Nat → Nat) (E : xP0) (Q : State → Prop) (M : xM) (pc : Nat) (ls : List (Option Value)) (st vs rest : List Value) (S S' : xS) (i : xC) (mi x : Nat) (q : Nat × Nat),
  l.stackTraces = false → xBase E → xCtx M d p l R s m args meth c D dA A E → xMok M → xat M.2.2.2.2.2.1 pc = some i → xisV i.1 = true → xstep d i pc ls st S = some (.inr (.inl (mi, vs, rest))) → xMok (xP mi) → (∀ ad sz, xMet l (xP mi) (d - 1) D dA E ad vs S sz (.inr x) S') → S'.2.2.2.2.1 ≤ S.2.2.2.2.1 → S'.2.2.2.2.2 ≤ S.2.2.2.2.2 →
  xcatch M.2.2.2.2.2.1 M.2.2.2.2.2.2 pc x = some q → xfree ls q.2 = true → q.2 < ls.length → xGood M p l e R s m args below meth c D dA A n0 ad0 E Q (q.1, ls.set q.2 none, [], S') → xGood M p l e R s m args below meth c D dA A n0 ad0 E Q (pc, ls, st, S)
section XCT
variable {d : Nat} {p : Program} {l : Launch} {e : Env} {R : Room} {s : State} {m : MethodId} {args : Array Value} {below : List Frame} {meth : Method} {c : Code} {D : va_G} {dA : Nat → ClassId} {A : Nat → Prop} {n0 : Nat} {ad0 : Nat → Nat} {E : xP0} {Q : State → Prop}
set_option maxHeartbeats 4000000 in
/-- the callee throws: the walk stands again, with the note over its frame -/
theorem xcallT {K : xM} {U : State} {locs : List Loc} {cells slots : Nat} {ad : Nat → Nat} {vs : List Value} {S S' : xS} {x : Nat} {g : JFrame} {mk : MethodId} {ig : Instr} (X : Stand p l e R s m args below meth c U locs cells slots) (hM : xMet l K (d - 1) D dA E ad vs S U.heap.size (.inr x) S')
    (hg : g.method = m) (hsize : g.locals.size = c.maxLocals) (hdg : decode c.code g.pc = .ok (ig, 3)) (hW : 2 * g.monitorRoom + (g.stack.map fun v => v.category).sum ≤ 8) (hn : U.methodNamed? K.2.1 = some mk) (hts : ∀ w ∈ xWS, w.before args s = true) (hk : xMok K) (hnh : K.2.2.2.2.2.2 = []) (hd : 0 < d) (hfr : d ≤ R.frames) (hlo : d * 35 ≤ R.locals)
    (hc : cells + S.2.2.2.2.1 = R.cells) (hz : slots + S.2.2.2.2.2 = R.slots) (hPc : xPc D dA E ad vs S U.heap.size (vs.map (xv ad)).toArray U) :
    ∃ (a : Addr) (t T' : State) (L : List Loc), Steps p.tables e below (doInvoke e (U.setTop g) [] mk (vs.map (xv ad)).toArray).1 ((T'.setTop g).pushFrame (.throwing a)) ∧ Stand p l e R s m args below meth c T' (locs ++ L) (cells + (S.2.2.2.2.1 - S'.2.2.2.2.1)) (slots + (S.2.2.2.2.2 - S'.2.2.2.2.2)) ∧ T'.heap = t.heap ∧ T'.vm = t.vm ∧
      xQc D dA E ad S U.heap.size (.inr x) S' (U.calling g mk (vs.map (xv ad)).toArray) (.threw a) t ∧ ∀ q ∈ L, va_A (xW ad dA S) U.heap.size q.base := by
  obtain ⟨k1, k2, k3, k4, k5, -⟩ := hk
  have hcw : Cond.code K.2.1 K.2.2.1 K.2.2.2.1 K.2.2.2.2.1 ∈ xWS := k2 hnh
  obtain ⟨methY, cY, hmY, hcY, -, hlY, -, -, -, -⟩ := Cond.code_spec hn (xws_at hts _ hcw #[] U X.warmed)
  obtain ⟨kY, hkY, -⟩ := className_of_methodNamed hn
  have hinitY : kY.init = .initialized := Cond.initialized_spec (findClass_of_methodNamed hn) hkY (xws_at hts _ k1 #[] U X.warmed)
  have h : At U g.method c below := by rw [hg]; exact X.here
  have happ : (headSpec xWS (xroom (d - 1) S)).appliesLoose K.2.1 e.platform (U.calling g mk (vs.map (xv ad)).toArray) = true :=
    Spec.appliesLoose_calling (g := g) h hdg hn hkY hinitY
      (X.room_calling (g := g) (R' := xroom (d - 1) S) hsize hmY hcY (by show d - 1 + 1 ≤ R.frames; omega) (by show _ + (cY.maxLocals + 11) + (d - 1) * 35 ≤ R.locals; rw [hlY]; omega) (Nat.le_of_eq hc) (Nat.le_of_eq hz)) (atoms_intro fun w hw => xws_at hts w hw _ _ X.warmed)
  obtain ⟨g₀, hfr0⟩ := X.frames_eq
  have hfr1 : (U.setTop g).frames = (.java g :: []) ++ below := by
    rw [State.frames_setTop' g h.top, hfr0]; rfl
  obtain ⟨o, s₂, hsteps, -, hend, hq, hWU, L, hF, hL⟩ := Steps.callFree hM p X.admits X.cas X.clock (acts := []) hfr1 happ (xPc_blind D dA E ad vs S _ _ _ _ _ hPc) trivial
  obtain ⟨ad', q1, q2⟩ := id hq
  obtain ⟨a, cell, C, rfl, -⟩ := q1
  have hend' : Ended s₂ (.java g :: below) (.threw a) := by
    rw [hfr1] at hend
    exact hend
  obtain ⟨T', XT, hWT, hsame, hs2⟩ := X.outOfThrown hg (mk := mk) (a := (vs.map (xv ad)).toArray) (t := s₂) (x := a) hend' hWU hF
  refine ⟨a, s₂, T', L, by rw [← hs2]; exact hsteps, XT, ?_, ?_, hq, hL⟩
  · rw [hs2, Stand.throwing_heap]
  · rw [hs2, Stand.throwing_vm]
end XCT
