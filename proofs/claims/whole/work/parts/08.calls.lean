/-! Contracts of the small machine's runs; calls. -/
def xroom (d : Nat) (S : xS) : Room := { frames := d, cells := S.2.2.2.2.1, slots := S.2.2.2.2.2, locals := d * 35 }
/-- a method's start: its arguments, its world, what is old -/
def xPc (D : va_G) (dA : Nat → ClassId) (E : xP0) (ad : Nat → Nat) (vs : List Value) (S : xS) (sz : Nat) : Array Value → State → Prop := fun a U =>
  a = (vs.map (xv ad)).toArray ∧ U.heap.size = sz ∧ va_P D xcl (xW ad dA S) U.heap ∧ va_D (fun q => E.1.heap.size ≤ q) (xW ad dA S) ∧ va_K D xcl (xtys dA) U ∧ va_X E.2.1 E.2.2.1 E.2.2.2 U U.heap ∧ E.2.1 < E.1.heap.size ∧ E.1.heap.size ≤ U.heap.size ∧ (∀ q, q < E.1.heap.size → U.heap[q]? = E.1.heap[q]?) ∧
  xwG S.1 ∧ S.1.length ≤ 1000 ∧ S.2.2.2.1 = E.2.2.1 ∧ S.2.1 xscr = E.2.2.2 ∧ ad xscr = E.2.1 ∧ E.1.WarmedH U.vm
/-- how an end is told -/
def xOut (ad : Nat → Nat) (X : String → Nat → Prop) : xO → State → Outcome → Prop
  | .inl v, _, o => o = .returned (v.map (xv ad))
  | .inr k, t, o => ∃ (a : Nat) (cell : Cell) (C : String), o = .threw a ∧ X C k ∧ t.heap[a]? = some cell ∧ cell.vm.isStatics = false ∧ t.vm.findClass C = some cell.cls
def xexc (C : String) (k : Nat) : Prop := xexN[k]? = some C
/-- a method's end: the new world; what is not its own stays -/
def xQc (D : va_G) (dA : Nat → ClassId) (E : xP0) (ad : Nat → Nat) (S : xS) (sz : Nat) (out : xO) (S' : xS) : State → Outcome → State → Prop := fun st o t =>
  ∃ ad' : Nat → Nat, xOut ad' xexc out t o ∧ va_P D xcl (xW ad' dA S') t.heap ∧ va_D (va_A (xW ad dA S) sz) (xW ad' dA S') ∧ va_F (va_A (xW ad dA S) sz) st t ∧ xwG S'.1 ∧ S'.1.length ≤ 1000 ∧ S.1.length ≤ S'.1.length ∧
    S'.2.2.2.1 = E.2.2.1 ∧ S'.2.1 xscr = E.2.2.2 ∧ ad' xscr = E.2.1 ∧ ∀ k, k < S.1.length → ad' k = ad k
/-- .. and its frame -/
def xQf (A : Nat → Prop) (mc ms : Nat) : State → State → Prop := fun st t => st.WarmedH t.vm ∧ ∃ L, st.sameButNew ({ t with vm := st.vm } : State) L mc ms ∧ ∀ q ∈ L, A q.base
def xMet (l : Launch) (M : xM) (d : Nat) (D : va_G) (dA : Nat → ClassId) (E : xP0) (ad : Nat → Nat) (vs : List Value) (S : xS) (sz : Nat) (out : xO) (S' : xS) : Prop :=
  MetFree l M.2.1 (headSpec xWS (xroom d S)) (xPc D dA E ad vs S sz) (fun _ _ _ _ _ => True) (fun _ st o t => xQc D dA E ad S sz out S' st o t ∧ xQf (va_A (xW ad dA S) sz) (S.2.2.2.2.1 - S'.2.2.2.2.1) (S.2.2.2.2.2 - S'.2.2.2.2.2) st t)
/-- what the tables have for a method -/
def xMok (K : xM) : Prop := Cond.initialized K.2.1.cls ∈ xWS ∧ (K.2.2.2.2.2.2 = [] → Cond.code K.2.1 K.2.2.1 K.2.2.2.1 K.2.2.2.2.1 ∈ xWS) ∧ plainName K.2.1.cls = true ∧ K.2.2.2.1 ≤ 16 ∧ (K.2.1.cls ≠ "java/lang/invoke/MethodHandle" ∧ K.2.1.cls ≠ "java/lang/invoke/VarHandle") ∧ K.1 = K.2.1.cls ∧
  (∀ pc i, xat K.2.2.2.2.2.1 pc = some i → xOK K pc i) ∧ (K.2.2.2.2.2.2 ≠ [] → Cond.codeWith K.2.1 K.2.2.1 K.2.2.2.1 K.2.2.2.2.1 (K.2.2.2.2.2.2.map fun h => (h.1, h.2.1, h.2.2.1, h.2.2.2.1)) ∈ xWS) ∧ ∀ h ∈ K.2.2.2.2.2.2, h.2.2.2.1 ≠ 0 ∧ ∃ X, xexN[h.2.2.2.2]? = some X ∧ Cond.classLink K.1 h.2.2.2.1 X ∈ xWS
theorem W.mono {p : Program} {l : Launch} {e : Env} {R : Room} {s : State} {m : MethodId} {args : Array Value} {below : List Frame} {meth : Method} {c : Code} {H : Heap} {locs : List Loc} {cells slots : Nat} {Q Q' : State → Prop} {g : JFrame} (h : ∀ t, Q t → Q' t)
    (w : W p l e R s m args below meth c H locs cells slots Q g) : W p l e R s m args below meth c H locs cells slots Q' g := fun T hT X => by
  obtain ⟨t, a, b⟩ := w T hT X
  exact ⟨t, a, h t b⟩
theorem xPc_blind (D : va_G) (dA : Nat → ClassId) (E : xP0) (ad : Nat → Nat) (vs : List Value) (S : xS) (sz : Nat) : FrameBlind (xPc D dA E ad vs S sz) := by
  intro a U g mk h
  obtain ⟨h1, h2, h3, h4, h5, h6, h7⟩ := h
  exact ⟨h1, h2, h3, h4, va_K.moved (u := U) (U := U.calling g mk a) (Vm.Alike.refl U.vm) h5, va_X.moved (u := U) (U := U.calling g mk a) (Vm.Alike.refl U.vm) h6, h7⟩
section XK
variable {d : Nat} {p : Program} {l : Launch} {e : Env} {R : Room} {s : State} {m : MethodId} {args : Array Value} {below : List Frame} {meth : Method} {c : Code} {D : va_G} {dA : Nat → ClassId} {A : Nat → Prop} {n0 : Nat} {ad0 : Nat → Nat} {E : xP0} {Q : State → Prop}
variable {M K : xM} {pc : Nat} {ls : List (Option Value)} {vs rest st : List Value} {S S' : xS}
theorem xws_at (hts : ∀ w ∈ xWS, w.before args s = true) : ∀ w ∈ xWS, ∀ (a' : Array Value) (U : State), s.WarmedH U.vm → w.before a' U = true := fun w hw a' U hW => word_at hW (xWS_good w hw) (hts w hw)
/-- the callee's start at the call -/
theorem xPc_at {ad : Nat → Nat} {H : Heap} {locs : List Loc} {cells slots : Nat} (X : xCtx M d p l R s m args meth c D dA A E) (hR : xRel D dA A s R n0 ad0 E ad S H locs cells slots) (vs : List Value) (U : State) (hU : U.heap = H) (hW : s.WarmedH U.vm) : xPc D dA E ad vs S H.size (vs.map (xv ad)).toArray U := by
  obtain ⟨hx, hb, hml, hown, hts, hK, hA, hini, hfr, hlo, hok, x1, x2, x3, x4, x5, x6, -⟩ := X
  obtain ⟨hP, hD, hS, h4, h5, hwG, h7, h8, h9, h10, h11, h12⟩ := hR
  have hold : ∀ q, q < E.1.heap.size → H[q]? = E.1.heap[q]? := fun q hq => (hS.2.1 q (by omega) (fun z => by have := x5 q z; omega)).trans (x4 q hq)
  refine ⟨rfl, by rw [hU], by rw [hU]; exact hP, hD.weaken (fun _ q _ hq => x5 q.1 hq), va_K.moved hW.alike hK, ?_, x2, ?_, fun q hq => by rw [hU]; exact hold q hq, hwG, h7, h9, h10, h11, State.WarmedH.trans x6 hW⟩
  · refine va_X.moved hW.alike (va_X.kept x1 ?_)
    rw [hU, hold _ x2, x4 _ x2]
  · rw [hU]
    exact Nat.le_trans x3 hS.1
/-- the caller's state behind the call -/
theorem xRel.back {ad : Nat → Nat} {H : Heap} {locs L : List Loc} {cells slots : Nat} {out : xO} {st0 t : State} {o : Outcome} (hA : ∀ q, s.heap.size ≤ q → A q) (hR : xRel D dA A s R n0 ad0 E ad S H locs cells slots) (h0 : st0.heap = H) (hc : S'.2.2.2.2.1 ≤ S.2.2.2.2.1) (hz : S'.2.2.2.2.2 ≤ S.2.2.2.2.2)
    (hq : xQc D dA E ad S H.size out S' st0 o t) (hL : ∀ q ∈ L, va_A (xW ad dA S) H.size q.base) :
    ∃ ad' : Nat → Nat, xOut ad' xexc out t o ∧ xRel D dA A s R n0 ad0 E ad' S' t.heap (locs ++ L) (cells + (S.2.2.2.2.1 - S'.2.2.2.2.1)) (slots + (S.2.2.2.2.2 - S'.2.2.2.2.2)) ∧ ∀ k, k < S.1.length ∨ k = xscr → ad' k = ad k := by
  obtain ⟨hP, hD, hS, h4, h5, hwG, h7, h8, h9, h10, h11, h12⟩ := hR
  obtain ⟨ad', q1, q2, q3, q4, q5, q6, q7, q8, q9, q10, q11⟩ := hq
  have hin : ∀ q, va_A (xW ad dA S) H.size q → A q := by
    rintro q (⟨k, en, hk⟩ | hq)
    · exact hD.2 k _ hk
    · exact hA q (Nat.le_trans hS.1 hq)
  refine ⟨ad', q1, ⟨q2, q3.weaken (fun _ q _ h => hin _ h), ⟨?_, fun q h1 h2 => ?_, fun q hq => ?_⟩, by omega, by omega, q5, q6, by omega, q8, q9, q10, fun k hk => ?_⟩, fun k hk => ?_⟩
  · have := q4.1
    rw [h0] at this
    exact Nat.le_trans hS.1 this
  · have := q4.2 q (by rw [h0]; exact Nat.lt_of_lt_of_le h1 hS.1) (fun z => h2 (hin q z))
    rw [this, h0]
    exact hS.2.1 q h1 h2
  · rcases List.mem_append.mp hq with h | h
    · exact hS.2.2 q h
    · exact hin _ (hL q h)
  · rw [q11 k (by omega)]
    exact h12 k hk
  · rcases hk with hk | rfl
    · exact q11 k hk
    · rw [q10, h11]
/-- the callee's premise, where it comes back -/
theorem xback {ad : Nat → Nat} {sz : Nat} {v : Option Value} (hM : xMet l K (d - 1) D dA E ad vs S sz (.inl v) S') (hts : ∀ w ∈ xWS, w.before args s = true) (hk : xMok K) (hnh : K.2.2.2.2.2.2 = []) (hd : 0 < d) (hfr : d ≤ R.frames) (hlo : d * 35 ≤ R.locals) :
    Back l R p e below s args K.2.1 3 8 (PreOf R S.2.2.2.2.1 S.2.2.2.2.2 (xPc D dA E ad vs S sz)) (PostOf (fun _ st o t => xQc D dA E ad S sz (.inl v) S' st o t) (S.2.2.2.2.1 - S'.2.2.2.2.1) (S.2.2.2.2.2 - S'.2.2.2.2.2) (va_A (xW ad dA S) sz)) := by
  obtain ⟨k1, k2, k3, k4, k5, -⟩ := hk
  have hcw : Cond.code K.2.1 K.2.2.1 K.2.2.2.1 K.2.2.2.2.1 ∈ xWS := k2 hnh
  refine Back.of_free (S := headSpec xWS (xroom (d - 1) S)) (P := xPc D dA E ad vs S sz) (K := fun _ _ _ _ _ => True) (Q := fun _ st o t => xQc D dA E ad S sz (.inl v) S' st o t ∧ xQf (va_A (xW ad dA S) sz) (S.2.2.2.2.1 - S'.2.2.2.2.1) (S.2.2.2.2.2 - S'.2.2.2.2.2) st t) (bytes := K.2.2.1) (maxL := K.2.2.2.1) (ret := K.2.2.2.2.1)
    (E := fun a st o t L k n => k = S.2.2.2.2.1 - S'.2.2.2.2.1 ∧ n = S.2.2.2.2.2 - S'.2.2.2.2.2 ∧ ∀ q ∈ L, va_A (xW ad dA S) sz q.base) hM ?_ ?_ ?_ ?_ (fun _ _ _ _ _ _ _ _ _ => trivial) ?_ ?_
  · show d - 1 + 1 ≤ R.frames
    omega
  · show 8 + (K.2.2.2.1 + 11) + (d - 1) * 35 ≤ R.locals
    omega
  · intro m meth c B a X hp
    exact ⟨atoms_intro fun w hw => xws_at hts w hw _ _ X.warmed, xws_at hts _ hcw _ _ X.warmed, xws_at hts _ k1 _ _ X.warmed, hp.1, hp.2.1⟩
  · intro m meth c B a g mk X hp
    exact xPc_blind D dA E ad vs S sz _ _ _ _ hp.2.2
  · intro a st o t ⟨hq, hW, L, hF, hL⟩
    refine ⟨L, _, _, ⟨?_, hW, hF⟩, rfl, rfl, hL⟩
    obtain ⟨ad', q1, -⟩ := hq
    exact ⟨_, q1⟩
  · intro m meth c B a g mk v' t L k n X hp hq hF ⟨e1, e2, hL⟩
    subst e1; subst e2
    exact ⟨g, mk, t, L, rfl, rfl, hq.1, rfl, hL, rfl, rfl⟩
/-- going on behind a call that came back -/
theorem xafter {ad : Nat → Nat} {H : Heap} {locs : List Loc} {cells slots : Nat} {lsC : Array Slot} {v : Option Value} {T : State} {a : Array Value} {st0 : List Value} {vm₁ : Vm} {B : Pt} {v' : Option Value}
    (hA : ∀ q, s.heap.size ≤ q → A q) (hR : xRel D dA A s R n0 ad0 E ad S H locs cells slots) (hL : xlv ad lsC M.2.2.2.1 ls) (hT : T.heap = H) (o1 : xokl S.1.length ls = true) (o2 : ∀ w ∈ rest, xokv S.1.length w = true)
    (hc : S'.2.2.2.2.1 ≤ S.2.2.2.2.1) (hz : S'.2.2.2.2.2 ≤ S.2.2.2.2.2)
    (k : xGood M p l e R s m args below meth c D dA A n0 ad0 E Q (pc + 3, ls, v.toList ++ rest, S'))
    (X' : Stand p l e R s m args below meth c B.U B.locs B.cells B.slots) (hpost : PostOf (fun _ st o t => xQc D dA E ad S H.size (.inl v) S' st o t) (S.2.2.2.2.1 - S'.2.2.2.2.1) (S.2.2.2.2.2 - S'.2.2.2.2.2) (va_A (xW ad dA S) H.size) ⟨T.setVm vm₁, locs, cells, slots⟩ a v' B)
    (stp : ∀ target, Steps p.tables e below (B.U.setTop { F0 m pc lsC st0 with pc := pc + 3, stack := v'.toList ++ rest.map (xv ad) }) target → Steps p.tables e below (T.setTop (F0 m pc lsC st0)) target) :
    ∃ t, Steps p.tables e below (T.setTop (F0 m pc lsC st0)) t ∧ Q t := by
  obtain ⟨g', mk, t, L, e1, e2, hq, h1, hLL, h2, h3⟩ := hpost
  obtain ⟨U', l2, c2, s2⟩ := B
  dsimp only [Pt.U, Pt.locs, Pt.cells, Pt.slots] at X' e1 e2 h1 h2 h3 stp hq
  subst h1; subst h2; subst h3
  obtain ⟨ad', q1, hR', hag⟩ := hR.back hA (st0 := (T.setVm vm₁).calling g' mk a) hT hc hz hq hLL
  rw [← e1] at hR'
  have hv : v' = v.map (xv ad') := by
    have q2 : Outcome.returned v' = .returned (v.map (xv ad')) := q1
    cases q2
    rfl
  have w := k ad' U'.heap (locs ++ L) _ _ lsC hR' (hL.ag hag o1) U' rfl X'
  dsimp only at w
  have e3 : (v.toList ++ rest).map (xv ad') = v'.toList ++ rest.map (xv ad) := by
    rw [List.map_append, xoks_map hag o2, hv]
    cases v <;> rfl
  rw [e3] at w
  obtain ⟨t2, a1, b1⟩ := w
  exact ⟨t2, stp t2 a1, b1⟩
theorem xand5 {a b c d e : Bool} {α : Type} {f : α} {o : α} (h : (bif a && b && c && d && e then some f else none) = some o) : a = true ∧ b = true ∧ c = true ∧ d = true ∧ e = true ∧ f = o := by
  cases a <;> cases b <;> cases c <;> cases d <;> cases e <;> first | exact ⟨rfl, rfl, rfl, rfl, rfl, Option.some.inj h⟩ | cases h
theorem xcall_inv {dat n mi : Nat} (h : xcall d dat n ls st = some (.inr (.inl (mi, vs, rest)))) : 0 < d ∧ xcat rest ≤ 8 ∧ xokl n ls = true ∧ (∀ w ∈ st, xokv n w = true) ∧ mi = dat / 16 % 1000 ∧ vs.length = dat % 16 ∧ st = vs.reverse ++ rest := by
  unfold xcall at h
  obtain ⟨h1, h2, h3, h4, h5, h6⟩ := xand5 h
  cases h6
  have h3 : dat % 16 ≤ st.length := Nat.le_of_ble_eq_true h3
  exact ⟨Nat.blt_eq.mp h1, Nat.le_of_ble_eq_true h2, h4, xoks_mem h5, rfl, by simp; omega, by rw [List.reverse_reverse, List.take_append_drop]⟩
theorem xstk {ad : Nat → Nat} (h : st = vs.reverse ++ rest) : st.map (xv ad) = (vs.map (xv ad)).reverse ++ rest.map (xv ad) := by rw [h, List.map_append, List.map_reverse]
set_option maxHeartbeats 4000000 in
set_option maxRecDepth 100000 in
/-- a static call that comes back -/
theorem xcall_S {ix len dat mi : Nat} {v : Option Value} (X : xCtx M d p l R s m args meth c D dA A E) (hok : xOK M pc (.invokestatic ix, len, dat)) (h : xstep d (.invokestatic ix, len, dat) pc ls st S = some (.inr (.inl (mi, vs, rest))))
    (hk : xMok (xP mi)) (hnh : (xP mi).2.2.2.2.2.2 = []) (hM : ∀ ad sz, xMet l (xP mi) (d - 1) D dA E ad vs S sz (.inl v) S') (hc : S'.2.2.2.2.1 ≤ S.2.2.2.2.1) (hz : S'.2.2.2.2.2 ≤ S.2.2.2.2.2)
    (k : xGood M p l e R s m args below meth c D dA A n0 ad0 E Q (pc + 3, ls, v.toList ++ rest, S')) : xGood M p l e R s m args below meth c D dA A n0 ad0 E Q (pc, ls, st, S) := by
  have X0 := X
  obtain ⟨hx, hb, hml, hown, hts, hK, hA, hini, hfr, hlo, -⟩ := X
  obtain ⟨hd, hw⟩ := hok
  intro ad H locs cells slots lsC hR0 hL0 T hT Xs
  have hR : xRel D dA A s R n0 ad0 E ad S H locs cells slots := hR0
  have hL : xlv ad lsC M.2.2.2.1 ls := hL0
  dsimp only [xstep] at h
  cases hq : Nat.beq dat 14421 with
  | true =>
    rw [hq] at h
    exfalso
    dsimp only [cond, xcopy] at h
    split at h
    · obtain ⟨_, _, h⟩ := xarr_inv h
      obtain ⟨_, _, h⟩ := xarr_inv h
      obtain ⟨_, h⟩ := xif_inv h
      cases h
    · cases h
  | false =>
  rw [hq] at h
  have hdat : ¬ dat = 14421 := fun z => by rw [z] at hq; cases hq
  dsimp only at hw
  rw [if_neg hdat] at hw
  obtain ⟨h1, h2, o1, o2, rfl, hvl, hst⟩ := xcall_inv h
  obtain ⟨w1, w2, w3⟩ := hw
  obtain ⟨hk1, hk2, hk3, hk4, hk5, hk6⟩ := id hk
  have hdv : 0 < d := h1
  obtain ⟨v', vm₁, B, hW1, X', hpost, stp⟩ := callS Xs hx hown (hts _ w1) (hts _ w2) (hts _ hk1) (hts _ (hk2 hnh)) hk5 (xback (hM ad H.size) hts hk hnh hdv hfr hlo) (g := F0 m pc lsC (st.map (xv ad))) rfl (hL.1.trans hml.symm) (argsL := vs.map (xv ad)) (rest := rest.map (xv ad))
    (fun sig hsig => by rw [hsig] at w3; rw [List.length_map, hvl]; exact (Option.some.inj w3).symm) (xstk hst) (lv_room (by rw [xcat_sum]; exact h2)) (by rw [hb]; exact hd)
    (fun vm₁ hW₁ => ⟨by obtain ⟨-, -, -, e4, -⟩ := hR; exact Nat.le_of_eq e4, by obtain ⟨-, -, -, -, e5, -⟩ := hR; exact Nat.le_of_eq e5, xPc_at X0 hR vs (T.setVm vm₁) hT hW₁⟩)
  exact xafter hA hR hL hT o1 (fun w hw => o2 w (by rw [hst]; exact List.mem_append_right _ hw)) hc hz k X' hpost stp
set_option maxHeartbeats 4000000 in
set_option maxRecDepth 100000 in
/-- a call of an object's method that comes back -/
theorem xcall_V {ix len dat mi : Nat} {v : Option Value} (X : xCtx M d p l R s m args meth c D dA A E) (hok : xOK M pc (.invokevirtual ix, len, dat)) (h : xstep d (.invokevirtual ix, len, dat) pc ls st S = some (.inr (.inl (mi, vs, rest))))
    (hk : xMok (xP mi)) (hM : ∀ ad sz, xMet l (xP mi) (d - 1) D dA E ad vs S sz (.inl v) S') (hc : S'.2.2.2.2.1 ≤ S.2.2.2.2.1) (hz : S'.2.2.2.2.2 ≤ S.2.2.2.2.2)
    (k : xGood M p l e R s m args below meth c D dA A n0 ad0 E Q (pc + 3, ls, v.toList ++ rest, S')) : xGood M p l e R s m args below meth c D dA A n0 ad0 E Q (pc, ls, st, S) := by
  have X0 := X
  obtain ⟨hx, hb, hml, hown, hts, hK, hA, hini, hfr, hlo, -⟩ := X
  obtain ⟨hd, hw⟩ := hok
  intro ad H locs cells slots lsC hR0 hL0 T hT Xs
  have hR : xRel D dA A s R n0 ad0 E ad S H locs cells slots := hR0
  have hL : xlv ad lsC M.2.2.2.1 ls := hL0
  dsimp only [xstep] at h
  split at h
  · rename_i kc hkc
    obtain ⟨ks, hg, h⟩ := xobj_inv h
    obtain ⟨h1, h2, o1, o2, rfl, hvl, hst⟩ := xcall_inv h
    obtain ⟨w1, w2, ⟨C, TT, N, hcl, w4⟩, w3, hnh⟩ := hw
    dsimp only at w1 w2 w3 w4 hcl
    obtain ⟨hk1, hk2, hk3, hk4, hk5, hk6⟩ := id hk
    have hpos : 0 < dat % 16 := by
      cases hp : parseMethodDescriptor (xP (dat / 16 % 1000)).2.1.desc with
      | none => rw [hp] at w3; cases w3
      | some sig => rw [hp] at w3; have := Option.some.inj w3; dsimp only at this; omega
    obtain ⟨a0, vs', rfl⟩ : ∃ a0 vs', vs = a0 :: vs' := by
      cases vs with
      | nil => simp at hvl; omega
      | cons a0 vs' => exact ⟨a0, vs', rfl⟩
    have ha0 : a0 = .ref kc := by
      rw [hst] at hkc
      have hl : dat % 16 - 1 = vs'.length := by rw [List.length_cons] at hvl; omega
      rw [hl, List.getElem?_append_left (by simp)] at hkc
      simpa using hkc
    subst ha0
    obtain ⟨cellB, c1, c2, c3⟩ := va_recv hK hR.1 hcl (xW_at hg)
    obtain ⟨v', vm₁, B, hW1, X', hpost, stp⟩ := callV Xs hx (C := C) hown (hts _ w1) (hts _ w2) (hts _ w4) (hts _ (hk2 hnh)) hk5 (xback (hM ad H.size) hts hk hnh h1 hfr hlo) (b := ad kc) (by rw [hT]; exact c1) c2 c3 (g := F0 m pc lsC (st.map (xv ad))) rfl (hL.1.trans hml.symm) (argsL := vs'.map (xv ad)) (rest := rest.map (xv ad))
      (fun sig hsig => by rw [hsig] at w3; have := Option.some.inj w3; dsimp only at this; rw [List.length_map]; rw [List.length_cons] at hvl; omega) (by rw [show (F0 m pc lsC (st.map (xv ad))).stack = st.map (xv ad) from rfl, xstk hst]; simp [xv]) (lv_room (by rw [xcat_sum]; exact h2)) (by rw [hb]; exact hd)
      (fun vm₁ hW₁ => ⟨by obtain ⟨-, -, -, e4, -⟩ := hR; exact Nat.le_of_eq e4, by obtain ⟨-, -, -, -, e5, -⟩ := hR; exact Nat.le_of_eq e5, xPc_at X0 hR (.ref kc :: vs') (T.setVm vm₁) hT hW₁⟩)
    exact xafter hA hR hL hT o1 (fun w hw => o2 w (by rw [hst]; exact List.mem_append_right _ hw)) hc hz k X' hpost stp
  · cases h
set_option maxHeartbeats 4000000 in
set_option maxRecDepth 100000 in
/-- a constructor's call -/
theorem xcall_I {ix len dat mi : Nat} {v : Option Value} (X : xCtx M d p l R s m args meth c D dA A E) (hok : xOK M pc (.invokespecial ix, len, dat)) (h : xstep d (.invokespecial ix, len, dat) pc ls st S = some (.inr (.inl (mi, vs, rest))))
    (hnest : ∀ w ∈ xWN, w.before args s = true) (hk : xMok (xP mi)) (hM : ∀ ad sz, xMet l (xP mi) (d - 1) D dA E ad vs S sz (.inl v) S') (hc : S'.2.2.2.2.1 ≤ S.2.2.2.2.1) (hz : S'.2.2.2.2.2 ≤ S.2.2.2.2.2)
    (k : xGood M p l e R s m args below meth c D dA A n0 ad0 E Q (pc + 3, ls, v.toList ++ rest, S')) : xGood M p l e R s m args below meth c D dA A n0 ad0 E Q (pc, ls, st, S) := by
  have X0 := X
  obtain ⟨hx, hb, hml, hown, hts, hK, hA, hini, hfr, hlo, -⟩ := X
  obtain ⟨hd, hw⟩ := hok
  intro ad H locs cells slots lsC hR0 hL0 T hT Xs
  have hR : xRel D dA A s R n0 ad0 E ad S H locs cells slots := hR0
  have hL : xlv ad lsC M.2.2.2.1 ls := hL0
  dsimp only [xstep] at h
  cases hq : Nat.beq dat 14401 with
  | true =>
    rw [hq] at h
    exfalso
    dsimp only [cond] at h
    obtain ⟨_, _, _, h⟩ := xr1_inv h
    revert h
    cases (Nat.blt 0 d && Nat.ble (xcat _) 8) <;> intro h <;> cases h
  | false =>
  rw [hq] at h
  have hdat : ¬ dat = 14401 := fun z => by rw [z] at hq; cases hq
  dsimp only at hw
  rw [if_neg hdat] at hw
  dsimp only [cond] at h
  split at h
  case h_2 => cases h
  rename_i kc hkc
  obtain ⟨h1, h2, o1, o2, rfl, hvl, hst⟩ := xcall_inv h
  obtain ⟨w0, w1, w2, w5, w3, hnh⟩ := hw
  obtain ⟨hk1, hk2, hk3, hk4, hk5, hk6⟩ := id hk
  have hpos : 0 < dat % 16 := by
    cases hp : parseMethodDescriptor (xP (dat / 16 % 1000)).2.1.desc with
    | none => rw [hp] at w3; cases w3
    | some sig => rw [hp] at w3; have := Option.some.inj w3; dsimp only at this; omega
  obtain ⟨a0, vs', rfl⟩ : ∃ a0 vs', vs = a0 :: vs' := by
    cases vs with
    | nil => simp at hvl; omega
    | cons a0 vs' => exact ⟨a0, vs', rfl⟩
  have hcode := hts _ (hk2 hnh)
  rw [w5] at hcode
  have ha0 : a0 = .ref kc := by
    rw [hst] at hkc
    have hl : dat % 16 - 1 = vs'.length := by rw [List.length_cons] at hvl; omega
    rw [hl, List.getElem?_append_left (by simp)] at hkc
    simpa using hkc
  subst ha0
  · have hlen : ∀ sig, parseMethodDescriptor (xP (dat / 16 % 1000)).2.1.desc = some sig → (vs'.map (xv ad)).length = sig.parameters.length := fun sig hsig => by
      rw [hsig] at w3
      have := Option.some.inj w3
      dsimp only at this
      rw [List.length_map]
      rw [List.length_cons] at hvl
      omega
    have hstk : (F0 m pc lsC (st.map (xv ad))).stack = (vs'.map (xv ad)).reverse ++ .ref (ad kc) :: rest.map (xv ad) := by
      rw [show (F0 m pc lsC (st.map (xv ad))).stack = st.map (xv ad) from rfl, xstk hst]
      simp [xv]
    rcases w1 with w1 | w1
    · obtain ⟨v', vm₁, B, hW1, X', hpost, stp⟩ := callI Xs hx hown w0 (hts _ w1) (hts _ w2) hcode hk5 (xback (hM ad H.size) hts hk hnh h1 hfr hlo) (a := ad kc) (g := F0 m pc lsC (st.map (xv ad))) rfl (hL.1.trans hml.symm) (argsL := vs'.map (xv ad)) (rest := rest.map (xv ad))
        hlen hstk (lv_room (by rw [xcat_sum]; exact h2)) (by rw [hb]; exact hd)
        (fun vm₁ hW₁ => ⟨by obtain ⟨-, -, -, e4, -⟩ := hR; exact Nat.le_of_eq e4, by obtain ⟨-, -, -, -, e5, -⟩ := hR; exact Nat.le_of_eq e5, xPc_at X0 hR (.ref kc :: vs') (T.setVm vm₁) hT hW₁⟩)
      exact xafter hA hR hL hT o1 (fun w hw => o2 w (by rw [hst]; exact List.mem_append_right _ hw)) hc hz k X' hpost stp
    · obtain ⟨v', vm₁, B, hW1, X', hpost, stp⟩ := va_callIN Xs hx hown w0 (hnest _ w1) (hts _ w2) hcode hk5 (xback (hM ad H.size) hts hk hnh h1 hfr hlo) (a := ad kc) (g := F0 m pc lsC (st.map (xv ad))) rfl (hL.1.trans hml.symm) (argsL := vs'.map (xv ad)) (rest := rest.map (xv ad))
        hlen hstk (lv_room (by rw [xcat_sum]; exact h2)) (by rw [hb]; exact hd)
        (fun vm₁ hW₁ => ⟨by obtain ⟨-, -, -, e4, -⟩ := hR; exact Nat.le_of_eq e4, by obtain ⟨-, -, -, -, e5, -⟩ := hR; exact Nat.le_of_eq e5, xPc_at X0 hR (.ref kc :: vs') (T.setVm vm₁) hT hW₁⟩)
      exact xafter hA hR hL hT o1 (fun w hw => o2 w (by rw [hst]; exact List.mem_append_right _ hw)) hc hz k X' hpost stp
/-- the end of a method's run -/
def xQt (below : List Frame) (D : va_G) (dA : Nat → ClassId) (E : xP0) (ad : Nat → Nat) (S0 : xS) (out : xO) (S' : xS) (s : State) : State → Prop := fun t =>
  ∃ o, t.status = .running ∧ Ended t below o ∧ xQc D dA E ad S0 s.heap.size out S' s o t ∧ xQf (va_A (xW ad dA S0) s.heap.size) (S0.2.2.2.2.1 - S'.2.2.2.2.1) (S0.2.2.2.2.2 - S'.2.2.2.2.2) s t
theorem xQt_of {S0 : xS} {out : xO} {ad : Nat → Nat} {cells slots : Nat} (hc : cells + S'.2.2.2.2.1 = S0.2.2.2.2.1) (hz : slots + S'.2.2.2.2.2 = S0.2.2.2.2.2) (t : State)
    (h : MQ below (fun _ st o t => xQc D dA E ad S0 s.heap.size out S' st o t) args s cells slots (va_A (xW ad dA S0) s.heap.size) t) : xQt below D dA E ad S0 out S' s t := by
  obtain ⟨o, r1, r2, r3, L, ⟨-, r4, r5⟩, r6⟩ := h
  refine ⟨o, r1, r2, r3, r4, L, ?_, r6⟩
  rw [show S0.2.2.2.2.1 - S'.2.2.2.2.1 = cells by omega, show S0.2.2.2.2.2 - S'.2.2.2.2.2 = slots by omega]
  exact r5
set_option maxHeartbeats 4000000 in
set_option maxRecDepth 100000 in
theorem xfin {ins : Instr} {len dat : Nat} {S0 : xS} {v : Option Value} (X : xCtx M d p l (xroom d S0) s m args meth c D dA (va_A (xW ad0 dA S0) s.heap.size) E) (hr : meth.sig.returnType = M.2.2.2.2.1) (hlocks : meth.locks = false) (hok : xOK M pc (ins, len, dat))
    (h : xstep d (ins, len, dat) pc ls st S = some (.inr (.inr (.inl v, S')))) : xGood M p l e (xroom d S0) s m args below meth c D dA (va_A (xW ad0 dA S0) s.heap.size) S0.1.length ad0 E (xQt below D dA E ad0 S0 (.inl v) S' s) (pc, ls, st, S) := by
  obtain ⟨hx, hb, hml, hown, hts, hK, hA, hini, hfr, hlo, -⟩ := X
  obtain ⟨hd, hw⟩ := hok
  intro ad H locs cells slots lsC hR0 hL0
  obtain ⟨hP, hD, hS, h4, h5, hwG, h7, h8, h9, h10, h11, h12⟩ := hR0
  have post : ∀ (v : Option Value) (t : State), t.heap = H → s.WarmedH t.vm → xQc D dA E ad0 S0 s.heap.size (.inl v) S s (.returned (v.map (xv ad))) t := fun v t ht _ =>
    ⟨ad, rfl, by rw [ht]; exact hP, hD, hS.F ht, hwG, h7, h8, h9, h10, h11, h12⟩
  cases ins with
  | ireturn =>
    dsimp only [xstep] at h
    split at h
    · rename_i x
      by_cases hdz : dat = 0
      · subst hdz
        cases h
        dsimp only at hw
        rw [if_pos rfl] at hw
        exact W.mono (fun t => xQt_of h4 h5 t) (W.zret (Qc := fun _ st o t => xQc D dA E ad0 S0 s.heap.size (.inl (some (.int x))) S st o t) hx hb (hr.trans hw) rfl (post (some (.int x))) hS.2.2 hd hlocks)
      · have hbz : Nat.beq dat 0 = false := by
          cases hq : Nat.beq dat 0 with
          | true => exact absurd (Nat.eq_of_beq_eq_true hq) hdz
          | false => rfl
        rw [hbz] at h
        dsimp only [cond] at h
        split at h
        · rename_i h01
          cases h
          dsimp only at hw
          rw [if_neg hdz] at hw
          have hn : narrow .boolean (.int x) = .int x := by rcases h01 with rfl | rfl <;> decide
          exact W.mono (fun t => xQt_of h4 h5 t) (W.zret (Qc := fun _ st o t => xQc D dA E ad0 S0 s.heap.size (.inl (some (.int x))) S st o t) hx hb (hr.trans hw) hn (post (some (.int x))) hS.2.2 hd hlocks)
        · cases h
    · cases h
  | lreturn =>
    dsimp only [xstep] at h
    split at h
    · rename_i x
      cases h
      exact W.mono (fun t => xQt_of h4 h5 t) (W.lret (Qc := fun _ st o t => xQc D dA E ad0 S0 s.heap.size (.inl (some (.long x))) S st o t) hx hb (hr.trans hw) (post (some (.long x))) hS.2.2 hd hlocks)
    · cases h
  | return_ =>
    dsimp only [xstep] at h
    split at h
    · cases h
      exact W.mono (fun t => xQt_of h4 h5 t) (W.vret (Qc := fun _ st o t => xQc D dA E ad0 S0 s.heap.size (.inl none) S st o t) hx hb (hr.trans hw) (post none) hS.2.2 hd hlocks)
    · cases h
  | ifCond cnd off =>
    exfalso
    cases cnd <;> (simp only [xstep, xi1] at h; split at h <;> cases h)
  | if_icmp cnd off =>
    exfalso
    cases cnd <;> (simp only [xstep, xi2] at h; split at h <;> cases h)
  | _ =>
    exfalso
    simp only [xstep, xi1, xi2, xj1, xj2, xji, xr1, xir, xiir, xjir, xli, xlj, xlr, xst1, xst2, xarr, xarrB, xobj, xin, xcopy, xcall, Bool.cond_eq_ite] at h
    repeat' split at h
    all_goals cases h
end XK
/-- what the law's start gives -/
def xBase (E : xP0) : Prop := (∀ w ∈ lw_tbl, w.before #[Value.ref E.2.1] E.1 = true) ∧ (Jvm.Cond.and given_1 narrow_1).before #[Value.ref E.2.1] E.1 = true
/-- the end of a method's run, thrown -/
def xThrows : Prop := ∀ (d : Nat) (p : Program) (l : Launch) (e : Env) (s : State) (m : MethodId) (args : Array Value) (below : List Frame) (meth : Method) (c : Code) (D : va_G) (dA : Nat → ClassId) (ad0 : Nat → Nat) (E : xP0) (M : xM) (pc : Nat) (ls : List (Option Value)) (st : List Value) (S S' S0 : xS) (i : xC) (k : Nat),
  l.stackTraces = false → xBase E → xCtx M d p l (xroom d S0) s m args meth c D dA (va_A (xW ad0 dA S0) s.heap.size) E → meth.locks = false → (M.2.2.2.2.2.2 = [] → c.exceptionTable.isEmpty = true) → xMok M → xat M.2.2.2.2.2.1 pc = some i → xstep d i pc ls st S = some (.inr (.inr (.inr k, S'))) →
  xGood M p l e (xroom d S0) s m args below meth c D dA (va_A (xW ad0 dA S0) s.heap.size) S0.1.length ad0 E (xQt below D dA E ad0 S0 (.inr k) S' s) (pc, ls, st, S)
/-- a run from a frame -/
def xInv (n : Nat) : Prop := ∀ (d mi : Nat) (f : xF) (out : xO) (S' : xS), ax xP n d mi f = some (out, S') → ∀ (p : Program) (l : Launch) (e : Env) (R : Room) (s : State) (m : MethodId) (args : Array Value) (below : List Frame) (meth : Method) (c : Code) (D : va_G) (dA : Nat → ClassId) (A : Nat → Prop) (n0 : Nat) (ad0 : Nat → Nat) (E : xP0) (Q : State → Prop),
  l.stackTraces = false → xBase E → xCtx (xP mi) d p l R s m args meth c D dA A E →
  (∀ pc ls st S i, xat (xP mi).2.2.2.2.2.1 pc = some i → xstep d i pc ls st S = some (.inr (.inr (out, S'))) → xGood (xP mi) p l e R s m args below meth c D dA A n0 ad0 E Q (pc, ls, st, S)) →
  xGood (xP mi) p l e R s m args below meth c D dA A n0 ad0 E Q f
theorem xmet {n : Nat} (hI : xInv n) (hT : xThrows) {l : Launch} (hl : l.stackTraces = false) {d mi : Nat} (hok : xMok (xP mi)) {vs : List Value} {S S' : xS} {out : xO} (hax : ax xP n d mi (0, xent (xP mi).2.2.2.1 vs, [], S) = some (out, S')) (hdb : ∀ b, Value.double b ∉ vs) (hsl : (xsl vs).length ≤ (xP mi).2.2.2.1)
    (D : va_G) (dA : Nat → ClassId) (E : xP0) (hB : xBase E) (ad : Nat → Nat) (sz : Nat) : xMet l (xP mi) d D dA E ad vs S sz out S' := by
  obtain ⟨k1, k2, k3, k4, k5, k6, k7, k8, -⟩ := id hok
  refine MetFree.of_bodyS (code := (xP mi).2.2.1) (maxLocals := (xP mi).2.2.2.1) (ret := (xP mi).2.2.2.2.1) k3 ?_ ?_
  · intro args s m h hn
    by_cases hh : (xP mi).2.2.2.2.2.2 = []
    · obtain ⟨meth, c, h1, h2, h3, h4, h5, h6, -, -⟩ := Cond.code_spec hn (atoms_spec (ws := xWS) h _ (k2 hh))
      exact ⟨meth, c, h1, h2, h3, h4, h5, h6⟩
    · obtain ⟨m', meth, c, h0, h1, h2, h3, h4, -, h5, h6, -⟩ := Cond.codeWith_spec (atoms_spec (ws := xWS) h _ (k8 hh))
      cases hn.symm.trans h0
      exact ⟨meth, c, h1, h2, h3, h4, h5, h6⟩
  · intro p e s m args below meth c s₁ B hml hPc _
    obtain ⟨rfl, hsz, hP, hD, hK, hX, hb0, hb1, hold, hwG, hle, hL0, hxs, had, hEw⟩ := hPc
    have hh0 : s₁.heap = s.heap := by rw [B.state]; rfl
    have hts := atoms_spec (ws := xWS) B.pre
    subst hsz
    have hown : s.vm.findClass (xP mi).1 = some m.cls := by rw [k6]; exact findClass_of_methodNamed B.named
    have X : xCtx (xP mi) d p l (xroom d S) s m (vs.map (xv ad)).toArray meth c D dA (va_A (xW ad dA S) s.heap.size) E :=
      ⟨B.exec, B.bytes, hml, hown, hts, hK, fun q hq => Or.inr hq, fun hi => (name_of_methodNamed B.named B.method).1.trans hi, Nat.le_refl _, Nat.le_refl _, k7, hX, hb0, hb1, hold, fun q hq => by
        rcases hq with ⟨k, en, hk⟩ | hq
        · exact hD.2 k _ hk
        · exact Nat.le_trans hb1 hq, hEw, fun hh => by
        obtain ⟨m', meth', c', g0, g1, g2, -, -, g5, -⟩ := Cond.codeWith_spec (hts _ (k8 hh))
        cases B.named.symm.trans g0
        cases B.method.symm.trans g1
        cases (Stand.of_body B).code.symm.trans g2
        exact g5⟩
    have hexc : (xP mi).2.2.2.2.2.2 = [] → c.exceptionTable.isEmpty = true := fun hh => B.noHandlers (hts _ (k2 hh))
    have fin : ∀ pc ls st S2 i, xat (xP mi).2.2.2.2.2.1 pc = some i → xstep d i pc ls st S2 = some (.inr (.inr (out, S'))) → xGood (xP mi) p l e (xroom d S) s m (vs.map (xv ad)).toArray below meth c D dA (va_A (xW ad dA S) s.heap.size) S.1.length ad E (xQt below D dA E ad S out S' s) (pc, ls, st, S2) := by
      intro pc ls st S2 i hi hs
      obtain ⟨ins, len, dat⟩ := i
      cases out with
      | inl v => exact xfin X B.returns B.notSynchronized (k7 pc _ hi) hs
      | inr k => exact hT d p l e s m _ below meth c D dA ad E (xP mi) pc ls st S2 S' S _ k hl hB X B.notSynchronized hexc hok hi hs
    have G := hI d mi _ out S' hax p l e (xroom d S) s m (vs.map (xv ad)).toArray below meth c D dA (va_A (xW ad dA S) s.heap.size) S.1.length ad E (xQt below D dA E ad S out S' s) hl hB X fin
    have hR : xRel D dA (va_A (xW ad dA S) s.heap.size) s (xroom d S) S.1.length ad E ad S s.heap [] 0 0 :=
      ⟨hP, hD.self, va_S.rf, Nat.zero_add _, Nat.zero_add _, hwG, hle, Nat.le_refl _, hL0, hxs, had, fun _ _ => rfl⟩
    have w := G ad s.heap [] 0 0 _ hR (xlv.entry ad vs hdb hsl) s₁ hh0 (Stand.of_body B)
    obtain ⟨t, a1, o, b1, b2, b3⟩ := w
    refine ⟨t, o, ?_, b1, b2, b3⟩
    rw [lg_entry_eq]
    exact a1
