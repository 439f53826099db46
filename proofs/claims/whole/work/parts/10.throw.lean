/-! A throw out of a method. -/
theorem xfound_vm {u U : State} (hv : U.vm = u.vm) (C n d : String) : U.fieldFound? C n d = u.fieldFound? C n d := by
  unfold State.fieldFound?
  rw [hv]
theorem xlays_keep {u U : State} {A A' : Array Value} (hv : U.vm = u.vm) (hh : ∀ (q : Nat) (cell : Cell), u.heap[q]? = some cell → U.heap[q]? = some cell) {C n d : String} (h : (Cond.laysStatic C n d).before A u = true) : (Cond.laysStatic C n d).before A' U = true := by
  obtain ⟨c, k, i, f, a, cell, hc, hi, hst, ha, hcell, hs, hcls, hlt, hty⟩ := Cond.laysStatic_spec h
  exact Cond.laysStatic_of (by rw [hv]; exact hc) (by rw [xfound_vm hv]; exact hi) hst ha (hh _ _ hcell) hs hcls hlt hty
theorem xeval_keep {u U : State} {A A' : Array Value} (hv : U.vm = u.vm) (hh : ∀ (q : Nat) (cell : Cell), u.heap[q]? = some cell → U.heap[q]? = some cell) {C n d : String} {w : Value} (h : (Term.static C n d).eval A u none [] u = some w) : (Term.static C n d).eval A' U none [] U = some w := by
  simp only [Term.eval, State.fieldNamed?, xfound_vm hv] at h ⊢
  cases hf : u.fieldFound? C n d with
  | none => simp [hf] at h
  | some x =>
    obtain ⟨c, k, i, f⟩ := x
    simp only [hf, Option.bind_eq_bind, Option.bind_some] at h ⊢
    cases hs : f.isStatic with
    | false => simp [hs] at h
    | true =>
      cases ha : k.statics with
      | none => simp [hs, ha] at h
      | some a =>
        cases hc : u.heap[a]? with
        | none => simp [hs, ha, hc] at h
        | some cell =>
          simp [hs, ha, hc] at h
          simp [hs, ha, hh _ _ hc]
          exact h
theorem xisr_keep {u U : State} {A A' : Array Value} (hv : U.vm = u.vm) (hh : ∀ (q : Nat) (cell : Cell), u.heap[q]? = some cell → U.heap[q]? = some cell) {C n d : String} (h : (Cond.isRef (.static C n d)).before A u = true) : (Cond.isRef (.static C n d)).before A' U = true := by
  cases hw : (Term.static C n d).eval A u none [] u with
  | none => simp [Cond.before, Cond.holds, Cond.value, hw] at h
  | some w =>
    have h2 := xeval_keep (A' := A') hv hh hw
    simp only [Cond.before, Cond.holds, Cond.value, hw] at h
    simp only [Cond.before, Cond.holds, Cond.value, h2]
    exact h
/-- a word that is the tables', or of a static -/
def xwk : Cond → Bool
  | .laysStatic .. => true
  | .isRef (.static ..) => true
  | w => w.onTables
theorem xwk_own {own X : String} {ic : Nat} : ∀ w ∈ Bundle.ownAtoms own ic X xsup, xwk w = true := by
  have h : (Bundle.ownAtoms own ic X xsup).all xwk = true := by rfl
  exact fun w hw => List.all_eq_true.mp h w hw
theorem xword {E : xP0} (hB : xBase E) {U : State} (hW : E.1.WarmedH U.vm) (hold : ∀ q, q < E.1.heap.size → U.heap[q]? = E.1.heap[q]?) {w : Cond} (A : Array Value) (hw : w ∈ lw_tbl ∨ w = xst1w ∨ w = xst2w) (hf : w.keepsFace = true) (hk : xwk w = true) : w.before A U = true := by
  have h0 : w.before #[Value.ref E.2.1] E.1 = true := by
    rcases hw with hw | rfl | rfl
    · exact hB.1 w hw
    · exact flat_of_before _ hB.2 xst1w (by decide +kernel)
    · exact flat_of_before _ hB.2 xst2w (by decide +kernel)
  have h1 : w.before #[Value.ref E.2.1] (E.1.setVm U.vm) = true := Cond.before_shiftedFace (State.Shifted.of_warmed hW) w hf h0
  have hh : ∀ (q : Nat) (cell : Cell), (E.1.setVm U.vm).heap[q]? = some cell → U.heap[q]? = some cell := fun q cell hq => by
    have hq : E.1.heap[q]? = some cell := hq
    rw [hold q (Array.getElem?_eq_some_iff.mp hq).1]
    exact hq
  unfold xwk at hk
  split at hk
  · exact xlays_keep (u := E.1.setVm U.vm) (U := U) rfl hh h1
  · exact xisr_keep (u := E.1.setVm U.vm) (U := U) rfl hh h1
  · exact va_tabs hk (rfl : (E.1.setVm U.vm).vm = U.vm) h1
section XT
variable {p : Program} {l : Launch} {e : Env} {R : Room} {s : State} {m : MethodId} {args : Array Value} {below : List Frame} {meth : Method} {c : Code} {T : State} {locs : List Loc} {cells slots : Nat}
/-- the method stands as if it had begun just here -/
theorem xrebase (X : Stand p l e R s m args below meth c T locs cells slots) {k1 k2 : Nat} (hc : cells + k1 ≤ R.cells) (hz : slots + k2 ≤ R.slots) :
    Stand p l e { frames := R.frames, cells := k1, slots := k2, locals := R.locals } (T.setFrames (.invoking m args :: below)) m args below meth c T [] 0 0 := by
  obtain ⟨g₀, hfr⟩ := X.frames_eq
  have hcur : T.cur < T.threads.size := State.cur_lt_of_frames hfr
  have hf : (T.setFrames (.invoking m args :: below)).frames = .invoking m args :: below := State.frames_setFrames _ hcur
  have hroom := X.room
  simp only [State.hasRoom, Bool.and_eq_true, decide_eq_true_eq] at hroom
  obtain ⟨⟨⟨⟨r0, r1, r2, r3, r4, r5⟩, r6⟩, r7⟩, r8⟩ := hroom
  have hl1 := State.localsInUse_invoking X.frames X.method X.code
  have hl2 := State.localsInUse_invoking (s := T.setFrames (.invoking m args :: below)) hf (show T.vm.method? m = some meth from X.method') X.code
  have hfl : s.frames.length = (T.setFrames (.invoking m args :: below)).frames.length := by rw [hf, X.frames]
  refine ⟨X.admits, X.cas, X.clock, hf, ?_, ?_, X.method', X.code, X.here, X.tail, State.WarmedH.refl _, (State.stackLimits_setFrames _ _ _).symm, (State.stackBytes_setFrames _ _).symm, ?_⟩
  · simp only [State.hasRoom, Bool.and_eq_true, decide_eq_true_eq]
    refine ⟨⟨⟨⟨?_, ?_, ?_, ?_, ?_, ?_⟩, X.cellsAbove hc⟩, X.slotsAbove hz⟩, X.book⟩
    · rw [hl2]; rw [hl1] at r0; exact r0
    · rw [← hfl]; exact r1
    · rw [← hfl, State.stackLimits_setFrames, X.limits]; exact r2
    · rw [hl2]; rw [hl1] at r3; exact r3
    · rw [hl2, State.stackLimits_setFrames, X.limits]; rw [hl1] at r4; exact r4
    · rw [State.stackBytes_setFrames, X.bytes]; exact r5
  · have h := X.hears
    have hm : ∀ x, (T.setFrames (.invoking m args :: below)).vm.method? x = s.vm.method? x := fun x => by
      show T.vm.method? x = _
      rw [X.warmed.alike.method?]
    cases below with
    | nil =>
      simp only [State.hears, hm] at h ⊢
      exact h
    | cons f r =>
      cases f <;> simp only [State.hears, State.code?_eq, hm] at h ⊢ <;> exact h
  · obtain ⟨t, ht, -⟩ := State.frames_cons hfr
    obtain ⟨t', ht', -⟩ := State.frames_cons hf
    have h := (State.sameButNew.refl (T.setFrames (.invoking m args :: below)) ht').setFrames T.frames (State.cur_lt_of_frames hf)
    rw [State.setFrames_setFrames, State.setFrames_self ht] at h
    exact h
/-- no old cell has moved -/
theorem xsame_old {u U : State} {k n : Nat} (h : u.sameButNew ({ U with vm := u.vm } : State) [] k n) : ∀ q, q < u.heap.size → U.heap[q]? = u.heap[q]? := by
  intro q hq
  have hc := Array.getElem?_eq_getElem hq
  obtain ⟨c', h1, h2, h3, h4⟩ := h.2.2.2.2.2 q _ hc
  rw [show U.heap[q]? = some c' from h1, hc, h2]
  have : c'.slots = u.heap[q].slots := by
    apply Array.ext_getElem?
    intro i
    exact h4 i (by simp)
  rw [this]
set_option maxHeartbeats 4000000 in
/-- from 'new' to the note that an exception flies -/
theorem xthrowW {M : xM} {pc ix dat sx ic q : Nat} {X tx : String} {lsC : Array Slot} {stk : List Value} (hx : p.tables.exec = Jvm.exec) (hb : c.code = M.2.2.1) (hml : lsC.size = c.maxLocals) (hown : s.vm.findClass M.1 = some m.cls) (htr : l.stackTraces = false) (hX : xexN[dat - 100]? = some X)
    (d0 : decode M.2.2.1 pc = .ok (.new ix, 3)) (d3 : decode M.2.2.1 (pc + 3) = .ok (.dup, 1)) (d4 : decode M.2.2.1 (pc + 4) = .ok (.ldc sx, 2)) (d6 : decode M.2.2.1 (pc + 6) = .ok (.invokespecial ic, 3)) (d9 : decode M.2.2.1 (pc + 9) = .ok (.athrow, 1))
    (w1 : (Cond.classLink M.1 ix X).before args s = true) (w2 : (Cond.instantiable X 6).before args s = true) (w3 : (Cond.initialized X).before args s = true) (w4 : vk_R M.1 sx tx q s) (w5 : ∀ w ∈ Bundle.ownAtoms M.1 ic X xsup, w.before args s = true)
    (hexc : c.exceptionTable.isEmpty = true) (hlocks : meth.locks = false) (r1 : 6 ≤ R.frames) (r2 : 130 ≤ R.locals) (r3 : 1 ≤ R.cells) (r4 : 6 ≤ R.slots) (r5 : (stk.map fun v => v.category).sum ≤ 8) :
    W p l e R s m args below meth c s.heap [] 0 0 (fun U => U.status = .running ∧ Ended U below (.threw s.heap.size) ∧ s.WarmedH U.vm ∧ s.sameButNew ({ U with vm := s.vm } : State) [] 1 6 ∧ ∃ ce, U.heap[s.heap.size]? = some ce ∧ ce.vm.isStatics = false ∧ s.vm.findClass X = some ce.cls) (F0 m pc lsC stk) := by
  refine W.newc hx hb hown w1 w2 w3 rfl d0 (by omega) (by omega) (fun cC kC h1 h2 h3 h4 => ?_)
  refine lv_dup (va := .ref s.heap.size) hx hb d3 rfl ?_
  refine va_ldcS hx hb hown w4 d4 ?_
  intro T hT XT
  have hfit : Bundle.fit X = true := by
    have : ∀ x ∈ xexN, Bundle.fit x = true := by decide +kernel
    exact this X (List.mem_of_getElem? hX)
  have htr2 : e.platform.stackTraces = false := by rw [XT.admits.platform]; exact htr
  have hcell : T.heap[s.heap.size]? = some (freshCell cC kC) := by
    rw [hT]
    simp [freshCell]
  obtain ⟨U, g1, g2, g3, g4, g5, ce, g6, g7⟩ := XT.ctorThrowS hx htr2 (names := xsup) hown hfit (by decide +kernel) w5 (fun x hx => by cases hx) h1 h2 hcell (Nat.le_refl _) (msg := .ref q) rfl (g := F0 m (pc + 6) lsC (.ref q :: .ref s.heap.size :: .ref s.heap.size :: stk)) rfl hml rfl rfl (rest := stk) rfl (by rw [hb]; exact d6) (by rw [hb]; exact d9) (covers_of_empty hexc _)
    (by show 2 + 3 < R.frames; omega) (by
      have := lv_room (m := m) (pc := pc + 6) (ls := lsC) (rest := .ref q :: .ref s.heap.size :: .ref s.heap.size :: stk) (st := stk) r5
      simp only [List.map_cons, List.sum_cons]
      rw [show (Value.ref s.heap.size).category = 1 from rfl]
      show _ + (13 * (2 + 1) + 42) ≤ R.locals
      omega) hlocks
  exact ⟨U, g1, g2, g3, g4, g5, ce, g6, by rw [g7.vm]; rfl, g7.cls⟩
end XT
theorem xstr_at {E : xP0} (hB : xBase E) {U : State} (hW : E.1.WarmedH U.vm) {own tx : String} {sx : Nat} (h : Cond.stringRef own sx tx ∈ lw_tbl) : ∃ q, vk_R own sx tx q U := by
  have h0 := hB.1 _ h
  obtain ⟨cur, hcur⟩ : ∃ cur, E.1.vm.findClass own = some cur := by
    cases hc : E.1.vm.findClass own with
    | none => simp [Cond.before, Cond.holds, Cond.value, hc] at h0
    | some cur => exact ⟨cur, rfl⟩
  obtain ⟨_, _, _, q, -, -, -, -, -, hq⟩ := Cond.stringRef_spec hcur h0
  exact ⟨q, vk_R.warm hW (vk_R.of h0 hq)⟩
set_option maxHeartbeats 4000000 in
set_option maxRecDepth 100000 in
theorem xthrows : xThrows := by
  intro d p l e s m args below meth c D dA ad0 E M pc ls st S S' S0 i k hl hB X hlocks hexc hMok hi hs
  obtain ⟨hx, hb, hml, hown, hts, hK, hA, hini, hfr, hlo, hok, x1, x2, x3, x4, x5, x6, -⟩ := X
  obtain ⟨hd, hw⟩ := hok pc i hi
  obtain ⟨ins, mk, dat⟩ := i
  cases ins with
  | new ix =>
    dsimp only [xstep] at hs
    cases hq : Nat.blt dat 100 with
    | true =>
      rw [hq] at hs
      exfalso
      simp only [cond, Bool.cond_eq_ite] at hs
      repeat' split at hs
      all_goals cases hs
    | false =>
    rw [hq] at hs
    dsimp only [cond] at hs
    obtain ⟨hg, hs⟩ := xif_inv hs
    cases hs
    have hge : 100 ≤ dat := by
      by_cases hlt : dat < 100
      · rw [Nat.blt_eq.mpr hlt] at hq; cases hq
      · omega
    obtain ⟨XN, sx, tx, ic, e1, d3, d4, d6, d9, w1, w2, w3, w4, w5, w6⟩ := hw.1 hge
    dsimp only at e1 w1
    intro ad H locs cells slots lsC hR0 hL0 T hT XT
    have hR : xRel D dA (va_A (xW ad0 dA S0) s.heap.size) s (xroom d S0) S0.1.length ad0 E ad S H locs cells slots := hR0
    have hL : xlv ad lsC M.2.2.2.1 ls := hL0
    obtain ⟨hP, hD, hS, h4, h5, hwG, h7, h8, h9, h10, h11, h12⟩ := id hR
    have c1 : S.2.2.2.2.1 ≠ 0 := fun z => hg (Or.inl z)
    have c2 : 6 ≤ S.2.2.2.2.2 := Nat.le_of_not_lt fun z => hg (Or.inr (Or.inl z))
    have c3 : 6 ≤ d := Nat.le_of_not_lt fun z => hg (Or.inr (Or.inr (Or.inl z)))
    have c4 : xcat st ≤ 8 := Nat.le_of_not_lt fun z => hg (Or.inr (Or.inr (Or.inr z)))
    have XR := xrebase XT (k1 := 1) (k2 := 6) (by omega) (by omega)
    have hEW : E.1.WarmedH T.vm := State.WarmedH.trans x6 XT.warmed
    have hold : ∀ q, q < E.1.heap.size → T.heap[q]? = E.1.heap[q]? := fun q hq => by
      rw [hT]
      exact (hS.2.1 q (by omega) (fun z => by have := x5 q z; omega)).trans (x4 q hq)
    obtain ⟨sq, hsq⟩ := xstr_at (U := T.setFrames (.invoking m args :: below)) hB hEW w4
    have hts' : ∀ w ∈ xWS, w.before args (T.setFrames (.invoking m args :: below)) = true := fun w hw => xws_at hts w hw _ _ XT.warmed
    have hown' : (T.setFrames (.invoking m args :: below)).vm.findClass M.1 = some m.cls := by
      show T.vm.findClass M.1 = _
      rw [XT.warmed.alike.findClass]
      exact hown
    obtain ⟨U, g1, g2, g3, g4, g5, ce, g6, g7, g8⟩ := xthrowW (R := { frames := (xroom d S0).frames, cells := 1, slots := 6, locals := (xroom d S0).locals }) (s := T.setFrames (.invoking m args :: below)) (stk := st.map (xv ad)) hx hb (hL.1.trans hml.symm) hown' hl e1 hd d3 d4 d6 d9 (hts' _ w1) (hts' _ w2) (hts' _ w3) hsq
      (fun w hw => xword hB (U := T.setFrames (.invoking m args :: below)) hEW hold args (w5 w hw) (Bundle.ownAtoms_keepsFace w hw) (xwk_own w hw)) (hexc w6) hlocks (by show 6 ≤ d; omega) (by show 130 ≤ d * 35; omega) (Nat.le_refl _) (Nat.le_refl _) (by rw [xcat_sum]; exact c4) T rfl XR
    have hold2 := xsame_old g5
    have hsz : T.heap.size ≤ U.heap.size := g5.2.1
    have hTB : T.sameButNew ({ U with vm := T.vm } : State) [] 1 6 := by
      have := g5
      unfold State.sameButNew at this ⊢
      rw [State.setFrames_setFrames] at this
      exact this
    refine ⟨U, g1, .threw T.heap.size, g2, g3, ⟨ad, ⟨T.heap.size, ce, XN, rfl, e1, g6, g7, ?_⟩, ?_, hD, ⟨?_, fun q h1 h2 => ?_⟩, hwG, h7, h8, h9, h10, h11, h12⟩, State.WarmedH.trans XT.warmed g4, locs, ?_, hS.2.2⟩
    · rw [g4.alike.findClass]
      exact g8
    · refine hP.kept (fun k q hk => ?_)
      have hlt : q.1 < H.size := (hP k q hk).lt
      rw [← hT] at hlt ⊢
      exact hold2 q.1 hlt
    · have := hS.1
      rw [← hT] at this
      omega
    · have hl2 : q < T.heap.size := by
        have := hS.1
        rw [← hT] at this
        omega
      have e2 := hold2 q hl2
      rw [show (T.setFrames (.invoking m args :: below)).heap[q]? = T.heap[q]? from rfl, hT] at e2
      rw [e2]
      exact hS.2.1 q h1 h2
    · have := XT.same.trans (hTB.setVm s.vm)
      rw [List.append_nil] at this
      have e3 : S0.2.2.2.2.1 - (S.2.2.2.2.1 - 1) = cells + 1 := by
        have : cells + S.2.2.2.2.1 = S0.2.2.2.2.1 := h4
        omega
      have e4 : S0.2.2.2.2.2 - (S.2.2.2.2.2 - 6) = slots + 6 := by
        have : slots + S.2.2.2.2.2 = S0.2.2.2.2.2 := h5
        omega
      dsimp only
      rw [e3, e4]
      exact this
  | ifCond cnd off =>
    exfalso
    cases cnd <;> (simp only [xstep, xi1] at hs; split at hs <;> cases hs)
  | if_icmp cnd off =>
    exfalso
    cases cnd <;> (simp only [xstep, xi2] at hs; split at hs <;> cases hs)
  | _ =>
    exfalso
    simp only [xstep, xi1, xi2, xj1, xj2, xji, xr1, xir, xiir, xjir, xli, xlj, xlr, xst1, xst2, xarr, xarrB, xobj, xin, xcopy, xcall, Bool.cond_eq_ite] at hs
    repeat' split at hs
    all_goals cases hs
