/-! Handlers. -/
theorem xlv.st0 {ad : Nat → Nat} {lsC lsD : Array Slot} {nL k : Nat} {ls : List (Option Value)} {w : Value} (h : xlv ad lsC nL ls) (hf : xfree ls k = true)
    (h' : lv_has lsD nL ((k, w) :: (xll ad ls).filter (fun q => !(q.1 == k) && !(q.1 + 1 == k && q.2.category == 2)))) : xlv ad lsD nL (ls.set k none) := by
  obtain ⟨h1, h2, h3, h4⟩ := h
  refine ⟨h'.1, h'.2.1, by simpa using h3, fun i v hv => ?_⟩
  by_cases hi : i = k
  · subst hi
    by_cases hl : i < ls.length
    · rw [List.getElem?_set_self hl] at hv
      cases hv
    · rw [List.getElem?_eq_none_iff.mpr (by simpa using Nat.le_of_not_lt hl)] at hv
      cases hv
  · rw [List.getElem?_set_ne (Ne.symm hi)] at hv
    refine h'.2.2 (i, xv ad v) (List.mem_cons_of_mem _ (List.mem_filter.mpr ⟨xll_mem.mpr ⟨v, hv, rfl⟩, ?_⟩))
    by_cases hik : i + 1 = k
    · have := xfree_ne hf hik hv ad
      simp [hi, this]
    · simp [hi, hik]
theorem xnc : ∀ i, i < 3 → ∀ j, j < 3 → i ≠ j → Cond.not (.castable (xexN.getD i "") (xexN.getD j "")) ∈ flatC (Jvm.Cond.and given_1 narrow_1) := by decide +kernel
theorem xyc : ∀ i, i < 3 → Cond.castable (xexN.getD i "") (xexN.getD i "") ∈ lw_tbl := by decide +kernel
theorem xexN_get {k : Nat} {X : String} (h : xexN[k]? = some X) : k < 3 ∧ xexN.getD k "" = X := by
  refine ⟨(List.getElem?_eq_some_iff.mp h).1, ?_⟩
  rw [List.getD_eq_getElem?_getD, h]
  rfl
/-- of two of the classes, neither is the other's; each is its own -/
theorem xasg {E : xP0} (hB : xBase E) {vm : Vm} (hal : E.1.vm.Alike vm) {i j : Nat} {X Y : String} {a b : ClassId} (hX : xexN[i]? = some X) (hY : xexN[j]? = some Y) (ha : vm.findClass X = some a) (hb : vm.findClass Y = some b) : vm.assignable a b = decide (i = j) := by
  obtain ⟨hi, eX⟩ := xexN_get hX
  obtain ⟨hj, eY⟩ := xexN_get hY
  rw [hal.findClass] at ha hb
  rw [hal.assignable]
  by_cases hij : i = j
  · subst hij
    have h := hB.1 _ (xyc i hi)
    rw [eX] at h
    cases hX.symm.trans hY
    cases ha.symm.trans hb
    obtain ⟨c3, c4, hc3, hc4, h5⟩ := Cond.castable_spec h
    cases hc3.symm.trans ha
    cases hc4.symm.trans ha
    rw [h5]
    simp
  · have h := flat_of_before _ hB.2 _ (xnc i hi j hj hij)
    rw [eX, eY] at h
    have hv := Cond.holds_not_iff.mp h
    simp only [Cond.value, ha, hb] at hv
    rw [Option.some.inj hv]
    simp [hij]
abbrev xHd : Type := Nat × Nat × Nat × Nat × Nat
/-- the entry that takes it, and those ahead of it -/
theorem xcatch_split {t : List (Nat × xC)} {pc x : Nat} {q : Nat × Nat} : ∀ (hs : List xHd) (es : List ExceptionTableEntry), es.map (fun h => (h.startPc, h.endPc, h.handlerPc, h.catchType)) = hs.map (fun h => (h.1, h.2.1, h.2.2.1, h.2.2.2.1)) → xcatch t hs pc x = some q →
    ∃ (pre : List ExceptionTableEntry) (y : ExceptionTableEntry) (rest : List ExceptionTableEntry), es = pre ++ y :: rest ∧ (∀ z ∈ pre, covers z pc = true ∧ ∃ h ∈ hs, z.catchType = h.2.2.2.1 ∧ h.2.2.2.2 ≠ x) ∧ covers y pc = true ∧ ∃ h ∈ hs, y.catchType = h.2.2.2.1 ∧ h.2.2.2.2 = x ∧
      ((∃ j mk dat, xat t y.handlerPc = some (.astore j, mk, dat) ∧ q = (y.handlerPc + 2, j)) ∨ ∃ (j : Fin 4) (mk dat : Nat), xat t y.handlerPc = some (.astore_n j, mk, dat) ∧ q = (y.handlerPc + 1, j.val))
  | [], _, _, h => by cases h
  | (a, b, hp, ct, k) :: hs, [], hm, h => by cases hm
  | (a, b, hp, ct, k) :: hs, e :: es, hm, h => by
    simp only [List.map_cons, List.cons.injEq, Prod.mk.injEq] at hm
    obtain ⟨⟨e1, e2, e3, e4⟩, hm⟩ := hm
    unfold xcatch at h
    obtain ⟨h1, h2, h⟩ := xnb2 h
    have hcov : covers e pc = true := by
      simp only [covers, Bool.and_eq_true, decide_eq_true_eq, e1, e2]
      exact ⟨Nat.le_of_ble_eq_true h1, Nat.blt_eq.mp h2⟩
    cases hq : Nat.beq k x with
    | true =>
      rw [hq] at h
      dsimp only [cond] at h
      refine ⟨[], e, es, rfl, fun z hz => (by cases hz), hcov, (a, b, hp, ct, k), List.mem_cons_self, e4, Nat.eq_of_beq_eq_true hq, ?_⟩
      rw [e3]
      split at h
      · rename_i j z hz
        obtain ⟨mk, dat⟩ := z
        cases h
        exact Or.inl ⟨j, mk, dat, hz, rfl⟩
      · rename_i j z hz
        obtain ⟨mk, dat⟩ := z
        cases h
        exact Or.inr ⟨j, mk, dat, hz, rfl⟩
      · cases h
    | false =>
      rw [hq] at h
      dsimp only [cond] at h
      obtain ⟨pre, y, rest, f1, f2, f3, hh, f4, f5⟩ := xcatch_split hs es hm h
      refine ⟨e :: pre, y, rest, by rw [f1]; rfl, fun z hz => ?_, f3, hh, List.mem_cons_of_mem _ f4, f5⟩
      rcases List.mem_cons.mp hz with rfl | hz
      · exact ⟨hcov, (a, b, hp, ct, k), List.mem_cons_self, e4, fun z => by
          have : Nat.beq k x = true := by rw [show k = x from z]; exact Nat.beq_refl x
          rw [hq] at this
          cases this⟩
      · obtain ⟨g1, g, g2, g3⟩ := f2 z hz
        exact ⟨g1, g, List.mem_cons_of_mem _ g2, g3⟩
set_option maxHeartbeats 4000000 in
set_option maxRecDepth 100000 in
theorem xcatches : xCatches := by
  intro d p l e R s m args below meth c D dA A n0 ad0 E Q M pc ls st vs rest S S' i mi x q hl hB X hMok hi hv hs hk hM hc hz hx hfree hqlt k
  have X0 := X
  obtain ⟨hx0, hb, hml, hown, hts, hK, hA, hini, hfr, hlo, hok, x1, x2, x3, x4, x5, x6, hexc⟩ := X
  obtain ⟨hd, hw⟩ := hok pc i hi
  obtain ⟨ins, mk0, dat⟩ := i
  cases ins with
  | invokevirtual ix =>
    intro ad H locs cells slots lsC hR0 hL0 T hT Xs
    have hR : xRel D dA A s R n0 ad0 E ad S H locs cells slots := hR0
    have hL : xlv ad lsC M.2.2.2.1 ls := hL0
    dsimp only [xstep] at hs
    split at hs
    case h_2 => cases hs
    rename_i kc hkc
    obtain ⟨ks, hg, hs⟩ := xobj_inv hs
    obtain ⟨h1, h2, o1, o2, rfl, hvl, hst⟩ := xcall_inv hs
    obtain ⟨w1, w2, ⟨C, TT, N, hcl, w4⟩, w3, hnh⟩ := hw
    dsimp only at w1 w2 w3 w4 hcl
    obtain ⟨hk1, hk2, hk3, hk4, hk5, hk6⟩ := id hk
    have hpos : 0 < dat % 16 := by
      cases hp : parseMethodDescriptor (xP (dat / 16 % 1000)).2.1.desc with
      | none => rw [hp] at w3; cases w3
      | some sig => rw [hp] at w3; have := Option.some.inj w3; dsimp only at this; omega
    obtain ⟨a0, vs', rfl⟩ : ∃ a0 vs', vs = a0 :: vs' := by
      cases vs with
      | nil => simp at hvl; omega
      | cons a0 vs' => exact ⟨a0, vs', rfl⟩
    have ha0 : a0 = .ref kc := by
      rw [hst] at hkc
      have hl : dat % 16 - 1 = vs'.length := by rw [List.length_cons] at hvl; omega
      rw [hl, List.getElem?_append_left (by simp)] at hkc
      simpa using hkc
    subst ha0
    obtain ⟨cellB, c1, c2, c3⟩ := va_recv hK hR.1 hcl (xW_at hg)
    -- the call
    obtain ⟨mk, methM, hnamed, hmethM, hstM, habM⟩ := Cond.instanceMethod_spec (hts _ w2)
    obtain ⟨methM', cM, hmethM', -, -, -, -, -, -, hsigM⟩ := Cond.code_spec hnamed (hts _ (hk2 hnh))
    cases hmethM.symm.trans hmethM'
    obtain ⟨cc2, r2, m2, q1, q2, q3, q4, kP, hkP, hkPi⟩ := Cond.selects_spec (hts _ w4)
    cases c3.symm.trans q1
    cases (State.methodFound?_of_named hnamed hk5).symm.trans q2
    cases hnamed.symm.trans q3
    have hselP : selectMethod e.platform s.vm cellB.cls mk = .method mk := by rw [Launch.admits_selectMethod Xs.admits]; exact q4
    have hlen : ∀ sig, parseMethodDescriptor (xP (dat / 16 % 1000)).2.1.desc = some sig → (vs'.map (xv ad)).length = sig.parameters.length := fun sig hsig => by
      rw [hsig] at w3
      have := Option.some.inj w3
      dsimp only at this
      rw [List.length_map]
      rw [List.length_cons] at hvl
      omega
    have hstk : (F0 m pc lsC (st.map (xv ad))).stack = (vs'.map (xv ad)).reverse ++ .ref (ad kc) :: rest.map (xv ad) := by
      rw [show (F0 m pc lsC (st.map (xv ad))).stack = st.map (xv ad) from rfl, xstk hst]
      simp [xv]
    obtain ⟨vm₁, X₁, hstep₁⟩ := Xs.invokevirtual hx0 hown (hts _ w1) hnamed hmethM hstM hkP hkPi hk5 (a := ad kc) (cell := cellB) (by rw [hT]; exact c1) (fun z h => by rw [h] at c2; cases c2) hselP hmethM habM hkP hkPi (g := F0 m pc lsC (st.map (xv ad))) rfl (argsL := vs'.map (xv ad)) (rest := rest.map (xv ad)) (hlen _ hsigM) hstk (by rw [hb]; exact hd)
    have hPc := xPc_at X0 hR (.ref kc :: vs') (T.setVm vm₁) hT X₁.warmed
    have hHs : (T.setVm vm₁).heap.size = H.size := by rw [← hT]; rfl
    obtain ⟨-, -, -, hc4, hc5, -⟩ := id hR
    obtain ⟨a, t, T', L, hsteps, XT, e1, e2, hq, hLL⟩ := xcallT (K := xP (dat / 16 % 1000)) (g := { F0 m pc lsC (st.map (xv ad)) with stack := rest.map (xv ad) }) (mk := mk) X₁ (by rw [hHs]; exact hM ad H.size) rfl (hL.1.trans hml.symm) (by rw [hb]; exact hd) (lv_room (by rw [xcat_sum]; exact h2)) (X₁.named hnamed) hts hk hnh h1 hfr hlo hc4 hc5 (by rw [hHs]; exact hPc)
    rw [hHs] at hq hLL
    obtain ⟨ad', qo, hR', hag⟩ := hR.back hA (st0 := (T.setVm vm₁).calling { F0 m pc lsC (st.map (xv ad)) with stack := rest.map (xv ad) } mk ((Value.ref kc :: vs').map (xv ad)).toArray) hT hc hz hq hLL
    rw [← e1] at hR'
    obtain ⟨a', cell, CX, ho, hCX, ht1, ht2, ht3⟩ := qo
    cases ho
    rw [← e1] at ht1
    rw [← e2, XT.warmed.alike.findClass] at ht3
    -- the handler
    have hne : M.2.2.2.2.2.2 ≠ [] := fun z => by rw [z] at hx; cases hx
    obtain ⟨pre, y, rst, f1, f2, f3, hh, f4, f5, f6, f7⟩ := xcatch_split _ _ (hexc hne) hx
    obtain ⟨-, -, -, -, -, kown, -, -, khd⟩ := hMok
    have hpl : e.platform.magicAccessors = ({} : Platform).magicAccessors := by rw [XT.admits.platform]
    have hlink : ∀ h ∈ M.2.2.2.2.2.2, h.2.2.2.1 ≠ 0 ∧ ∃ c', s.vm.ClassLinks e.platform m.cls h.2.2.2.1 c' ∧ s.vm.assignable cell.cls c' = decide (x = h.2.2.2.2) := fun h hm => by
      obtain ⟨g1, Y, g2, g3⟩ := khd h hm
      obtain ⟨c', hc', hcl'⟩ := Cond.classLink_spec hown (hts _ g3) e.platform hpl
      exact ⟨g1, c', hcl', xasg hB x6.alike hCX g2 ht3 hc'⟩
    obtain ⟨y0, cy, hcy, hay⟩ := hlink hh f4
    rw [f6] at hay
    obtain ⟨vm', hWv, hfind⟩ := xfh (e := e) (s₀ := s) (f := { F0 m pc lsC (st.map (xv ad)) with stack := rest.map (xv ad) }) (a := a) (cell := cell) (x := y) (rest := rst) (c := cy) (VmData.ne_statics_of ht2) (Vm.classAt_of_findClass ht3) f3 (by rw [f5]; exact y0) (by rw [f5]; exact hcy) (by rw [hay]; simp) pre ((T'.setTop { F0 m pc lsC (st.map (xv ad)) with stack := rest.map (xv ad) }).pushFrame (.throwing a)) (by rw [Stand.throwing_vm]; exact XT.warmed) (by rw [Stand.throwing_heap]; exact ht1)
      (fun z hz => by
        obtain ⟨g1, h, g2, g3, g4⟩ := f2 z hz
        obtain ⟨g5, c', g6, g7⟩ := hlink h g2
        exact ⟨g1, by rw [g3]; exact g5, c', by rw [g3]; exact g6, by rw [g7]; simp [Ne.symm g4]⟩)
    have hfind2 : ∀ (Q : Handler → Pre) (E' : CtlPost) (d : Bool) (acts : List Action), wp (findHandler { F0 m pc lsC (st.map (xv ad)) with stack := rest.map (xv ad) } a) Q E' e d acts ((T'.setTop { F0 m pc lsC (st.map (xv ad)) with stack := rest.map (xv ad) }).pushFrame (.throwing a)) ↔ Q (.found y.handlerPc) d acts (((T'.setTop { F0 m pc lsC (st.map (xv ad)) with stack := rest.map (xv ad) }).pushFrame (.throwing a)).setVm vm') := fun Q E' d acts => by
      rw [W.findHandler_eq (meth := meth) (code := c) (by rw [Stand.throwing_vm]; exact XT.method') XT.code, f1]
      exact hfind Q E' d acts
    have XV := XT.noted hWv
    have hLa : xlv ad' lsC M.2.2.2.1 ls := hL.ag hag o1
    have hn : q.2 < M.2.2.2.1 := hL.2.2.1 ▸ hqlt
    have wk : W p l e R s m args below meth c T'.heap (locs ++ L) (cells + (S.2.2.2.2.1 - S'.2.2.2.2.1)) (slots + (S.2.2.2.2.2 - S'.2.2.2.2.2)) Q (F0 m y.handlerPc lsC [.ref a]) := by
      rcases f7 with ⟨j, mk1, dat1, hat, rfl⟩ | ⟨j, mk1, dat1, hat, rfl⟩
      · obtain ⟨hd2, -⟩ := hok _ _ hat
        exact lv_astore hx0 hb hd2 hLa.has hn rfl (fun ls' h' => k ad' _ _ _ _ ls' hR' (hLa.st0 hfree h'))
      · obtain ⟨hd2, -⟩ := hok _ _ hat
        exact lv_astore_n hx0 hb hd2 rfl hLa.has hn rfl (fun ls' h' => k ad' _ _ _ _ ls' hR' (hLa.st0 hfree h'))
    obtain ⟨t2, a1, b1⟩ := wk (T'.setVm vm') rfl XV
    refine ⟨t2, hstep₁ _ (fun acts => ?_), b1⟩
    rw [doInvoke_state]
    exact hsteps.trans (xcaught XT.here hfind2 a1)
  | _ => cases hv
