theorem xmk_at : ∀ mi, mi < 999 → xMok (xP mi) := by
  intro mi hmi
  have e : xP mi = xPL.getD mi M_0 := by
    unfold xP
    have : Nat.beq mi 999 = false := by
      cases hq : Nat.beq mi 999 with
      | true => have := Nat.eq_of_beq_eq_true hq; omega
      | false => rfl
    rw [this]; rfl
  rw [e, List.getD_eq_getElem?_getD]
  cases h : xPL[mi]? with
  | none => exact xmk_0
  | some M => exact xmk_all M (List.mem_of_getElem? h)
theorem xtab_at : ∀ mi pc i, xat (xP mi).2.2.2.2.2.1 pc = some i → xOK (xP mi) pc i := by
  intro mi
  by_cases h : mi < 999
  · obtain ⟨-, -, -, -, -, -, k7, -⟩ := xmk_at mi h
    exact k7
  · by_cases h2 : mi = 999
    · subst h2
      exact xlaw_tab
    · have e : xP mi = M_0 := by
        unfold xP
        have : Nat.beq mi 999 = false := by
          cases hq : Nat.beq mi 999 with
          | true => exact absurd (Nat.eq_of_beq_eq_true hq) h2
          | false => rfl
        rw [this]
        show xPL.getD mi M_0 = M_0
        rw [List.getD_eq_getElem?_getD, List.getElem?_eq_none (by show xPL.length ≤ mi; have : xPL.length ≤ 999 := by decide +kernel
                                                                  omega)]
        rfl
      rw [e]
      obtain ⟨-, -, -, -, -, -, k7, -⟩ := xmk_0
      exact k7
theorem xlaw_nh : ∀ mi, ¬ mi < 999 → (xP mi).2.2.2.2.2.2 = [] := by
  intro mi h
  by_cases h2 : mi = 999
  · subst h2
    rfl
  · have e : xP mi = M_0 := by
      unfold xP
      have : Nat.beq mi 999 = false := by
        cases hq : Nat.beq mi 999 with
        | true => exact absurd (Nat.eq_of_beq_eq_true hq) h2
        | false => rfl
      rw [this]
      show xPL.getD mi M_0 = M_0
      rw [List.getD_eq_getElem?_getD, List.getElem?_eq_none (by show xPL.length ≤ mi; have : xPL.length ≤ 999 := by decide +kernel
                                                                omega)]
      rfl
    rw [e]
    rfl
theorem xruns : ∀ n, xInv n := xrun xthrows xcatches xtab_at xmk_at xlaw_nh
/-! THE CLAIM OUT OF ONE WALK OF THE LAW'S BODY. Your part is whole_start (and what it stands on); all else here is the same for every law, but numbers. -/
def R_law : String := "WasmCoreLaw"
def lw_P (b : Addr) (xs : List Int32) (args : Array Value) (s : State) : Prop := args = #[.ref b] ∧ s.IntsAt b xs ∧ xs.length ≤ 2048 ∧ (Jvm.Cond.and given_1 narrow_1).before args s = true
def lw_Q (_ : Array Value) (s : State) (o : Outcome) (t : State) : Prop := o = .returned (some (.int 1)) ∧ Framed s o t [] 1087 13222
def lw_Z (below : List Frame) (a : Array Value) (s : State) : State → Prop := fun t => ∃ o, t.status = .running ∧ Ended t below o ∧ lw_Q a s o t
/-- the law's own end, with 1 on the stack, nothing written that was there before, its room as the claim has it -/
theorem lw_ret {p : Program} {l : Launch} {e : Env} {s : State} {m : MethodId} {below : List Frame} {meth : Method} {c : Code} {b : Nat} (hx : p.tables.exec = Jvm.exec) (hb : c.code = code) (hr : meth.sig.returnType = ret) (hlocks : meth.locks = false) {pc : Nat} {H : Heap} {ls : Array Slot} (hdg : decode code pc = .ok (.ireturn, 1)) : W p l e room_1 s m #[Value.ref b] below meth c H [] 1087 13222 (lw_Z below #[Value.ref b] s) (F0 m pc ls [.int 1]) := by
  intro T hT X
  obtain ⟨fs, hret, hrun, hended, hW, hframe⟩ := X.leave (v := some (.int 1)) (hlocks := hlocks) (fun h => by rw [hr] at h; cases h)
  have hmeth' : T.vm.method? m = some meth := X.method'
  refine ⟨T.setFrames fs, ?_, .returned (some (.int 1)), hrun, hended, rfl, ⟨_, rfl⟩, hW, hframe⟩
  jvm_step X.here [X.here.top, hx, hb, hdg, hmeth', hr, ret, narrow_b1]
  (try refine ⟨rfl, ?_⟩); (try refine ⟨rfl, ?_⟩)
  first | (intro acts; rw [hret _ acts rfl rfl rfl]) | rw [hret _ _ rfl rfl rfl]
  exact Steps.refl _
/-- what holds at the law's entry: the machine, the code, the tables' words (any of lw_tbl by 'hts w (by decide +kernel)'), the script of L ints xs at the cell b, what the Statement gives of the start (any of its parts by flat_of_before) -/
def lw_At (p : Program) (s : State) (m : MethodId) (meth : Method) (c : Code) (b L : Nat) (xs : Nat → Int32) : Prop :=
  p.tables.exec = Jvm.exec ∧ c.code = code ∧ meth.sig.returnType = ret ∧ c.maxLocals = 7 ∧ s.vm.findClass R_law = some m.cls ∧ (∀ w ∈ lw_tbl, w.before #[Value.ref b] s = true) ∧ va_X b L xs s s.heap ∧ b < s.heap.size ∧ meth.locks = false ∧ (Jvm.Cond.and given_1 narrow_1).before #[Value.ref b] s = true
