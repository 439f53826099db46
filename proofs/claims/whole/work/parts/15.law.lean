/-! The law's run out of a run of the small machine. -/
theorem xprimA {args : Array Value} {s : State} {ty : FieldType} (hp : ∀ C, ty ≠ .object C) (h : (Cond.arrayClass ty).before args s = true) : ∃ cA : ClassId, ArrOfT s cA ty ∧ va_RA s cA ty := by
  obtain ⟨cA, kA, comp, h1, h2, h3⟩ := Cond.arrayClass_spec h
  refine ⟨cA, fun n z => ⟨fun k h => (by cases h), kA, h2, comp, h3⟩, ?_⟩
  cases ty with
  | object C => exact absurd rfl (hp C)
  | _ => exact h1
theorem xinst : ∀ q ∈ xcl, Cond.instantiable q.1 q.2.2 ∈ lw_tbl := by decide +kernel
theorem xarr4 : Cond.arrayClass .int ∈ lw_tbl ∧ Cond.arrayClass .byte ∈ lw_tbl ∧ Cond.arrayClass .boolean ∈ lw_tbl ∧ Cond.arrayClass .long ∈ lw_tbl := by decide +kernel
/-- the classes' numbers and slots -/
theorem xknown {args : Array Value} {s : State} (hts : ∀ w ∈ lw_tbl, w.before args s = true) : ∃ (D : va_G) (dA : Nat → ClassId), va_K D xcl (xtys dA) s := by
  have h : ∀ c : Nat, ∃ z : ClassId × (Nat → Nat), ∀ q : vw_C, xcl[c]? = some q → u_Kn s q.1 q.2.1 q.2.2 z.1 z.2 := by
    intro c
    cases hq : xcl[c]? with
    | none => exact ⟨(0, fun _ => 0), fun q h => by cases h⟩
    | some q =>
      obtain ⟨C, T, N⟩ := q
      obtain ⟨cC, iS, hK⟩ := u_known (C := C) (T := T) (N := N) (n := N) (fun w hw => hts w (List.mem_filter.mp (show w ∈ xWS from hw)).1) (xcl_ws hq) (hts _ (xinst _ (List.mem_of_getElem? hq)))
      exact ⟨(cC, iS), fun q h => by cases h; exact hK⟩
  obtain ⟨z, hz⟩ := Classical.axiomOfChoice h
  obtain ⟨a0, a1, a2, a3⟩ := xarr4
  obtain ⟨c0, g0⟩ := xprimA (ty := .int) (fun _ h => by cases h) (hts _ a0)
  obtain ⟨c1, g1⟩ := xprimA (ty := .byte) (fun _ h => by cases h) (hts _ a1)
  obtain ⟨c2, g2⟩ := xprimA (ty := .boolean) (fun _ h => by cases h) (hts _ a2)
  obtain ⟨c3, g3⟩ := xprimA (ty := .long) (fun _ h => by cases h) (hts _ a3)
  refine ⟨(fun c => (z c).1, fun c => (z c).2), fun k => match k with
    | 0 => c0
    | 1 => c1
    | 2 => c2
    | _ => c3, fun c q hq => hz c q hq, fun k q hq => ?_⟩
  match k, hq with
  | 0, hq => (cases hq; exact g0)
  | 1, hq => (cases hq; exact g1)
  | 2, hq => (cases hq; exact g2)
  | 3, hq => (cases hq; exact g3)
  | n + 4, hq => simp at hq
/-- the numbers at the start: the script's alone -/
def xh0 (xs : Nat → Int32) : xI := fun a => if a = xscr then xs else fun _ => 0
def xg0 : xJ := fun _ _ => 0
def xS0 (L : Nat) (xs : Nat → Int32) : xS := ([], xh0 xs, xg0, L, room_1.cells, room_1.slots)
set_option maxHeartbeats 4000000 in
set_option maxRecDepth 100000 in
theorem xlaw_start {p : Program} {e : Env} {s : State} {m : MethodId} {below : List Frame} {meth : Method} {c : Code} (l : Launch) (hl : l.stackTraces = false) {b L n : Nat} {xs : Nat → Int32} {S' : xS} (C0 : lw_At p s m meth c b L xs) (hax : ax xP n 11 999 (0, xent 7 [.ref xscr], [], xS0 L xs) = some (.inl (some (.int 1)), S')) :
    W p l e room_1 s m #[Value.ref b] below meth c s.heap [] 0 0 (lw_Z below #[Value.ref b] s) (entryFrame m ([Value.ref b] : List Value).toArray 7) := by
  obtain ⟨hx, hb, hr, hml, hown, hts, hX, hbl, hlocks, hgv⟩ := C0
  obtain ⟨D, dA, hK⟩ := xknown hts
  have hB : xBase (s, b, L, xs) := ⟨hts, hgv⟩
  have X : xCtx (xP 999) 11 p l room_1 s m #[Value.ref b] meth c D dA (fun q => s.heap.size ≤ q) (s, b, L, xs) :=
    ⟨hx, hb, hml, hown, fun w hw => hts w (List.mem_filter.mp hw).1, hK, fun q hq => hq, fun z => absurd z (by decide +kernel), by decide, by decide, xlaw_tab, hX, hbl, Nat.le_refl _, fun _ _ => rfl, fun q hq => hq, State.WarmedH.refl s, fun z => absurd rfl z⟩
  have G := xruns n 11 999 _ _ S' hax p l e room_1 s m #[Value.ref b] below meth c D dA (fun q => s.heap.size ≤ q) 0 (fun _ => b) (s, b, L, xs) (lw_Z below #[Value.ref b] s) hl hB X (by
    intro pc ls st S i hi hs ad H locs cells slots lsC hR hL
    obtain ⟨hP, hD, hS, h4, h5, -⟩ := hR
    obtain ⟨hd, hw⟩ := xlaw_tab pc i hi
    obtain ⟨ins, mk, dat⟩ := i
    cases ins with
    | ireturn =>
      dsimp only [xstep] at hs
      split at hs
      case h_2 => cases hs
      rename_i v
      have hv : v = 1 := by
        cases hq : Nat.beq dat 0 with
        | true => rw [hq] at hs; cases hs; rfl
        | false =>
          rw [hq] at hs
          dsimp only [cond] at hs
          split at hs
          · cases hs; rfl
          · cases hs
      subst hv
      refine va_forget (fun q hq => hS.2.2 q hq) ?_
      refine W.widen (k := room_1.cells) (n := room_1.slots) (by have : cells + S.2.2.2.2.1 = room_1.cells := h4; omega) (by have : slots + S.2.2.2.2.2 = room_1.slots := h5; omega) ?_
      exact lw_ret hx hb hr hlocks hd
    | ifCond cnd off =>
      exfalso
      cases cnd <;> (simp only [xstep, xi1] at hs; split at hs <;> cases hs)
    | if_icmp cnd off =>
      exfalso
      cases cnd <;> (simp only [xstep, xi2] at hs; split at hs <;> cases hs)
    | _ =>
      exfalso
      simp only [xstep, xi1, xi2, xj1, xj2, xji, xr1, xir, xiir, xjir, xli, xlj, xlr, xst1, xst2, xarr, xarrB, xobj, xin, xcopy, xcall, Bool.cond_eq_ite] at hs
      repeat' split at hs
      all_goals cases hs)
  have w := G (fun _ => b) s.heap [] 0 0 _ ⟨fun k q hk => (by cases hk), ⟨fun i j p q hi => (by cases hi), fun k q hk => (by cases hk)⟩, va_S.rf, Nat.zero_add _, Nat.zero_add _, fun k o j v hk => (by cases hk), Nat.zero_le 1000, Nat.le_refl _, rfl, rfl, rfl, fun _ _ => rfl⟩ (xlv.entry (fun _ => b) [.ref xscr] (fun _ h => by cases h with | tail _ h => cases h) (by decide))
  rw [lg_entry_eq]
  exact w
