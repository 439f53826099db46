/-! What a program decides of the tables. -/
/-- kind, entry, what it means, places of its words -/
abbrev xLk : Type := Nat × Nat × Nat × Nat × Nat × Nat
def xk0 (own : String) (ix dat p1 p2 p3 : Nat) : Bool := match xcl[dat / 64]? with
    | some r => Nat.blt (dat % 64) r.2.2 && decide (lw_tbl[p1]? = some (.fieldLink own ix (r.2.1 (dat % 64)).1 (r.2.1 (dat % 64)).2.1 (r.2.1 (dat % 64)).2.2.1))
    | none => false
def xk1 (own : String) (ix dat p1 p2 p3 : Nat) : Bool := decide (lw_tbl[p1]? = some (.methodLink own ix (xP (dat / 16 % 1000)).2.1)) && decide (lw_tbl[p2]? = some (.static (xP (dat / 16 % 1000)).2.1)) && decide ((parseMethodDescriptor (xP (dat / 16 % 1000)).2.1.desc).map (fun d => d.parameters.length) = some (dat % 16))
def xk2 (own : String) (ix dat p1 p2 p3 : Nat) : Bool := match xcl[dat / 16000]? with
    | some r => decide (lw_tbl[p1]? = some (.methodLink own ix (xP (dat / 16 % 1000)).2.1)) && decide (lw_tbl[p2]? = some (.instanceMethod (xP (dat / 16 % 1000)).2.1)) && decide (lw_tbl[p3]? = some (.selects r.1 (xP (dat / 16 % 1000)).2.1 (xP (dat / 16 % 1000)).2.1)) && decide ((parseMethodDescriptor (xP (dat / 16 % 1000)).2.1.desc).map (fun d => d.parameters.length + 1) = some (dat % 16)) && (xP (dat / 16 % 1000)).2.2.2.2.2.2.isEmpty
    | none => false
def xk3 (own : String) (ix dat p1 p2 p3 : Nat) : Bool := decide ((xP (dat / 16 % 1000)).2.1.name = "<init>") && decide (lw_tbl[p1]? = some (.methodLink own ix (xP (dat / 16 % 1000)).2.1)) && decide (lw_tbl[p2]? = some (.instanceMethod (xP (dat / 16 % 1000)).2.1)) && decide ((xP (dat / 16 % 1000)).2.2.2.2.1 = none) && decide ((parseMethodDescriptor (xP (dat / 16 % 1000)).2.1.desc).map (fun d => d.parameters.length + 1) = some (dat % 16)) && (xP (dat / 16 % 1000)).2.2.2.2.2.2.isEmpty
def xk4 (own : String) (ix dat p1 p2 p3 : Nat) : Bool := decide ((xP (dat / 16 % 1000)).2.1.name = "<init>") && decide (lw_tbl[p1]? = some (.methodLinkNest own ix (xP (dat / 16 % 1000)).2.1 xhost)) && decide (lw_tbl[p2]? = some (.instanceMethod (xP (dat / 16 % 1000)).2.1)) && decide ((xP (dat / 16 % 1000)).2.2.2.2.1 = none) && decide ((parseMethodDescriptor (xP (dat / 16 % 1000)).2.1.desc).map (fun d => d.parameters.length + 1) = some (dat % 16)) && (xP (dat / 16 % 1000)).2.2.2.2.2.2.isEmpty
def xk5 (own : String) (ix dat p1 p2 p3 : Nat) : Bool := decide (lw_tbl[p1]? = some (.constant own ix (Int32.ofNat dat)))
def xk6 (own : String) (ix dat p1 p2 p3 : Nat) : Bool := decide (lw_tbl[p1]? = some (.constantLong own ix (Int64.ofNat dat)))
def xk7 (own : String) (ix dat p1 p2 p3 : Nat) : Bool := decide (lw_tbl[p1]? = some (.methodLink own ix arraycopyName))
def xk8 (own : String) (ix dat p1 p2 p3 : Nat) : Bool := decide (lw_tbl[p1]? = some (.methodLink own ix Lib.objectInit))
def xk9 (own : String) (ix dat p1 p2 p3 : Nat) : Bool := match xcl[dat]? with
    | some r => decide (lw_tbl[p1]? = some (.classLink own ix r.1)) && decide (lw_tbl[p2]? = some (.instantiable r.1 r.2.2)) && decide (lw_tbl[p3]? = some (.initialized r.1))
    | none => false
def xlok (own : String) (q : xLk) : Bool := match q.1 with
  | 0 => xk0 own q.2.1 q.2.2.1 q.2.2.2.1 q.2.2.2.2.1 q.2.2.2.2.2
  | 1 => xk1 own q.2.1 q.2.2.1 q.2.2.2.1 q.2.2.2.2.1 q.2.2.2.2.2
  | 2 => xk2 own q.2.1 q.2.2.1 q.2.2.2.1 q.2.2.2.2.1 q.2.2.2.2.2
  | 3 => xk3 own q.2.1 q.2.2.1 q.2.2.2.1 q.2.2.2.2.1 q.2.2.2.2.2
  | 4 => xk4 own q.2.1 q.2.2.1 q.2.2.2.1 q.2.2.2.2.1 q.2.2.2.2.2
  | 5 => xk5 own q.2.1 q.2.2.1 q.2.2.2.1 q.2.2.2.2.1 q.2.2.2.2.2
  | 6 => xk6 own q.2.1 q.2.2.1 q.2.2.2.1 q.2.2.2.2.1 q.2.2.2.2.2
  | 7 => xk7 own q.2.1 q.2.2.1 q.2.2.2.1 q.2.2.2.2.1 q.2.2.2.2.2
  | 8 => xk8 own q.2.1 q.2.2.1 q.2.2.2.1 q.2.2.2.2.1 q.2.2.2.2.2
  | 9 => xk9 own q.2.1 q.2.2.1 q.2.2.2.1 q.2.2.2.2.1 q.2.2.2.2.2
  | _ => false
def xlin (L : List xLk) (kind ix dat : Nat) : Bool := L.any (fun q => Nat.beq q.1 kind && Nat.beq q.2.1 ix && Nat.beq q.2.2.1 dat)
theorem xlin_ok {L : List xLk} {own : String} (hL : L.all (xlok own) = true) {kind ix dat : Nat} (h : xlin L kind ix dat = true) : ∃ a b c, xlok own (kind, ix, dat, a, b, c) = true := by
  obtain ⟨q, hq, h⟩ := List.any_eq_true.mp h
  simp only [Bool.and_eq_true] at h
  have := List.all_eq_true.mp hL q hq
  obtain ⟨k, i, d, a, b, c⟩ := q
  cases Nat.eq_of_beq_eq_true h.1.1
  cases Nat.eq_of_beq_eq_true h.1.2
  cases Nat.eq_of_beq_eq_true h.2
  exact ⟨a, b, c, this⟩
theorem xl0 {own : String} {ix dat a b c : Nat} (h : xlok own (0, ix, dat, a, b, c) = true) : xfl own ix dat := by
  have h : xk0 own ix dat a b c = true := h
  unfold xk0 at h
  split at h
  · rename_i r hr
    obtain ⟨C, T, N⟩ := r
    rw [Bool.and_eq_true, decide_eq_true_eq] at h
    exact ⟨C, T, N, hr, Nat.blt_eq.mp h.1, xmem a h.2 rfl⟩
  · cases h
theorem xl1 {own : String} {ix dat a b c : Nat} (h : xlok own (1, ix, dat, a, b, c) = true) : xlkS own ix dat := by
  have h : xk1 own ix dat a b c = true := h
  unfold xk1 at h
  simp only [Bool.and_eq_true, decide_eq_true_eq] at h
  exact ⟨xmem a h.1.1 rfl, xmem b h.1.2 rfl, h.2⟩
theorem xl2 {own : String} {ix dat a b c : Nat} (h : xlok own (2, ix, dat, a, b, c) = true) : xlkV own ix dat := by
  have h : xk2 own ix dat a b c = true := h
  unfold xk2 at h
  split at h
  · rename_i r hr
    obtain ⟨C, T, N⟩ := r
    simp only [Bool.and_eq_true, decide_eq_true_eq] at h
    exact ⟨xmem a h.1.1.1.1 rfl, xmem b h.1.1.1.2 rfl, ⟨C, T, N, hr, xmem c h.1.1.2 rfl⟩, h.1.2, List.isEmpty_iff.mp h.2⟩
  · cases h
theorem xl3 {own : String} {ix dat a b c : Nat} (h : xlok own (3, ix, dat, a, b, c) = true) : xlkI own ix dat := by
  have h : xk3 own ix dat a b c = true := h
  unfold xk3 at h
  simp only [Bool.and_eq_true, decide_eq_true_eq] at h
  exact ⟨h.1.1.1.1.1, Or.inl (xmem a h.1.1.1.1.2 rfl), xmem b h.1.1.1.2 rfl, h.1.1.2, h.1.2, List.isEmpty_iff.mp h.2⟩
theorem xl4 {own : String} {ix dat a b c : Nat} (h : xlok own (4, ix, dat, a, b, c) = true) : xlkI own ix dat := by
  have h : xk4 own ix dat a b c = true := h
  unfold xk4 at h
  simp only [Bool.and_eq_true, decide_eq_true_eq] at h
  exact ⟨h.1.1.1.1.1, Or.inr (List.mem_filter.mpr ⟨List.mem_of_getElem? h.1.1.1.1.2, rfl⟩), xmem b h.1.1.1.2 rfl, h.1.1.2, h.1.2, List.isEmpty_iff.mp h.2⟩
theorem xl9 {own : String} {ix dat a b c : Nat} (h : xlok own (9, ix, dat, a, b, c) = true) : ∃ (C : String) (T : u_T) (N : Nat), xcl[dat]? = some (C, T, N) ∧ Cond.classLink own ix C ∈ xWS ∧ Cond.instantiable C N ∈ xWS ∧ Cond.initialized C ∈ xWS := by
  have h : xk9 own ix dat a b c = true := h
  unfold xk9 at h
  split at h
  · rename_i r hr
    obtain ⟨C, T, N⟩ := r
    simp only [Bool.and_eq_true, decide_eq_true_eq] at h
    exact ⟨C, T, N, hr, xmem a h.1.1 rfl, xmem b h.1.2 rfl, xmem c h.2 rfl⟩
  · cases h
/-- the default kinds of a class -/
def xkb (dat : Nat) : Bool := match xcl[dat]?, xkinds dat with
  | some r, some ks => Nat.beq ks.length r.2.2 && (List.range r.2.2).all (fun j => match ks[j]?, parseFieldDescriptor (r.2.1 j).2.2.1 with
    | some none, some .int => true
    | some (some .null), some (.object _) => true
    | some (some .null), some (.array _) => true
    | _, _ => false)
  | _, _ => false
theorem xkb_ok {dat : Nat} (h : xkb dat = true) {C : String} {T : u_T} {N : Nat} (hc : xcl[dat]? = some (C, T, N)) : ∃ ks, xkinds dat = some ks ∧ ks.length = N ∧ ∀ j, j < N → (ks[j]? = some none ∧ parseFieldDescriptor (T j).2.2.1 = some .int) ∨ (ks[j]? = some (some .null) ∧ ∃ ty, parseFieldDescriptor (T j).2.2.1 = some ty ∧ defaultValue ty = .null) := by
  unfold xkb at h
  split at h
  · rename_i r ks h1 h2
    cases h1.symm.trans hc
    rw [Bool.and_eq_true] at h
    refine ⟨ks, h2, Nat.eq_of_beq_eq_true h.1, fun j hj => ?_⟩
    have := List.all_eq_true.mp h.2 j (List.mem_range.mpr hj)
    split at this
    · rename_i e1 e2
      exact Or.inl ⟨e1, e2⟩
    · rename_i e1 e2
      exact Or.inr ⟨e1, _, e2, rfl⟩
    · rename_i e1 e2
      exact Or.inr ⟨e1, _, e2, rfl⟩
    · cases this
  · cases h
/-- a throw: the class's number, its entry, the text's entry, the constructor's entry, the text -/
abbrev xTh : Type := Nat × Nat × Nat × Nat × String
def xthok (q : xTh) : Bool := match xexN[q.1]? with
  | some X => decide (Cond.classLink "WasmCore" q.2.1 X ∈ lw_tbl) && decide (Cond.instantiable X 6 ∈ lw_tbl) && decide (Cond.initialized X ∈ lw_tbl) && decide (Cond.stringRef "WasmCore" q.2.2.1 q.2.2.2.2 ∈ lw_tbl) && (Bundle.ownAtoms "WasmCore" q.2.2.2.1 X xsup).all (fun w => decide (w ∈ lw_tbl) || decide (w = xst1w) || decide (w = xst2w))
  | none => false
def xthl : List xTh := [(0, 61, 63, 65, "n is not 1 .. 8"), (0, 61, 90, 65, "a number of the function is not as said"), (0, 61, 140, 65, "not as many arguments as parameters"), (1, 72, 74, 76, "not open, or no room for the words"), (1, 72, 84, 76, "not open, or no room for the word"), (1, 72, 99, 76, "not open, too many functions, or no word for a body"), (1, 72, 108, 76, "not open, no function, or words that are no body"), (1, 72, 127, 76, "not checked, or a run goes on"), (1, 72, 152, 76, "no run is done"), (2, 132, 134, 136, "no such function"), (2, 132, 173, 136, "no such value")]
theorem xthl_ok : xthl.all xthok = true := by decide +kernel
def xthb (M : xM) (pc ix dat : Nat) : Bool := decide (M.1 = "WasmCore") && M.2.2.2.2.2.2.isEmpty && xthl.any (fun q => Nat.beq q.1 (dat - 100) && Nat.beq q.2.1 ix && decide (decode M.2.2.1 (pc + 3) = .ok (.dup, 1)) && decide (decode M.2.2.1 (pc + 4) = .ok (.ldc q.2.2.1, 2)) && decide (decode M.2.2.1 (pc + 6) = .ok (.invokespecial q.2.2.2.1, 3)) && decide (decode M.2.2.1 (pc + 9) = .ok (.athrow, 1)))
theorem xthb_ok {M : xM} {pc ix dat : Nat} (h : xthb M pc ix dat = true) : xThr M pc ix dat := by
  unfold xthb at h
  rw [Bool.and_eq_true, Bool.and_eq_true, decide_eq_true_eq] at h
  obtain ⟨⟨h0, hem⟩, h⟩ := h
  obtain ⟨q, hq, h⟩ := List.any_eq_true.mp h
  have h2 := List.all_eq_true.mp xthl_ok q hq
  simp only [Bool.and_eq_true, decide_eq_true_eq] at h
  obtain ⟨⟨⟨⟨⟨h3, h4⟩, h5⟩, h6⟩, h7⟩, h8⟩ := h
  obtain ⟨k, ix', sx, ic, tx⟩ := q
  dsimp only at h3 h4 h5 h6 h7 h8
  unfold xthok at h2
  split at h2
  · rename_i X hX
    simp only [Bool.and_eq_true, decide_eq_true_eq] at h2
    obtain ⟨⟨⟨⟨g1, g2⟩, g3⟩, g4⟩, g5⟩ := h2
    cases Nat.eq_of_beq_eq_true h4
    refine ⟨X, sx, tx, ic, by rw [← Nat.eq_of_beq_eq_true h3]; exact hX, h5, h6, h7, h8, ?_, List.mem_filter.mpr ⟨g2, rfl⟩, List.mem_filter.mpr ⟨g3, rfl⟩, ?_, fun w hw => ?_, List.isEmpty_iff.mp hem⟩
    · rw [h0]; exact List.mem_filter.mpr ⟨g1, rfl⟩
    · rw [h0]; exact g4
    · rw [h0] at hw
      have := List.all_eq_true.mp g5 w hw
      simp only [Bool.or_eq_true, decide_eq_true_eq] at this
      rcases this with (h | h) | h
      · exact Or.inl h
      · exact Or.inr (Or.inl h)
      · exact Or.inr (Or.inr h)
  · cases h2
/-- a row of a method's table -/
def xokb (L : List xLk) (M : xM) (pc : Nat) (i : xC) : Bool := decide (decode M.2.2.1 pc = .ok (i.1, xln i.1 i.2.1)) && match i.1 with
  | .bipush n => decide ((Int8.ofInt n).toInt32 = Int32.ofInt n)
  | .sipush n => decide ((Int16.ofInt n).toInt32 = Int32.ofInt n)
  | .ldc k => xlin L 5 k i.2.2
  | .ldc_w k => xlin L 5 k i.2.2
  | .ldc2_w k => xlin L 6 k i.2.2
  | .goto off => decide ((pc : Int) + off = (i.2.2 : Int))
  | .ifCond _ off => decide ((pc : Int) + off = (i.2.2 : Int))
  | .if_icmp _ off => decide ((pc : Int) + off = (i.2.2 : Int))
  | .tableswitch dflt lo hi offs => decide (0 ≤ (pc : Int) + dflt) && offs.toList.all (fun o => decide (0 ≤ (pc : Int) + o)) && decide (hi - lo < offs.size)
  | .lookupswitch dflt ps => (ps.toList.zip (ps.toList.drop 1)).all (fun (a, next) => a.1 < next.1) && decide (0 ≤ (pc : Int) + dflt) && ps.toList.all (fun o => decide (0 ≤ (pc : Int) + o.2))
  | .getfield k => xlin L 0 k i.2.2
  | .putfield k => xlin L 0 k i.2.2 && (match xcl[i.2.2 / 64]? with
    | some r => (!(r.2.1 (i.2.2 % 64)).2.2.2 || (decide (M.2.1.name = "<init>") && decide ((r.2.1 (i.2.2 % 64)).1 = M.1))) && (match parseFieldDescriptor (r.2.1 (i.2.2 % 64)).2.2.1 with
      | some .int => Nat.beq i.2.1 0
      | some (.object _) => Nat.beq i.2.1 1
      | some (.array _) => Nat.beq i.2.1 1
      | _ => false)
    | none => false)
  | .newarray t => decide (Cond.arrayClass (newarray.typeOf t) ∈ xWS)
  | .new k => bif Nat.blt i.2.2 100 then (xlin L 9 k i.2.2 && xkb i.2.2) else xthb M pc k i.2.2
  | .invokestatic k => bif Nat.beq i.2.2 14421 then xlin L 7 k i.2.2 else xlin L 1 k i.2.2
  | .invokevirtual k => xlin L 2 k i.2.2
  | .invokespecial k => bif Nat.beq i.2.2 14401 then xlin L 8 k i.2.2 else (xlin L 3 k i.2.2 || xlin L 4 k i.2.2)
  | .ireturn => decide (M.2.2.2.2.1 = if i.2.2 = 0 then some .int else some .boolean)
  | .lreturn => decide (M.2.2.2.2.1 = some .long)
  | .return_ => decide (M.2.2.2.2.1 = none)
  | _ => true
set_option maxHeartbeats 4000000 in
theorem xokb_ok {L : List xLk} {M : xM} (hL : L.all (xlok M.1) = true) {pc : Nat} {i : xC} (h : xokb L M pc i = true) : xOK M pc i := by
  unfold xokb at h
  rw [Bool.and_eq_true, decide_eq_true_eq] at h
  obtain ⟨hd, h⟩ := h
  refine ⟨hd, ?_⟩
  clear hd
  obtain ⟨ins, mk, dat⟩ := i
  cases ins with
  | bipush n => exact of_decide_eq_true h
  | sipush n => exact of_decide_eq_true h
  | ldc k =>
    obtain ⟨a, b, c, h⟩ := xlin_ok hL h
    exact xmem a (of_decide_eq_true (p := lw_tbl[a]? = some _) h) rfl
  | ldc_w k =>
    obtain ⟨a, b, c, h⟩ := xlin_ok hL h
    exact xmem a (of_decide_eq_true (p := lw_tbl[a]? = some _) h) rfl
  | ldc2_w k =>
    obtain ⟨a, b, c, h⟩ := xlin_ok hL h
    exact xmem a (of_decide_eq_true (p := lw_tbl[a]? = some _) h) rfl
  | goto off => exact of_decide_eq_true h
  | ifCond c off => exact of_decide_eq_true h
  | if_icmp c off => exact of_decide_eq_true h
  | tableswitch dflt lo hi offs =>
    dsimp only at h ⊢
    simp only [Bool.and_eq_true, decide_eq_true_eq] at h
    exact ⟨h.1.1, fun o ho => of_decide_eq_true (List.all_eq_true.mp h.1.2 o ho), h.2⟩
  | lookupswitch dflt ps =>
    dsimp only at h ⊢
    rw [Bool.and_eq_true, Bool.and_eq_true, decide_eq_true_eq] at h
    exact ⟨h.1.1, h.1.2, fun o ho => of_decide_eq_true (List.all_eq_true.mp h.2 o ho)⟩
  | getfield k =>
    obtain ⟨a, b, c, h⟩ := xlin_ok hL h
    exact xl0 h
  | putfield k =>
    dsimp only at h ⊢
    rw [Bool.and_eq_true] at h
    obtain ⟨h1, h2⟩ := h
    obtain ⟨a, b, c, h1⟩ := xlin_ok hL h1
    refine ⟨xl0 h1, fun C T N hc => ?_⟩
    rw [hc] at h2
    dsimp only at h2
    rw [Bool.and_eq_true] at h2
    obtain ⟨h2, h3⟩ := h2
    refine ⟨fun hf => ?_, ?_⟩
    · rw [hf] at h2
      simp only [Bool.not_true, Bool.false_or, Bool.and_eq_true, decide_eq_true_eq] at h2
      exact h2
    · split at h3
      · rename_i e
        have h3 := Nat.eq_of_beq_eq_true h3
        exact ⟨_, e, fun _ => rfl, fun z => by rw [h3] at z; cases z⟩
      · rename_i n e
        have h3 := Nat.eq_of_beq_eq_true h3
        exact ⟨_, e, fun z => (by rw [h3] at z; cases z), fun _ => Or.inl ⟨_, rfl⟩⟩
      · rename_i n e
        have h3 := Nat.eq_of_beq_eq_true h3
        exact ⟨_, e, fun z => (by rw [h3] at z; cases z), fun _ => Or.inr ⟨_, rfl⟩⟩
      · cases h3
  | newarray t => exact of_decide_eq_true h
  | new k =>
    dsimp only at h ⊢
    refine ⟨fun hge => ?_, fun hlt => ?_⟩
    · have hz : Nat.blt dat 100 = false := by
        cases hq : Nat.blt dat 100 with
        | true => have := Nat.blt_eq.mp hq; omega
        | false => rfl
      rw [hz] at h
      exact xthb_ok h
    rw [Nat.blt_eq.mpr hlt] at h
    dsimp only [cond] at h
    rw [Bool.and_eq_true] at h
    obtain ⟨a, b, c, h1⟩ := xlin_ok hL h.1
    obtain ⟨C, T, N, h2, h3, h4, h5⟩ := xl9 h1
    exact ⟨C, T, N, h2, h3, h4, h5, xkb_ok h.2 h2⟩
  | invokestatic k =>
    dsimp only at h ⊢
    by_cases hd : dat = 14421
    · subst hd
      rw [if_pos rfl]
      obtain ⟨a, b, c, h⟩ := xlin_ok hL h
      exact xmem a (of_decide_eq_true (p := lw_tbl[a]? = some _) h) rfl
    · rw [if_neg hd]
      have : Nat.beq dat 14421 = false := by
        cases hq : Nat.beq dat 14421 with
        | true => exact absurd (Nat.eq_of_beq_eq_true hq) hd
        | false => rfl
      rw [this] at h
      obtain ⟨a, b, c, h⟩ := xlin_ok hL h
      exact xl1 h
  | invokevirtual k =>
    obtain ⟨a, b, c, h⟩ := xlin_ok hL h
    exact xl2 h
  | invokespecial k =>
    dsimp only at h ⊢
    by_cases hd : dat = 14401
    · subst hd
      rw [if_pos rfl]
      obtain ⟨a, b, c, h⟩ := xlin_ok hL h
      exact xmem a (of_decide_eq_true (p := lw_tbl[a]? = some _) h) rfl
    · rw [if_neg hd]
      have : Nat.beq dat 14401 = false := by
        cases hq : Nat.beq dat 14401 with
        | true => exact absurd (Nat.eq_of_beq_eq_true hq) hd
        | false => rfl
      rw [this] at h
      dsimp only [cond] at h
      rw [Bool.or_eq_true] at h
      rcases h with h | h
      · obtain ⟨a, b, c, h⟩ := xlin_ok hL h
        exact xl3 h
      · obtain ⟨a, b, c, h⟩ := xlin_ok hL h
        exact xl4 h
  | ireturn => exact of_decide_eq_true h
  | lreturn => exact of_decide_eq_true h
  | return_ => exact of_decide_eq_true h
  | _ => trivial
theorem xat_mem {t : List (Nat × xC)} {pc : Nat} {i : xC} (h : xat t pc = some i) : (pc, i) ∈ t := by
  induction t with
  | nil => cases h
  | cons a r ih =>
    obtain ⟨q, j⟩ := a
    unfold xat at h
    cases hq : Nat.beq q pc with
    | true =>
      rw [hq] at h
      cases h
      cases Nat.eq_of_beq_eq_true hq
      exact List.mem_cons_self
    | false =>
      rw [hq] at h
      exact List.mem_cons_of_mem _ (ih h)
theorem xtab_ok {L : List xLk} {M : xM} (hL : L.all (xlok M.1) = true) (hT : M.2.2.2.2.2.1.all (fun q => xokb L M q.1 q.2) = true) : ∀ pc i, xat M.2.2.2.2.2.1 pc = some i → xOK M pc i := fun pc i h => xokb_ok hL (List.all_eq_true.mp hT (pc, i) (xat_mem h))
def xmkb (M : xM) (a b : Nat) : Bool := decide (lw_tbl[a]? = some (.initialized M.2.1.cls)) && (bif M.2.2.2.2.2.2.isEmpty then decide (lw_tbl[b]? = some (.code M.2.1 M.2.2.1 M.2.2.2.1 M.2.2.2.2.1)) else decide (lw_tbl[b]? = some (.codeWith M.2.1 M.2.2.1 M.2.2.2.1 M.2.2.2.2.1 (M.2.2.2.2.2.2.map fun h => (h.1, h.2.1, h.2.2.1, h.2.2.2.1))))) &&
  plainName M.2.1.cls && Nat.ble M.2.2.2.1 16 && decide (M.2.1.cls ≠ "java/lang/invoke/MethodHandle") && decide (M.2.1.cls ≠ "java/lang/invoke/VarHandle") && decide (M.1 = M.2.1.cls) && M.2.2.2.2.2.2.all (fun h => Nat.blt 0 h.2.2.2.1 && match xexN[h.2.2.2.2]? with
    | some X => decide (Cond.classLink M.1 h.2.2.2.1 X ∈ lw_tbl)
    | none => false)
theorem xmk {L : List xLk} {M : xM} (hL : L.all (xlok M.1) = true) (hT : M.2.2.2.2.2.1.all (fun q => xokb L M q.1 q.2) = true) (a b : Nat) (h : xmkb M a b = true) : xMok M := by
  unfold xmkb at h
  simp only [Bool.and_eq_true, decide_eq_true_eq] at h
  obtain ⟨⟨⟨⟨⟨⟨⟨h1, h2⟩, h3⟩, h4⟩, h5⟩, h6⟩, h7⟩, h8⟩ := h
  refine ⟨xmem a h1 rfl, fun hh => ?_, h3, Nat.le_of_ble_eq_true h4, ⟨h5, h6⟩, h7, xtab_ok hL hT, fun hh => ?_, fun h hm => ?_⟩
  · rw [hh] at h2
    exact xmem b (of_decide_eq_true h2) rfl
  · have : M.2.2.2.2.2.2.isEmpty = false := by
      cases hq : M.2.2.2.2.2.2.isEmpty with
      | true => exact absurd (List.isEmpty_iff.mp hq) hh
      | false => rfl
    rw [this] at h2
    exact xmem b (of_decide_eq_true h2) rfl
  · have h9 := List.all_eq_true.mp h8 h hm
    rw [Bool.and_eq_true] at h9
    refine ⟨fun z => (by rw [z] at h9; exact absurd h9.1 (by decide)), ?_⟩
    have h9 := h9.2
    split at h9
    · rename_i X hX
      exact ⟨X, hX, List.mem_filter.mpr ⟨of_decide_eq_true h9, rfl⟩⟩
    · cases h9
