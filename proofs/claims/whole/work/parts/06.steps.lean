/-! One step of the small machine is a step of the machine. -/
def xln : Instr → Nat → Nat
  | .bipush _, _ => 2
  | .sipush _, _ => 3
  | .ldc _, _ => 2
  | .ldc_w _, _ => 3
  | .ldc2_w _, _ => 3
  | .iload _, _ => 2
  | .lload _, _ => 2
  | .aload _, _ => 2
  | .istore _, _ => 2
  | .lstore _, _ => 2
  | .astore _, _ => 2
  | .iinc _ _, _ => 3
  | .goto _, _ => 3
  | .ifCond _ _, _ => 3
  | .if_icmp _ _, _ => 3
  | .getfield _, _ => 3
  | .putfield _, _ => 3
  | .newarray _, _ => 2
  | .new _, _ => 3
  | .invokestatic _, _ => 3
  | .invokevirtual _, _ => 3
  | .invokespecial _, _ => 3
  | .tableswitch _ _ _ _, n => n
  | .lookupswitch _ _, n => n
  | _, _ => 1
/-- a field's entry -/
def xfl (own : String) (k dat : Nat) : Prop := ∃ (C : String) (T : u_T) (N : Nat), xcl[dat / 64]? = some (C, T, N) ∧ dat % 64 < N ∧ Cond.fieldLink own k (T (dat % 64)).1 (T (dat % 64)).2.1 (T (dat % 64)).2.2.1 ∈ xWS
/-- a call's entries -/
def xlkS (own : String) (k dat : Nat) : Prop := Cond.methodLink own k (xP (dat / 16 % 1000)).2.1 ∈ xWS ∧ Cond.static (xP (dat / 16 % 1000)).2.1 ∈ xWS ∧ (parseMethodDescriptor (xP (dat / 16 % 1000)).2.1.desc).map (fun d => d.parameters.length) = some (dat % 16)
def xlkV (own : String) (k dat : Nat) : Prop := Cond.methodLink own k (xP (dat / 16 % 1000)).2.1 ∈ xWS ∧ Cond.instanceMethod (xP (dat / 16 % 1000)).2.1 ∈ xWS ∧ (∃ (C : String) (T : u_T) (N : Nat), xcl[dat / 16000]? = some (C, T, N) ∧ Cond.selects C (xP (dat / 16 % 1000)).2.1 (xP (dat / 16 % 1000)).2.1 ∈ xWS) ∧ (parseMethodDescriptor (xP (dat / 16 % 1000)).2.1.desc).map (fun d => d.parameters.length + 1) = some (dat % 16) ∧ (xP (dat / 16 % 1000)).2.2.2.2.2.2 = []
def xlkI (own : String) (k dat : Nat) : Prop := (xP (dat / 16 % 1000)).2.1.name = "<init>" ∧ (Cond.methodLink own k (xP (dat / 16 % 1000)).2.1 ∈ xWS ∨ Cond.methodLinkNest own k (xP (dat / 16 % 1000)).2.1 xhost ∈ xWN) ∧ Cond.instanceMethod (xP (dat / 16 % 1000)).2.1 ∈ xWS ∧ (xP (dat / 16 % 1000)).2.2.2.2.1 = none ∧ (parseMethodDescriptor (xP (dat / 16 % 1000)).2.1.desc).map (fun d => d.parameters.length + 1) = some (dat % 16) ∧ (xP (dat / 16 % 1000)).2.2.2.2.2.2 = []
def xexN : List String := ["java/lang/IllegalArgumentException", "java/lang/IllegalStateException", "java/lang/IndexOutOfBoundsException"]
def xsup : List String := ["java/lang/RuntimeException", "java/lang/Exception"]
def xst1w : Cond := .isRef (.static Bundle.tN "UNASSIGNED_STACK" Bundle.steD)
def xst2w : Cond := .isRef (.static Bundle.tN "SUPPRESSED_SENTINEL" Bundle.listD)
/-- new; dup; ldc; invokespecial; athrow: what the tables have for it -/
def xThr (M : xM) (pc ix dat : Nat) : Prop := ∃ (X : String) (sx : Nat) (tx : String) (ic : Nat), xexN[dat - 100]? = some X ∧ decode M.2.2.1 (pc + 3) = .ok (.dup, 1) ∧ decode M.2.2.1 (pc + 4) = .ok (.ldc sx, 2) ∧ decode M.2.2.1 (pc + 6) = .ok (.invokespecial ic, 3) ∧ decode M.2.2.1 (pc + 9) = .ok (.athrow, 1) ∧
  Cond.classLink M.1 ix X ∈ xWS ∧ Cond.instantiable X 6 ∈ xWS ∧ Cond.initialized X ∈ xWS ∧ Cond.stringRef M.1 sx tx ∈ lw_tbl ∧ (∀ w ∈ Bundle.ownAtoms M.1 ic X xsup, w ∈ lw_tbl ∨ w = xst1w ∨ w = xst2w) ∧ M.2.2.2.2.2.2 = []
/-- what the tables have for an instruction that goes on by itself -/
def xOK (M : xM) (pc : Nat) (i : xC) : Prop := decode M.2.2.1 pc = .ok (i.1, xln i.1 i.2.1) ∧ match i.1 with
  | .bipush n => (Int8.ofInt n).toInt32 = Int32.ofInt n
  | .sipush n => (Int16.ofInt n).toInt32 = Int32.ofInt n
  | .ldc k => Cond.constant M.1 k (Int32.ofNat i.2.2) ∈ xWS
  | .ldc_w k => Cond.constant M.1 k (Int32.ofNat i.2.2) ∈ xWS
  | .ldc2_w k => Cond.constantLong M.1 k (Int64.ofNat i.2.2) ∈ xWS
  | .goto off => (pc : Int) + off = (i.2.2 : Int)
  | .ifCond _ off => (pc : Int) + off = (i.2.2 : Int)
  | .if_icmp _ off => (pc : Int) + off = (i.2.2 : Int)
  | .tableswitch dflt lo hi offs => 0 ≤ (pc : Int) + dflt ∧ (∀ o ∈ offs.toList, 0 ≤ (pc : Int) + o) ∧ hi - lo < offs.size
  | .lookupswitch dflt ps => (ps.toList.zip (ps.toList.drop 1)).all (fun (a, next) => a.1 < next.1) = true ∧ 0 ≤ (pc : Int) + dflt ∧ ∀ o ∈ ps.toList, 0 ≤ (pc : Int) + o.2
  | .getfield k => xfl M.1 k i.2.2
  | .putfield k => xfl M.1 k i.2.2 ∧ ∀ C T N, xcl[i.2.2 / 64]? = some (C, T, N) → ((T (i.2.2 % 64)).2.2.2 = true → M.2.1.name = "<init>" ∧ (T (i.2.2 % 64)).1 = M.1) ∧ ∃ ty, parseFieldDescriptor (T (i.2.2 % 64)).2.2.1 = some ty ∧ (i.2.1 = 0 → ty = .int) ∧ (i.2.1 = 1 → (∃ n, ty = .object n) ∨ ∃ t, ty = .array t)
  | .newarray t => Cond.arrayClass (newarray.typeOf t) ∈ xWS
  | .new k => (100 ≤ i.2.2 → xThr M pc k i.2.2) ∧ (i.2.2 < 100 → ∃ (C : String) (T : u_T) (N : Nat), xcl[i.2.2]? = some (C, T, N) ∧ Cond.classLink M.1 k C ∈ xWS ∧ Cond.instantiable C N ∈ xWS ∧ Cond.initialized C ∈ xWS ∧ ∃ ks, xkinds i.2.2 = some ks ∧ ks.length = N ∧ ∀ j, j < N → (ks[j]? = some none ∧ parseFieldDescriptor (T j).2.2.1 = some .int) ∨ (ks[j]? = some (some .null) ∧ ∃ ty, parseFieldDescriptor (T j).2.2.1 = some ty ∧ defaultValue ty = .null))
  | .invokestatic k => if i.2.2 = 14421 then Cond.methodLink M.1 k arraycopyName ∈ xWS else xlkS M.1 k i.2.2
  | .invokevirtual k => xlkV M.1 k i.2.2
  | .invokespecial k => if i.2.2 = 14401 then Cond.methodLink M.1 k Lib.objectInit ∈ xWS else xlkI M.1 k i.2.2
  | .ireturn => M.2.2.2.2.1 = if i.2.2 = 0 then some .int else some .boolean
  | .lreturn => M.2.2.2.2.1 = some .long
  | .return_ => M.2.2.2.2.1 = none
  | _ => True
abbrev xtys (dA : Nat → ClassId) : List (ClassId × FieldType) := [(dA 0, .int), (dA 1, .byte), (dA 2, .boolean), (dA 3, .long)]
/-- what does not change over the whole run: the state at the law's start, the script's cell, its length, its numbers -/
abbrev xP0 : Type := State × Nat × Nat × (Nat → Int32)
/-- what the walked method's frame stands on -/
def xCtx (M : xM) (d : Nat) (p : Program) (l : Launch) (R : Room) (s : State) (m : MethodId) (args : Array Value) (meth : Method) (c : Code) (D : va_G) (dA : Nat → ClassId) (A : Nat → Prop) (E : xP0) : Prop :=
  p.tables.exec = Jvm.exec ∧ c.code = M.2.2.1 ∧ c.maxLocals = M.2.2.2.1 ∧ s.vm.findClass M.1 = some m.cls ∧ (∀ w ∈ xWS, w.before args s = true) ∧ va_K D xcl (xtys dA) s ∧ (∀ q, s.heap.size ≤ q → A q) ∧
  (M.2.1.name = "<init>" → meth.name = "<init>") ∧ d ≤ R.frames ∧ d * 35 ≤ R.locals ∧ (∀ pc i, xat M.2.2.2.2.2.1 pc = some i → xOK M pc i) ∧
  va_X E.2.1 E.2.2.1 E.2.2.2 s s.heap ∧ E.2.1 < E.1.heap.size ∧ E.1.heap.size ≤ s.heap.size ∧ (∀ q, q < E.1.heap.size → s.heap[q]? = E.1.heap[q]?) ∧ (∀ q, A q → E.1.heap.size ≤ q) ∧ E.1.WarmedH s.vm ∧
  (M.2.2.2.2.2.2 ≠ [] → c.exceptionTable.toList.map (fun h => (h.startPc, h.endPc, h.handlerPc, h.catchType)) = M.2.2.2.2.2.2.map fun h => (h.1, h.2.1, h.2.2.1, h.2.2.2.1))
/-- the references that the shapes hold are places of cells -/
def xwG (G : List xG) : Prop := ∀ (k : Nat) (o : Nat × List (Option Value)) (j v : Nat), G[k]? = some (.inl o) → o.2[j]? = some (some (.ref v)) → v < G.length
/-- the heap holds the state -/
def xRel (D : va_G) (dA : Nat → ClassId) (A : Nat → Prop) (s : State) (R : Room) (n0 : Nat) (ad0 : Nat → Nat) (E : xP0) (ad : Nat → Nat) (S : xS) (H : Heap) (locs : List Loc) (cells slots : Nat) : Prop :=
  va_P D xcl (xW ad dA S) H ∧ va_D A (xW ad dA S) ∧ va_S A s.heap H locs ∧ cells + S.2.2.2.2.1 = R.cells ∧ slots + S.2.2.2.2.2 = R.slots ∧ xwG S.1 ∧ S.1.length ≤ 1000 ∧ n0 ≤ S.1.length ∧
  S.2.2.2.1 = E.2.2.1 ∧ S.2.1 xscr = E.2.2.2 ∧ ad xscr = E.2.1 ∧ ∀ k, k < n0 → ad k = ad0 k
def xGood (M : xM) (p : Program) (l : Launch) (e : Env) (R : Room) (s : State) (m : MethodId) (args : Array Value) (below : List Frame) (meth : Method) (c : Code) (D : va_G) (dA : Nat → ClassId) (A : Nat → Prop) (n0 : Nat) (ad0 : Nat → Nat) (E : xP0) (Q : State → Prop) (f : xF) : Prop :=
  ∀ (ad : Nat → Nat) (H : Heap) (locs : List Loc) (cells slots : Nat) (lsC : Array Slot), xRel D dA A s R n0 ad0 E ad f.2.2.2 H locs cells slots → xlv ad lsC M.2.2.2.1 f.2.1 →
    W p l e R s m args below meth c H locs cells slots Q (F0 m f.1 lsC (f.2.2.1.map (xv ad)))
theorem xi1_inv {st : List Value} {f : Int32 → List Value → Option xR} {o : xR} (h : xi1 st f = some o) : ∃ x r, st = .int x :: r ∧ f x r = some o := by
  unfold xi1 at h
  split at h
  · exact ⟨_, _, rfl, h⟩
  · cases h
theorem xi2_inv {st : List Value} {f : Int32 → Int32 → List Value → Option xR} {o : xR} (h : xi2 st f = some o) : ∃ x y r, st = .int y :: .int x :: r ∧ f x y r = some o := by
  unfold xi2 at h
  split at h
  · exact ⟨_, _, _, rfl, h⟩
  · cases h
theorem xj1_inv {st : List Value} {f : Int64 → List Value → Option xR} {o : xR} (h : xj1 st f = some o) : ∃ x r, st = .long x :: r ∧ f x r = some o := by
  unfold xj1 at h
  split at h
  · exact ⟨_, _, rfl, h⟩
  · cases h
theorem xj2_inv {st : List Value} {f : Int64 → Int64 → List Value → Option xR} {o : xR} (h : xj2 st f = some o) : ∃ x y r, st = .long y :: .long x :: r ∧ f x y r = some o := by
  unfold xj2 at h
  split at h
  · exact ⟨_, _, _, rfl, h⟩
  · cases h
theorem xji_inv {st : List Value} {f : Int64 → Int32 → List Value → Option xR} {o : xR} (h : xji st f = some o) : ∃ x y r, st = .int y :: .long x :: r ∧ f x y r = some o := by
  unfold xji at h
  split at h
  · exact ⟨_, _, _, rfl, h⟩
  · cases h
theorem xr1_inv {st : List Value} {f : Nat → List Value → Option xR} {o : xR} (h : xr1 st f = some o) : ∃ x r, st = .ref x :: r ∧ f x r = some o := by
  unfold xr1 at h
  split at h
  · exact ⟨_, _, rfl, h⟩
  · cases h
theorem xir_inv {st : List Value} {f : Int32 → Nat → List Value → Option xR} {o : xR} (h : xir st f = some o) : ∃ j k r, st = .int j :: .ref k :: r ∧ f j k r = some o := by
  unfold xir at h
  split at h
  · exact ⟨_, _, _, rfl, h⟩
  · cases h
theorem xiir_inv {st : List Value} {f : Int32 → Int32 → Nat → List Value → Option xR} {o : xR} (h : xiir st f = some o) : ∃ x j k r, st = .int x :: .int j :: .ref k :: r ∧ f x j k r = some o := by
  unfold xiir at h
  split at h
  · exact ⟨_, _, _, _, rfl, h⟩
  · cases h
theorem xjir_inv {st : List Value} {f : Int64 → Int32 → Nat → List Value → Option xR} {o : xR} (h : xjir st f = some o) : ∃ x j k r, st = .long x :: .int j :: .ref k :: r ∧ f x j k r = some o := by
  unfold xjir at h
  split at h
  · exact ⟨_, _, _, _, rfl, h⟩
  · cases h
theorem xli_inv {ls : List (Option Value)} {k : Nat} {f : Int32 → Option xR} {o : xR} (h : xli ls k f = some o) : ∃ x, ls[k]? = some (some (.int x)) ∧ f x = some o := by
  unfold xli at h
  split at h
  · exact ⟨_, by assumption, h⟩
  · cases h
theorem xlj_inv {ls : List (Option Value)} {k : Nat} {f : Int64 → Option xR} {o : xR} (h : xlj ls k f = some o) : ∃ x, ls[k]? = some (some (.long x)) ∧ f x = some o := by
  unfold xlj at h
  split at h
  · exact ⟨_, by assumption, h⟩
  · cases h
theorem xlr_inv {ls : List (Option Value)} {k : Nat} {f : Nat → Option xR} {o : xR} (h : xlr ls k f = some o) : ∃ x, ls[k]? = some (some (.ref x)) ∧ f x = some o := by
  unfold xlr at h
  split at h
  · exact ⟨_, by assumption, h⟩
  · cases h
theorem xst1_inv {ls : List (Option Value)} {k : Nat} {v : Value} {f : List (Option Value) → Option xR} {o : xR} (h : xst1 ls k v f = some o) : xfree ls k = true ∧ k < ls.length ∧ f (ls.set k (some v)) = some o := by
  unfold xst1 at h
  cases hc : (xfree ls k && Nat.blt k ls.length) with
  | false => rw [hc] at h; cases h
  | true =>
    rw [hc] at h
    rw [Bool.and_eq_true] at hc
    exact ⟨hc.1, Nat.blt_eq.mp hc.2, h⟩
theorem xst2_inv {ls : List (Option Value)} {k : Nat} {v : Value} {f : List (Option Value) → Option xR} {o : xR} (h : xst2 ls k v f = some o) : xfree ls k = true ∧ k + 1 < ls.length ∧ f ((ls.set k (some v)).set (k + 1) none) = some o := by
  unfold xst2 at h
  cases hc : (xfree ls k && Nat.blt (k + 1) ls.length) with
  | false => rw [hc] at h; cases h
  | true =>
    rw [hc] at h
    rw [Bool.and_eq_true] at hc
    exact ⟨hc.1, Nat.blt_eq.mp hc.2, h⟩
theorem xbeq {a b : Nat} {α : Type} {f : Option α} {o : α} (h : (bif Nat.beq a b then f else none) = some o) : a = b ∧ f = some o := by
  cases hc : Nat.beq a b with
  | false => rw [hc] at h; cases h
  | true => rw [hc] at h; exact ⟨Nat.eq_of_beq_eq_true hc, h⟩
theorem xnb {a b : Nat} {α : Type} {f : Option α} {o : α} (h : (bif !(Nat.beq a b) then none else f) = some o) : a = b ∧ f = some o := by
  cases hc : Nat.beq a b with
  | false => rw [hc] at h; cases h
  | true => rw [hc] at h; exact ⟨Nat.eq_of_beq_eq_true hc, h⟩
theorem xarr_inv {G : List xG} {k t : Nat} {f : Nat → Option xR} {o : xR} (h : xarr G k t f = some o) : ∃ n, G[k]? = some (.inr (t, n)) ∧ f n = some o := by
  unfold xarr at h
  split at h
  · obtain ⟨rfl, h'⟩ := xbeq h
    clear h
    have h := h'
    exact ⟨_, by assumption, h⟩
  · cases h
theorem xarrB_inv {G : List xG} {k : Nat} {f : Bool → Nat → Option xR} {o : xR} (h : xarrB G k f = some o) : (∃ n, G[k]? = some (.inr (1, n)) ∧ f false n = some o) ∨ ∃ n, G[k]? = some (.inr (2, n)) ∧ f true n = some o := by
  unfold xarrB at h
  split at h
  · rename_i t n hg
    cases hc : Nat.beq t 1 with
    | true =>
      rw [hc] at h
      cases Nat.eq_of_beq_eq_true hc
      exact Or.inl ⟨n, hg, h⟩
    | false =>
      rw [hc] at h
      obtain ⟨rfl, h'⟩ := xbeq h
      clear h
      have h := h'
      exact Or.inr ⟨n, hg, h⟩
  · cases h
theorem xobj_inv {G : List xG} {k ci : Nat} {f : List (Option Value) → Option xR} {o : xR} (h : xobj G k ci f = some o) : ∃ ks, G[k]? = some (.inl (ci, ks)) ∧ f ks = some o := by
  unfold xobj at h
  split at h
  · obtain ⟨rfl, h'⟩ := xbeq h
    clear h
    have h := h'
    exact ⟨_, by assumption, h⟩
  · cases h
theorem xin_inv {i : Int32} {n : Nat} {f : Option xR} {o : xR} (h : xin i n f = some o) : vp_in i n ∧ f = some o := by
  unfold xin at h
  split at h
  · cases h
  · exact ⟨by assumption, h⟩
theorem xif_inv {c : Prop} {_ : Decidable c} {f : Option xR} {o : xR} (h : (if c then none else f) = some o) : ¬ c ∧ f = some o := by
  split at h
  · cases h
  · exact ⟨by assumption, h⟩
def xplain : Instr → Bool
  | .getfield _ | .putfield _ | .iaload | .iastore | .baload | .bastore | .laload | .lastore | .arraylength | .newarray _ | .new _ | .invokestatic _ | .invokevirtual _ | .invokespecial _ => false
  | _ => true
def xisarr : Instr → Bool
  | .iaload | .iastore | .baload | .bastore | .laload | .lastore | .arraylength => true
  | _ => false
section XN
variable {M : xM} {d : Nat} {p : Program} {l : Launch} {e : Env} {R : Room} {s : State} {m : MethodId} {args : Array Value} {below : List Frame} {meth : Method} {c : Code} {D : va_G} {dA : Nat → ClassId} {A : Nat → Prop} {n0 : Nat} {ad0 : Nat → Nat} {E : xP0} {Q : State → Prop}
variable {pc len dat : Nat} {ls : List (Option Value)} {st : List Value} {S : xS} {f' : xF}
set_option maxHeartbeats 4000000 in
set_option maxRecDepth 100000 in
/-- constants, locals, arithmetic, branches -/
theorem xnext_1 {ins : Instr} (X : xCtx M d p l R s m args meth c D dA A E) (hok : xOK M pc (ins, len, dat)) (h : xstep d (ins, len, dat) pc ls st S = some (.inl f'))
    (hins : xplain ins = true)
    (k : xGood M p l e R s m args below meth c D dA A n0 ad0 E Q f') : xGood M p l e R s m args below meth c D dA A n0 ad0 E Q (pc, ls, st, S) := by
  have X0 := X
  obtain ⟨hx, hb, hml, hown, hts, hK, hA, hini, hfr, hlo, -⟩ := X
  obtain ⟨hd, hw⟩ := hok
  intro ad H locs cells slots lsC hR hL
  cases ins with
  | iconst n =>
    cases h
    exact lv_iconst hx hb hd rfl (k ad H locs cells slots lsC hR hL)
  | bipush n =>
    cases h
    exact lv_bipush hx hb hd hw (k ad H locs cells slots lsC hR hL)
  | sipush n =>
    cases h
    exact lv_sipush hx hb hd hw (k ad H locs cells slots lsC hR hL)
  | ldc j =>
    cases h
    exact lv_ldc hx hb hown (hts _ hw) hd (k ad H locs cells slots lsC hR hL)
  | ldc_w j =>
    cases h
    exact lv_ldcw hx hb hown (hts _ hw) hd (k ad H locs cells slots lsC hR hL)
  | ldc2_w j =>
    cases h
    exact lv_ldc2 hx hb hown (hts _ hw) hd (k ad H locs cells slots lsC hR hL)
  | lconst n =>
    cases h
    exact lv_lconst hx hb hd rfl (k ad H locs cells slots lsC hR hL)
  | iload j =>
    obtain ⟨x, hv, h⟩ := xli_inv h
    cases h
    exact lv_iload hx hb hd (hL.at hv) (k ad H locs cells slots lsC hR hL)
  | iload_n j =>
    obtain ⟨x, hv, h⟩ := xli_inv h
    cases h
    exact lv_iload_n hx hb hd rfl (hL.at hv) (k ad H locs cells slots lsC hR hL)
  | lload j =>
    obtain ⟨x, hv, h⟩ := xlj_inv h
    cases h
    exact lv_lload hx hb hd (hL.at hv) (k ad H locs cells slots lsC hR hL)
  | lload_n j =>
    obtain ⟨x, hv, h⟩ := xlj_inv h
    cases h
    exact lv_lload_n hx hb hd rfl (hL.at hv) (k ad H locs cells slots lsC hR hL)
  | aload j =>
    obtain ⟨x, hv, h⟩ := xlr_inv h
    cases h
    exact lv_aload hx hb hd (hL.at hv) (k ad H locs cells slots lsC hR hL)
  | aload_n j =>
    obtain ⟨x, hv, h⟩ := xlr_inv h
    cases h
    exact lv_aload_n hx hb hd rfl (hL.at hv) (k ad H locs cells slots lsC hR hL)
  | istore j =>
    obtain ⟨x, r, rfl, h'⟩ := xi1_inv h
    clear h
    have h := h'
    obtain ⟨hf, hlt, h⟩ := xst1_inv h
    cases h
    have hlt : j < M.2.2.2.1 := hL.2.2.1 ▸ hlt
    exact lv_istore hx hb hd hL.has hlt rfl (fun ls' h' => k ad H locs cells slots ls' hR (hL.st1 (v := .int x) hlt hf h'))
  | istore_n j =>
    obtain ⟨x, r, rfl, h'⟩ := xi1_inv h
    clear h
    have h := h'
    obtain ⟨hf, hlt, h⟩ := xst1_inv h
    cases h
    have hlt : j.val < M.2.2.2.1 := hL.2.2.1 ▸ hlt
    exact lv_istore_n hx hb hd rfl hL.has hlt rfl (fun ls' h' => k ad H locs cells slots ls' hR (hL.st1 (v := .int x) hlt hf h'))
  | lstore j =>
    obtain ⟨x, r, rfl, h'⟩ := xj1_inv h
    clear h
    have h := h'
    obtain ⟨hf, hlt, h⟩ := xst2_inv h
    cases h
    have hlt : j + 1 < M.2.2.2.1 := hL.2.2.1 ▸ hlt
    exact lv_lstore hx hb hd hL.has hlt rfl (fun ls' h' => k ad H locs cells slots ls' hR (hL.st2 (v := .long x) hlt hf h'))
  | lstore_n j =>
    obtain ⟨x, r, rfl, h'⟩ := xj1_inv h
    clear h
    have h := h'
    obtain ⟨hf, hlt, h⟩ := xst2_inv h
    cases h
    have hlt : j.val + 1 < M.2.2.2.1 := hL.2.2.1 ▸ hlt
    exact lv_lstore_n hx hb hd rfl hL.has hlt rfl (fun ls' h' => k ad H locs cells slots ls' hR (hL.st2 (v := .long x) hlt hf h'))
  | astore j =>
    obtain ⟨x, r, rfl, h'⟩ := xr1_inv h
    clear h
    have h := h'
    obtain ⟨hf, hlt, h⟩ := xst1_inv h
    cases h
    have hlt : j < M.2.2.2.1 := hL.2.2.1 ▸ hlt
    exact lv_astore hx hb hd hL.has hlt rfl (fun ls' h' => k ad H locs cells slots ls' hR (hL.st1 (v := .ref x) hlt hf h'))
  | astore_n j =>
    obtain ⟨x, r, rfl, h'⟩ := xr1_inv h
    clear h
    have h := h'
    obtain ⟨hf, hlt, h⟩ := xst1_inv h
    cases h
    have hlt : j.val < M.2.2.2.1 := hL.2.2.1 ▸ hlt
    exact lv_astore_n hx hb hd rfl hL.has hlt rfl (fun ls' h' => k ad H locs cells slots ls' hR (hL.st1 (v := .ref x) hlt hf h'))
  | iinc j n =>
    obtain ⟨x, hv, h⟩ := xli_inv h
    obtain ⟨hf, hlt, h⟩ := xst1_inv h
    cases h
    have hlt : j < M.2.2.2.1 := hL.2.2.1 ▸ hlt
    have hmem : (j, Value.int x) ∈ xll ad ls := xll_mem.mpr ⟨_, hv, rfl⟩
    obtain ⟨q, hq⟩ := List.getElem?_of_mem hmem
    exact lv_iinc hx hb hd hL.has hq rfl hlt rfl (fun ls' h' => k ad H locs cells slots ls' hR (hL.st1 (v := .int (x + Int32.ofInt n)) hlt hf h'))
  | iadd =>
    obtain ⟨x, y, r, rfl, h'⟩ := xi2_inv h
    clear h
    have h := h'
    cases h
    exact lv_iadd (x := x) (y := y) hx hb hd (k ad H locs cells slots lsC hR hL)
  | isub =>
    obtain ⟨x, y, r, rfl, h'⟩ := xi2_inv h
    clear h
    have h := h'
    cases h
    exact lv_isub (x := x) (y := y) hx hb hd (k ad H locs cells slots lsC hR hL)
  | imul =>
    obtain ⟨x, y, r, rfl, h'⟩ := xi2_inv h
    clear h
    have h := h'
    cases h
    exact lv_imul (x := x) (y := y) hx hb hd (k ad H locs cells slots lsC hR hL)
  | iand =>
    obtain ⟨x, y, r, rfl, h'⟩ := xi2_inv h
    clear h
    have h := h'
    cases h
    exact lv_iand (x := x) (y := y) hx hb hd (k ad H locs cells slots lsC hR hL)
  | ior =>
    obtain ⟨x, y, r, rfl, h'⟩ := xi2_inv h
    clear h
    have h := h'
    cases h
    exact lv_ior (x := x) (y := y) hx hb hd (k ad H locs cells slots lsC hR hL)
  | ixor =>
    obtain ⟨x, y, r, rfl, h'⟩ := xi2_inv h
    clear h
    have h := h'
    cases h
    exact lv_ixor (x := x) (y := y) hx hb hd (k ad H locs cells slots lsC hR hL)
  | idiv =>
    obtain ⟨x, y, r, rfl, h'⟩ := xi2_inv h
    clear h
    have h := h'
    obtain ⟨hne, h⟩ := xif_inv h
    cases h
    exact lv_idiv (x := x) (y := y) hx hb hd hne (k ad H locs cells slots lsC hR hL)
  | irem =>
    obtain ⟨x, y, r, rfl, h'⟩ := xi2_inv h
    clear h
    have h := h'
    obtain ⟨hne, h⟩ := xif_inv h
    cases h
    exact lv_irem (x := x) (y := y) hx hb hd hne (k ad H locs cells slots lsC hR hL)
  | ineg =>
    obtain ⟨x, r, rfl, h'⟩ := xi1_inv h
    clear h
    have h := h'
    cases h
    exact lv_ineg (x := x) hx hb hd (k ad H locs cells slots lsC hR hL)
  | ishl =>
    obtain ⟨x, y, r, rfl, h'⟩ := xi2_inv h
    clear h
    have h := h'
    cases h
    exact lv_ishl (x := x) (y := y) hx hb hd (k ad H locs cells slots lsC hR hL)
  | ishr =>
    obtain ⟨x, y, r, rfl, h'⟩ := xi2_inv h
    clear h
    have h := h'
    cases h
    exact lv_ishr (x := x) (y := y) hx hb hd (k ad H locs cells slots lsC hR hL)
  | iushr =>
    obtain ⟨x, y, r, rfl, h'⟩ := xi2_inv h
    clear h
    have h := h'
    cases h
    exact lv_iushr (x := x) (y := y) hx hb hd rfl (k ad H locs cells slots lsC hR hL)
  | ladd =>
    obtain ⟨x, y, r, rfl, h'⟩ := xj2_inv h
    clear h
    have h := h'
    cases h
    exact lv_ladd (x := x) (y := y) hx hb hd (k ad H locs cells slots lsC hR hL)
  | land =>
    obtain ⟨x, y, r, rfl, h'⟩ := xj2_inv h
    clear h
    have h := h'
    cases h
    exact lv_land (x := x) (y := y) hx hb hd (k ad H locs cells slots lsC hR hL)
  | lor =>
    obtain ⟨x, y, r, rfl, h'⟩ := xj2_inv h
    clear h
    have h := h'
    cases h
    exact lv_lor (x := x) (y := y) hx hb hd (k ad H locs cells slots lsC hR hL)
  | ldiv =>
    obtain ⟨x, y, r, rfl, h'⟩ := xj2_inv h
    clear h
    have h := h'
    obtain ⟨hne, h⟩ := xif_inv h
    cases h
    exact lv_ldiv (x := x) (y := y) hx hb hd hne (k ad H locs cells slots lsC hR hL)
  | lrem =>
    obtain ⟨x, y, r, rfl, h'⟩ := xj2_inv h
    clear h
    have h := h'
    obtain ⟨hne, h⟩ := xif_inv h
    cases h
    exact lv_lrem (x := x) (y := y) hx hb hd hne (k ad H locs cells slots lsC hR hL)
  | lcmp =>
    obtain ⟨x, y, r, rfl, h'⟩ := xj2_inv h
    clear h
    have h := h'
    cases h
    exact W.lcmp (x := x) (y := y) hx hb hd (k ad H locs cells slots lsC hR hL)
  | lshl =>
    obtain ⟨x, y, r, rfl, h'⟩ := xji_inv h
    clear h
    have h := h'
    cases h
    exact lv_lshl (x := x) (y := y) hx hb hd rfl (k ad H locs cells slots lsC hR hL)
  | lshr =>
    obtain ⟨x, y, r, rfl, h'⟩ := xji_inv h
    clear h
    have h := h'
    cases h
    exact lv_lshr (x := x) (y := y) hx hb hd rfl (k ad H locs cells slots lsC hR hL)
  | lushr =>
    obtain ⟨x, y, r, rfl, h'⟩ := xji_inv h
    clear h
    have h := h'
    cases h
    exact lv_lushr (x := x) (y := y) hx hb hd rfl (k ad H locs cells slots lsC hR hL)
  | i2l =>
    obtain ⟨x, r, rfl, h'⟩ := xi1_inv h
    clear h
    have h := h'
    cases h
    exact lv_i2l (x := x) hx hb hd rfl (k ad H locs cells slots lsC hR hL)
  | l2i =>
    obtain ⟨x, r, rfl, h'⟩ := xj1_inv h
    clear h
    have h := h'
    cases h
    exact lv_l2i (x := x) hx hb hd rfl (k ad H locs cells slots lsC hR hL)
  | i2b =>
    obtain ⟨x, r, rfl, h'⟩ := xi1_inv h
    clear h
    have h := h'
    cases h
    exact lv_i2b (x := x) hx hb hd rfl (k ad H locs cells slots lsC hR hL)
  | i2s =>
    obtain ⟨x, r, rfl, h'⟩ := xi1_inv h
    clear h
    have h := h'
    cases h
    exact lv_i2s (x := x) hx hb hd rfl (k ad H locs cells slots lsC hR hL)
  | dup =>
    dsimp only [xstep] at h
    split at h
    · cases h
      exact lv_dup (va := .int _) hx hb hd rfl (k ad H locs cells slots lsC hR hL)
    · cases h
      exact lv_dup (va := .ref _) hx hb hd rfl (k ad H locs cells slots lsC hR hL)
    · cases h
  | pop =>
    obtain ⟨x, r, rfl, h'⟩ := xi1_inv h
    clear h
    have h := h'
    cases h
    exact lv_pop (va := .int x) hx hb hd rfl (k ad H locs cells slots lsC hR hL)
  | goto off =>
    cases h
    exact lv_goto hx hb hd hw (k ad H locs cells slots lsC hR hL)
  | ifCond cnd off =>
    have q := k ad H locs cells slots lsC
    cases cnd with
    | eq =>
      obtain ⟨x, r, rfl, h'⟩ := xi1_inv h
      clear h
      have h := h'
      cases h
      dsimp only at q
      exact lv_if_eq (x := x) hx hb hd hw (fun hc => by rw [if_pos hc] at q; exact q hR hL) (fun hc => by rw [if_neg hc] at q; exact q hR hL)
    | ne =>
      obtain ⟨x, r, rfl, h'⟩ := xi1_inv h
      clear h
      have h := h'
      cases h
      dsimp only at q
      exact lv_if_ne (x := x) hx hb hd hw (fun hc => by rw [if_neg hc] at q; exact q hR hL) (fun hc => by rw [if_pos hc] at q; exact q hR hL)
    | lt =>
      obtain ⟨x, r, rfl, h'⟩ := xi1_inv h
      clear h
      have h := h'
      cases h
      dsimp only at q
      exact lv_if_lt (x := x) hx hb hd hw (fun hc => by rw [if_pos hc] at q; exact q hR hL) (fun hc => by rw [if_neg hc] at q; exact q hR hL)
    | ge =>
      obtain ⟨x, r, rfl, h'⟩ := xi1_inv h
      clear h
      have h := h'
      cases h
      dsimp only at q
      exact lv_if_ge (x := x) hx hb hd hw (fun hc => by rw [if_pos hc] at q; exact q hR hL) (fun hc => by rw [if_neg hc] at q; exact q hR hL)
    | gt =>
      obtain ⟨x, r, rfl, h'⟩ := xi1_inv h
      clear h
      have h := h'
      cases h
      dsimp only at q
      exact lv_if_gt (x := x) hx hb hd hw (fun hc => by rw [if_pos hc] at q; exact q hR hL) (fun hc => by rw [if_neg hc] at q; exact q hR hL)
    | le =>
      obtain ⟨x, r, rfl, h'⟩ := xi1_inv h
      clear h
      have h := h'
      cases h
      dsimp only at q
      exact lv_if_le (x := x) hx hb hd hw (fun hc => by rw [if_pos hc] at q; exact q hR hL) (fun hc => by rw [if_neg hc] at q; exact q hR hL)
  | if_icmp cnd off =>
    have q := k ad H locs cells slots lsC
    cases cnd with
    | eq =>
      obtain ⟨x, y, r, rfl, h'⟩ := xi2_inv h
      clear h
      have h := h'
      cases h
      dsimp only at q
      exact lv_icmp_eq (x := x) (y := y) hx hb hd hw (fun hc => by rw [if_pos hc] at q; exact q hR hL) (fun hc => by rw [if_neg hc] at q; exact q hR hL)
    | ne =>
      obtain ⟨x, y, r, rfl, h'⟩ := xi2_inv h
      clear h
      have h := h'
      cases h
      dsimp only at q
      exact lv_icmp_ne (x := x) (y := y) hx hb hd hw (fun hc => by rw [if_neg hc] at q; exact q hR hL) (fun hc => by rw [if_pos hc] at q; exact q hR hL)
    | lt =>
      obtain ⟨x, y, r, rfl, h'⟩ := xi2_inv h
      clear h
      have h := h'
      cases h
      dsimp only at q
      exact lv_icmp_lt (x := x) (y := y) hx hb hd hw (fun hc => by rw [if_pos hc] at q; exact q hR hL) (fun hc => by rw [if_neg hc] at q; exact q hR hL)
    | ge =>
      obtain ⟨x, y, r, rfl, h'⟩ := xi2_inv h
      clear h
      have h := h'
      cases h
      dsimp only at q
      exact lv_icmp_ge (x := x) (y := y) hx hb hd hw (fun hc => by rw [if_pos hc] at q; exact q hR hL) (fun hc => by rw [if_neg hc] at q; exact q hR hL)
    | gt =>
      obtain ⟨x, y, r, rfl, h'⟩ := xi2_inv h
      clear h
      have h := h'
      cases h
      dsimp only at q
      exact lv_icmp_gt (x := x) (y := y) hx hb hd hw (fun hc => by rw [if_pos hc] at q; exact q hR hL) (fun hc => by rw [if_neg hc] at q; exact q hR hL)
    | le =>
      obtain ⟨x, y, r, rfl, h'⟩ := xi2_inv h
      clear h
      have h := h'
      cases h
      dsimp only at q
      exact lv_icmp_le (x := x) (y := y) hx hb hd hw (fun hc => by rw [if_pos hc] at q; exact q hR hL) (fun hc => by rw [if_neg hc] at q; exact q hR hL)
  | tableswitch dflt lo hi offs =>
    obtain ⟨x, r, rfl, h'⟩ := xi1_inv h
    clear h
    have h := h'
    cases h
    have q := k ad H locs cells slots lsC hR hL
    obtain ⟨h1, h2, h3⟩ := hw
    by_cases hc : x.toInt < lo ∨ hi < x.toInt
    · have e1 : xtsw pc dflt lo hi offs x = ((pc : Int) + dflt).toNat := if_pos hc
      dsimp only at q
      rw [e1] at q
      exact lv_tableOut hx hb hd hc (by omega) q
    · have e1 : xtsw pc dflt lo hi offs x = ((pc : Int) + offs.getD (x.toInt - lo).toNat 0).toNat := if_neg hc
      dsimp only at q
      rw [e1] at q
      have hlt : (x.toInt - lo).toNat < offs.size := by omega
      have e2 : offs[(x.toInt - lo).toNat]? = some (offs.getD (x.toInt - lo).toNat 0) := by
        rw [Array.getD_eq_getD_getElem?, Array.getElem?_eq_getElem hlt]; rfl
      have e3 : 0 ≤ (pc : Int) + offs.getD (x.toInt - lo).toNat 0 := h2 _ (Array.mem_toList_iff.mpr (Array.mem_of_getElem? e2))
      exact lv_tableIn hx hb hd (by omega) (by omega) e2 (by omega) q
  | lookupswitch dflt ps =>
    obtain ⟨x, r, rfl, h'⟩ := xi1_inv h
    clear h
    have h := h'
    cases h
    have q := k ad H locs cells slots lsC hR hL
    obtain ⟨h1, h2, h3⟩ := hw
    have e3 : 0 ≤ (pc : Int) + Op.lookupswitch.offset ps.toList dflt x.toInt := by
      have key : ∀ (l : List (Int × Int)), (∀ o ∈ l, 0 ≤ (pc : Int) + o.2) → 0 ≤ (pc : Int) + Op.lookupswitch.offset l dflt x.toInt := by
        intro l
        induction l with
        | nil => intro _; exact h2
        | cons a l ih =>
          intro hl
          rw [show a = (a.1, a.2) from rfl, Op.lookupswitch.offset_cons]
          split
          · exact hl a List.mem_cons_self
          · exact ih (fun o ho => hl o (List.mem_cons_of_mem _ ho))
      exact key _ h3
    have e4 : (pc : Int) + Op.lookupswitch.offset ps.toList dflt x.toInt = ((xlsw pc dflt ps x : Nat) : Int) := by
      unfold xlsw
      omega
    exact lv_lookup hx hb hd h1 rfl e4 q
  | ireturn =>
    exfalso
    simp only [xstep, Bool.cond_eq_ite] at h
    repeat' split at h
    all_goals cases h
  | _ => first | (exact absurd hins Bool.false_ne_true) | (exact absurd h (by intro h; cases h)) | (dsimp only [xstep] at h; split at h <;> cases h)
theorem xscript {ad : Nat → Nat} {H : Heap} {locs : List Loc} {cells slots : Nat} (X : xCtx M d p l R s m args meth c D dA A E) (hR : xRel D dA A s R n0 ad0 E ad S H locs cells slots) : va_X (ad xscr) S.2.2.2.1 (S.2.1 xscr) s s.heap ∧ ad xscr < s.heap.size ∧ ¬ A (ad xscr) := by
  obtain ⟨-, -, -, -, -, -, -, -, -, -, -, h1, h2, h3, -, h5, -⟩ := X
  obtain ⟨-, -, -, -, -, -, -, -, e1, e2, e3, -⟩ := hR
  rw [e1, e2, e3]
  exact ⟨h1, by omega, fun z => by have := h5 _ z; omega⟩
/-- a cell's ints are written -/
theorem xRel.put {ad : Nat → Nat} {H H1 : Heap} {locs locs1 : List Loc} {cells slots kc : Nat} {q : xG} {en : va_E} {h' : xI} {g' : xJ} {G' : List xG} (hR : xRel D dA A s R n0 ad0 E ad S H locs cells slots)
    (hl : G'.length = S.1.length) (hk : G'[kc]? = some q) (he : xE ad dA h' g' kc q = en) (hkl : kc < 1000)
    (ho : ∀ j, j ≠ kc → G'[j]? = S.1[j]? ∧ h' j = S.2.1 j ∧ g' j = S.2.2.1 j) (hw : xwG G')
    (hP : va_P D xcl ((xW ad dA S).set kc (ad kc, en)) H1) (hD : va_D A ((xW ad dA S).set kc (ad kc, en))) (hS : va_S A s.heap H1 locs1) : xRel D dA A s R n0 ad0 E ad (G', h', g', S.2.2.2) H1 locs1 cells slots := by
  have e1 : (xW ad dA S).set kc (ad kc, en) = xW ad dA (G', h', g', S.2.2.2) := xW_set (S' := (G', h', g', S.2.2.2)) hl hk he ho
  rw [e1] at hP hD
  obtain ⟨-, -, -, h4, h5, -, h7, h8, h9, h10, h11, h12⟩ := hR
  refine ⟨hP, hD, hS, h4, h5, hw, ?_, ?_, h9, ?_, h11, h12⟩
  · show G'.length ≤ 1000
    rw [hl]; exact h7
  · show n0 ≤ G'.length
    rw [hl]; exact h8
  · show h' xscr = _
    rw [(ho xscr (by show (1000 : Nat) ≠ kc; omega)).2.1]
    exact h10
set_option maxHeartbeats 4000000 in
set_option maxRecDepth 100000 in
/-- fields -/
theorem xnext_get {ix : Nat} (X : xCtx M d p l R s m args meth c D dA A E) (hok : xOK M pc (.getfield ix, len, dat)) (h : xstep d (.getfield ix, len, dat) pc ls st S = some (.inl f'))
    (k : xGood M p l e R s m args below meth c D dA A n0 ad0 E Q f') : xGood M p l e R s m args below meth c D dA A n0 ad0 E Q (pc, ls, st, S) := by
  have X0 := X
  obtain ⟨hx, hb, hml, hown, hts, hK, hA, hini, hfr, hlo, -⟩ := X
  obtain ⟨hd, C, T, N, hc, hN, hlk⟩ := hok
  intro ad H locs cells slots lsC hR hL
  obtain ⟨kc, r, rfl, h'⟩ := xr1_inv h
  clear h
  have h := h'
  obtain ⟨ks, hg, h⟩ := xobj_inv h
  dsimp only at hc hN hlk hg h
  split at h
  · rename_i hj
    cases h
    exact va_get (v := .int (S.2.1 kc (dat % 64))) hx hb hts (xcl_ws hc) hown hK hR.1 kc (xW_at hg) hc (dat % 64) hN (hts _ hlk) (fun _ h9 => h9) (xfld_at hj) hd (k ad H locs cells slots lsC hR hL)
  · rename_i v hj
    cases h
    exact va_get (v := .ref (ad v)) hx hb hts (xcl_ws hc) hown hK hR.1 kc (xW_at hg) hc (dat % 64) hN (hts _ hlk) (fun _ h9 => h9) (xfld_at hj) hd (k ad H locs cells slots lsC hR hL)
  · cases h
theorem xcl_ty {ci : Nat} {C : String} {T : u_T} {N : Nat} (hc : xcl[ci]? = some (C, T, N)) : ∀ k, k < N → parseFieldDescriptor (T k).2.2.1 = some ((parseFieldDescriptor (T k).2.2.1).getD .int) := by
  intro k hk
  have := xcl_ps hc k hk
  cases hp : parseFieldDescriptor (T k).2.2.1 with
  | none => rw [hp] at this; cases this
  | some t => rfl
set_option maxHeartbeats 4000000 in
set_option maxRecDepth 100000 in
theorem xnext_put {ix : Nat} (X : xCtx M d p l R s m args meth c D dA A E) (hok : xOK M pc (.putfield ix, len, dat)) (h : xstep d (.putfield ix, len, dat) pc ls st S = some (.inl f'))
    (k : xGood M p l e R s m args below meth c D dA A n0 ad0 E Q f') : xGood M p l e R s m args below meth c D dA A n0 ad0 E Q (pc, ls, st, S) := by
  have X0 := X
  obtain ⟨hx, hb, hml, hown, hts, hK, hA, hini, hfr, hlo, -⟩ := X
  obtain ⟨hd, ⟨C, T, N, hc, hN, hlk⟩, hfin⟩ := hok
  intro ad H locs cells slots lsC hR hL
  dsimp only at hc hN hlk hfin
  obtain ⟨hP, hD, hS, h4, h5, hwG, h7, h8, h9, h10, h11, h12⟩ := id hR
  dsimp only [xstep] at h
  split at h
  · rename_i v kc r
    obtain ⟨hlen0, h⟩ := xnb h
    obtain ⟨ks, hg, h⟩ := xobj_inv h
    split at h
    · rename_i hj
      cases h
      obtain ⟨ty, hty, hte⟩ : ∃ ty, parseFieldDescriptor (T (dat % 64)).2.2.1 = some ty ∧ narrow ty (.int v) = .int v ∧ fits ty (.int v) = true := by
        obtain ⟨-, ty, h1, h2, -⟩ := hfin C T N hc
        cases h2 hlen0
        exact ⟨_, h1, rfl, rfl⟩
      have hlen : dat % 64 < (xfld ad S.2.1 kc ks).length := by rw [xfld_len]; exact (List.getElem?_eq_some_iff.mp hj).1
      have fin : ∀ (H1 : Heap) (locs1 : List Loc), va_P D xcl ((xW ad dA S).set kc (ad kc, .inr (dat / 64, (xfld ad S.2.1 kc ks).set (dat % 64) (.int v)))) H1 → va_D A ((xW ad dA S).set kc (ad kc, .inr (dat / 64, (xfld ad S.2.1 kc ks).set (dat % 64) (.int v)))) → va_S A s.heap H1 locs1 →
          W p l e R s m args below meth c H1 locs1 cells slots Q (F0 m (pc + 3) lsC (r.map (xv ad))) := fun H1 locs1 hP1 hD1 hS1 =>
        k ad H1 locs1 cells slots lsC (hR.put (G' := S.1) (g' := S.2.2.1) (h' := xput S.2.1 kc (dat % 64) v) rfl hg (by show Sum.inr (dat / 64, xfld ad (xput S.2.1 kc (dat % 64) v) kc ks) = _; rw [xfld_put hj]) (Nat.lt_of_lt_of_le (List.getElem?_eq_some_iff.mp hg).1 h7) (fun j hne => ⟨rfl, xput_ne hne, rfl⟩) hwG hP1 hD1 hS1) hL
      by_cases hf : (T (dat % 64)).2.2.2 = true
      · obtain ⟨e1, e2⟩ := (hfin C T N hc).1 hf
        exact va_putF (v := .int v) hx hb hts (xcl_ws hc) _ (xcl_ty hc) (xcl_nm hc) hown hK hP hD hS kc (xW_at hg) hc (dat % 64) hN (hts _ hlk) (fun _ h9 => h9) hf (hini e1) e2 hty hte.1 hte.2 hlen hd fin
      · exact va_put (v := .int v) hx hb hts (xcl_ws hc) _ (xcl_ty hc) (xcl_nm hc) hown hK hP hD hS kc (xW_at hg) hc (dat % 64) hN (hts _ hlk) (fun _ h9 => h9) (by simpa using hf) hty hte.1 hte.2 hlen hd fin
    · cases h
  · rename_i v kc r
    obtain ⟨hlen0, h⟩ := xnb h
    obtain ⟨ks, hg, h⟩ := xobj_inv h
    split at h
    · rename_i w hj
      cases hvb : Nat.blt v S.1.length with
      | false => rw [hvb] at h; cases h
      | true =>
      rw [hvb] at h
      have hvl : v < S.1.length := Nat.blt_eq.mp hvb
      cases h
      have hjl : dat % 64 < ks.length := (List.getElem?_eq_some_iff.mp hj).1
      have hkl : kc < S.1.length := (List.getElem?_eq_some_iff.mp hg).1
      obtain ⟨ty, hty, hte⟩ : ∃ ty, parseFieldDescriptor (T (dat % 64)).2.2.1 = some ty ∧ narrow ty (.ref (ad v)) = .ref (ad v) ∧ fits ty (.ref (ad v)) = true := by
        obtain ⟨-, ty, h1, -, h2⟩ := hfin C T N hc
        rcases h2 hlen0 with ⟨n, rfl⟩ | ⟨t, rfl⟩
        · exact ⟨_, h1, rfl, rfl⟩
        · exact ⟨_, h1, rfl, rfl⟩
      have hlen : dat % 64 < (xfld ad S.2.1 kc ks).length := by rw [xfld_len]; exact hjl
      have hw' : xwG (S.1.set kc (.inl (dat / 64, ks.set (dat % 64) (some (.ref v))))) := by
        intro k2 o j2 v2 hk2 hj2
        rw [List.length_set]
        by_cases e1 : k2 = kc
        · subst e1
          rw [List.getElem?_set_self hkl] at hk2
          cases hk2
          dsimp only at hj2
          by_cases e2 : j2 = dat % 64
          · subst e2
            rw [List.getElem?_set_self hjl] at hj2
            cases hj2
            exact hvl
          · rw [List.getElem?_set_ne (Ne.symm e2)] at hj2
            exact hwG _ _ _ _ hg hj2
        · rw [List.getElem?_set_ne (Ne.symm e1)] at hk2
          exact hwG _ _ _ _ hk2 hj2
      have fin : ∀ (H1 : Heap) (locs1 : List Loc), va_P D xcl ((xW ad dA S).set kc (ad kc, .inr (dat / 64, (xfld ad S.2.1 kc ks).set (dat % 64) (.ref (ad v))))) H1 → va_D A ((xW ad dA S).set kc (ad kc, .inr (dat / 64, (xfld ad S.2.1 kc ks).set (dat % 64) (.ref (ad v))))) → va_S A s.heap H1 locs1 →
          W p l e R s m args below meth c H1 locs1 cells slots Q (F0 m (pc + 3) lsC (r.map (xv ad))) := fun H1 locs1 hP1 hD1 hS1 =>
        k ad H1 locs1 cells slots lsC (hR.put (G' := S.1.set kc (.inl (dat / 64, ks.set (dat % 64) (some (.ref v))))) (g' := S.2.2.1) (h' := S.2.1) (by simp) (List.getElem?_set_self hkl) (by show Sum.inr (dat / 64, xfld ad S.2.1 kc (ks.set (dat % 64) (some (.ref v)))) = _; rw [xfld_ref hjl]) (Nat.lt_of_lt_of_le hkl h7) (fun j hne => ⟨List.getElem?_set_ne (Ne.symm hne), rfl, rfl⟩) hw' hP1 hD1 hS1) hL
      by_cases hf : (T (dat % 64)).2.2.2 = true
      · obtain ⟨e1, e2⟩ := (hfin C T N hc).1 hf
        exact va_putF (v := .ref (ad v)) hx hb hts (xcl_ws hc) _ (xcl_ty hc) (xcl_nm hc) hown hK hP hD hS kc (xW_at hg) hc (dat % 64) hN (hts _ hlk) (fun _ h9 => h9) hf (hini e1) e2 hty hte.1 hte.2 hlen hd fin
      · exact va_put (v := .ref (ad v)) hx hb hts (xcl_ws hc) _ (xcl_ty hc) (xcl_nm hc) hown hK hP hD hS kc (xW_at hg) hc (dat % 64) hN (hts _ hlk) (fun _ h9 => h9) (by simpa using hf) hty hte.1 hte.2 hlen hd fin
    · cases h
  · cases h
theorem xE_int {ad : Nat → Nat} {h : xI} {g : xJ} {k n t : Nat} (ht : t ≠ 3) : xE ad dA h g k (.inr (t, n)) = .inl (dA t, n, .inl (h k)) := if_neg ht
theorem xE_long {ad : Nat → Nat} {h : xI} {g : xJ} {k n : Nat} : xE ad dA h g k (.inr (3, n)) = .inl (dA 3, n, .inr (.inl (g k))) := rfl
theorem xW_ints {ad : Nat → Nat} {k n t : Nat} (ht : t ≠ 3) (h : S.1[k]? = some (.inr (t, n))) : (xW ad dA S)[k]? = some (ad k, .inl (dA t, n, .inl (S.2.1 k))) := by rw [xW_at h, xE_int ht]
theorem xW_longs {ad : Nat → Nat} {k n : Nat} (h : S.1[k]? = some (.inr (3, n))) : (xW ad dA S)[k]? = some (ad k, .inl (dA 3, n, .inr (.inl (S.2.2.1 k)))) := by rw [xW_at h, xE_long]
/-- an array of ints is written -/
theorem xRel.arr {ad : Nat → Nat} {H H1 : Heap} {locs locs1 : List Loc} {cells slots kc n t : Nat} {f : Nat → Int32} (hR : xRel D dA A s R n0 ad0 E ad S H locs cells slots) (ht : t ≠ 3) (hg : S.1[kc]? = some (.inr (t, n)))
    {h' : xI} (hs : h' kc = f) (hn : ∀ j, j ≠ kc → h' j = S.2.1 j)
    (hP : va_P D xcl ((xW ad dA S).set kc (ad kc, .inl (dA t, n, .inl f))) H1) (hD : va_D A ((xW ad dA S).set kc (ad kc, .inl (dA t, n, .inl f)))) (hS : va_S A s.heap H1 locs1) : xRel D dA A s R n0 ad0 E ad (S.1, h', S.2.2) H1 locs1 cells slots :=
  hR.put (G' := S.1) (h' := h') (g' := S.2.2.1) rfl hg (by rw [xE_int ht, hs]) (Nat.lt_of_lt_of_le (List.getElem?_eq_some_iff.mp hg).1 hR.2.2.2.2.2.2.1) (fun j hj => ⟨rfl, hn j hj, rfl⟩) hR.2.2.2.2.2.1 hP hD hS
set_option maxHeartbeats 4000000 in
set_option maxRecDepth 100000 in
/-- arrays -/
theorem xnext_arr {ins : Instr} (X : xCtx M d p l R s m args meth c D dA A E) (hok : xOK M pc (ins, len, dat)) (h : xstep d (ins, len, dat) pc ls st S = some (.inl f'))
    (hins : xisarr ins = true)
    (k : xGood M p l e R s m args below meth c D dA A n0 ad0 E Q f') : xGood M p l e R s m args below meth c D dA A n0 ad0 E Q (pc, ls, st, S) := by
  have X0 := X
  obtain ⟨hx, hb, hml, hown, hts, hK, hA, hini, hfr, hlo, -⟩ := X
  obtain ⟨hd, hw⟩ := hok
  intro ad H locs cells slots lsC hR hL
  obtain ⟨hP, hD, hS, h4, h5, hwG, h7, h8, h9, h10, h11, h12⟩ := id hR
  cases ins with
  | iaload =>
    obtain ⟨j, kc, r, rfl, h'⟩ := xir_inv h
    clear h
    have h := h'
    cases hq : Nat.beq kc xscr with
    | true =>
      rw [hq] at h
      cases Nat.eq_of_beq_eq_true hq
      obtain ⟨hin, h⟩ := xin_inv h
      cases h
      obtain ⟨s1, s2, s3⟩ := xscript X0 hR
      exact va_sld hx hb s1 s2 s3 hS hin hd (k ad H locs cells slots lsC hR hL)
    | false =>
      rw [hq] at h
      obtain ⟨n, hg, h⟩ := xarr_inv h
      obtain ⟨hin, h⟩ := xin_inv h
      cases h
      exact va_iald hx hb hK hP kc 0 (xW_ints (by decide) hg) rfl hin hd (k ad H locs cells slots lsC hR hL)
  | iastore =>
    obtain ⟨x, j, kc, r, rfl, h'⟩ := xiir_inv h
    clear h
    have h := h'
    obtain ⟨n, hg, h⟩ := xarr_inv h
    obtain ⟨hin, h⟩ := xin_inv h
    cases h
    exact va_iast hx hb hK hP hD hS kc 0 (xW_ints (by decide) hg) rfl hin hd (fun H1 locs1 hP1 hD1 hS1 => k ad H1 locs1 cells slots lsC (hR.arr (by decide) hg xput_self (fun j hj => xput_ne hj) hP1 hD1 hS1) hL)
  | baload =>
    obtain ⟨j, kc, r, rfl, h'⟩ := xir_inv h
    clear h
    have h := h'
    rcases xarrB_inv h with ⟨n, hg, h⟩ | ⟨n, hg, h⟩
    · obtain ⟨hin, h⟩ := xin_inv h
      cases h
      exact va_bald hx hb hK hP kc 1 (xW_ints (by decide) hg) rfl hin hd (k ad H locs cells slots lsC hR hL)
    · obtain ⟨hin, h⟩ := xin_inv h
      cases h
      exact va_zald hx hb hK hP kc 2 (xW_ints (by decide) hg) rfl hin hd (k ad H locs cells slots lsC hR hL)
  | bastore =>
    obtain ⟨x, j, kc, r, rfl, h'⟩ := xiir_inv h
    clear h
    have h := h'
    rcases xarrB_inv h with ⟨n, hg, h⟩ | ⟨n, hg, h⟩
    · obtain ⟨hin, h⟩ := xin_inv h
      cases h
      exact va_bast hx hb hK hP hD hS kc 1 (xW_ints (by decide) hg) rfl hin hd (fun H1 locs1 hP1 hD1 hS1 => k ad H1 locs1 cells slots lsC (hR.arr (by decide) hg xput_self (fun j hj => xput_ne hj) hP1 hD1 hS1) hL)
    · obtain ⟨hin, h⟩ := xin_inv h
      cases h
      exact va_zast hx hb hK hP hD hS kc 2 (xW_ints (by decide) hg) rfl hin hd (fun H1 locs1 hP1 hD1 hS1 => k ad H1 locs1 cells slots lsC (hR.arr (by decide) hg xput_self (fun j hj => xput_ne hj) hP1 hD1 hS1) hL)
  | laload =>
    obtain ⟨j, kc, r, rfl, h'⟩ := xir_inv h
    clear h
    have h := h'
    obtain ⟨n, hg, h⟩ := xarr_inv h
    obtain ⟨hin, h⟩ := xin_inv h
    cases h
    exact va_lald hx hb hK hP kc 3 (xW_longs hg) rfl hin hd (k ad H locs cells slots lsC hR hL)
  | lastore =>
    obtain ⟨x, j, kc, r, rfl, h'⟩ := xjir_inv h
    clear h
    have h := h'
    obtain ⟨n, hg, h⟩ := xarr_inv h
    obtain ⟨hin, h⟩ := xin_inv h
    cases h
    exact va_last hx hb hK hP hD hS kc 3 (xW_longs hg) rfl hin hd (fun H1 locs1 hP1 hD1 hS1 => k ad H1 locs1 cells slots lsC
      (hR.put (G' := S.1) (h' := S.2.1) (g' := xputL S.2.2.1 kc j.toNatClampNeg x) rfl hg (by rw [xE_long, xputL_self]) (Nat.lt_of_lt_of_le (List.getElem?_eq_some_iff.mp hg).1 h7) (fun j hj => ⟨rfl, rfl, xputL_ne hj⟩) hwG hP1 hD1 hS1) hL)
  | arraylength =>
    obtain ⟨kc, r, rfl, h'⟩ := xr1_inv h
    clear h
    have h := h'
    cases hq : Nat.beq kc xscr with
    | true =>
      rw [hq] at h
      cases Nat.eq_of_beq_eq_true hq
      cases h
      obtain ⟨s1, s2, s3⟩ := xscript X0 hR
      exact va_slen hx hb s1 s2 s3 hS hd (k ad H locs cells slots lsC hR hL)
    | false =>
      rw [hq] at h
      dsimp only [cond] at h
      split at h
      · rename_i t n hg
        cases ht : Nat.blt t 4 with
        | false => rw [ht] at h; cases h
        | true =>
        rw [ht] at h
        cases h
        have ht : t < 4 := Nat.blt_eq.mp ht
        have ht : t = 0 ∨ t = 1 ∨ t = 2 ∨ t = 3 := by omega
        rcases ht with rfl | rfl | rfl | rfl
        · exact va_alen hx hb hK hP kc 0 (xW_ints (by decide) hg) rfl rfl hd (k ad H locs cells slots lsC hR hL)
        · exact va_alen hx hb hK hP kc 1 (xW_ints (by decide) hg) rfl rfl hd (k ad H locs cells slots lsC hR hL)
        · exact va_alen hx hb hK hP kc 2 (xW_ints (by decide) hg) rfl rfl hd (k ad H locs cells slots lsC hR hL)
        · exact va_alen hx hb hK hP kc 3 (xW_longs hg) rfl rfl hd (k ad H locs cells slots lsC hR hL)
      · cases h
  | _ => exact absurd hins Bool.false_ne_true
end XN
