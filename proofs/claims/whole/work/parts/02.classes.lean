/-! Classes of the worlds, the words. -/
def xR0 : String := "WasmCore"
def xT0 : u_T := fun k => match k with
  | 0 => ("WasmCore", "code", "LWasmCore$Code;", true)
  | 1 => ("WasmCore", "checker", "LWasmCore$Checker;", true)
  | 2 => ("WasmCore", "memory", "LWasmCore$Memory;", true)
  | 3 => ("WasmCore", "machine", "LWasmCore$Machine;", true)
  | 4 => ("WasmCore", "arguments", "[I", true)
  | 5 => ("WasmCore", "argumentCount", "I", false)
  | 6 => ("WasmCore", "status", "I", false)
  | 7 => ("WasmCore", "trap", "I", false)
  | 8 => ("WasmCore", "faultFunction", "I", false)
  | _ => ("WasmCore", "faultPlace", "I", false)
def xR1 : String := "WasmCore$Code"
def xT1 : u_T := fun k => match k with
  | 0 => ("WasmCore$Code", "words", "[I", true)
  | 1 => ("WasmCore$Code", "length", "I", false)
  | 2 => ("WasmCore$Code", "functions", "I", false)
  | 3 => ("WasmCore$Code", "bodyEnd", "[I", true)
  | 4 => ("WasmCore$Code", "parameters", "[I", true)
  | 5 => ("WasmCore$Code", "locals", "[I", true)
  | 6 => ("WasmCore$Code", "results", "[I", true)
  | 7 => ("WasmCore$Code", "endOf", "[I", true)
  | 8 => ("WasmCore$Code", "elseOf", "[I", true)
  | 9 => ("WasmCore$Code", "heightOf", "[I", true)
  | _ => ("WasmCore$Code", "targetOf", "[I", true)
def xR2 : String := "WasmCore$Checker"
def xT2 : u_T := fun k => match k with
  | 0 => ("WasmCore$Checker", "code", "LWasmCore$Code;", true)
  | 1 => ("WasmCore$Checker", "kinds", "[I", true)
  | 2 => ("WasmCore$Checker", "frameResults", "[I", true)
  | 3 => ("WasmCore$Checker", "heights", "[I", true)
  | 4 => ("WasmCore$Checker", "reached", "[Z", true)
  | 5 => ("WasmCore$Checker", "openers", "[I", true)
  | 6 => ("WasmCore$Checker", "frames", "I", false)
  | 7 => ("WasmCore$Checker", "height", "I", false)
  | 8 => ("WasmCore$Checker", "bodyEnd", "I", false)
  | 9 => ("WasmCore$Checker", "error", "I", false)
  | 10 => ("WasmCore$Checker", "function", "I", false)
  | _ => ("WasmCore$Checker", "place", "I", false)
def xR3 : String := "WasmCore$Memory"
def xT3 : u_T := fun k => match k with
  | 0 => ("WasmCore$Memory", "bytes", "[B", true)
  | _ => ("WasmCore$Memory", "pages", "I", false)
def xR4 : String := "WasmCore$Machine"
def xT4 : u_T := fun k => match k with
  | 0 => ("WasmCore$Machine", "code", "LWasmCore$Code;", true)
  | 1 => ("WasmCore$Machine", "memory", "LWasmCore$Memory;", true)
  | 2 => ("WasmCore$Machine", "globals", "[I", true)
  | 3 => ("WasmCore$Machine", "stack", "[I", true)
  | 4 => ("WasmCore$Machine", "depth", "I", false)
  | 5 => ("WasmCore$Machine", "next", "I", false)
  | 6 => ("WasmCore$Machine", "outcome", "I", false)
  | 7 => ("WasmCore$Machine", "calls", "I", false)
  | 8 => ("WasmCore$Machine", "callFunction", "[I", true)
  | 9 => ("WasmCore$Machine", "callReturn", "[I", true)
  | 10 => ("WasmCore$Machine", "callBase", "[I", true)
  | _ => ("WasmCore$Machine", "callLocals", "[I", true)
def xR5 : String := "WasmCoreModel"
def xT5 : u_T := fun k => match k with
  | 0 => ("WasmCoreModel", "thrown", "I", false)
  | 1 => ("WasmCoreModel", "status", "I", false)
  | 2 => ("WasmCoreModel", "words", "I", false)
  | 3 => ("WasmCoreModel", "code", "[I", false)
  | 4 => ("WasmCoreModel", "functions", "I", false)
  | 5 => ("WasmCoreModel", "from", "[I", false)
  | 6 => ("WasmCoreModel", "parameters", "[I", false)
  | 7 => ("WasmCoreModel", "locals", "[I", false)
  | 8 => ("WasmCoreModel", "results", "[I", false)
  | 9 => ("WasmCoreModel", "faultFunction", "I", false)
  | 10 => ("WasmCoreModel", "faultPlace", "I", false)
  | 11 => ("WasmCoreModel", "frames", "I", false)
  | 12 => ("WasmCoreModel", "kind", "[I", false)
  | 13 => ("WasmCoreModel", "gives", "[I", false)
  | 14 => ("WasmCoreModel", "height", "[I", false)
  | 15 => ("WasmCoreModel", "around", "[I", false)
  | 16 => ("WasmCoreModel", "begin", "[I", false)
  | 17 => ("WasmCoreModel", "middle", "[I", false)
  | 18 => ("WasmCoreModel", "finish", "[I", false)
  | 19 => ("WasmCoreModel", "reached", "[Z", false)
  | 20 => ("WasmCoreModel", "inside", "[I", false)
  | 21 => ("WasmCoreModel", "opens", "[I", false)
  | 22 => ("WasmCoreModel", "inner", "I", false)
  | 23 => ("WasmCoreModel", "deep", "I", false)
  | 24 => ("WasmCoreModel", "values", "I", false)
  | 25 => ("WasmCoreModel", "error", "I", false)
  | 26 => ("WasmCoreModel", "memory", "[I", false)
  | 27 => ("WasmCoreModel", "pages", "I", false)
  | 28 => ("WasmCoreModel", "globals", "[I", false)
  | 29 => ("WasmCoreModel", "arguments", "I", false)
  | 30 => ("WasmCoreModel", "argument", "[I", false)
  | 31 => ("WasmCoreModel", "trap", "I", false)
  | 32 => ("WasmCoreModel", "pc", "I", false)
  | 33 => ("WasmCoreModel", "size", "I", false)
  | 34 => ("WasmCoreModel", "stack", "[I", false)
  | 35 => ("WasmCoreModel", "calls", "I", false)
  | 36 => ("WasmCoreModel", "callee", "[I", false)
  | 37 => ("WasmCoreModel", "back", "[I", false)
  | 38 => ("WasmCoreModel", "base", "[I", false)
  | 39 => ("WasmCoreModel", "local", "[I", false)
  | _ => ("WasmCoreModel", "result", "I", false)
abbrev xcl : List vw_C := [(xR0, xT0, 10), (xR1, xT1, 11), (xR2, xT2, 12), (xR3, xT3, 2), (xR4, xT4, 12), (xR5, xT5, 41)]
def xWS : List Cond := lw_tbl.filter goodWord
theorem xWS_good : ∀ w ∈ xWS, (w.onTables && w.keeps) = true ∨ ∃ ty, w = .arrayClass ty := fun w hw => good_of_word (List.mem_filter.mp hw).2
theorem xmem {w : Cond} (i : Nat) (h : lw_tbl[i]? = some w) (hg : goodWord w = true) : w ∈ xWS := List.mem_filter.mpr ⟨List.mem_of_getElem? h, hg⟩
def xkinds : Nat → Option (List (Option Value))
  | 0 => some [some .null, some .null, some .null, some .null, some .null, none, none, none, none, none]
  | 1 => some [some .null, none, none, some .null, some .null, some .null, some .null, some .null, some .null, some .null, some .null]
  | 2 => some [some .null, some .null, some .null, some .null, some .null, some .null, none, none, none, none, none, none]
  | 3 => some [some .null, none]
  | 4 => some [some .null, some .null, some .null, some .null, none, none, none, none, some .null, some .null, some .null, some .null]
  | 5 => some [none, none, none, some .null, none, some .null, some .null, some .null, some .null, none, none, none, some .null, some .null, some .null, some .null, some .null, some .null, some .null, some .null, some .null, some .null, none, none, none, none, some .null, none, some .null, none, some .null, none, none, none, some .null, none, some .null, some .null, some .null, some .null, none]
  | _ => none
def xhost : String := "WasmCore"
def xWN : List Cond := lw_tbl.filter (fun w => match w with
  | .methodLinkNest .. => true
  | _ => false)
theorem xin0 : (u_ws xR0 xT0 10).all (fun w => decide (w ∈ lw_tbl) && goodWord w) = true := by decide +kernel
theorem xin1 : (u_ws xR1 xT1 11).all (fun w => decide (w ∈ lw_tbl) && goodWord w) = true := by decide +kernel
theorem xin2 : (u_ws xR2 xT2 12).all (fun w => decide (w ∈ lw_tbl) && goodWord w) = true := by decide +kernel
theorem xin3 : (u_ws xR3 xT3 2).all (fun w => decide (w ∈ lw_tbl) && goodWord w) = true := by decide +kernel
theorem xin4 : (u_ws xR4 xT4 12).all (fun w => decide (w ∈ lw_tbl) && goodWord w) = true := by decide +kernel
theorem xin5 : (u_ws xR5 xT5 41).all (fun w => decide (w ∈ lw_tbl) && goodWord w) = true := by decide +kernel
theorem xcl_ws {ci : Nat} {C : String} {T : u_T} {N : Nat} (hc : xcl[ci]? = some (C, T, N)) : ∀ w ∈ u_ws C T N, w ∈ xWS := by
  have key : ∀ {ws : List Cond}, ws.all (fun w => decide (w ∈ lw_tbl) && goodWord w) = true → ∀ w ∈ ws, w ∈ xWS := fun h w hw => by
    have h1 := List.all_eq_true.mp h w hw
    rw [Bool.and_eq_true, decide_eq_true_eq] at h1
    exact List.mem_filter.mpr h1
  match ci, hc with
  | 0, hc => (cases hc; exact key xin0)
  | 1, hc => (cases hc; exact key xin1)
  | 2, hc => (cases hc; exact key xin2)
  | 3, hc => (cases hc; exact key xin3)
  | 4, hc => (cases hc; exact key xin4)
  | 5, hc => (cases hc; exact key xin5)
  | n + 6, hc => simp at hc
theorem xps0 : ∀ k, k < 10 → (parseFieldDescriptor (xT0 k).2.2.1).isSome = true := by decide +kernel
theorem xnm0 : ∀ a, a < 10 → ∀ b, b < 10 → a ≠ b → (xT0 a).2.1 ≠ (xT0 b).2.1 := by decide +kernel
theorem xps1 : ∀ k, k < 11 → (parseFieldDescriptor (xT1 k).2.2.1).isSome = true := by decide +kernel
theorem xnm1 : ∀ a, a < 11 → ∀ b, b < 11 → a ≠ b → (xT1 a).2.1 ≠ (xT1 b).2.1 := by decide +kernel
theorem xps2 : ∀ k, k < 12 → (parseFieldDescriptor (xT2 k).2.2.1).isSome = true := by decide +kernel
theorem xnm2 : ∀ a, a < 12 → ∀ b, b < 12 → a ≠ b → (xT2 a).2.1 ≠ (xT2 b).2.1 := by decide +kernel
theorem xps3 : ∀ k, k < 2 → (parseFieldDescriptor (xT3 k).2.2.1).isSome = true := by decide +kernel
theorem xnm3 : ∀ a, a < 2 → ∀ b, b < 2 → a ≠ b → (xT3 a).2.1 ≠ (xT3 b).2.1 := by decide +kernel
theorem xps4 : ∀ k, k < 12 → (parseFieldDescriptor (xT4 k).2.2.1).isSome = true := by decide +kernel
theorem xnm4 : ∀ a, a < 12 → ∀ b, b < 12 → a ≠ b → (xT4 a).2.1 ≠ (xT4 b).2.1 := by decide +kernel
theorem xps5 : ∀ k, k < 41 → (parseFieldDescriptor (xT5 k).2.2.1).isSome = true := by decide +kernel
theorem xnm5 : ∀ a, a < 41 → ∀ b, b < 41 → a ≠ b → (xT5 a).2.1 ≠ (xT5 b).2.1 := by decide +kernel
theorem xcl_ps {ci : Nat} {C : String} {T : u_T} {N : Nat} (hc : xcl[ci]? = some (C, T, N)) : ∀ k, k < N → (parseFieldDescriptor (T k).2.2.1).isSome = true := by
  match ci, hc with
  | 0, hc => (cases hc; exact xps0)
  | 1, hc => (cases hc; exact xps1)
  | 2, hc => (cases hc; exact xps2)
  | 3, hc => (cases hc; exact xps3)
  | 4, hc => (cases hc; exact xps4)
  | 5, hc => (cases hc; exact xps5)
  | n + 6, hc => simp at hc
theorem xcl_nm {ci : Nat} {C : String} {T : u_T} {N : Nat} (hc : xcl[ci]? = some (C, T, N)) : ∀ a, a < N → ∀ b, b < N → a ≠ b → (T a).2.1 ≠ (T b).2.1 := by
  match ci, hc with
  | 0, hc => (cases hc; exact xnm0)
  | 1, hc => (cases hc; exact xnm1)
  | 2, hc => (cases hc; exact xnm2)
  | 3, hc => (cases hc; exact xnm3)
  | 4, hc => (cases hc; exact xnm4)
  | 5, hc => (cases hc; exact xnm5)
  | n + 6, hc => simp at hc
theorem xw_obj1 : Cond.instanceMethod Lib.objectInit ∈ xWS := xmem 94 (by decide +kernel) (by decide +kernel)
theorem xw_obj2 : Cond.code Lib.objectInit ⟨#[0xb1]⟩ 1 none ∈ xWS := xmem 95 (by decide +kernel) (by decide +kernel)
theorem xw_cp1 : Cond.native arraycopyName ∈ xWS := xmem 399 (by decide +kernel) (by decide +kernel)
theorem xw_cp2 : Cond.static arraycopyName ∈ xWS := xmem 398 (by decide +kernel) (by decide +kernel)
theorem xw_cp3 : Cond.initialized "java/lang/System" ∈ xWS := xmem 85 (by decide +kernel) (by decide +kernel)
