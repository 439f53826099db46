/-! A small machine over shapes and numbers: what the walked methods do, as a function. A reference is the place of its cell in the list of shapes. -/
/-- a cell's shape: an object (its class's number, its fields: none: an int, some v: a reference or null), or an array (kind, length); kinds: 0 int, 1 byte, 2 boolean, 3 long -/
abbrev xG : Type := (Nat × List (Option Value)) ⊕ (Nat × Nat)
abbrev xI : Type := Nat → Nat → Int32
abbrev xJ : Type := Nat → Nat → Int64
/-- shapes; ints; longs; the script's length; cells that may still be made; slots that may still be laid -/
abbrev xS : Type := List xG × xI × xJ × Nat × Nat × Nat
/-- pc, locals, operands, state -/
abbrev xF : Type := Nat × List (Option Value) × List Value × xS
/-- a call: the callee's number, its arguments, what stays on the stack -/
abbrev xK : Type := Nat × List Value × List Value
/-- an end: a value or none; or a thrown class -/
abbrev xO : Type := Option Value ⊕ Nat
abbrev xR : Type := xF ⊕ xK ⊕ (xO × xS)
/-- an instruction, a mark (a switch's length; putfield: 0 an int, 1 a reference), what its numbers mean -/
abbrev xC : Type := Instr × Nat × Nat
/-- own class, name, bytes, locals, result, table, handlers (from, to, at, the entry of the class, the number of the class) -/
abbrev xM : Type := String × MethodName × ByteArray × Nat × Option FieldType × List (Nat × xC) × List (Nat × Nat × Nat × Nat × Nat)
/-- the script's place among the references -/
abbrev xscr : Nat := 1000
def xput (h : xI) (k j : Nat) (v : Int32) : xI := fun a => if a = k then upd (h a) j v else h a
def xset (h : xI) (k : Nat) (f : Nat → Int32) : xI := fun a => if a = k then f else h a
def xputL (g : xJ) (k j : Nat) (v : Int64) : xJ := fun a => if a = k then vp_updL (g a) j v else g a
def xsetL (g : xJ) (k : Nat) (f : Nat → Int64) : xJ := fun a => if a = k then f else g a
/-- going on -/
abbrev xgo (pc : Nat) (ls : List (Option Value)) (st : List Value) (S : xS) : Option xR := some (.inl (pc, ls, st, S))
abbrev xend (o : xO) (S : xS) : Option xR := some (.inr (.inr (o, S)))
def xi1 (st : List Value) (f : Int32 → List Value → Option xR) : Option xR := match st with
  | .int x :: r => f x r
  | _ => none
def xi2 (st : List Value) (f : Int32 → Int32 → List Value → Option xR) : Option xR := match st with
  | .int y :: .int x :: r => f x y r
  | _ => none
def xj1 (st : List Value) (f : Int64 → List Value → Option xR) : Option xR := match st with
  | .long x :: r => f x r
  | _ => none
def xj2 (st : List Value) (f : Int64 → Int64 → List Value → Option xR) : Option xR := match st with
  | .long y :: .long x :: r => f x y r
  | _ => none
def xji (st : List Value) (f : Int64 → Int32 → List Value → Option xR) : Option xR := match st with
  | .int y :: .long x :: r => f x y r
  | _ => none
def xr1 (st : List Value) (f : Nat → List Value → Option xR) : Option xR := match st with
  | .ref k :: r => f k r
  | _ => none
def xir (st : List Value) (f : Int32 → Nat → List Value → Option xR) : Option xR := match st with
  | .int i :: .ref k :: r => f i k r
  | _ => none
def xiir (st : List Value) (f : Int32 → Int32 → Nat → List Value → Option xR) : Option xR := match st with
  | .int x :: .int i :: .ref k :: r => f x i k r
  | _ => none
def xjir (st : List Value) (f : Int64 → Int32 → Nat → List Value → Option xR) : Option xR := match st with
  | .long x :: .int i :: .ref k :: r => f x i k r
  | _ => none
def xrr (st : List Value) (f : Nat → Nat → List Value → Option xR) : Option xR := match st with
  | .ref v :: .ref k :: r => f v k r
  | _ => none
/-- a local variable -/
def xli (ls : List (Option Value)) (k : Nat) (f : Int32 → Option xR) : Option xR := match ls[k]? with
  | some (some (.int x)) => f x
  | _ => none
def xlj (ls : List (Option Value)) (k : Nat) (f : Int64 → Option xR) : Option xR := match ls[k]? with
  | some (some (.long x)) => f x
  | _ => none
def xlr (ls : List (Option Value)) (k : Nat) (f : Nat → Option xR) : Option xR := match ls[k]? with
  | some (some (.ref x)) => f x
  | _ => none
/-- may a value be stored at k: no long's second half lies there -/
def xfree (ls : List (Option Value)) : Nat → Bool
  | 0 => true
  | k + 1 => match ls[k]? with
    | some (some (.long _)) => false
    | some (some (.double _)) => false
    | _ => true
def xst1 (ls : List (Option Value)) (k : Nat) (v : Value) (f : List (Option Value) → Option xR) : Option xR :=
  bif xfree ls k && Nat.blt k ls.length then f (ls.set k (some v)) else none
def xst2 (ls : List (Option Value)) (k : Nat) (v : Value) (f : List (Option Value) → Option xR) : Option xR :=
  bif xfree ls k && Nat.blt (k + 1) ls.length then f ((ls.set k (some v)).set (k + 1) none) else none
/-- an array of a kind -/
def xarr (G : List xG) (k t : Nat) (f : Nat → Option xR) : Option xR := match G[k]? with
  | some (.inr (t', n)) => bif Nat.beq t' t then f n else none
  | _ => none
def xarrB (G : List xG) (k : Nat) (f : Bool → Nat → Option xR) : Option xR := match G[k]? with
  | some (.inr (t', n)) => bif Nat.beq t' 1 then f false n else bif Nat.beq t' 2 then f true n else none
  | _ => none
def xobj (G : List xG) (k ci : Nat) (f : List (Option Value) → Option xR) : Option xR := match G[k]? with
  | some (.inl (c', ks)) => bif Nat.beq c' ci then f ks else none
  | _ => none
def xin (i : Int32) (n : Nat) (f : Option xR) : Option xR := if i < 0 ∨ n ≤ i.toNatClampNeg then none else f
/-- the place behind a switch -/
def xtsw (pc : Nat) (dflt lo hi : Int) (offs : Array Int) (x : Int32) : Nat := if x.toInt < lo ∨ hi < x.toInt then ((pc : Int) + dflt).toNat else ((pc : Int) + offs.getD (x.toInt - lo).toNat 0).toNat
def xlsw (pc : Nat) (dflt : Int) (ps : Array (Int × Int)) (x : Int32) : Nat := ((pc : Int) + Op.lookupswitch.offset ps.toList dflt x.toInt).toNat
def xcat : List Value → Nat
  | [] => 0
  | v :: r => v.category + xcat r
/-- the references among values, within n or the script's -/
def xokv (n : Nat) : Value → Bool
  | .ref k => Nat.blt k n || Nat.beq k xscr
  | .double _ => false
  | _ => true
def xoks (n : Nat) : List Value → Bool
  | [] => true
  | v :: r => xokv n v && xoks n r
def xokl (n : Nat) : List (Option Value) → Bool
  | [] => true
  | none :: r => xokl n r
  | some v :: r => xokv n v && xokl n r
/-- a call: (its class's number * 1000 + its number) * 16 + how many values it takes -/
def xcall (d dat n : Nat) (ls : List (Option Value)) (st : List Value) : Option xR :=
  bif Nat.blt 0 d && Nat.ble (xcat (st.drop (dat % 16))) 8 && Nat.ble (dat % 16) st.length && xokl n ls && xoks n st then some (.inr (.inl (dat / 16 % 1000, (st.take (dat % 16)).reverse, st.drop (dat % 16)))) else none
/-- System.arraycopy of ints -/
def xcopy (d pc : Nat) (ls : List (Option Value)) (st : List Value) (S : xS) : Option xR := match st with
  | .int n :: .int dp :: .ref a :: .int sp :: .ref b :: r => xarr S.1 b 0 fun n0 => xarr S.1 a 0 fun n1 =>
      if sp < 0 ∨ dp < 0 ∨ n < 0 ∨ n0 < sp.toNatClampNeg + n.toNatClampNeg ∨ n1 < dp.toNatClampNeg + n.toNatClampNeg ∨ d < 3 ∨ 8 < xcat r then none else
        xgo (pc + 3) ls r (S.1, xset S.2.1 a (va_cpy (S.2.1 b) (S.2.1 a) sp.toNatClampNeg dp.toNatClampNeg n.toNatClampNeg), S.2.2)
  | _ => none
/-- one instruction of a method whose frame may lay d more -/
def xstep (d : Nat) (i : xC) (pc : Nat) (ls : List (Option Value)) (st : List Value) (S : xS) : Option xR :=
  match i.1 with
  | .iconst n => xgo (pc + 1) ls (.int (Int32.ofInt n) :: st) S
  | .bipush n => xgo (pc + 2) ls (.int (Int32.ofInt n) :: st) S
  | .sipush n => xgo (pc + 3) ls (.int (Int32.ofInt n) :: st) S
  | .ldc _ => xgo (pc + 2) ls (.int (Int32.ofNat i.2.2) :: st) S
  | .ldc_w _ => xgo (pc + 3) ls (.int (Int32.ofNat i.2.2) :: st) S
  | .ldc2_w _ => xgo (pc + 3) ls (.long (Int64.ofNat i.2.2) :: st) S
  | .lconst n => xgo (pc + 1) ls (.long (Int64.ofNat n.val) :: st) S
  | .iload k => xli ls k fun x => xgo (pc + 2) ls (.int x :: st) S
  | .iload_n k => xli ls k.val fun x => xgo (pc + 1) ls (.int x :: st) S
  | .lload k => xlj ls k fun x => xgo (pc + 2) ls (.long x :: st) S
  | .lload_n k => xlj ls k.val fun x => xgo (pc + 1) ls (.long x :: st) S
  | .aload k => xlr ls k fun x => xgo (pc + 2) ls (.ref x :: st) S
  | .aload_n k => xlr ls k.val fun x => xgo (pc + 1) ls (.ref x :: st) S
  | .istore k => xi1 st fun x r => xst1 ls k (.int x) fun l => xgo (pc + 2) l r S
  | .istore_n k => xi1 st fun x r => xst1 ls k.val (.int x) fun l => xgo (pc + 1) l r S
  | .lstore k => xj1 st fun x r => xst2 ls k (.long x) fun l => xgo (pc + 2) l r S
  | .lstore_n k => xj1 st fun x r => xst2 ls k.val (.long x) fun l => xgo (pc + 1) l r S
  | .astore k => xr1 st fun x r => xst1 ls k (.ref x) fun l => xgo (pc + 2) l r S
  | .astore_n k => xr1 st fun x r => xst1 ls k.val (.ref x) fun l => xgo (pc + 1) l r S
  | .iinc k n => xli ls k fun x => xst1 ls k (.int (x + Int32.ofInt n)) fun l => xgo (pc + 3) l st S
  | .iadd => xi2 st fun x y r => xgo (pc + 1) ls (.int (x + y) :: r) S
  | .isub => xi2 st fun x y r => xgo (pc + 1) ls (.int (x - y) :: r) S
  | .imul => xi2 st fun x y r => xgo (pc + 1) ls (.int (x * y) :: r) S
  | .iand => xi2 st fun x y r => xgo (pc + 1) ls (.int (x &&& y) :: r) S
  | .ior => xi2 st fun x y r => xgo (pc + 1) ls (.int (x ||| y) :: r) S
  | .ixor => xi2 st fun x y r => xgo (pc + 1) ls (.int (x ^^^ y) :: r) S
  | .idiv => xi2 st fun x y r => if y = 0 then none else xgo (pc + 1) ls (.int (x / y) :: r) S
  | .irem => xi2 st fun x y r => if y = 0 then none else xgo (pc + 1) ls (.int (x - x / y * y) :: r) S
  | .ineg => xi1 st fun x r => xgo (pc + 1) ls (.int (-x) :: r) S
  | .ishl => xi2 st fun x y r => xgo (pc + 1) ls (.int (x <<< (y &&& 31)) :: r) S
  | .ishr => xi2 st fun x y r => xgo (pc + 1) ls (.int (x >>> (y &&& 31)) :: r) S
  | .iushr => xi2 st fun x y r => xgo (pc + 1) ls (.int (x.toUInt32 >>> (y.toUInt32 &&& Int32.toUInt32 31)).toInt32 :: r) S
  | .ladd => xj2 st fun x y r => xgo (pc + 1) ls (.long (x + y) :: r) S
  | .land => xj2 st fun x y r => xgo (pc + 1) ls (.long (x &&& y) :: r) S
  | .lor => xj2 st fun x y r => xgo (pc + 1) ls (.long (x ||| y) :: r) S
  | .ldiv => xj2 st fun x y r => if y = 0 then none else xgo (pc + 1) ls (.long (x / y) :: r) S
  | .lrem => xj2 st fun x y r => if y = 0 then none else xgo (pc + 1) ls (.long (x - x / y * y) :: r) S
  | .lcmp => xj2 st fun x y r => xgo (pc + 1) ls (.int (lg_cmp x y) :: r) S
  | .lshl => xji st fun x y r => xgo (pc + 1) ls (.long (x <<< (y.toInt64 &&& 63)) :: r) S
  | .lshr => xji st fun x y r => xgo (pc + 1) ls (.long (x >>> (y.toInt64 &&& 63)) :: r) S
  | .lushr => xji st fun x y r => xgo (pc + 1) ls (.long (x.toUInt64 >>> (y.toInt64.toUInt64 &&& Int64.toUInt64 63)).toInt64 :: r) S
  | .i2l => xi1 st fun x r => xgo (pc + 1) ls (.long x.toInt64 :: r) S
  | .l2i => xj1 st fun x r => xgo (pc + 1) ls (.int x.toInt32 :: r) S
  | .i2b => xi1 st fun x r => xgo (pc + 1) ls (.int x.toInt8.toInt32 :: r) S
  | .i2s => xi1 st fun x r => xgo (pc + 1) ls (.int x.toInt16.toInt32 :: r) S
  | .dup => match st with
    | .int x :: r => xgo (pc + 1) ls (.int x :: .int x :: r) S
    | .ref x :: r => xgo (pc + 1) ls (.ref x :: .ref x :: r) S
    | _ => none
  | .pop => xi1 st fun _ r => xgo (pc + 1) ls r S
  | .goto _ => xgo i.2.2 ls st S
  | .ifCond .eq _ => xi1 st fun x r => xgo (if x = 0 then i.2.2 else pc + 3) ls r S
  | .ifCond .ne _ => xi1 st fun x r => xgo (if x = 0 then pc + 3 else i.2.2) ls r S
  | .ifCond .lt _ => xi1 st fun x r => xgo (if x < 0 then i.2.2 else pc + 3) ls r S
  | .ifCond .ge _ => xi1 st fun x r => xgo (if 0 ≤ x then i.2.2 else pc + 3) ls r S
  | .ifCond .gt _ => xi1 st fun x r => xgo (if 0 < x then i.2.2 else pc + 3) ls r S
  | .ifCond .le _ => xi1 st fun x r => xgo (if x ≤ 0 then i.2.2 else pc + 3) ls r S
  | .if_icmp .eq _ => xi2 st fun x y r => xgo (if x = y then i.2.2 else pc + 3) ls r S
  | .if_icmp .ne _ => xi2 st fun x y r => xgo (if x = y then pc + 3 else i.2.2) ls r S
  | .if_icmp .lt _ => xi2 st fun x y r => xgo (if x < y then i.2.2 else pc + 3) ls r S
  | .if_icmp .ge _ => xi2 st fun x y r => xgo (if y ≤ x then i.2.2 else pc + 3) ls r S
  | .if_icmp .gt _ => xi2 st fun x y r => xgo (if y < x then i.2.2 else pc + 3) ls r S
  | .if_icmp .le _ => xi2 st fun x y r => xgo (if x ≤ y then i.2.2 else pc + 3) ls r S
  | .tableswitch dflt lo hi offs => xi1 st fun x r => xgo (xtsw pc dflt lo hi offs x) ls r S
  | .lookupswitch dflt ps => xi1 st fun x r => xgo (xlsw pc dflt ps x) ls r S
  | .getfield _ => xr1 st fun k r => xobj S.1 k (i.2.2 / 64) fun ks => match ks[i.2.2 % 64]? with
    | some none => xgo (pc + 3) ls (.int (S.2.1 k (i.2.2 % 64)) :: r) S
    | some (some (.ref v)) => xgo (pc + 3) ls (.ref v :: r) S
    | _ => none
  | .putfield _ => match st with
    | .int v :: .ref k :: r => bif !(Nat.beq i.2.1 0) then none else xobj S.1 k (i.2.2 / 64) fun ks => match ks[i.2.2 % 64]? with
      | some none => xgo (pc + 3) ls r (S.1, xput S.2.1 k (i.2.2 % 64) v, S.2.2)
      | _ => none
    | .ref v :: .ref k :: r => bif !(Nat.beq i.2.1 1) then none else xobj S.1 k (i.2.2 / 64) fun ks => match ks[i.2.2 % 64]? with
      | some (some _) => bif !(Nat.blt v S.1.length) then none else xgo (pc + 3) ls r (S.1.set k (.inl (i.2.2 / 64, ks.set (i.2.2 % 64) (some (.ref v)))), S.2)
      | _ => none
    | _ => none
  | .iaload => xir st fun j k r => bif Nat.beq k xscr then xin j S.2.2.2.1 (xgo (pc + 1) ls (.int (S.2.1 xscr j.toNatClampNeg) :: r) S)
      else xarr S.1 k 0 fun n => xin j n (xgo (pc + 1) ls (.int (S.2.1 k j.toNatClampNeg) :: r) S)
  | .iastore => xiir st fun x j k r => xarr S.1 k 0 fun n => xin j n (xgo (pc + 1) ls r (S.1, xput S.2.1 k j.toNatClampNeg x, S.2.2))
  | .baload => xir st fun j k r => xarrB S.1 k fun _ n => xin j n (xgo (pc + 1) ls (.int (S.2.1 k j.toNatClampNeg) :: r) S)
  | .bastore => xiir st fun x j k r => xarrB S.1 k fun b n => xin j n (xgo (pc + 1) ls r (S.1, xput S.2.1 k j.toNatClampNeg (bif b then vp_nar .boolean x else vp_nar .byte x), S.2.2))
  | .laload => xir st fun j k r => xarr S.1 k 3 fun n => xin j n (xgo (pc + 1) ls (.long (S.2.2.1 k j.toNatClampNeg) :: r) S)
  | .lastore => xjir st fun x j k r => xarr S.1 k 3 fun n => xin j n (xgo (pc + 1) ls r (S.1, S.2.1, xputL S.2.2.1 k j.toNatClampNeg x, S.2.2.2))
  | .arraylength => xr1 st fun k r => bif Nat.beq k xscr then xgo (pc + 1) ls (.int (Int32.ofNat S.2.2.2.1) :: r) S
      else match S.1[k]? with
      | some (.inr (t, n)) => bif Nat.blt t 4 then xgo (pc + 1) ls (.int (Int32.ofNat n) :: r) S else none
      | _ => none
  | .newarray t => xi1 st fun n r => if n < 0 ∨ 4096 < n.toNatClampNeg ∨ S.2.2.2.2.1 = 0 ∨ S.2.2.2.2.2 < n.toNatClampNeg ∨ 999 < S.1.length then none else bif !(xokl S.1.length ls && xoks S.1.length st) then none else
      match t with
      | .int => xgo (pc + 2) ls (.ref S.1.length :: r) (S.1 ++ [.inr (0, n.toNatClampNeg)], xset S.2.1 S.1.length (fun _ => 0), S.2.2.1, S.2.2.2.1, S.2.2.2.2.1 - 1, S.2.2.2.2.2 - n.toNatClampNeg)
      | .byte => xgo (pc + 2) ls (.ref S.1.length :: r) (S.1 ++ [.inr (1, n.toNatClampNeg)], xset S.2.1 S.1.length (fun _ => 0), S.2.2.1, S.2.2.2.1, S.2.2.2.2.1 - 1, S.2.2.2.2.2 - n.toNatClampNeg)
      | .boolean => xgo (pc + 2) ls (.ref S.1.length :: r) (S.1 ++ [.inr (2, n.toNatClampNeg)], xset S.2.1 S.1.length (fun _ => 0), S.2.2.1, S.2.2.2.1, S.2.2.2.2.1 - 1, S.2.2.2.2.2 - n.toNatClampNeg)
      | .long => xgo (pc + 2) ls (.ref S.1.length :: r) (S.1 ++ [.inr (3, n.toNatClampNeg)], S.2.1, xsetL S.2.2.1 S.1.length (fun _ => 0), S.2.2.2.1, S.2.2.2.2.1 - 1, S.2.2.2.2.2 - n.toNatClampNeg)
      | _ => none
  | .new _ => bif Nat.blt i.2.2 100 then (match xkinds i.2.2 with
      | some ks => if S.2.2.2.2.1 = 0 ∨ S.2.2.2.2.2 < ks.length ∨ 999 < S.1.length then none else bif !(xokl S.1.length ls && xoks S.1.length st) then none else
          xgo (pc + 3) ls (.ref S.1.length :: st) (S.1 ++ [.inl (i.2.2, ks)], xset S.2.1 S.1.length (fun _ => 0), S.2.2.1, S.2.2.2.1, S.2.2.2.2.1 - 1, S.2.2.2.2.2 - ks.length)
      | none => none)
      else if S.2.2.2.2.1 = 0 ∨ S.2.2.2.2.2 < 6 ∨ d < 6 ∨ 8 < xcat st then none else xend (.inr (i.2.2 - 100)) (S.1, S.2.1, S.2.2.1, S.2.2.2.1, S.2.2.2.2.1 - 1, S.2.2.2.2.2 - 6)
  | .invokestatic _ => bif Nat.beq i.2.2 14421 then xcopy d pc ls st S else xcall d i.2.2 S.1.length ls st
  | .invokevirtual _ => match st[i.2.2 % 16 - 1]? with
    | some (.ref k) => xobj S.1 k (i.2.2 / 16000) fun _ => xcall d i.2.2 S.1.length ls st
    | _ => none
  | .invokespecial _ => bif Nat.beq i.2.2 14401 then xr1 st fun _ r => (bif Nat.blt 0 d && Nat.ble (xcat r) 8 then xgo (pc + 3) ls r S else none) else match st[i.2.2 % 16 - 1]? with
    | some (.ref _) => xcall d i.2.2 S.1.length ls st
    | _ => none
  | .ireturn => match st with
    | [.int x] => bif Nat.beq i.2.2 0 then xend (.inl (some (.int x))) S else if x = 0 ∨ x = 1 then xend (.inl (some (.int x))) S else none
    | _ => none
  | .lreturn => match st with
    | [.long x] => xend (.inl (some (.long x))) S
    | _ => none
  | .return_ => match st with
    | [] => xend (.inl none) S
    | _ => none
  | _ => none
/-- the locals with which a method begins -/
def xsl : List Value → List (Option Value)
  | [] => []
  | .long x :: r => some (.long x) :: none :: xsl r
  | v :: r => some v :: xsl r
def xent (n : Nat) (vs : List Value) : List (Option Value) := xsl vs ++ List.replicate (n - (xsl vs).length) none
/-- the instruction at a place -/
def xat : List (Nat × xC) → Nat → Option xC
  | [], _ => none
  | (q, i) :: r, pc => bif Nat.beq q pc then some i else xat r pc
/-- the handler of a thrown class: where it begins behind its store, and where it stores -/
def xcatch (t : List (Nat × xC)) : List (Nat × Nat × Nat × Nat × Nat) → Nat → Nat → Option (Nat × Nat)
  | [], _, _ => none
  | (a, b, hp, _, k) :: r, pc, x => bif !(Nat.ble a pc && Nat.blt pc b) then none else bif Nat.beq k x then (match xat t hp with
      | some (.astore j, _) => some (hp + 2, j)
      | some (.astore_n j, _) => some (hp + 1, j.val)
      | _ => none) else xcatch t r pc x
def xisV : Instr → Bool
  | .invokevirtual _ => true
  | _ => false
