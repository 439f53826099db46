/-! Methods as functions. -/
def f_i_bitCount_41 (v0 : Int32) : Int32 :=
  ((v0 + (xushr v0 (16 : Int32))) &&& (63 : Int32))
theorem T_i_bitCount_41 {hc : xI} {hr : xI} {g : xJ} {xs : Nat → Int32} {L c z : Nat} (v0 : Int32) (r : Int32) (H : f_i_bitCount_41 v0 = r) : Ex 0 49 (41, [some (.int v0)], [], xSt xG0 hc hr xs g L c z) (.inl (some (.int r)), xSt xG0 hc hr xs g L c z) := by
  unfold f_i_bitCount_41 at H
  refine Ex.many (f' := (52, [some (.int (v0 + (xushr v0 (16 : Int32))))], [.int ((v0 + (xushr v0 (16 : Int32))) &&& (63 : Int32))], xSt xG0 hc hr xs g L c z)) ?_ 9 (by rfl)
  skip
  subst H
  exact Ex.done (by rfl)
def f_i_bitCount_24 (v0 : Int32) : Int32 :=
  f_i_bitCount_41 (((v0 + (xushr v0 (4 : Int32))) &&& (252645135 : Int32)) + (xushr ((v0 + (xushr v0 (4 : Int32))) &&& (252645135 : Int32)) (8 : Int32)))
theorem T_i_bitCount_24 {hc : xI} {hr : xI} {g : xJ} {xs : Nat → Int32} {L c z : Nat} (v0 : Int32) (r : Int32) (H : f_i_bitCount_24 v0 = r) : Ex 0 49 (24, [some (.int v0)], [], xSt xG0 hc hr xs g L c z) (.inl (some (.int r)), xSt xG0 hc hr xs g L c z) := by
  unfold f_i_bitCount_24 at H
  refine Ex.many (f' := (41, [some (.int (((v0 + (xushr v0 (4 : Int32))) &&& (252645135 : Int32)) + (xushr ((v0 + (xushr v0 (4 : Int32))) &&& (252645135 : Int32)) (8 : Int32))))], [], xSt xG0 hc hr xs g L c z)) ?_ 14 (by rfl)
  exact T_i_bitCount_41 (((v0 + (xushr v0 (4 : Int32))) &&& (252645135 : Int32)) + (xushr ((v0 + (xushr v0 (4 : Int32))) &&& (252645135 : Int32)) (8 : Int32))) r H
def f_i_bitCount (a0 : Int32) : Int32 :=
  f_i_bitCount_24 (((a0 - ((xushr a0 (1 : Int32)) &&& (1431655765 : Int32))) &&& (858993459 : Int32)) + ((xushr (a0 - ((xushr a0 (1 : Int32)) &&& (1431655765 : Int32))) (2 : Int32)) &&& (858993459 : Int32)))
theorem T_i_bitCount {hc : xI} {hr : xI} {g : xJ} {xs : Nat → Int32} {L c z : Nat} (a0 : Int32) (r : Int32) (H : f_i_bitCount a0 = r) : Ex 0 49 (0, [some (.int a0)], [], xSt xG0 hc hr xs g L c z) (.inl (some (.int r)), xSt xG0 hc hr xs g L c z) := by
  unfold f_i_bitCount at H
  refine Ex.many (f' := (24, [some (.int (((a0 - ((xushr a0 (1 : Int32)) &&& (1431655765 : Int32))) &&& (858993459 : Int32)) + ((xushr (a0 - ((xushr a0 (1 : Int32)) &&& (1431655765 : Int32))) (2 : Int32)) &&& (858993459 : Int32))))], [], xSt xG0 hc hr xs g L c z)) ?_ 18 (by rfl)
  exact T_i_bitCount_24 (((a0 - ((xushr a0 (1 : Int32)) &&& (1431655765 : Int32))) &&& (858993459 : Int32)) + ((xushr (a0 - ((xushr a0 (1 : Int32)) &&& (1431655765 : Int32))) (2 : Int32)) &&& (858993459 : Int32))) r H
def f_n_ofOne (a0 : Int32) (a1 : Int32) : Int32 :=
  if a0 = (103 : Int32) then (f_i_numberOfLeadingZeros a1) else (if a0 = (104 : Int32) then (f_i_numberOfTrailingZeros a1) else (if a0 = (105 : Int32) then (f_i_bitCount a1) else (if a1 = 0 then (1 : Int32) else (0 : Int32))))
theorem T_n_ofOne {hc : xI} {hr : xI} {g : xJ} {xs : Nat → Int32} {L c z : Nat} (a0 : Int32) (a1 : Int32) (r : Int32) (H : f_n_ofOne a0 a1 = r) : Ex 1 46 (0, [some (.int a0), some (.int a1)], [], xSt xG0 hc hr xs g L c z) (.inl (some (.int r)), xSt xG0 hc hr xs g L c z) := by
  unfold f_n_ofOne at H
  refine Ex.many (f' := (1, [some (.int a0), some (.int a1)], [.int a0], xSt xG0 hc hr xs g L c z)) ?_ 1 (by rfl)
  by_cases q1 : a0 = (103 : Int32)
  · replace H := (if_pos q1).symm.trans H
    refine Ex.sw (t := 28) (ls := [some (.int a0), some (.int a1)]) (st := []) (S := xSt xG0 hc hr xs g L c z) ?_ (by rfl) (by rw [q1]; rfl)
    refine Ex.many (f' := (29, [none, some (.int a1)], [.int a1], xSt xG0 hc hr xs g L c z)) ?_ 1 (by rfl)
    refine Ex.call (mk := 47) (vs := [.int a1]) (rest := []) (by rfl) (by rfl) (Ex.up (T_i_numberOfLeadingZeros a1 _ rfl) (by decide)) (xbb c z) ?_
    show Ex _ _ (32, [none, some (.int a1)], [.int (f_i_numberOfLeadingZeros a1)], xSt xG0 hc hr xs g L c z) _
    skip
    subst H
    exact Ex.done (by rfl)
  · replace H := (if_neg q1).symm.trans H
    by_cases q3 : a0 = (104 : Int32)
    · replace H := (if_pos q3).symm.trans H
      refine Ex.sw (t := 33) (ls := [some (.int a0), some (.int a1)]) (st := []) (S := xSt xG0 hc hr xs g L c z) ?_ (by rfl) (by rw [q3]; rfl)
      refine Ex.many (f' := (34, [none, some (.int a1)], [.int a1], xSt xG0 hc hr xs g L c z)) ?_ 1 (by rfl)
      refine Ex.call (mk := 48) (vs := [.int a1]) (rest := []) (by rfl) (by rfl) (Ex.up (T_i_numberOfTrailingZeros a1 _ rfl) (by decide)) (xbb c z) ?_
      show Ex _ _ (37, [none, some (.int a1)], [.int (f_i_numberOfTrailingZeros a1)], xSt xG0 hc hr xs g L c z) _
      skip
      subst H
      exact Ex.done (by rfl)
    · replace H := (if_neg q3).symm.trans H
      by_cases q5 : a0 = (105 : Int32)
      · replace H := (if_pos q5).symm.trans H
        refine Ex.sw (t := 38) (ls := [some (.int a0), some (.int a1)]) (st := []) (S := xSt xG0 hc hr xs g L c z) ?_ (by rfl) (by rw [q5]; rfl)
        refine Ex.many (f' := (39, [none, some (.int a1)], [.int a1], xSt xG0 hc hr xs g L c z)) ?_ 1 (by rfl)
        refine Ex.call (mk := 49) (vs := [.int a1]) (rest := []) (by rfl) (by rfl) (Ex.up (T_i_bitCount a1 _ rfl) (by decide)) (xbb c z) ?_
        show Ex _ _ (42, [none, some (.int a1)], [.int (f_i_bitCount a1)], xSt xG0 hc hr xs g L c z) _
        skip
        subst H
        exact Ex.done (by rfl)
      · replace H := (if_neg q5).symm.trans H
        refine Ex.sw (t := 43) (ls := [some (.int a0), some (.int a1)]) (st := []) (S := xSt xG0 hc hr xs g L c z) ?_ (by rfl) (xtsw_d [(103 : Int32), (104 : Int32), (105 : Int32)] (by decide +kernel) (by decide +kernel) (List.forall_mem_cons.mpr ⟨fun e => q1 e, (List.forall_mem_cons.mpr ⟨fun e => q3 e, (List.forall_mem_cons.mpr ⟨fun e => q5 e, (fun _ h => absurd h List.not_mem_nil)⟩)⟩)⟩))
        refine Ex.many (f' := (44, [none, some (.int a1)], [.int a1], xSt xG0 hc hr xs g L c z)) ?_ 1 (by rfl)
        refine Ex.ite (ls := [none, some (.int a1)]) (st := []) (S := xSt xG0 hc hr xs g L c z) (by rfl) (fun q7 => ?_) (fun q7 => ?_)
        · replace H := (if_pos q7).symm.trans H
          refine Ex.many (f' := (52, [none, none], [.int (1 : Int32)], xSt xG0 hc hr xs g L c z)) ?_ 2 (by rfl)
          skip
          subst H
          exact Ex.done (by rfl)
        · replace H := (if_neg q7).symm.trans H
          refine Ex.many (f' := (52, [none, none], [.int (0 : Int32)], xSt xG0 hc hr xs g L c z)) ?_ 1 (by rfl)
          skip
          subst H
          exact Ex.done (by rfl)
def f_h_calculate_98 (s1 : Int32) (hc : xI) : Option (Int32 × xI) :=
  (f_h_replaceTwo s1 hc).bind fun q1 => some (q1.1, q1.2)
theorem T_h_calculate_98 {hr : xI} {g : xJ} {xs : Nat → Int32} {L c z : Nat} (s1 : Int32) (hc : xI) (r : (Int32 × xI)) (H : f_h_calculate_98 s1 hc = some r) : Ex 4 44 (98, [none, none, none, none, none], [.int s1, .ref 19], xSt xG0 hc hr xs g L c z) (.inl (some (.int r.1)), xSt xG0 r.2 hr xs g L c z) := by
  unfold f_h_calculate_98 at H
  obtain ⟨q1, hq1, H⟩ := xbd H
  refine Ex.call (mk := 53) (vs := [.ref 19, .int s1]) (rest := []) (by rfl) (by rfl) (Ex.up (T_h_replaceTwo s1 hc q1 hq1) (by decide)) (xbb c z) ?_
  show Ex _ _ (101, [none, none, none, none, none], [.int q1.1], xSt xG0 q1.2 hr xs g L c z) _
  replace H := Option.some.inj H
  subst H
  exact Ex.done (by rfl)
def f_h_calculate_75 (v1 : Int32) (v2 : Int32) (v3 : Int32) (s0 : Int32) (hc : xI) : Option (Int32 × xI) :=
  if s0 = 0 then (f_h_calculate_98 (f_n_ofTwo v1 v3 v2) hc) else (f_h_calculate_98 (f_n_compared v1 v3 v2) hc)
theorem T_h_calculate_75 {hr : xI} {g : xJ} {xs : Nat → Int32} {L c z : Nat} (v1 : Int32) (v2 : Int32) (v3 : Int32) (s0 : Int32) (hc : xI) (r : (Int32 × xI)) (H : f_h_calculate_75 v1 v2 v3 s0 hc = some r) : Ex 4 44 (75, [some (.ref 19), some (.int v1), some (.int v2), some (.int v3), none], [.int s0], xSt xG0 hc hr xs g L c z) (.inl (some (.int r.1)), xSt xG0 r.2 hr xs g L c z) := by
  unfold f_h_calculate_75 at H
  refine Ex.many (f' := (80, [some (.ref 19), some (.int v1), some (.int v2), some (.int v3), some (.int s0)], [.int s0, .ref 19], xSt xG0 hc hr xs g L c z)) ?_ 3 (by rfl)
  refine Ex.ite (ls := [some (.ref 19), some (.int v1), some (.int v2), some (.int v3), some (.int s0)]) (st := [.ref 19]) (S := xSt xG0 hc hr xs g L c z) (by rfl) (fun q1 => ?_) (fun q1 => ?_)
  · replace H := (if_pos q1).symm.trans H
    refine Ex.many (f' := (95, [none, some (.int v1), some (.int v2), some (.int v3), none], [.int v2, .int v3, .int v1, .ref 19], xSt xG0 hc hr xs g L c z)) ?_ 3 (by rfl)
    refine Ex.call (mk := 56) (vs := [.int v1, .int v3, .int v2]) (rest := [.ref 19]) (by rfl) (by rfl) (Ex.up (T_n_ofTwo v1 v3 v2 _ rfl) (by decide)) (xbb c z) ?_
    show Ex _ _ (98, [none, some (.int v1), some (.int v2), some (.int v3), none], [.int (f_n_ofTwo v1 v3 v2), .ref 19], xSt xG0 hc hr xs g L c z) _
    refine Ex.kill (ls' := [none, none, none, none, none]) (by rfl) ?_
    exact T_h_calculate_98 (f_n_ofTwo v1 v3 v2) hc r H
  · replace H := (if_neg q1).symm.trans H
    refine Ex.many (f' := (86, [none, some (.int v1), some (.int v2), some (.int v3), none], [.int v2, .int v3, .int v1, .ref 19], xSt xG0 hc hr xs g L c z)) ?_ 3 (by rfl)
    refine Ex.call (mk := 54) (vs := [.int v1, .int v3, .int v2]) (rest := [.ref 19]) (by rfl) (by rfl) (Ex.up (T_n_compared v1 v3 v2 _ rfl) (by decide)) (xbb c z) ?_
    show Ex _ _ (89, [none, some (.int v1), some (.int v2), some (.int v3), none], [.int (f_n_compared v1 v3 v2), .ref 19], xSt xG0 hc hr xs g L c z) _
    refine Ex.many (f' := (98, [none, none, none, none, none], [.int (f_n_compared v1 v3 v2), .ref 19], xSt xG0 hc hr xs g L c z)) ?_ 1 (by rfl)
    exact T_h_calculate_98 (f_n_compared v1 v3 v2) hc r H
def f_h_calculate (a1 : Int32) (hc : xI) : Option (Int32 × xI) :=
  xgd ((hc 19 4) - (1 : Int32)) 100 (if (f_o_isUnary a1) = 0 then (xgd ((hc 19 4) - (2 : Int32)) 100 (if (f_o_isDivision a1) = 0 then (if (79 : Int32) < a1 then (f_h_calculate_75 a1 (hc 21 ((hc 19 4) - (1 : Int32)).toNatClampNeg) (hc 21 ((hc 19 4) - (2 : Int32)).toNatClampNeg) (0 : Int32) hc) else (f_h_calculate_75 a1 (hc 21 ((hc 19 4) - (1 : Int32)).toNatClampNeg) (hc 21 ((hc 19 4) - (2 : Int32)).toNatClampNeg) (1 : Int32) hc)) else ((f_h_divide a1 (hc 21 ((hc 19 4) - (2 : Int32)).toNatClampNeg) (hc 21 ((hc 19 4) - (1 : Int32)).toNatClampNeg) hc).bind fun q8 => some (q8.1, q8.2)))) else (xgd ((hc 19 4) - (1 : Int32)) 100 (some ((0 : Int32), (xput hc 21 ((hc 19 4) - (1 : Int32)).toNatClampNeg (f_n_ofOne a1 (hc 21 ((hc 19 4) - (1 : Int32)).toNatClampNeg)))))))
theorem T_h_calculate {hr : xI} {g : xJ} {xs : Nat → Int32} {L c z : Nat} (a1 : Int32) (hc : xI) (r : (Int32 × xI)) (H : f_h_calculate a1 hc = some r) : Ex 4 44 (0, [some (.ref 19), some (.int a1), none, none, none], [], xSt xG0 hc hr xs g L c z) (.inl (some (.int r.1)), xSt xG0 r.2 hr xs g L c z) := by
  unfold f_h_calculate at H
  refine Ex.many (f' := (10, [some (.ref 19), some (.int a1), none, none, none], [.int ((hc 19 4) - (1 : Int32)), .ref 21], xSt xG0 hc hr xs g L c z)) ?_ 6 (by rfl)
  obtain ⟨g1, H⟩ := xgd_some H
  refine Ex.guard (f' := (11, [some (.ref 19), some (.int a1), none, none, none], [.int (hc 21 ((hc 19 4) - (1 : Int32)).toNatClampNeg)], xSt xG0 hc hr xs g L c z)) (by rfl) g1 ?_
  refine Ex.many (f' := (13, [some (.ref 19), some (.int a1), some (.int (hc 21 ((hc 19 4) - (1 : Int32)).toNatClampNeg)), none, none], [.int a1], xSt xG0 hc hr xs g L c z)) ?_ 2 (by rfl)
  refine Ex.call (mk := 45) (vs := [.int a1]) (rest := []) (by rfl) (by rfl) (Ex.up (T_o_isUnary a1 _ rfl) (by decide)) (xbb c z) ?_
  show Ex _ _ (16, [some (.ref 19), some (.int a1), some (.int (hc 21 ((hc 19 4) - (1 : Int32)).toNatClampNeg)), none, none], [.int (f_o_isUnary a1)], xSt xG0 hc hr xs g L c z) _
  refine Ex.ite (ls := [some (.ref 19), some (.int a1), some (.int (hc 21 ((hc 19 4) - (1 : Int32)).toNatClampNeg)), none, none]) (st := []) (S := xSt xG0 hc hr xs g L c z) (by rfl) (fun q3 => ?_) (fun q3 => ?_)
  · replace H := (if_pos q3).symm.trans H
    refine Ex.many (f' := (47, [some (.ref 19), some (.int a1), some (.int (hc 21 ((hc 19 4) - (1 : Int32)).toNatClampNeg)), none, none], [.int ((hc 19 4) - (2 : Int32)), .ref 21], xSt xG0 hc hr xs g L c z)) ?_ 6 (by rfl)
    obtain ⟨g4, H⟩ := xgd_some H
    refine Ex.guard (f' := (48, [some (.ref 19), some (.int a1), some (.int (hc 21 ((hc 19 4) - (1 : Int32)).toNatClampNeg)), none, none], [.int (hc 21 ((hc 19 4) - (2 : Int32)).toNatClampNeg)], xSt xG0 hc hr xs g L c z)) (by rfl) g4 ?_
    refine Ex.many (f' := (50, [some (.ref 19), some (.int a1), some (.int (hc 21 ((hc 19 4) - (1 : Int32)).toNatClampNeg)), some (.int (hc 21 ((hc 19 4) - (2 : Int32)).toNatClampNeg)), none], [.int a1], xSt xG0 hc hr xs g L c z)) ?_ 2 (by rfl)
    refine Ex.call (mk := 50) (vs := [.int a1]) (rest := []) (by rfl) (by rfl) (Ex.up (T_o_isDivision a1 _ rfl) (by decide)) (xbb c z) ?_
    show Ex _ _ (53, [some (.ref 19), some (.int a1), some (.int (hc 21 ((hc 19 4) - (1 : Int32)).toNatClampNeg)), some (.int (hc 21 ((hc 19 4) - (2 : Int32)).toNatClampNeg)), none], [.int (f_o_isDivision a1)], xSt xG0 hc hr xs g L c z) _
    refine Ex.ite (ls := [some (.ref 19), some (.int a1), some (.int (hc 21 ((hc 19 4) - (1 : Int32)).toNatClampNeg)), some (.int (hc 21 ((hc 19 4) - (2 : Int32)).toNatClampNeg)), none]) (st := []) (S := xSt xG0 hc hr xs g L c z) (by rfl) (fun q6 => ?_) (fun q6 => ?_)
    · replace H := (if_pos q6).symm.trans H
      refine Ex.many (f' := (67, [some (.ref 19), some (.int a1), some (.int (hc 21 ((hc 19 4) - (1 : Int32)).toNatClampNeg)), some (.int (hc 21 ((hc 19 4) - (2 : Int32)).toNatClampNeg)), none], [.int (79 : Int32), .int a1], xSt xG0 hc hr xs g L c z)) ?_ 2 (by rfl)
      refine Ex.ite (ls := [some (.ref 19), some (.int a1), some (.int (hc 21 ((hc 19 4) - (1 : Int32)).toNatClampNeg)), some (.int (hc 21 ((hc 19 4) - (2 : Int32)).toNatClampNeg)), none]) (st := []) (S := xSt xG0 hc hr xs g L c z) (by rfl) (fun q7 => ?_) (fun q7 => ?_)
      · replace H := (if_pos q7).symm.trans H
        refine Ex.many (f' := (75, [some (.ref 19), some (.int a1), some (.int (hc 21 ((hc 19 4) - (1 : Int32)).toNatClampNeg)), some (.int (hc 21 ((hc 19 4) - (2 : Int32)).toNatClampNeg)), none], [.int (0 : Int32)], xSt xG0 hc hr xs g L c z)) ?_ 1 (by rfl)
        exact T_h_calculate_75 a1 (hc 21 ((hc 19 4) - (1 : Int32)).toNatClampNeg) (hc 21 ((hc 19 4) - (2 : Int32)).toNatClampNeg) (0 : Int32) hc r H
      · replace H := (if_neg q7).symm.trans H
        refine Ex.many (f' := (75, [some (.ref 19), some (.int a1), some (.int (hc 21 ((hc 19 4) - (1 : Int32)).toNatClampNeg)), some (.int (hc 21 ((hc 19 4) - (2 : Int32)).toNatClampNeg)), none], [.int (1 : Int32)], xSt xG0 hc hr xs g L c z)) ?_ 2 (by rfl)
        exact T_h_calculate_75 a1 (hc 21 ((hc 19 4) - (1 : Int32)).toNatClampNeg) (hc 21 ((hc 19 4) - (2 : Int32)).toNatClampNeg) (1 : Int32) hc r H
    · replace H := (if_neg q6).symm.trans H
      refine Ex.many (f' := (60, [some (.ref 19), some (.int a1), some (.int (hc 21 ((hc 19 4) - (1 : Int32)).toNatClampNeg)), some (.int (hc 21 ((hc 19 4) - (2 : Int32)).toNatClampNeg)), none], [.int (hc 21 ((hc 19 4) - (1 : Int32)).toNatClampNeg), .int (hc 21 ((hc 19 4) - (2 : Int32)).toNatClampNeg), .int a1, .ref 19], xSt xG0 hc hr xs g L c z)) ?_ 4 (by rfl)
      obtain ⟨q8, hq8, H⟩ := xbd H
      refine Ex.call (mk := 51) (vs := [.ref 19, .int a1, .int (hc 21 ((hc 19 4) - (2 : Int32)).toNatClampNeg), .int (hc 21 ((hc 19 4) - (1 : Int32)).toNatClampNeg)]) (rest := []) (by rfl) (by rfl) (Ex.up (T_h_divide a1 (hc 21 ((hc 19 4) - (2 : Int32)).toNatClampNeg) (hc 21 ((hc 19 4) - (1 : Int32)).toNatClampNeg) hc q8 hq8) (by decide)) (xbb c z) ?_
      show Ex _ _ (63, [some (.ref 19), some (.int a1), some (.int (hc 21 ((hc 19 4) - (1 : Int32)).toNatClampNeg)), some (.int (hc 21 ((hc 19 4) - (2 : Int32)).toNatClampNeg)), none], [.int q8.1], xSt xG0 q8.2 hr xs g L c z) _
      replace H := Option.some.inj H
      subst H
      exact Ex.done (by rfl)
  · replace H := (if_neg q3).symm.trans H
    refine Ex.many (f' := (31, [some (.ref 19), some (.int a1), some (.int (hc 21 ((hc 19 4) - (1 : Int32)).toNatClampNeg)), none, none], [.int (hc 21 ((hc 19 4) - (1 : Int32)).toNatClampNeg), .int a1, .int ((hc 19 4) - (1 : Int32)), .ref 21], xSt xG0 hc hr xs g L c z)) ?_ 8 (by rfl)
    refine Ex.call (mk := 46) (vs := [.int a1, .int (hc 21 ((hc 19 4) - (1 : Int32)).toNatClampNeg)]) (rest := [.int ((hc 19 4) - (1 : Int32)), .ref 21]) (by rfl) (by rfl) (Ex.up (T_n_ofOne a1 (hc 21 ((hc 19 4) - (1 : Int32)).toNatClampNeg) _ rfl) (by decide)) (xbb c z) ?_
    show Ex _ _ (34, [some (.ref 19), some (.int a1), some (.int (hc 21 ((hc 19 4) - (1 : Int32)).toNatClampNeg)), none, none], [.int (f_n_ofOne a1 (hc 21 ((hc 19 4) - (1 : Int32)).toNatClampNeg)), .int ((hc 19 4) - (1 : Int32)), .ref 21], xSt xG0 hc hr xs g L c z) _
    obtain ⟨g10, H⟩ := xgd_some H
    refine Ex.gputC (pc := 35) (k := 21) (n := 100) (i := ((hc 19 4) - (1 : Int32))) (v := (f_n_ofOne a1 (hc 21 ((hc 19 4) - (1 : Int32)).toNatClampNeg))) (ls := [none, none, none, none, none]) (st := []) (hc := hc) ?_ (by rfl) g10 (by rfl)
    refine Ex.many (f' := (36, [none, none, none, none, none], [.int (0 : Int32)], xSt xG0 (xput hc 21 ((hc 19 4) - (1 : Int32)).toNatClampNeg (f_n_ofOne a1 (hc 21 ((hc 19 4) - (1 : Int32)).toNatClampNeg))) hr xs g L c z)) ?_ 1 (by rfl)
    replace H := Option.some.inj H
    subst H
    exact Ex.done (by rfl)
def f_o_bytesOf (a0 : Int32) : Int32 :=
  if a0 = (44 : Int32) ∨ a0 = (45 : Int32) ∨ a0 = (58 : Int32) then (1 : Int32) else (if a0 = (46 : Int32) ∨ a0 = (47 : Int32) ∨ a0 = (59 : Int32) then (2 : Int32) else ((4 : Int32)))
theorem T_o_bytesOf {hc : xI} {hr : xI} {g : xJ} {xs : Nat → Int32} {L c z : Nat} (a0 : Int32) (r : Int32) (H : f_o_bytesOf a0 = r) : Ex 0 37 (0, [some (.int a0)], [], xSt xG0 hc hr xs g L c z) (.inl (some (.int r)), xSt xG0 hc hr xs g L c z) := by
  unfold f_o_bytesOf at H
  refine Ex.many (f' := (1, [some (.int a0)], [.int a0], xSt xG0 hc hr xs g L c z)) ?_ 1 (by rfl)
  by_cases q1 : a0 = (44 : Int32) ∨ a0 = (45 : Int32) ∨ a0 = (58 : Int32)
  · replace H := (if_pos q1).symm.trans H
    refine Ex.sw (t := 80) (ls := [some (.int a0)]) (st := []) (S := xSt xG0 hc hr xs g L c z) ?_ (by rfl) (by rcases q1 with q1 | q1 | q1 <;> (rw [q1]; rfl))
    refine Ex.many (f' := (81, [none], [.int (1 : Int32)], xSt xG0 hc hr xs g L c z)) ?_ 1 (by rfl)
    skip
    subst H
    exact Ex.done (by rfl)
  · replace H := (if_neg q1).symm.trans H
    by_cases q2 : a0 = (46 : Int32) ∨ a0 = (47 : Int32) ∨ a0 = (59 : Int32)
    · replace H := (if_pos q2).symm.trans H
      refine Ex.sw (t := 82) (ls := [some (.int a0)]) (st := []) (S := xSt xG0 hc hr xs g L c z) ?_ (by rfl) (by rcases q2 with q2 | q2 | q2 <;> (rw [q2]; rfl))
      refine Ex.many (f' := (83, [none], [.int (2 : Int32)], xSt xG0 hc hr xs g L c z)) ?_ 1 (by rfl)
      skip
      subst H
      exact Ex.done (by rfl)
    · replace H := (if_neg q2).symm.trans H
      refine Ex.sw (t := 84) (ls := [some (.int a0)]) (st := []) (S := xSt xG0 hc hr xs g L c z) ?_ (by rfl) (xtsw_d [(44 : Int32), (45 : Int32), (46 : Int32), (47 : Int32), (58 : Int32), (59 : Int32)] (by decide +kernel) (by decide +kernel) (List.forall_mem_cons.mpr ⟨fun e => q1 (.inl e), (List.forall_mem_cons.mpr ⟨fun e => q1 (.inr (.inl e)), (List.forall_mem_cons.mpr ⟨fun e => q2 (.inl e), (List.forall_mem_cons.mpr ⟨fun e => q2 (.inr (.inl e)), (List.forall_mem_cons.mpr ⟨fun e => q1 (.inr (.inr e)), (List.forall_mem_cons.mpr ⟨fun e => q2 (.inr (.inr e)), (fun _ h => absurd h List.not_mem_nil)⟩)⟩)⟩)⟩)⟩)⟩))
      refine Ex.many (f' := (85, [none], [.int (4 : Int32)], xSt xG0 hc hr xs g L c z)) ?_ 1 (by rfl)
      skip
      subst H
      exact Ex.done (by rfl)
def f_y_holds (a1 : Int64) (a3 : Int32) (hc : xI) : Int32 :=
  if (lg_cmp a1 (0 : Int64)) < 0 then (0 : Int32) else (if 0 < (lg_cmp (a1 + a3.toInt64) (((hc 11 1) * (64 : Int32)).toInt64)) then (0 : Int32) else (1 : Int32))
theorem T_y_holds {hr : xI} {g : xJ} {xs : Nat → Int32} {L c z : Nat} (a1 : Int64) (a3 : Int32) (hc : xI) (r : Int32) (H : f_y_holds a1 a3 hc = r) : Ex 0 40 (0, [some (.ref 11), some (.long a1), none, some (.int a3)], [], xSt xG0 hc hr xs g L c z) (.inl (some (.int r)), xSt xG0 hc hr xs g L c z) := by
  unfold f_y_holds at H
  refine Ex.many (f' := (3, [some (.ref 11), some (.long a1), none, some (.int a3)], [.int (lg_cmp a1 (0 : Int64))], xSt xG0 hc hr xs g L c z)) ?_ 3 (by rfl)
  refine Ex.ite (ls := [some (.ref 11), some (.long a1), none, some (.int a3)]) (st := []) (S := xSt xG0 hc hr xs g L c z) (by rfl) (fun q1 => ?_) (fun q1 => ?_)
  · replace H := (if_pos q1).symm.trans H
    refine Ex.many (f' := (27, [none, none, none, none], [.int (0 : Int32)], xSt xG0 hc hr xs g L c z)) ?_ 1 (by rfl)
    skip
    subst H
    exact Ex.done (by rfl)
  · replace H := (if_neg q1).symm.trans H
    refine Ex.many (f' := (19, [some (.ref 11), some (.long a1), none, some (.int a3)], [.int (lg_cmp (a1 + a3.toInt64) (((hc 11 1) * (64 : Int32)).toInt64))], xSt xG0 hc hr xs g L c z)) ?_ 10 (by rfl)
    refine Ex.ite (ls := [some (.ref 11), some (.long a1), none, some (.int a3)]) (st := []) (S := xSt xG0 hc hr xs g L c z) (by rfl) (fun q2 => ?_) (fun q2 => ?_)
    · replace H := (if_pos q2).symm.trans H
      refine Ex.many (f' := (27, [none, none, none, none], [.int (0 : Int32)], xSt xG0 hc hr xs g L c z)) ?_ 1 (by rfl)
      skip
      subst H
      exact Ex.done (by rfl)
    · replace H := (if_neg q2).symm.trans H
      refine Ex.many (f' := (27, [none, none, none, none], [.int (1 : Int32)], xSt xG0 hc hr xs g L c z)) ?_ 2 (by rfl)
      skip
      subst H
      exact Ex.done (by rfl)
def f_y_write_3 : Nat → Int32 → Int32 → Int32 → Int32 → xI → Option xI
  | 0, _, _, _, _, _ => none
  | n + 1, v1, v2, v3, v4, hc => if v3 ≤ v4 then (some hc) else (xgd (v1 + v4) 256 (f_y_write_3 n v1 v2 v3 (v4 + (1 : Int32)) (xput hc 12 (v1 + v4).toNatClampNeg (vp_nar .byte ((v2 >>> (((8 : Int32) * v4) &&& 31)).toInt8.toInt32)))))
theorem T_y_write_3 {hr : xI} {g : xJ} {xs : Nat → Int32} {L c z : Nat} (n : Nat) : ∀ (v1 : Int32) (v2 : Int32) (v3 : Int32) (v4 : Int32) (hc : xI) (r : xI), f_y_write_3 n v1 v2 v3 v4 hc = some r → Ex 0 41 (3, [some (.ref 11), some (.int v1), some (.int v2), some (.int v3), some (.int v4)], [], xSt xG0 hc hr xs g L c z) (.inl none, xSt xG0 r hr xs g L c z) := by
  induction n with
  | zero =>
    intro v1 v2 v3 v4 hc r H
    unfold f_y_write_3 at H
    cases H
  | succ n ih =>
    intro v1 v2 v3 v4 hc r H
    unfold f_y_write_3 at H
    refine Ex.many (f' := (6, [some (.ref 11), some (.int v1), some (.int v2), some (.int v3), some (.int v4)], [.int v3, .int v4], xSt xG0 hc hr xs g L c z)) ?_ 2 (by rfl)
    refine Ex.ite (ls := [some (.ref 11), some (.int v1), some (.int v2), some (.int v3), some (.int v4)]) (st := []) (S := xSt xG0 hc hr xs g L c z) (by rfl) (fun q1 => ?_) (fun q1 => ?_)
    · replace H := (if_pos q1).symm.trans H
      replace H := Option.some.inj H
      subst H
      exact Ex.done (by rfl)
    · replace H := (if_neg q1).symm.trans H
      refine Ex.many (f' := (25, [some (.ref 11), some (.int v1), some (.int v2), some (.int v3), some (.int v4)], [.int (v2 >>> (((8 : Int32) * v4) &&& 31)).toInt8.toInt32, .int (v1 + v4), .ref 12], xSt xG0 hc hr xs g L c z)) ?_ 11 (by rfl)
      obtain ⟨g2, H⟩ := xgd_some H
      refine Ex.gputC (pc := 26) (k := 12) (n := 256) (i := (v1 + v4)) (v := (vp_nar .byte ((v2 >>> (((8 : Int32) * v4) &&& 31)).toInt8.toInt32))) (ls := [some (.ref 11), some (.int v1), some (.int v2), some (.int v3), some (.int v4)]) (st := []) (hc := hc) ?_ (by rfl) g2 (by rfl)
      refine Ex.many (f' := (3, [some (.ref 11), some (.int v1), some (.int v2), some (.int v3), some (.int (v4 + (1 : Int32)))], [], xSt xG0 (xput hc 12 (v1 + v4).toNatClampNeg (vp_nar .byte ((v2 >>> (((8 : Int32) * v4) &&& 31)).toInt8.toInt32))) hr xs g L c z)) ?_ 2 (by rfl)
      exact ih v1 v2 v3 (v4 + (1 : Int32)) (xput hc 12 (v1 + v4).toNatClampNeg (vp_nar .byte ((v2 >>> (((8 : Int32) * v4) &&& 31)).toInt8.toInt32))) r H
def f_y_write (a1 : Int32) (a2 : Int32) (a3 : Int32) (hc : xI) : Option xI :=
  f_y_write_3 1000 a1 a2 a3 (0 : Int32) hc
theorem T_y_write {hr : xI} {g : xJ} {xs : Nat → Int32} {L c z : Nat} (a1 : Int32) (a2 : Int32) (a3 : Int32) (hc : xI) (r : xI) (H : f_y_write a1 a2 a3 hc = some r) : Ex 0 41 (0, [some (.ref 11), some (.int a1), some (.int a2), some (.int a3), none], [], xSt xG0 hc hr xs g L c z) (.inl none, xSt xG0 r hr xs g L c z) := by
  unfold f_y_write at H
  refine Ex.many (f' := (3, [some (.ref 11), some (.int a1), some (.int a2), some (.int a3), some (.int (0 : Int32))], [], xSt xG0 hc hr xs g L c z)) ?_ 2 (by rfl)
  exact T_y_write_3 1000 a1 a2 a3 (0 : Int32) hc r H
def f_h_store (a1 : Int32) (a2 : Int32) (hc : xI) : Option (Int32 × xI) :=
  xgd ((hc 19 4) - (2 : Int32)) 100 (if (f_y_holds ((f_i_toUnsignedLong (hc 21 ((hc 19 4) - (2 : Int32)).toNatClampNeg)) + a2.toInt64) a1 hc) = 0 then (some ((4 : Int32), hc)) else (xgd ((hc 19 4) - (1 : Int32)) 100 ((f_y_write (((f_i_toUnsignedLong (hc 21 ((hc 19 4) - (2 : Int32)).toNatClampNeg)) + a2.toInt64).toInt32) (hc 21 ((hc 19 4) - (1 : Int32)).toNatClampNeg) a1 hc).bind fun q6 => some ((0 : Int32), (xput q6 19 4 ((q6 19 4) - (2 : Int32)))))))
theorem T_h_store {hr : xI} {g : xJ} {xs : Nat → Int32} {L c z : Nat} (a1 : Int32) (a2 : Int32) (hc : xI) (r : (Int32 × xI)) (H : f_h_store a1 a2 hc = some r) : Ex 1 38 (0, [some (.ref 19), some (.int a1), some (.int a2), none, none], [], xSt xG0 hc hr xs g L c z) (.inl (some (.int r.1)), xSt xG0 r.2 hr xs g L c z) := by
  unfold f_h_store at H
  refine Ex.many (f' := (10, [some (.ref 19), some (.int a1), some (.int a2), none, none], [.int ((hc 19 4) - (2 : Int32)), .ref 21], xSt xG0 hc hr xs g L c z)) ?_ 6 (by rfl)
  obtain ⟨g1, H⟩ := xgd_some H
  refine Ex.guard (f' := (11, [some (.ref 19), some (.int a1), some (.int a2), none, none], [.int (hc 21 ((hc 19 4) - (2 : Int32)).toNatClampNeg)], xSt xG0 hc hr xs g L c z)) (by rfl) g1 ?_
  refine Ex.call (mk := 39) (vs := [.int (hc 21 ((hc 19 4) - (2 : Int32)).toNatClampNeg)]) (rest := []) (by rfl) (by rfl) (Ex.up (T_i_toUnsignedLong (hc 21 ((hc 19 4) - (2 : Int32)).toNatClampNeg) _ rfl) (by decide)) (xbb c z) ?_
  show Ex _ _ (14, [some (.ref 19), some (.int a1), some (.int a2), none, none], [.long (f_i_toUnsignedLong (hc 21 ((hc 19 4) - (2 : Int32)).toNatClampNeg))], xSt xG0 hc hr xs g L c z) _
  refine Ex.many (f' := (24, [some (.ref 19), some (.int a1), some (.int a2), some (.long ((f_i_toUnsignedLong (hc 21 ((hc 19 4) - (2 : Int32)).toNatClampNeg)) + a2.toInt64)), none], [.int a1, .long ((f_i_toUnsignedLong (hc 21 ((hc 19 4) - (2 : Int32)).toNatClampNeg)) + a2.toInt64), .ref 11], xSt xG0 hc hr xs g L c z)) ?_ 8 (by rfl)
  refine Ex.call (mk := 40) (vs := [.ref 11, .long ((f_i_toUnsignedLong (hc 21 ((hc 19 4) - (2 : Int32)).toNatClampNeg)) + a2.toInt64), .int a1]) (rest := []) (by rfl) (by rfl) (Ex.up (T_y_holds ((f_i_toUnsignedLong (hc 21 ((hc 19 4) - (2 : Int32)).toNatClampNeg)) + a2.toInt64) a1 hc _ rfl) (by decide)) (xbb c z) ?_
  show Ex _ _ (27, [some (.ref 19), some (.int a1), some (.int a2), some (.long ((f_i_toUnsignedLong (hc 21 ((hc 19 4) - (2 : Int32)).toNatClampNeg)) + a2.toInt64)), none], [.int (f_y_holds ((f_i_toUnsignedLong (hc 21 ((hc 19 4) - (2 : Int32)).toNatClampNeg)) + a2.toInt64) a1 hc)], xSt xG0 hc hr xs g L c z) _
  refine Ex.ite (ls := [some (.ref 19), some (.int a1), none, some (.long ((f_i_toUnsignedLong (hc 21 ((hc 19 4) - (2 : Int32)).toNatClampNeg)) + a2.toInt64)), none]) (st := []) (S := xSt xG0 hc hr xs g L c z) (by rfl) (fun q4 => ?_) (fun q4 => ?_)
  · replace H := (if_pos q4).symm.trans H
    refine Ex.many (f' := (31, [none, none, none, none, none], [.int (4 : Int32)], xSt xG0 hc hr xs g L c z)) ?_ 1 (by rfl)
    replace H := Option.some.inj H
    subst H
    exact Ex.done (by rfl)
  · replace H := (if_neg q4).symm.trans H
    refine Ex.many (f' := (48, [some (.ref 19), some (.int a1), none, some (.long ((f_i_toUnsignedLong (hc 21 ((hc 19 4) - (2 : Int32)).toNatClampNeg)) + a2.toInt64)), none], [.int ((hc 19 4) - (1 : Int32)), .ref 21, .int ((f_i_toUnsignedLong (hc 21 ((hc 19 4) - (2 : Int32)).toNatClampNeg)) + a2.toInt64).toInt32, .ref 11], xSt xG0 hc hr xs g L c z)) ?_ 10 (by rfl)
    obtain ⟨g5, H⟩ := xgd_some H
    refine Ex.guard (f' := (49, [some (.ref 19), some (.int a1), none, some (.long ((f_i_toUnsignedLong (hc 21 ((hc 19 4) - (2 : Int32)).toNatClampNeg)) + a2.toInt64)), none], [.int (hc 21 ((hc 19 4) - (1 : Int32)).toNatClampNeg), .int ((f_i_toUnsignedLong (hc 21 ((hc 19 4) - (2 : Int32)).toNatClampNeg)) + a2.toInt64).toInt32, .ref 11], xSt xG0 hc hr xs g L c z)) (by rfl) g5 ?_
    refine Ex.many (f' := (50, [some (.ref 19), some (.int a1), none, some (.long ((f_i_toUnsignedLong (hc 21 ((hc 19 4) - (2 : Int32)).toNatClampNeg)) + a2.toInt64)), none], [.int a1, .int (hc 21 ((hc 19 4) - (1 : Int32)).toNatClampNeg), .int ((f_i_toUnsignedLong (hc 21 ((hc 19 4) - (2 : Int32)).toNatClampNeg)) + a2.toInt64).toInt32, .ref 11], xSt xG0 hc hr xs g L c z)) ?_ 1 (by rfl)
    obtain ⟨q6, hq6, H⟩ := xbd H
    refine Ex.call (mk := 41) (vs := [.ref 11, .int ((f_i_toUnsignedLong (hc 21 ((hc 19 4) - (2 : Int32)).toNatClampNeg)) + a2.toInt64).toInt32, .int (hc 21 ((hc 19 4) - (1 : Int32)).toNatClampNeg), .int a1]) (rest := []) (by rfl) (by rfl) (Ex.up (T_y_write (((f_i_toUnsignedLong (hc 21 ((hc 19 4) - (2 : Int32)).toNatClampNeg)) + a2.toInt64).toInt32) (hc 21 ((hc 19 4) - (1 : Int32)).toNatClampNeg) a1 hc q6 hq6) (by decide)) (xbb c z) ?_
    show Ex _ _ (53, [some (.ref 19), some (.int a1), none, some (.long ((f_i_toUnsignedLong (hc 21 ((hc 19 4) - (2 : Int32)).toNatClampNeg)) + a2.toInt64)), none], [], xSt xG0 q6 hr xs g L c z) _
    refine Ex.many (f' := (60, [some (.ref 19), none, none, none, none], [.int ((q6 19 4) - (2 : Int32)), .ref 19], xSt xG0 q6 hr xs g L c z)) ?_ 5 (by rfl)
    refine Ex.putC (pc := 63) (k := 19) (j := 4) (v := ((q6 19 4) - (2 : Int32))) (ls := [some (.ref 19), none, none, none, none]) (st := []) (hc := q6) ?_ (by rfl) (by rfl)
    refine Ex.many (f' := (64, [some (.ref 19), none, none, none, none], [.int (0 : Int32)], xSt xG0 (xput q6 19 4 ((q6 19 4) - (2 : Int32))) hr xs g L c z)) ?_ 1 (by rfl)
    replace H := Option.some.inj H
    subst H
    exact Ex.done (by rfl)
def f_h_pop (hc : xI) : Option (Int32 × xI) :=
  xgd ((hc 19 4) - (1 : Int32)) 100 (some ((hc 21 ((hc 19 4) - (1 : Int32)).toNatClampNeg), (xput hc 19 4 ((hc 19 4) - (1 : Int32)))))
theorem T_h_pop {hr : xI} {g : xJ} {xs : Nat → Int32} {L c z : Nat} (hc : xI) (r : (Int32 × xI)) (H : f_h_pop hc = some r) : Ex 0 19 (0, [some (.ref 19)], [], xSt xG0 hc hr xs g L c z) (.inl (some (.int r.1)), xSt xG0 r.2 hr xs g L c z) := by
  unfold f_h_pop at H
  refine Ex.many (f' := (7, [some (.ref 19)], [.int ((hc 19 4) - (1 : Int32)), .ref 19], xSt xG0 hc hr xs g L c z)) ?_ 5 (by rfl)
  refine Ex.putC (pc := 10) (k := 19) (j := 4) (v := ((hc 19 4) - (1 : Int32))) (ls := [some (.ref 19)]) (st := []) (hc := hc) ?_ (by rfl) (by rfl)
  refine Ex.many (f' := (18, [some (.ref 19)], [.int ((hc 19 4) - (1 : Int32)), .ref 21], xSt xG0 (xput hc 19 4 ((hc 19 4) - (1 : Int32))) hr xs g L c z)) ?_ 4 (by rfl)
  obtain ⟨g1, H⟩ := xgd_some H
  refine Ex.guard (f' := (19, [some (.ref 19)], [.int (hc 21 ((hc 19 4) - (1 : Int32)).toNatClampNeg)], xSt xG0 (xput hc 19 4 ((hc 19 4) - (1 : Int32))) hr xs g L c z)) (by rfl) g1 ?_
  replace H := Option.some.inj H
  subst H
  exact Ex.done (by rfl)
def f_y_grow (a1 : Int32) (hc : xI) : Option (Int32 × xI) :=
  if (f_i_compareUnsigned a1 ((4 : Int32) - (hc 11 1))) ≤ 0 then (some ((hc 11 1), (xput hc 11 1 ((hc 11 1) + a1)))) else (some ((-1 : Int32), hc))
theorem T_y_grow {hr : xI} {g : xJ} {xs : Nat → Int32} {L c z : Nat} (a1 : Int32) (hc : xI) (r : (Int32 × xI)) (H : f_y_grow a1 hc = some r) : Ex 2 36 (0, [some (.ref 11), some (.int a1), none], [], xSt xG0 hc hr xs g L c z) (.inl (some (.int r.1)), xSt xG0 r.2 hr xs g L c z) := by
  unfold f_y_grow at H
  refine Ex.many (f' := (7, [some (.ref 11), some (.int a1), none], [.int ((4 : Int32) - (hc 11 1)), .int a1], xSt xG0 hc hr xs g L c z)) ?_ 5 (by rfl)
  refine Ex.call (mk := 25) (vs := [.int a1, .int ((4 : Int32) - (hc 11 1))]) (rest := []) (by rfl) (by rfl) (Ex.up (T_i_compareUnsigned a1 ((4 : Int32) - (hc 11 1)) _ rfl) (by decide)) (xbb c z) ?_
  show Ex _ _ (10, [some (.ref 11), some (.int a1), none], [.int (f_i_compareUnsigned a1 ((4 : Int32) - (hc 11 1)))], xSt xG0 hc hr xs g L c z) _
  refine Ex.ite (ls := [some (.ref 11), some (.int a1), none]) (st := []) (S := xSt xG0 hc hr xs g L c z) (by rfl) (fun q2 => ?_) (fun q2 => ?_)
  · replace H := (if_pos q2).symm.trans H
    refine Ex.many (f' := (27, [some (.ref 11), some (.int a1), some (.int (hc 11 1))], [.int ((hc 11 1) + a1), .ref 11], xSt xG0 hc hr xs g L c z)) ?_ 8 (by rfl)
    refine Ex.putC (pc := 30) (k := 11) (j := 1) (v := ((hc 11 1) + a1)) (ls := [some (.ref 11), some (.int a1), some (.int (hc 11 1))]) (st := []) (hc := hc) ?_ (by rfl) (by rfl)
    refine Ex.many (f' := (31, [some (.ref 11), some (.int a1), some (.int (hc 11 1))], [.int (hc 11 1)], xSt xG0 (xput hc 11 1 ((hc 11 1) + a1)) hr xs g L c z)) ?_ 1 (by rfl)
    replace H := Option.some.inj H
    subst H
    exact Ex.done (by rfl)
  · replace H := (if_neg q2).symm.trans H
    refine Ex.many (f' := (14, [none, none, none], [.int (-1 : Int32)], xSt xG0 hc hr xs g L c z)) ?_ 1 (by rfl)
    replace H := Option.some.inj H
    subst H
    exact Ex.done (by rfl)
def f_y_read_31 (k : Int32 → Int32 → Int32 → xI → Option Int32) (v1 : Int32) (v3 : Int32) (v4 : Int32) (hc : xI) : Option Int32 :=
  k v1 v3 (v4 + (-1 : Int32)) hc
theorem T_y_read_31 {hr : xI} {g : xJ} {xs : Nat → Int32} {L c z : Nat} (k : Int32 → Int32 → Int32 → xI → Option Int32) (hk : ∀ (v1 : Int32) (v3 : Int32) (v4 : Int32) (hc : xI) (r : Int32), k v1 v3 v4 hc = some r → Ex 0 43 (7, [some (.ref 11), some (.int v1), none, some (.int v3), some (.int v4)], [], xSt xG0 hc hr xs g L c z) (.inl (some (.int r)), xSt xG0 hc hr xs g L c z)) (v1 : Int32) (v3 : Int32) (v4 : Int32) (hc : xI) (r : Int32) (H : f_y_read_31 k v1 v3 v4 hc = some r) : Ex 0 43 (31, [some (.ref 11), some (.int v1), none, some (.int v3), some (.int v4)], [], xSt xG0 hc hr xs g L c z) (.inl (some (.int r)), xSt xG0 hc hr xs g L c z) := by
  unfold f_y_read_31 at H
  refine Ex.many (f' := (7, [some (.ref 11), some (.int v1), none, some (.int v3), some (.int (v4 + (-1 : Int32)))], [], xSt xG0 hc hr xs g L c z)) ?_ 2 (by rfl)
  exact hk v1 v3 (v4 + (-1 : Int32)) hc r H
def f_y_read_7 : Nat → Int32 → Int32 → Int32 → xI → Option Int32
  | 0, _, _, _, _ => none
  | n + 1, v1, v3, v4, hc => if v4 < 0 then (some v3) else (xgd (v1 + v4) 256 (f_y_read_31 (f_y_read_7 n) v1 ((v3 <<< ((8 : Int32) &&& 31)) ||| ((hc 12 (v1 + v4).toNatClampNeg) &&& (255 : Int32))) v4 hc))
theorem T_y_read_7 {hr : xI} {g : xJ} {xs : Nat → Int32} {L c z : Nat} (n : Nat) : ∀ (v1 : Int32) (v3 : Int32) (v4 : Int32) (hc : xI) (r : Int32), f_y_read_7 n v1 v3 v4 hc = some r → Ex 0 43 (7, [some (.ref 11), some (.int v1), none, some (.int v3), some (.int v4)], [], xSt xG0 hc hr xs g L c z) (.inl (some (.int r)), xSt xG0 hc hr xs g L c z) := by
  induction n with
  | zero =>
    intro v1 v3 v4 hc r H
    unfold f_y_read_7 at H
    cases H
  | succ n ih =>
    intro v1 v3 v4 hc r H
    unfold f_y_read_7 at H
    refine Ex.many (f' := (9, [some (.ref 11), some (.int v1), none, some (.int v3), some (.int v4)], [.int v4], xSt xG0 hc hr xs g L c z)) ?_ 1 (by rfl)
    refine Ex.ite (ls := [some (.ref 11), some (.int v1), none, some (.int v3), some (.int v4)]) (st := []) (S := xSt xG0 hc hr xs g L c z) (by rfl) (fun q1 => ?_) (fun q1 => ?_)
    · replace H := (if_pos q1).symm.trans H
      refine Ex.many (f' := (38, [none, none, none, some (.int v3), none], [.int v3], xSt xG0 hc hr xs g L c z)) ?_ 1 (by rfl)
      replace H := Option.some.inj H
      subst H
      exact Ex.done (by rfl)
    · replace H := (if_neg q1).symm.trans H
      refine Ex.many (f' := (24, [some (.ref 11), some (.int v1), none, some (.int v3), some (.int v4)], [.int (v1 + v4), .ref 12, .int (v3 <<< ((8 : Int32) &&& 31))], xSt xG0 hc hr xs g L c z)) ?_ 8 (by rfl)
      obtain ⟨g2, H⟩ := xgd_some H
      refine Ex.guard (f' := (25, [some (.ref 11), some (.int v1), none, some (.int v3), some (.int v4)], [.int (hc 12 (v1 + v4).toNatClampNeg), .int (v3 <<< ((8 : Int32) &&& 31))], xSt xG0 hc hr xs g L c z)) (by rfl) g2 ?_
      refine Ex.many (f' := (31, [some (.ref 11), some (.int v1), none, some (.int ((v3 <<< ((8 : Int32) &&& 31)) ||| ((hc 12 (v1 + v4).toNatClampNeg) &&& (255 : Int32)))), some (.int v4)], [], xSt xG0 hc hr xs g L c z)) ?_ 4 (by rfl)
      exact T_y_read_31 (f_y_read_7 n) ih v1 ((v3 <<< ((8 : Int32) &&& 31)) ||| ((hc 12 (v1 + v4).toNatClampNeg) &&& (255 : Int32))) v4 hc r H
def f_y_read (a1 : Int32) (a2 : Int32) (hc : xI) : Option Int32 :=
  f_y_read_7 1000 a1 (0 : Int32) (a2 - (1 : Int32)) hc
theorem T_y_read {hr : xI} {g : xJ} {xs : Nat → Int32} {L c z : Nat} (a1 : Int32) (a2 : Int32) (hc : xI) (r : Int32) (H : f_y_read a1 a2 hc = some r) : Ex 0 43 (0, [some (.ref 11), some (.int a1), some (.int a2), none, none], [], xSt xG0 hc hr xs g L c z) (.inl (some (.int r)), xSt xG0 hc hr xs g L c z) := by
  unfold f_y_read at H
  refine Ex.many (f' := (7, [some (.ref 11), some (.int a1), some (.int a2), some (.int (0 : Int32)), some (.int (a2 - (1 : Int32)))], [], xSt xG0 hc hr xs g L c z)) ?_ 6 (by rfl)
  refine Ex.kill (ls' := [some (.ref 11), some (.int a1), none, some (.int (0 : Int32)), some (.int (a2 - (1 : Int32)))]) (by rfl) ?_
  exact T_y_read_7 1000 a1 (0 : Int32) (a2 - (1 : Int32)) hc r H
def f_h_load_77 (v6 : Int32) (hc : xI) : Option (Int32 × xI) :=
  xgd ((hc 19 4) - (1 : Int32)) 100 (some ((0 : Int32), (xput hc 21 ((hc 19 4) - (1 : Int32)).toNatClampNeg v6)))
theorem T_h_load_77 {hr : xI} {g : xJ} {xs : Nat → Int32} {L c z : Nat} (v6 : Int32) (hc : xI) (r : (Int32 × xI)) (H : f_h_load_77 v6 hc = some r) : Ex 1 42 (77, [some (.ref 19), none, none, none, none, none, some (.int v6)], [], xSt xG0 hc hr xs g L c z) (.inl (some (.int r.1)), xSt xG0 r.2 hr xs g L c z) := by
  unfold f_h_load_77 at H
  refine Ex.many (f' := (89, [some (.ref 19), none, none, none, none, none, some (.int v6)], [.int v6, .int ((hc 19 4) - (1 : Int32)), .ref 21], xSt xG0 hc hr xs g L c z)) ?_ 7 (by rfl)
  obtain ⟨g1, H⟩ := xgd_some H
  refine Ex.gputC (pc := 90) (k := 21) (n := 100) (i := ((hc 19 4) - (1 : Int32))) (v := v6) (ls := [some (.ref 19), none, none, none, none, none, some (.int v6)]) (st := []) (hc := hc) ?_ (by rfl) g1 (by rfl)
  refine Ex.many (f' := (91, [some (.ref 19), none, none, none, none, none, some (.int v6)], [.int (0 : Int32)], xSt xG0 (xput hc 21 ((hc 19 4) - (1 : Int32)).toNatClampNeg v6) hr xs g L c z)) ?_ 1 (by rfl)
  replace H := Option.some.inj H
  subst H
  exact Ex.done (by rfl)
def f_h_load (a1 : Int32) (a2 : Int32) (hc : xI) : Option (Int32 × xI) :=
  xgd ((hc 19 4) - (1 : Int32)) 100 (if (f_y_holds ((f_i_toUnsignedLong (hc 21 ((hc 19 4) - (1 : Int32)).toNatClampNeg)) + a2.toInt64) (f_o_bytesOf a1) hc) = 0 then (some ((4 : Int32), hc)) else ((f_y_read (((f_i_toUnsignedLong (hc 21 ((hc 19 4) - (1 : Int32)).toNatClampNeg)) + a2.toInt64).toInt32) (f_o_bytesOf a1) hc).bind fun q6 => if a1 = (44 : Int32) then (f_h_load_77 q6.toInt8.toInt32 hc) else (if a1 = (46 : Int32) then (f_h_load_77 q6.toInt16.toInt32 hc) else (f_h_load_77 q6 hc))))
theorem T_h_load {hr : xI} {g : xJ} {xs : Nat → Int32} {L c z : Nat} (a1 : Int32) (a2 : Int32) (hc : xI) (r : (Int32 × xI)) (H : f_h_load a1 a2 hc = some r) : Ex 1 42 (0, [some (.ref 19), some (.int a1), some (.int a2), none, none, none, none], [], xSt xG0 hc hr xs g L c z) (.inl (some (.int r.1)), xSt xG0 r.2 hr xs g L c z) := by
  unfold f_h_load at H
  refine Ex.many (f' := (1, [some (.ref 19), some (.int a1), some (.int a2), none, none, none, none], [.int a1], xSt xG0 hc hr xs g L c z)) ?_ 1 (by rfl)
  refine Ex.call (mk := 37) (vs := [.int a1]) (rest := []) (by rfl) (by rfl) (Ex.up (T_o_bytesOf a1 _ rfl) (by decide)) (xbb c z) ?_
  show Ex _ _ (4, [some (.ref 19), some (.int a1), some (.int a2), none, none, none, none], [.int (f_o_bytesOf a1)], xSt xG0 hc hr xs g L c z) _
  refine Ex.many (f' := (15, [some (.ref 19), some (.int a1), some (.int a2), some (.int (f_o_bytesOf a1)), none, none, none], [.int ((hc 19 4) - (1 : Int32)), .ref 21], xSt xG0 hc hr xs g L c z)) ?_ 7 (by rfl)
  obtain ⟨g2, H⟩ := xgd_some H
  refine Ex.guard (f' := (16, [some (.ref 19), some (.int a1), some (.int a2), some (.int (f_o_bytesOf a1)), none, none, none], [.int (hc 21 ((hc 19 4) - (1 : Int32)).toNatClampNeg)], xSt xG0 hc hr xs g L c z)) (by rfl) g2 ?_
  refine Ex.call (mk := 39) (vs := [.int (hc 21 ((hc 19 4) - (1 : Int32)).toNatClampNeg)]) (rest := []) (by rfl) (by rfl) (Ex.up (T_i_toUnsignedLong (hc 21 ((hc 19 4) - (1 : Int32)).toNatClampNeg) _ rfl) (by decide)) (xbb c z) ?_
  show Ex _ _ (19, [some (.ref 19), some (.int a1), some (.int a2), some (.int (f_o_bytesOf a1)), none, none, none], [.long (f_i_toUnsignedLong (hc 21 ((hc 19 4) - (1 : Int32)).toNatClampNeg))], xSt xG0 hc hr xs g L c z) _
  refine Ex.many (f' := (31, [some (.ref 19), some (.int a1), some (.int a2), some (.int (f_o_bytesOf a1)), some (.long ((f_i_toUnsignedLong (hc 21 ((hc 19 4) - (1 : Int32)).toNatClampNeg)) + a2.toInt64)), none, none], [.int (f_o_bytesOf a1), .long ((f_i_toUnsignedLong (hc 21 ((hc 19 4) - (1 : Int32)).toNatClampNeg)) + a2.toInt64), .ref 11], xSt xG0 hc hr xs g L c z)) ?_ 8 (by rfl)
  refine Ex.call (mk := 40) (vs := [.ref 11, .long ((f_i_toUnsignedLong (hc 21 ((hc 19 4) - (1 : Int32)).toNatClampNeg)) + a2.toInt64), .int (f_o_bytesOf a1)]) (rest := []) (by rfl) (by rfl) (Ex.up (T_y_holds ((f_i_toUnsignedLong (hc 21 ((hc 19 4) - (1 : Int32)).toNatClampNeg)) + a2.toInt64) (f_o_bytesOf a1) hc _ rfl) (by decide)) (xbb c z) ?_
  show Ex _ _ (34, [some (.ref 19), some (.int a1), some (.int a2), some (.int (f_o_bytesOf a1)), some (.long ((f_i_toUnsignedLong (hc 21 ((hc 19 4) - (1 : Int32)).toNatClampNeg)) + a2.toInt64)), none, none], [.int (f_y_holds ((f_i_toUnsignedLong (hc 21 ((hc 19 4) - (1 : Int32)).toNatClampNeg)) + a2.toInt64) (f_o_bytesOf a1) hc)], xSt xG0 hc hr xs g L c z) _
  refine Ex.ite (ls := [some (.ref 19), some (.int a1), none, some (.int (f_o_bytesOf a1)), some (.long ((f_i_toUnsignedLong (hc 21 ((hc 19 4) - (1 : Int32)).toNatClampNeg)) + a2.toInt64)), none, none]) (st := []) (S := xSt xG0 hc hr xs g L c z) (by rfl) (fun q5 => ?_) (fun q5 => ?_)
  · replace H := (if_pos q5).symm.trans H
    refine Ex.many (f' := (38, [none, none, none, none, none, none, none], [.int (4 : Int32)], xSt xG0 hc hr xs g L c z)) ?_ 1 (by rfl)
    replace H := Option.some.inj H
    subst H
    exact Ex.done (by rfl)
  · replace H := (if_neg q5).symm.trans H
    refine Ex.many (f' := (47, [some (.ref 19), some (.int a1), none, some (.int (f_o_bytesOf a1)), some (.long ((f_i_toUnsignedLong (hc 21 ((hc 19 4) - (1 : Int32)).toNatClampNeg)) + a2.toInt64)), none, none], [.int (f_o_bytesOf a1), .int ((f_i_toUnsignedLong (hc 21 ((hc 19 4) - (1 : Int32)).toNatClampNeg)) + a2.toInt64).toInt32, .ref 11], xSt xG0 hc hr xs g L c z)) ?_ 5 (by rfl)
    obtain ⟨q6, hq6, H⟩ := xbd H
    refine Ex.call (mk := 43) (vs := [.ref 11, .int ((f_i_toUnsignedLong (hc 21 ((hc 19 4) - (1 : Int32)).toNatClampNeg)) + a2.toInt64).toInt32, .int (f_o_bytesOf a1)]) (rest := []) (by rfl) (by rfl) (Ex.up (T_y_read (((f_i_toUnsignedLong (hc 21 ((hc 19 4) - (1 : Int32)).toNatClampNeg)) + a2.toInt64).toInt32) (f_o_bytesOf a1) hc q6 hq6) (by decide)) (xbb c z) ?_
    show Ex _ _ (50, [some (.ref 19), some (.int a1), none, some (.int (f_o_bytesOf a1)), some (.long ((f_i_toUnsignedLong (hc 21 ((hc 19 4) - (1 : Int32)).toNatClampNeg)) + a2.toInt64)), none, none], [.int q6], xSt xG0 hc hr xs g L c z) _
    refine Ex.many (f' := (55, [some (.ref 19), some (.int a1), none, none, none, none, some (.int q6)], [.int (44 : Int32), .int a1], xSt xG0 hc hr xs g L c z)) ?_ 3 (by rfl)
    refine Ex.ite (ls := [some (.ref 19), some (.int a1), none, none, none, none, some (.int q6)]) (st := []) (S := xSt xG0 hc hr xs g L c z) (by rfl) (fun q7 => ?_) (fun q7 => ?_)
    · replace H := (if_pos q7).symm.trans H
      refine Ex.many (f' := (77, [some (.ref 19), none, none, none, none, none, some (.int q6.toInt8.toInt32)], [], xSt xG0 hc hr xs g L c z)) ?_ 4 (by rfl)
      exact T_h_load_77 q6.toInt8.toInt32 hc r H
    · replace H := (if_neg q7).symm.trans H
      refine Ex.many (f' := (69, [some (.ref 19), some (.int a1), none, none, none, none, some (.int q6)], [.int (46 : Int32), .int a1], xSt xG0 hc hr xs g L c z)) ?_ 2 (by rfl)
      refine Ex.ite (ls := [some (.ref 19), some (.int a1), none, none, none, none, some (.int q6)]) (st := []) (S := xSt xG0 hc hr xs g L c z) (by rfl) (fun q8 => ?_) (fun q8 => ?_)
      · replace H := (if_pos q8).symm.trans H
        refine Ex.many (f' := (77, [some (.ref 19), none, none, none, none, none, some (.int q6.toInt16.toInt32)], [], xSt xG0 hc hr xs g L c z)) ?_ 3 (by rfl)
        exact T_h_load_77 q6.toInt16.toInt32 hc r H
      · replace H := (if_neg q8).symm.trans H
        refine Ex.kill (ls' := [some (.ref 19), none, none, none, none, none, some (.int q6)]) (by rfl) ?_
        exact T_h_load_77 q6 hc r H
def f_h_useMemory (a1 : Int32) (a2 : Int32) (hc : xI) : Option (Int32 × xI) :=
  if a1 = (54 : Int32) ∨ a1 = (58 : Int32) ∨ a1 = (59 : Int32) then (xgd (a2 + (1 : Int32)) 240 ((f_h_store (f_o_bytesOf a1) (hc 2 (a2 + (1 : Int32)).toNatClampNeg) hc).bind fun q4 => some (q4.1, q4.2))) else (if a1 = (63 : Int32) then ((f_h_push (hc 11 1) hc).bind fun q6 => some (q6.1, q6.2)) else (if a1 = (64 : Int32) then ((f_h_pop hc).bind fun q8 => (f_y_grow q8.1 q8.2).bind fun q9 => (f_h_push q9.1 q9.2).bind fun q10 => some (q10.1, q10.2)) else (xgd (a2 + (1 : Int32)) 240 ((f_h_load a1 (hc 2 (a2 + (1 : Int32)).toNatClampNeg) hc).bind fun q12 => some (q12.1, q12.2)))))
theorem T_h_useMemory {hr : xI} {g : xJ} {xs : Nat → Int32} {L c z : Nat} (a1 : Int32) (a2 : Int32) (hc : xI) (r : (Int32 × xI)) (H : f_h_useMemory a1 a2 hc = some r) : Ex 3 35 (0, [some (.ref 19), some (.int a1), some (.int a2)], [], xSt xG0 hc hr xs g L c z) (.inl (some (.int r.1)), xSt xG0 r.2 hr xs g L c z) := by
  unfold f_h_useMemory at H
  refine Ex.many (f' := (1, [some (.ref 19), some (.int a1), some (.int a2)], [.int a1], xSt xG0 hc hr xs g L c z)) ?_ 1 (by rfl)
  by_cases q1 : a1 = (54 : Int32) ∨ a1 = (58 : Int32) ∨ a1 = (59 : Int32)
  · replace H := (if_pos q1).symm.trans H
    refine Ex.sw (t := 88) (ls := [some (.ref 19), some (.int a1), some (.int a2)]) (st := []) (S := xSt xG0 hc hr xs g L c z) ?_ (by rfl) (by rcases q1 with q1 | q1 | q1 <;> (rw [q1]; rfl))
    refine Ex.many (f' := (90, [some (.ref 19), some (.int a1), some (.int a2)], [.int a1, .ref 19], xSt xG0 hc hr xs g L c z)) ?_ 2 (by rfl)
    refine Ex.call (mk := 37) (vs := [.int a1]) (rest := [.ref 19]) (by rfl) (by rfl) (Ex.up (T_o_bytesOf a1 _ rfl) (by decide)) (xbb c z) ?_
    show Ex _ _ (93, [some (.ref 19), some (.int a1), some (.int a2)], [.int (f_o_bytesOf a1), .ref 19], xSt xG0 hc hr xs g L c z) _
    refine Ex.many (f' := (103, [some (.ref 19), none, some (.int a2)], [.int (a2 + (1 : Int32)), .ref 2, .int (f_o_bytesOf a1), .ref 19], xSt xG0 hc hr xs g L c z)) ?_ 6 (by rfl)
    obtain ⟨g3, H⟩ := xgd_some H
    refine Ex.guard (f' := (104, [some (.ref 19), none, some (.int a2)], [.int (hc 2 (a2 + (1 : Int32)).toNatClampNeg), .int (f_o_bytesOf a1), .ref 19], xSt xG0 hc hr xs g L c z)) (by rfl) g3 ?_
    obtain ⟨q4, hq4, H⟩ := xbd H
    refine Ex.call (mk := 38) (vs := [.ref 19, .int (f_o_bytesOf a1), .int (hc 2 (a2 + (1 : Int32)).toNatClampNeg)]) (rest := []) (by rfl) (by rfl) (Ex.up (T_h_store (f_o_bytesOf a1) (hc 2 (a2 + (1 : Int32)).toNatClampNeg) hc q4 hq4) (by decide)) (xbb c z) ?_
    show Ex _ _ (107, [some (.ref 19), none, some (.int a2)], [.int q4.1], xSt xG0 q4.2 hr xs g L c z) _
    replace H := Option.some.inj H
    subst H
    exact Ex.done (by rfl)
  · replace H := (if_neg q1).symm.trans H
    by_cases q5 : a1 = (63 : Int32)
    · replace H := (if_pos q5).symm.trans H
      refine Ex.sw (t := 60) (ls := [some (.ref 19), some (.int a1), some (.int a2)]) (st := []) (S := xSt xG0 hc hr xs g L c z) ?_ (by rfl) (by rw [q5]; rfl)
      refine Ex.many (f' := (68, [some (.ref 19), none, none], [.int (hc 11 1), .ref 19], xSt xG0 hc hr xs g L c z)) ?_ 4 (by rfl)
      obtain ⟨q6, hq6, H⟩ := xbd H
      refine Ex.call (mk := 34) (vs := [.ref 19, .int (hc 11 1)]) (rest := []) (by rfl) (by rfl) (Ex.up (T_h_push (hc 11 1) hc q6 hq6) (by decide)) (xbb c z) ?_
      show Ex _ _ (71, [some (.ref 19), none, none], [.int q6.1], xSt xG0 q6.2 hr xs g L c z) _
      replace H := Option.some.inj H
      subst H
      exact Ex.done (by rfl)
    · replace H := (if_neg q5).symm.trans H
      by_cases q7 : a1 = (64 : Int32)
      · replace H := (if_pos q7).symm.trans H
        refine Ex.sw (t := 72) (ls := [some (.ref 19), some (.int a1), some (.int a2)]) (st := []) (S := xSt xG0 hc hr xs g L c z) ?_ (by rfl) (by rw [q7]; rfl)
        refine Ex.many (f' := (78, [some (.ref 19), none, none], [.ref 19, .ref 11, .ref 19], xSt xG0 hc hr xs g L c z)) ?_ 4 (by rfl)
        obtain ⟨q8, hq8, H⟩ := xbd H
        refine Ex.call (mk := 19) (vs := [.ref 19]) (rest := [.ref 11, .ref 19]) (by rfl) (by rfl) (Ex.up (T_h_pop hc q8 hq8) (by decide)) (xbb c z) ?_
        show Ex _ _ (81, [some (.ref 19), none, none], [.int q8.1, .ref 11, .ref 19], xSt xG0 q8.2 hr xs g L c z) _
        obtain ⟨q9, hq9, H⟩ := xbd H
        refine Ex.call (mk := 36) (vs := [.ref 11, .int q8.1]) (rest := [.ref 19]) (by rfl) (by rfl) (Ex.up (T_y_grow q8.1 q8.2 q9 hq9) (by decide)) (xbb c z) ?_
        show Ex _ _ (84, [none, none, none], [.int q9.1, .ref 19], xSt xG0 q9.2 hr xs g L c z) _
        obtain ⟨q10, hq10, H⟩ := xbd H
        refine Ex.call (mk := 34) (vs := [.ref 19, .int q9.1]) (rest := []) (by rfl) (by rfl) (Ex.up (T_h_push q9.1 q9.2 q10 hq10) (by decide)) (xbb c z) ?_
        show Ex _ _ (87, [none, none, none], [.int q10.1], xSt xG0 q10.2 hr xs g L c z) _
        replace H := Option.some.inj H
        subst H
        exact Ex.done (by rfl)
      · replace H := (if_neg q7).symm.trans H
        refine Ex.sw (t := 108) (ls := [some (.ref 19), some (.int a1), some (.int a2)]) (st := []) (S := xSt xG0 hc hr xs g L c z) ?_ (by rfl) (xtsw_d [(54 : Int32), (58 : Int32), (59 : Int32), (63 : Int32), (64 : Int32)] (by decide +kernel) (by decide +kernel) (List.forall_mem_cons.mpr ⟨fun e => q1 (.inl e), (List.forall_mem_cons.mpr ⟨fun e => q1 (.inr (.inl e)), (List.forall_mem_cons.mpr ⟨fun e => q1 (.inr (.inr e)), (List.forall_mem_cons.mpr ⟨fun e => q5 e, (List.forall_mem_cons.mpr ⟨fun e => q7 e, (fun _ h => absurd h List.not_mem_nil)⟩)⟩)⟩)⟩)⟩))
        refine Ex.many (f' := (120, [some (.ref 19), some (.int a1), some (.int a2)], [.int (a2 + (1 : Int32)), .ref 2, .int a1, .ref 19], xSt xG0 hc hr xs g L c z)) ?_ 8 (by rfl)
        obtain ⟨g11, H⟩ := xgd_some H
        refine Ex.guard (f' := (121, [some (.ref 19), some (.int a1), some (.int a2)], [.int (hc 2 (a2 + (1 : Int32)).toNatClampNeg), .int a1, .ref 19], xSt xG0 hc hr xs g L c z)) (by rfl) g11 ?_
        obtain ⟨q12, hq12, H⟩ := xbd H
        refine Ex.call (mk := 42) (vs := [.ref 19, .int a1, .int (hc 2 (a2 + (1 : Int32)).toNatClampNeg)]) (rest := []) (by rfl) (by rfl) (Ex.up (T_h_load a1 (hc 2 (a2 + (1 : Int32)).toNatClampNeg) hc q12 hq12) (by decide)) (xbb c z) ?_
        show Ex _ _ (124, [some (.ref 19), some (.int a1), some (.int a2)], [.int q12.1], xSt xG0 q12.2 hr xs g L c z) _
        replace H := Option.some.inj H
        subst H
        exact Ex.done (by rfl)
def f_h_select (hc : xI) : Option (Int32 × xI) :=
  (f_h_pop hc).bind fun q1 => (f_h_pop q1.2).bind fun q2 => if q1.1 = 0 then (xgd ((q2.2 19 4) - (1 : Int32)) 100 (some ((0 : Int32), (xput q2.2 21 ((q2.2 19 4) - (1 : Int32)).toNatClampNeg q2.1)))) else (some ((0 : Int32), q2.2))
theorem T_h_select {hr : xI} {g : xJ} {xs : Nat → Int32} {L c z : Nat} (hc : xI) (r : (Int32 × xI)) (H : f_h_select hc = some r) : Ex 1 33 (0, [some (.ref 19), none, none], [], xSt xG0 hc hr xs g L c z) (.inl (some (.int r.1)), xSt xG0 r.2 hr xs g L c z) := by
  unfold f_h_select at H
  refine Ex.many (f' := (1, [some (.ref 19), none, none], [.ref 19], xSt xG0 hc hr xs g L c z)) ?_ 1 (by rfl)
  obtain ⟨q1, hq1, H⟩ := xbd H
  refine Ex.call (mk := 19) (vs := [.ref 19]) (rest := []) (by rfl) (by rfl) (Ex.up (T_h_pop hc q1 hq1) (by decide)) (xbb c z) ?_
  show Ex _ _ (4, [some (.ref 19), none, none], [.int q1.1], xSt xG0 q1.2 hr xs g L c z) _
  refine Ex.many (f' := (6, [some (.ref 19), some (.int q1.1), none], [.ref 19], xSt xG0 q1.2 hr xs g L c z)) ?_ 2 (by rfl)
  obtain ⟨q2, hq2, H⟩ := xbd H
  refine Ex.call (mk := 19) (vs := [.ref 19]) (rest := []) (by rfl) (by rfl) (Ex.up (T_h_pop q1.2 q2 hq2) (by decide)) (xbb c z) ?_
  show Ex _ _ (9, [some (.ref 19), some (.int q1.1), none], [.int q2.1], xSt xG0 q2.2 hr xs g L c z) _
  refine Ex.many (f' := (11, [some (.ref 19), some (.int q1.1), some (.int q2.1)], [.int q1.1], xSt xG0 q2.2 hr xs g L c z)) ?_ 2 (by rfl)
  refine Ex.ite (ls := [some (.ref 19), some (.int q1.1), some (.int q2.1)]) (st := []) (S := xSt xG0 q2.2 hr xs g L c z) (by rfl) (fun q3 => ?_) (fun q3 => ?_)
  · replace H := (if_pos q3).symm.trans H
    refine Ex.many (f' := (25, [some (.ref 19), none, some (.int q2.1)], [.int q2.1, .int ((q2.2 19 4) - (1 : Int32)), .ref 21], xSt xG0 q2.2 hr xs g L c z)) ?_ 7 (by rfl)
    obtain ⟨g4, H⟩ := xgd_some H
    refine Ex.gputC (pc := 26) (k := 21) (n := 100) (i := ((q2.2 19 4) - (1 : Int32))) (v := q2.1) (ls := [some (.ref 19), none, some (.int q2.1)]) (st := []) (hc := q2.2) ?_ (by rfl) g4 (by rfl)
    refine Ex.many (f' := (27, [none, none, none], [.int (0 : Int32)], xSt xG0 (xput q2.2 21 ((q2.2 19 4) - (1 : Int32)).toNatClampNeg q2.1) hr xs g L c z)) ?_ 1 (by rfl)
    replace H := Option.some.inj H
    subst H
    exact Ex.done (by rfl)
  · replace H := (if_neg q3).symm.trans H
    refine Ex.many (f' := (27, [none, none, none], [.int (0 : Int32)], xSt xG0 q2.2 hr xs g L c z)) ?_ 1 (by rfl)
    replace H := Option.some.inj H
    subst H
    exact Ex.done (by rfl)
def f_h_localPlace (a1 : Int32) (hc : xI) : Int32 :=
  ((((hc 19 7) - (1 : Int32)) * (8 : Int32)) + a1)
theorem T_h_localPlace {hr : xI} {g : xJ} {xs : Nat → Int32} {L c z : Nat} (a1 : Int32) (hc : xI) (r : Int32) (H : f_h_localPlace a1 hc = r) : Ex 0 28 (0, [some (.ref 19), some (.int a1)], [], xSt xG0 hc hr xs g L c z) (.inl (some (.int r)), xSt xG0 hc hr xs g L c z) := by
  unfold f_h_localPlace at H
  refine Ex.many (f' := (11, [some (.ref 19), some (.int a1)], [.int ((((hc 19 7) - (1 : Int32)) * (8 : Int32)) + a1)], xSt xG0 hc hr xs g L c z)) ?_ 8 (by rfl)
  skip
  subst H
  exact Ex.done (by rfl)
def f_h_move (a1 : Int32) (a2 : Int32) (hc : xI) : Option (Int32 × xI) :=
  if a1 = (26 : Int32) then (some ((0 : Int32), (xput hc 19 4 ((hc 19 4) - (1 : Int32))))) else (if a1 = (27 : Int32) then ((f_h_select hc).bind fun q3 => some (q3.1, q3.2)) else (xgd (a2 + (1 : Int32)) 240 (if a1 = (32 : Int32) then (xgd (f_h_localPlace (hc 2 (a2 + (1 : Int32)).toNatClampNeg) hc) 48 ((f_h_push (hc 25 (f_h_localPlace (hc 2 (a2 + (1 : Int32)).toNatClampNeg) hc).toNatClampNeg) hc).bind fun q8 => some (q8.1, q8.2))) else (if a1 = (33 : Int32) then ((f_h_pop hc).bind fun q11 => xgd (f_h_localPlace (hc 2 (a2 + (1 : Int32)).toNatClampNeg) hc) 48 (some ((0 : Int32), (xput q11.2 25 (f_h_localPlace (hc 2 (a2 + (1 : Int32)).toNatClampNeg) hc).toNatClampNeg q11.1)))) else (if a1 = (34 : Int32) then (xgd ((hc 19 4) - (1 : Int32)) 100 (xgd (f_h_localPlace (hc 2 (a2 + (1 : Int32)).toNatClampNeg) hc) 48 (some ((0 : Int32), (xput hc 25 (f_h_localPlace (hc 2 (a2 + (1 : Int32)).toNatClampNeg) hc).toNatClampNeg (hc 21 ((hc 19 4) - (1 : Int32)).toNatClampNeg)))))) else (if a1 = (35 : Int32) then (xgd (hc 2 (a2 + (1 : Int32)).toNatClampNeg) 4 ((f_h_push (hc 20 (hc 2 (a2 + (1 : Int32)).toNatClampNeg).toNatClampNeg) hc).bind fun q19 => some (q19.1, q19.2))) else ((f_h_pop hc).bind fun q20 => xgd (hc 2 (a2 + (1 : Int32)).toNatClampNeg) 4 (some ((0 : Int32), (xput q20.2 20 (hc 2 (a2 + (1 : Int32)).toNatClampNeg).toNatClampNeg q20.1))))))))))
theorem T_h_move {hr : xI} {g : xJ} {xs : Nat → Int32} {L c z : Nat} (a1 : Int32) (a2 : Int32) (hc : xI) (r : (Int32 × xI)) (H : f_h_move a1 a2 hc = some r) : Ex 2 32 (0, [some (.ref 19), some (.int a1), some (.int a2), none], [], xSt xG0 hc hr xs g L c z) (.inl (some (.int r.1)), xSt xG0 r.2 hr xs g L c z) := by
  unfold f_h_move at H
  refine Ex.many (f' := (3, [some (.ref 19), some (.int a1), some (.int a2), none], [.int (26 : Int32), .int a1], xSt xG0 hc hr xs g L c z)) ?_ 2 (by rfl)
  refine Ex.ite (ls := [some (.ref 19), some (.int a1), some (.int a2), none]) (st := []) (S := xSt xG0 hc hr xs g L c z) (by rfl) (fun q1 => ?_) (fun q1 => ?_)
  · replace H := (if_pos q1).symm.trans H
    refine Ex.many (f' := (13, [some (.ref 19), none, none, none], [.int ((hc 19 4) - (1 : Int32)), .ref 19], xSt xG0 hc hr xs g L c z)) ?_ 5 (by rfl)
    refine Ex.putC (pc := 16) (k := 19) (j := 4) (v := ((hc 19 4) - (1 : Int32))) (ls := [some (.ref 19), none, none, none]) (st := []) (hc := hc) ?_ (by rfl) (by rfl)
    refine Ex.many (f' := (17, [some (.ref 19), none, none, none], [.int (0 : Int32)], xSt xG0 (xput hc 19 4 ((hc 19 4) - (1 : Int32))) hr xs g L c z)) ?_ 1 (by rfl)
    replace H := Option.some.inj H
    subst H
    exact Ex.done (by rfl)
  · replace H := (if_neg q1).symm.trans H
    refine Ex.many (f' := (21, [some (.ref 19), some (.int a1), some (.int a2), none], [.int (27 : Int32), .int a1], xSt xG0 hc hr xs g L c z)) ?_ 2 (by rfl)
    refine Ex.ite (ls := [some (.ref 19), some (.int a1), some (.int a2), none]) (st := []) (S := xSt xG0 hc hr xs g L c z) (by rfl) (fun q2 => ?_) (fun q2 => ?_)
    · replace H := (if_pos q2).symm.trans H
      refine Ex.many (f' := (25, [some (.ref 19), none, none, none], [.ref 19], xSt xG0 hc hr xs g L c z)) ?_ 1 (by rfl)
      obtain ⟨q3, hq3, H⟩ := xbd H
      refine Ex.call (mk := 33) (vs := [.ref 19]) (rest := []) (by rfl) (by rfl) (Ex.up (T_h_select hc q3 hq3) (by decide)) (xbb c z) ?_
      show Ex _ _ (28, [some (.ref 19), none, none, none], [.int q3.1], xSt xG0 q3.2 hr xs g L c z) _
      replace H := Option.some.inj H
      subst H
      exact Ex.done (by rfl)
    · replace H := (if_neg q2).symm.trans H
      refine Ex.many (f' := (39, [some (.ref 19), some (.int a1), some (.int a2), none], [.int (a2 + (1 : Int32)), .ref 2], xSt xG0 hc hr xs g L c z)) ?_ 6 (by rfl)
      obtain ⟨g4, H⟩ := xgd_some H
      refine Ex.guard (f' := (40, [some (.ref 19), some (.int a1), some (.int a2), none], [.int (hc 2 (a2 + (1 : Int32)).toNatClampNeg)], xSt xG0 hc hr xs g L c z)) (by rfl) g4 ?_
      refine Ex.many (f' := (42, [some (.ref 19), some (.int a1), some (.int a2), some (.int (hc 2 (a2 + (1 : Int32)).toNatClampNeg))], [.int a1], xSt xG0 hc hr xs g L c z)) ?_ 2 (by rfl)
      by_cases q5 : a1 = (32 : Int32)
      · replace H := (if_pos q5).symm.trans H
        refine Ex.sw (t := 72) (ls := [some (.ref 19), some (.int a1), some (.int a2), some (.int (hc 2 (a2 + (1 : Int32)).toNatClampNeg))]) (st := []) (S := xSt xG0 hc hr xs g L c z) ?_ (by rfl) (by rw [q5]; rfl)
        refine Ex.many (f' := (79, [some (.ref 19), none, none, some (.int (hc 2 (a2 + (1 : Int32)).toNatClampNeg))], [.int (hc 2 (a2 + (1 : Int32)).toNatClampNeg), .ref 19, .ref 25, .ref 19], xSt xG0 hc hr xs g L c z)) ?_ 5 (by rfl)
        refine Ex.call (mk := 28) (vs := [.ref 19, .int (hc 2 (a2 + (1 : Int32)).toNatClampNeg)]) (rest := [.ref 25, .ref 19]) (by rfl) (by rfl) (Ex.up (T_h_localPlace (hc 2 (a2 + (1 : Int32)).toNatClampNeg) hc _ rfl) (by decide)) (xbb c z) ?_
        show Ex _ _ (82, [some (.ref 19), none, none, some (.int (hc 2 (a2 + (1 : Int32)).toNatClampNeg))], [.int (f_h_localPlace (hc 2 (a2 + (1 : Int32)).toNatClampNeg) hc), .ref 25, .ref 19], xSt xG0 hc hr xs g L c z) _
        obtain ⟨g7, H⟩ := xgd_some H
        refine Ex.guard (f' := (83, [none, none, none, none], [.int (hc 25 (f_h_localPlace (hc 2 (a2 + (1 : Int32)).toNatClampNeg) hc).toNatClampNeg), .ref 19], xSt xG0 hc hr xs g L c z)) (by rfl) g7 ?_
        obtain ⟨q8, hq8, H⟩ := xbd H
        refine Ex.call (mk := 34) (vs := [.ref 19, .int (hc 25 (f_h_localPlace (hc 2 (a2 + (1 : Int32)).toNatClampNeg) hc).toNatClampNeg)]) (rest := []) (by rfl) (by rfl) (Ex.up (T_h_push (hc 25 (f_h_localPlace (hc 2 (a2 + (1 : Int32)).toNatClampNeg) hc).toNatClampNeg) hc q8 hq8) (by decide)) (xbb c z) ?_
        show Ex _ _ (86, [none, none, none, none], [.int q8.1], xSt xG0 q8.2 hr xs g L c z) _
        replace H := Option.some.inj H
        subst H
        exact Ex.done (by rfl)
      · replace H := (if_neg q5).symm.trans H
        by_cases q9 : a1 = (33 : Int32)
        · replace H := (if_pos q9).symm.trans H
          refine Ex.sw (t := 87) (ls := [some (.ref 19), some (.int a1), some (.int a2), some (.int (hc 2 (a2 + (1 : Int32)).toNatClampNeg))]) (st := []) (S := xSt xG0 hc hr xs g L c z) ?_ (by rfl) (by rw [q9]; rfl)
          refine Ex.many (f' := (93, [some (.ref 19), none, none, some (.int (hc 2 (a2 + (1 : Int32)).toNatClampNeg))], [.int (hc 2 (a2 + (1 : Int32)).toNatClampNeg), .ref 19, .ref 25], xSt xG0 hc hr xs g L c z)) ?_ 4 (by rfl)
          refine Ex.call (mk := 28) (vs := [.ref 19, .int (hc 2 (a2 + (1 : Int32)).toNatClampNeg)]) (rest := [.ref 25]) (by rfl) (by rfl) (Ex.up (T_h_localPlace (hc 2 (a2 + (1 : Int32)).toNatClampNeg) hc _ rfl) (by decide)) (xbb c z) ?_
          show Ex _ _ (96, [some (.ref 19), none, none, some (.int (hc 2 (a2 + (1 : Int32)).toNatClampNeg))], [.int (f_h_localPlace (hc 2 (a2 + (1 : Int32)).toNatClampNeg) hc), .ref 25], xSt xG0 hc hr xs g L c z) _
          refine Ex.many (f' := (97, [some (.ref 19), none, none, none], [.ref 19, .int (f_h_localPlace (hc 2 (a2 + (1 : Int32)).toNatClampNeg) hc), .ref 25], xSt xG0 hc hr xs g L c z)) ?_ 1 (by rfl)
          obtain ⟨q11, hq11, H⟩ := xbd H
          refine Ex.call (mk := 19) (vs := [.ref 19]) (rest := [.int (f_h_localPlace (hc 2 (a2 + (1 : Int32)).toNatClampNeg) hc), .ref 25]) (by rfl) (by rfl) (Ex.up (T_h_pop hc q11 hq11) (by decide)) (xbb c z) ?_
          show Ex _ _ (100, [some (.ref 19), none, none, none], [.int q11.1, .int (f_h_localPlace (hc 2 (a2 + (1 : Int32)).toNatClampNeg) hc), .ref 25], xSt xG0 q11.2 hr xs g L c z) _
          obtain ⟨g12, H⟩ := xgd_some H
          refine Ex.gputC (pc := 101) (k := 25) (n := 48) (i := (f_h_localPlace (hc 2 (a2 + (1 : Int32)).toNatClampNeg) hc)) (v := q11.1) (ls := [none, none, none, none]) (st := []) (hc := q11.2) ?_ (by rfl) g12 (by rfl)
          refine Ex.many (f' := (102, [none, none, none, none], [.int (0 : Int32)], xSt xG0 (xput q11.2 25 (f_h_localPlace (hc 2 (a2 + (1 : Int32)).toNatClampNeg) hc).toNatClampNeg q11.1) hr xs g L c z)) ?_ 1 (by rfl)
          replace H := Option.some.inj H
          subst H
          exact Ex.done (by rfl)
        · replace H := (if_neg q9).symm.trans H
          by_cases q13 : a1 = (34 : Int32)
          · replace H := (if_pos q13).symm.trans H
            refine Ex.sw (t := 103) (ls := [some (.ref 19), some (.int a1), some (.int a2), some (.int (hc 2 (a2 + (1 : Int32)).toNatClampNeg))]) (st := []) (S := xSt xG0 hc hr xs g L c z) ?_ (by rfl) (by rw [q13]; rfl)
            refine Ex.many (f' := (109, [some (.ref 19), none, none, some (.int (hc 2 (a2 + (1 : Int32)).toNatClampNeg))], [.int (hc 2 (a2 + (1 : Int32)).toNatClampNeg), .ref 19, .ref 25], xSt xG0 hc hr xs g L c z)) ?_ 4 (by rfl)
            refine Ex.call (mk := 28) (vs := [.ref 19, .int (hc 2 (a2 + (1 : Int32)).toNatClampNeg)]) (rest := [.ref 25]) (by rfl) (by rfl) (Ex.up (T_h_localPlace (hc 2 (a2 + (1 : Int32)).toNatClampNeg) hc _ rfl) (by decide)) (xbb c z) ?_
            show Ex _ _ (112, [some (.ref 19), none, none, some (.int (hc 2 (a2 + (1 : Int32)).toNatClampNeg))], [.int (f_h_localPlace (hc 2 (a2 + (1 : Int32)).toNatClampNeg) hc), .ref 25], xSt xG0 hc hr xs g L c z) _
            refine Ex.many (f' := (122, [some (.ref 19), none, none, none], [.int ((hc 19 4) - (1 : Int32)), .ref 21, .int (f_h_localPlace (hc 2 (a2 + (1 : Int32)).toNatClampNeg) hc), .ref 25], xSt xG0 hc hr xs g L c z)) ?_ 6 (by rfl)
            obtain ⟨g15, H⟩ := xgd_some H
            refine Ex.guard (f' := (123, [some (.ref 19), none, none, none], [.int (hc 21 ((hc 19 4) - (1 : Int32)).toNatClampNeg), .int (f_h_localPlace (hc 2 (a2 + (1 : Int32)).toNatClampNeg) hc), .ref 25], xSt xG0 hc hr xs g L c z)) (by rfl) g15 ?_
            obtain ⟨g16, H⟩ := xgd_some H
            refine Ex.gputC (pc := 124) (k := 25) (n := 48) (i := (f_h_localPlace (hc 2 (a2 + (1 : Int32)).toNatClampNeg) hc)) (v := (hc 21 ((hc 19 4) - (1 : Int32)).toNatClampNeg)) (ls := [some (.ref 19), none, none, none]) (st := []) (hc := hc) ?_ (by rfl) g16 (by rfl)
            refine Ex.many (f' := (125, [some (.ref 19), none, none, none], [.int (0 : Int32)], xSt xG0 (xput hc 25 (f_h_localPlace (hc 2 (a2 + (1 : Int32)).toNatClampNeg) hc).toNatClampNeg (hc 21 ((hc 19 4) - (1 : Int32)).toNatClampNeg)) hr xs g L c z)) ?_ 1 (by rfl)
            replace H := Option.some.inj H
            subst H
            exact Ex.done (by rfl)
          · replace H := (if_neg q13).symm.trans H
            by_cases q17 : a1 = (35 : Int32)
            · replace H := (if_pos q17).symm.trans H
              refine Ex.sw (t := 126) (ls := [some (.ref 19), some (.int a1), some (.int a2), some (.int (hc 2 (a2 + (1 : Int32)).toNatClampNeg))]) (st := []) (S := xSt xG0 hc hr xs g L c z) ?_ (by rfl) (by rw [q17]; rfl)
              refine Ex.many (f' := (132, [some (.ref 19), none, none, some (.int (hc 2 (a2 + (1 : Int32)).toNatClampNeg))], [.int (hc 2 (a2 + (1 : Int32)).toNatClampNeg), .ref 20, .ref 19], xSt xG0 hc hr xs g L c z)) ?_ 4 (by rfl)
              obtain ⟨g18, H⟩ := xgd_some H
              refine Ex.guard (f' := (133, [some (.ref 19), none, none, some (.int (hc 2 (a2 + (1 : Int32)).toNatClampNeg))], [.int (hc 20 (hc 2 (a2 + (1 : Int32)).toNatClampNeg).toNatClampNeg), .ref 19], xSt xG0 hc hr xs g L c z)) (by rfl) g18 ?_
              obtain ⟨q19, hq19, H⟩ := xbd H
              refine Ex.call (mk := 34) (vs := [.ref 19, .int (hc 20 (hc 2 (a2 + (1 : Int32)).toNatClampNeg).toNatClampNeg)]) (rest := []) (by rfl) (by rfl) (Ex.up (T_h_push (hc 20 (hc 2 (a2 + (1 : Int32)).toNatClampNeg).toNatClampNeg) hc q19 hq19) (by decide)) (xbb c z) ?_
              show Ex _ _ (136, [some (.ref 19), none, none, some (.int (hc 2 (a2 + (1 : Int32)).toNatClampNeg))], [.int q19.1], xSt xG0 q19.2 hr xs g L c z) _
              replace H := Option.some.inj H
              subst H
              exact Ex.done (by rfl)
            · replace H := (if_neg q17).symm.trans H
              refine Ex.sw (t := 137) (ls := [some (.ref 19), some (.int a1), some (.int a2), some (.int (hc 2 (a2 + (1 : Int32)).toNatClampNeg))]) (st := []) (S := xSt xG0 hc hr xs g L c z) ?_ (by rfl) (xtsw_d [(32 : Int32), (33 : Int32), (34 : Int32), (35 : Int32)] (by decide +kernel) (by decide +kernel) (List.forall_mem_cons.mpr ⟨fun e => q5 e, (List.forall_mem_cons.mpr ⟨fun e => q9 e, (List.forall_mem_cons.mpr ⟨fun e => q13 e, (List.forall_mem_cons.mpr ⟨fun e => q17 e, (fun _ h => absurd h List.not_mem_nil)⟩)⟩)⟩)⟩))
              refine Ex.many (f' := (143, [some (.ref 19), none, none, some (.int (hc 2 (a2 + (1 : Int32)).toNatClampNeg))], [.ref 19, .int (hc 2 (a2 + (1 : Int32)).toNatClampNeg), .ref 20], xSt xG0 hc hr xs g L c z)) ?_ 4 (by rfl)
              obtain ⟨q20, hq20, H⟩ := xbd H
              refine Ex.call (mk := 19) (vs := [.ref 19]) (rest := [.int (hc 2 (a2 + (1 : Int32)).toNatClampNeg), .ref 20]) (by rfl) (by rfl) (Ex.up (T_h_pop hc q20 hq20) (by decide)) (xbb c z) ?_
              show Ex _ _ (146, [some (.ref 19), none, none, some (.int (hc 2 (a2 + (1 : Int32)).toNatClampNeg))], [.int q20.1, .int (hc 2 (a2 + (1 : Int32)).toNatClampNeg), .ref 20], xSt xG0 q20.2 hr xs g L c z) _
              obtain ⟨g21, H⟩ := xgd_some H
              refine Ex.gputC (pc := 147) (k := 20) (n := 4) (i := (hc 2 (a2 + (1 : Int32)).toNatClampNeg)) (v := q20.1) (ls := [none, none, none, none]) (st := []) (hc := q20.2) ?_ (by rfl) g21 (by rfl)
              refine Ex.many (f' := (148, [none, none, none, none], [.int (0 : Int32)], xSt xG0 (xput q20.2 20 (hc 2 (a2 + (1 : Int32)).toNatClampNeg).toNatClampNeg q20.1) hr xs g L c z)) ?_ 1 (by rfl)
              replace H := Option.some.inj H
              subst H
              exact Ex.done (by rfl)
def f_h_passOver_31 (s1 : Int32) (hc : xI) : Option (Int32 × xI) :=
  some ((0 : Int32), (xput hc 19 5 s1))
theorem T_h_passOver_31 {hr : xI} {g : xJ} {xs : Nat → Int32} {L c z : Nat} (s1 : Int32) (hc : xI) (r : (Int32 × xI)) (H : f_h_passOver_31 s1 hc = some r) : Ex 0 20 (31, [none, none, none], [.int s1, .ref 19], xSt xG0 hc hr xs g L c z) (.inl (some (.int r.1)), xSt xG0 r.2 hr xs g L c z) := by
  unfold f_h_passOver_31 at H
  refine Ex.putC (pc := 34) (k := 19) (j := 5) (v := s1) (ls := [none, none, none]) (st := []) (hc := hc) ?_ (by rfl) (by rfl)
  refine Ex.many (f' := (35, [none, none, none], [.int (0 : Int32)], xSt xG0 (xput hc 19 5 s1) hr xs g L c z)) ?_ 1 (by rfl)
  replace H := Option.some.inj H
  subst H
  exact Ex.done (by rfl)
def f_h_passOver (a1 : Int32) (hc : xI) : Option (Int32 × xI) :=
  xgd a1 240 (if (hc 8 a1.toNatClampNeg) = (-1 : Int32) then (xgd a1 240 (f_h_passOver_31 (hc 7 a1.toNatClampNeg) hc)) else (f_h_passOver_31 ((hc 8 a1.toNatClampNeg) + (1 : Int32)) hc))
theorem T_h_passOver {hr : xI} {g : xJ} {xs : Nat → Int32} {L c z : Nat} (a1 : Int32) (hc : xI) (r : (Int32 × xI)) (H : f_h_passOver a1 hc = some r) : Ex 0 20 (0, [some (.ref 19), some (.int a1), none], [], xSt xG0 hc hr xs g L c z) (.inl (some (.int r.1)), xSt xG0 r.2 hr xs g L c z) := by
  unfold f_h_passOver at H
  refine Ex.many (f' := (8, [some (.ref 19), some (.int a1), none], [.int a1, .ref 8], xSt xG0 hc hr xs g L c z)) ?_ 4 (by rfl)
  obtain ⟨g1, H⟩ := xgd_some H
  refine Ex.guard (f' := (9, [some (.ref 19), some (.int a1), none], [.int (hc 8 a1.toNatClampNeg)], xSt xG0 hc hr xs g L c z)) (by rfl) g1 ?_
  refine Ex.many (f' := (13, [some (.ref 19), some (.int a1), some (.int (hc 8 a1.toNatClampNeg))], [.int (-1 : Int32), .int (hc 8 a1.toNatClampNeg), .ref 19], xSt xG0 hc hr xs g L c z)) ?_ 4 (by rfl)
  refine Ex.ite (ls := [some (.ref 19), some (.int a1), some (.int (hc 8 a1.toNatClampNeg))]) (st := [.ref 19]) (S := xSt xG0 hc hr xs g L c z) (by rfl) (fun q2 => ?_) (fun q2 => ?_)
  · replace H := (if_pos q2).symm.trans H
    refine Ex.many (f' := (24, [some (.ref 19), some (.int a1), none], [.int a1, .ref 7, .ref 19], xSt xG0 hc hr xs g L c z)) ?_ 4 (by rfl)
    obtain ⟨g3, H⟩ := xgd_some H
    refine Ex.guard (f' := (25, [some (.ref 19), some (.int a1), none], [.int (hc 7 a1.toNatClampNeg), .ref 19], xSt xG0 hc hr xs g L c z)) (by rfl) g3 ?_
    refine Ex.many (f' := (31, [some (.ref 19), some (.int a1), none], [.int (hc 7 a1.toNatClampNeg), .ref 19], xSt xG0 hc hr xs g L c z)) ?_ 1 (by rfl)
    refine Ex.kill (ls' := [none, none, none]) (by rfl) ?_
    exact T_h_passOver_31 (hc 7 a1.toNatClampNeg) hc r H
  · replace H := (if_neg q2).symm.trans H
    refine Ex.many (f' := (31, [none, none, some (.int (hc 8 a1.toNatClampNeg))], [.int ((hc 8 a1.toNatClampNeg) + (1 : Int32)), .ref 19], xSt xG0 hc hr xs g L c z)) ?_ 3 (by rfl)
    refine Ex.kill (ls' := [none, none, none]) (by rfl) ?_
    exact T_h_passOver_31 ((hc 8 a1.toNatClampNeg) + (1 : Int32)) hc r H
def f_h_fallTo_22 (v1 : Int32) (v2 : Int32) (hc : xI) : Option xI :=
  some (xput hc 19 4 (v1 + v2))
theorem T_h_fallTo_22 {hr : xI} {g : xJ} {xs : Nat → Int32} {L c z : Nat} (v1 : Int32) (v2 : Int32) (hc : xI) (r : xI) (H : f_h_fallTo_22 v1 v2 hc = some r) : Ex 0 22 (22, [some (.ref 19), some (.int v1), some (.int v2)], [], xSt xG0 hc hr xs g L c z) (.inl none, xSt xG0 r hr xs g L c z) := by
  unfold f_h_fallTo_22 at H
  refine Ex.many (f' := (26, [some (.ref 19), some (.int v1), some (.int v2)], [.int (v1 + v2), .ref 19], xSt xG0 hc hr xs g L c z)) ?_ 4 (by rfl)
  refine Ex.putC (pc := 29) (k := 19) (j := 4) (v := (v1 + v2)) (ls := [some (.ref 19), some (.int v1), some (.int v2)]) (st := []) (hc := hc) ?_ (by rfl) (by rfl)
  replace H := Option.some.inj H
  subst H
  exact Ex.done (by rfl)
def f_h_fallTo (a1 : Int32) (a2 : Int32) (hc : xI) : Option xI :=
  if a2 = (1 : Int32) then (xgd ((hc 19 4) - (1 : Int32)) 100 (xgd a1 100 (f_h_fallTo_22 a1 a2 (xput hc 21 a1.toNatClampNeg (hc 21 ((hc 19 4) - (1 : Int32)).toNatClampNeg))))) else (f_h_fallTo_22 a1 a2 hc)
theorem T_h_fallTo {hr : xI} {g : xJ} {xs : Nat → Int32} {L c z : Nat} (a1 : Int32) (a2 : Int32) (hc : xI) (r : xI) (H : f_h_fallTo a1 a2 hc = some r) : Ex 0 22 (0, [some (.ref 19), some (.int a1), some (.int a2)], [], xSt xG0 hc hr xs g L c z) (.inl none, xSt xG0 r hr xs g L c z) := by
  unfold f_h_fallTo at H
  refine Ex.many (f' := (2, [some (.ref 19), some (.int a1), some (.int a2)], [.int (1 : Int32), .int a2], xSt xG0 hc hr xs g L c z)) ?_ 2 (by rfl)
  refine Ex.ite (ls := [some (.ref 19), some (.int a1), some (.int a2)]) (st := []) (S := xSt xG0 hc hr xs g L c z) (by rfl) (fun q1 => ?_) (fun q1 => ?_)
  · replace H := (if_pos q1).symm.trans H
    refine Ex.many (f' := (20, [some (.ref 19), some (.int a1), some (.int a2)], [.int ((hc 19 4) - (1 : Int32)), .ref 21, .int a1, .ref 21], xSt xG0 hc hr xs g L c z)) ?_ 9 (by rfl)
    obtain ⟨g2, H⟩ := xgd_some H
    refine Ex.guard (f' := (21, [some (.ref 19), some (.int a1), some (.int a2)], [.int (hc 21 ((hc 19 4) - (1 : Int32)).toNatClampNeg), .int a1, .ref 21], xSt xG0 hc hr xs g L c z)) (by rfl) g2 ?_
    obtain ⟨g3, H⟩ := xgd_some H
    refine Ex.gputC (pc := 22) (k := 21) (n := 100) (i := a1) (v := (hc 21 ((hc 19 4) - (1 : Int32)).toNatClampNeg)) (ls := [some (.ref 19), some (.int a1), some (.int a2)]) (st := []) (hc := hc) ?_ (by rfl) g3 (by rfl)
    exact T_h_fallTo_22 a1 a2 (xput hc 21 a1.toNatClampNeg (hc 21 ((hc 19 4) - (1 : Int32)).toNatClampNeg)) r H
  · replace H := (if_neg q1).symm.trans H
    exact T_h_fallTo_22 a1 a2 hc r H
