/-! Methods as functions. -/
def f_w_fault (a1 : Int32) (hc : xI) : Int32 :=
  if a1 = 0 then (hc 0 8) else (if a1 = (1 : Int32) then (hc 0 9) else (-1 : Int32))
theorem T_w_fault {hr : xI} {g : xJ} {xs : Nat → Int32} {L c z : Nat} (a1 : Int32) (hc : xI) (r : Int32) (H : f_w_fault a1 hc = r) : Ex 0 5 (0, [some (.ref 0), some (.int a1)], [], xSt xG0 hc hr xs g L c z) (.inl (some (.int r)), xSt xG0 hc hr xs g L c z) := by
  unfold f_w_fault at H
  refine Ex.many (f' := (1, [some (.ref 0), some (.int a1)], [.int a1], xSt xG0 hc hr xs g L c z)) ?_ 1 (by rfl)
  refine Ex.ite (ls := [some (.ref 0), some (.int a1)]) (st := []) (S := xSt xG0 hc hr xs g L c z) (by rfl) (fun q1 => ?_) (fun q1 => ?_)
  · replace H := (if_pos q1).symm.trans H
    refine Ex.many (f' := (8, [some (.ref 0), none], [.int (hc 0 8)], xSt xG0 hc hr xs g L c z)) ?_ 2 (by rfl)
    skip
    subst H
    exact Ex.done (by rfl)
  · replace H := (if_neg q1).symm.trans H
    refine Ex.many (f' := (11, [some (.ref 0), some (.int a1)], [.int (1 : Int32), .int a1], xSt xG0 hc hr xs g L c z)) ?_ 2 (by rfl)
    refine Ex.ite (ls := [some (.ref 0), some (.int a1)]) (st := []) (S := xSt xG0 hc hr xs g L c z) (by rfl) (fun q2 => ?_) (fun q2 => ?_)
    · replace H := (if_pos q2).symm.trans H
      refine Ex.many (f' := (22, [some (.ref 0), none], [.int (hc 0 9)], xSt xG0 hc hr xs g L c z)) ?_ 3 (by rfl)
      skip
      subst H
      exact Ex.done (by rfl)
    · replace H := (if_neg q2).symm.trans H
      refine Ex.many (f' := (22, [none, none], [.int (-1 : Int32)], xSt xG0 hc hr xs g L c z)) ?_ 1 (by rfl)
      skip
      subst H
      exact Ex.done (by rfl)
def f_c_removeAll (hc : xI) : Option xI :=
  some (xput (xput hc 1 1 (0 : Int32)) 1 2 (0 : Int32))
theorem T_c_removeAll {hr : xI} {g : xJ} {xs : Nat → Int32} {L c z : Nat} (hc : xI) (r : xI) (H : f_c_removeAll hc = some r) : Ex 0 7 (0, [some (.ref 1)], [], xSt xG0 hc hr xs g L c z) (.inl none, xSt xG0 r hr xs g L c z) := by
  unfold f_c_removeAll at H
  refine Ex.many (f' := (2, [some (.ref 1)], [.int (0 : Int32), .ref 1], xSt xG0 hc hr xs g L c z)) ?_ 2 (by rfl)
  refine Ex.putC (pc := 5) (k := 1) (j := 1) (v := (0 : Int32)) (ls := [some (.ref 1)]) (st := []) (hc := hc) ?_ (by rfl) (by rfl)
  refine Ex.many (f' := (7, [some (.ref 1)], [.int (0 : Int32), .ref 1], xSt xG0 (xput hc 1 1 (0 : Int32)) hr xs g L c z)) ?_ 2 (by rfl)
  refine Ex.putC (pc := 10) (k := 1) (j := 2) (v := (0 : Int32)) (ls := [some (.ref 1)]) (st := []) (hc := (xput hc 1 1 (0 : Int32))) ?_ (by rfl) (by rfl)
  replace H := Option.some.inj H
  subst H
  exact Ex.done (by rfl)
def f_a_fill_5 : Nat → Int32 → Int32 → Int32 → xI → Option xI
  | 0, _, _, _, _ => none
  | n + 1, v1, v2, v3, hc => if v3 ≤ v2 then (some hc) else (xgd v2 256 (f_a_fill_5 n v1 (v2 + (1 : Int32)) v3 (xput hc 12 v2.toNatClampNeg (vp_nar .byte v1))))
theorem T_a_fill_5 {hr : xI} {g : xJ} {xs : Nat → Int32} {L c z : Nat} (n : Nat) : ∀ (v1 : Int32) (v2 : Int32) (v3 : Int32) (hc : xI) (r : xI), f_a_fill_5 n v1 v2 v3 hc = some r → Ex 0 9 (5, [some (.ref 12), some (.int v1), some (.int v2), some (.int v3)], [], xSt xG0 hc hr xs g L c z) (.inl none, xSt xG0 r hr xs g L c z) := by
  induction n with
  | zero =>
    intro v1 v2 v3 hc r H
    unfold f_a_fill_5 at H
    cases H
  | succ n ih =>
    intro v1 v2 v3 hc r H
    unfold f_a_fill_5 at H
    refine Ex.many (f' := (7, [some (.ref 12), some (.int v1), some (.int v2), some (.int v3)], [.int v3, .int v2], xSt xG0 hc hr xs g L c z)) ?_ 2 (by rfl)
    refine Ex.ite (ls := [some (.ref 12), some (.int v1), some (.int v2), some (.int v3)]) (st := []) (S := xSt xG0 hc hr xs g L c z) (by rfl) (fun q1 => ?_) (fun q1 => ?_)
    · replace H := (if_pos q1).symm.trans H
      replace H := Option.some.inj H
      subst H
      exact Ex.done (by rfl)
    · replace H := (if_neg q1).symm.trans H
      refine Ex.many (f' := (13, [some (.ref 12), some (.int v1), some (.int v2), some (.int v3)], [.int v1, .int v2, .ref 12], xSt xG0 hc hr xs g L c z)) ?_ 3 (by rfl)
      obtain ⟨g2, H⟩ := xgd_some H
      refine Ex.gputC (pc := 14) (k := 12) (n := 256) (i := v2) (v := (vp_nar .byte v1)) (ls := [some (.ref 12), some (.int v1), some (.int v2), some (.int v3)]) (st := []) (hc := hc) ?_ (by rfl) g2 (by rfl)
      refine Ex.many (f' := (5, [some (.ref 12), some (.int v1), some (.int (v2 + (1 : Int32))), some (.int v3)], [], xSt xG0 (xput hc 12 v2.toNatClampNeg (vp_nar .byte v1)) hr xs g L c z)) ?_ 2 (by rfl)
      exact ih v1 (v2 + (1 : Int32)) v3 (xput hc 12 v2.toNatClampNeg (vp_nar .byte v1)) r H
def f_a_fill (a1 : Int32) (hc : xI) : Option xI :=
  f_a_fill_5 1000 a1 (0 : Int32) (256 : Int32) hc
theorem T_a_fill {hr : xI} {g : xJ} {xs : Nat → Int32} {L c z : Nat} (a1 : Int32) (hc : xI) (r : xI) (H : f_a_fill a1 hc = some r) : Ex 0 9 (0, [some (.ref 12), some (.int a1), none, none], [], xSt xG0 hc hr xs g L c z) (.inl none, xSt xG0 r hr xs g L c z) := by
  unfold f_a_fill at H
  refine Ex.many (f' := (5, [some (.ref 12), some (.int a1), some (.int (0 : Int32)), some (.int (256 : Int32))], [], xSt xG0 hc hr xs g L c z)) ?_ 5 (by rfl)
  exact T_a_fill_5 1000 a1 (0 : Int32) (256 : Int32) hc r H
def f_y_reset (hc : xI) : Option xI :=
  (f_a_fill (0 : Int32) hc).bind fun q1 => some (xput q1 11 1 (1 : Int32))
theorem T_y_reset {hr : xI} {g : xJ} {xs : Nat → Int32} {L c z : Nat} (hc : xI) (r : xI) (H : f_y_reset hc = some r) : Ex 1 8 (0, [some (.ref 11)], [], xSt xG0 hc hr xs g L c z) (.inl none, xSt xG0 r hr xs g L c z) := by
  unfold f_y_reset at H
  refine Ex.many (f' := (5, [some (.ref 11)], [.int (0 : Int32), .ref 12], xSt xG0 hc hr xs g L c z)) ?_ 3 (by rfl)
  obtain ⟨q1, hq1, H⟩ := xbd H
  refine Ex.call (mk := 9) (vs := [.ref 12, .int (0 : Int32)]) (rest := []) (by rfl) (by rfl) (Ex.up (T_a_fill (0 : Int32) hc q1 hq1) (by decide)) (xbb c z) ?_
  show Ex _ _ (8, [some (.ref 11)], [], xSt xG0 q1 hr xs g L c z) _
  refine Ex.many (f' := (10, [some (.ref 11)], [.int (1 : Int32), .ref 11], xSt xG0 q1 hr xs g L c z)) ?_ 2 (by rfl)
  refine Ex.putC (pc := 13) (k := 11) (j := 1) (v := (1 : Int32)) (ls := [some (.ref 11)]) (st := []) (hc := q1) ?_ (by rfl) (by rfl)
  replace H := Option.some.inj H
  subst H
  exact Ex.done (by rfl)
def f_a_fill2_5 : Nat → Int32 → Int32 → Int32 → xI → Option xI
  | 0, _, _, _, _ => none
  | n + 1, v1, v2, v3, hc => if v3 ≤ v2 then (some hc) else (xgd v2 4 (f_a_fill2_5 n v1 (v2 + (1 : Int32)) v3 (xput hc 20 v2.toNatClampNeg v1)))
theorem T_a_fill2_5 {hr : xI} {g : xJ} {xs : Nat → Int32} {L c z : Nat} (n : Nat) : ∀ (v1 : Int32) (v2 : Int32) (v3 : Int32) (hc : xI) (r : xI), f_a_fill2_5 n v1 v2 v3 hc = some r → Ex 0 11 (5, [some (.ref 20), some (.int v1), some (.int v2), some (.int v3)], [], xSt xG0 hc hr xs g L c z) (.inl none, xSt xG0 r hr xs g L c z) := by
  induction n with
  | zero =>
    intro v1 v2 v3 hc r H
    unfold f_a_fill2_5 at H
    cases H
  | succ n ih =>
    intro v1 v2 v3 hc r H
    unfold f_a_fill2_5 at H
    refine Ex.many (f' := (7, [some (.ref 20), some (.int v1), some (.int v2), some (.int v3)], [.int v3, .int v2], xSt xG0 hc hr xs g L c z)) ?_ 2 (by rfl)
    refine Ex.ite (ls := [some (.ref 20), some (.int v1), some (.int v2), some (.int v3)]) (st := []) (S := xSt xG0 hc hr xs g L c z) (by rfl) (fun q1 => ?_) (fun q1 => ?_)
    · replace H := (if_pos q1).symm.trans H
      replace H := Option.some.inj H
      subst H
      exact Ex.done (by rfl)
    · replace H := (if_neg q1).symm.trans H
      refine Ex.many (f' := (13, [some (.ref 20), some (.int v1), some (.int v2), some (.int v3)], [.int v1, .int v2, .ref 20], xSt xG0 hc hr xs g L c z)) ?_ 3 (by rfl)
      obtain ⟨g2, H⟩ := xgd_some H
      refine Ex.gputC (pc := 14) (k := 20) (n := 4) (i := v2) (v := v1) (ls := [some (.ref 20), some (.int v1), some (.int v2), some (.int v3)]) (st := []) (hc := hc) ?_ (by rfl) g2 (by rfl)
      refine Ex.many (f' := (5, [some (.ref 20), some (.int v1), some (.int (v2 + (1 : Int32))), some (.int v3)], [], xSt xG0 (xput hc 20 v2.toNatClampNeg v1) hr xs g L c z)) ?_ 2 (by rfl)
      exact ih v1 (v2 + (1 : Int32)) v3 (xput hc 20 v2.toNatClampNeg v1) r H
def f_a_fill2 (a1 : Int32) (hc : xI) : Option xI :=
  f_a_fill2_5 1000 a1 (0 : Int32) (4 : Int32) hc
theorem T_a_fill2 {hr : xI} {g : xJ} {xs : Nat → Int32} {L c z : Nat} (a1 : Int32) (hc : xI) (r : xI) (H : f_a_fill2 a1 hc = some r) : Ex 0 11 (0, [some (.ref 20), some (.int a1), none, none], [], xSt xG0 hc hr xs g L c z) (.inl none, xSt xG0 r hr xs g L c z) := by
  unfold f_a_fill2 at H
  refine Ex.many (f' := (5, [some (.ref 20), some (.int a1), some (.int (0 : Int32)), some (.int (4 : Int32))], [], xSt xG0 hc hr xs g L c z)) ?_ 5 (by rfl)
  exact T_a_fill2_5 1000 a1 (0 : Int32) (4 : Int32) hc r H
def f_h_reset (hc : xI) : Option xI :=
  (f_a_fill2 (0 : Int32) hc).bind fun q1 => some q1
theorem T_h_reset {hr : xI} {g : xJ} {xs : Nat → Int32} {L c z : Nat} (hc : xI) (r : xI) (H : f_h_reset hc = some r) : Ex 1 10 (0, [some (.ref 19)], [], xSt xG0 hc hr xs g L c z) (.inl none, xSt xG0 r hr xs g L c z) := by
  unfold f_h_reset at H
  refine Ex.many (f' := (5, [some (.ref 19)], [.int (0 : Int32), .ref 20], xSt xG0 hc hr xs g L c z)) ?_ 3 (by rfl)
  obtain ⟨q1, hq1, H⟩ := xbd H
  refine Ex.call (mk := 11) (vs := [.ref 20, .int (0 : Int32)]) (rest := []) (by rfl) (by rfl) (Ex.up (T_a_fill2 (0 : Int32) hc q1 hq1) (by decide)) (xbb c z) ?_
  show Ex _ _ (8, [some (.ref 19)], [], xSt xG0 q1 hr xs g L c z) _
  replace H := Option.some.inj H
  subst H
  exact Ex.done (by rfl)
def f_w_clear (hc : xI) : Option xI :=
  (f_c_removeAll hc).bind fun q1 => (f_y_reset q1).bind fun q2 => (f_h_reset q2).bind fun q3 => some (xput (xput (xput (xput q3 0 5 (0 : Int32)) 0 6 (0 : Int32)) 0 8 (-1 : Int32)) 0 9 (-1 : Int32))
theorem T_w_clear {hr : xI} {g : xJ} {xs : Nat → Int32} {L c z : Nat} (hc : xI) (r : xI) (H : f_w_clear hc = some r) : Ex 2 6 (0, [some (.ref 0)], [], xSt xG0 hc hr xs g L c z) (.inl none, xSt xG0 r hr xs g L c z) := by
  unfold f_w_clear at H
  refine Ex.many (f' := (4, [some (.ref 0)], [.ref 1], xSt xG0 hc hr xs g L c z)) ?_ 2 (by rfl)
  obtain ⟨q1, hq1, H⟩ := xbd H
  refine Ex.call (mk := 7) (vs := [.ref 1]) (rest := []) (by rfl) (by rfl) (Ex.up (T_c_removeAll hc q1 hq1) (by decide)) (xbb c z) ?_
  show Ex _ _ (7, [some (.ref 0)], [], xSt xG0 q1 hr xs g L c z) _
  refine Ex.many (f' := (11, [some (.ref 0)], [.ref 11], xSt xG0 q1 hr xs g L c z)) ?_ 2 (by rfl)
  obtain ⟨q2, hq2, H⟩ := xbd H
  refine Ex.call (mk := 8) (vs := [.ref 11]) (rest := []) (by rfl) (by rfl) (Ex.up (T_y_reset q1 q2 hq2) (by decide)) (xbb c z) ?_
  show Ex _ _ (14, [some (.ref 0)], [], xSt xG0 q2 hr xs g L c z) _
  refine Ex.many (f' := (18, [some (.ref 0)], [.ref 19], xSt xG0 q2 hr xs g L c z)) ?_ 2 (by rfl)
  obtain ⟨q3, hq3, H⟩ := xbd H
  refine Ex.call (mk := 10) (vs := [.ref 19]) (rest := []) (by rfl) (by rfl) (Ex.up (T_h_reset q2 q3 hq3) (by decide)) (xbb c z) ?_
  show Ex _ _ (21, [some (.ref 0)], [], xSt xG0 q3 hr xs g L c z) _
  refine Ex.many (f' := (23, [some (.ref 0)], [.int (0 : Int32), .ref 0], xSt xG0 q3 hr xs g L c z)) ?_ 2 (by rfl)
  refine Ex.putC (pc := 26) (k := 0) (j := 5) (v := (0 : Int32)) (ls := [some (.ref 0)]) (st := []) (hc := q3) ?_ (by rfl) (by rfl)
  refine Ex.many (f' := (28, [some (.ref 0)], [.int (0 : Int32), .ref 0], xSt xG0 (xput q3 0 5 (0 : Int32)) hr xs g L c z)) ?_ 2 (by rfl)
  refine Ex.putC (pc := 31) (k := 0) (j := 6) (v := (0 : Int32)) (ls := [some (.ref 0)]) (st := []) (hc := (xput q3 0 5 (0 : Int32))) ?_ (by rfl) (by rfl)
  refine Ex.many (f' := (33, [some (.ref 0)], [.int (-1 : Int32), .ref 0], xSt xG0 (xput (xput q3 0 5 (0 : Int32)) 0 6 (0 : Int32)) hr xs g L c z)) ?_ 2 (by rfl)
  refine Ex.putC (pc := 36) (k := 0) (j := 8) (v := (-1 : Int32)) (ls := [some (.ref 0)]) (st := []) (hc := (xput (xput q3 0 5 (0 : Int32)) 0 6 (0 : Int32))) ?_ (by rfl) (by rfl)
  refine Ex.many (f' := (38, [some (.ref 0)], [.int (-1 : Int32), .ref 0], xSt xG0 (xput (xput (xput q3 0 5 (0 : Int32)) 0 6 (0 : Int32)) 0 8 (-1 : Int32)) hr xs g L c z)) ?_ 2 (by rfl)
  refine Ex.putC (pc := 41) (k := 0) (j := 9) (v := (-1 : Int32)) (ls := [some (.ref 0)]) (st := []) (hc := (xput (xput (xput q3 0 5 (0 : Int32)) 0 6 (0 : Int32)) 0 8 (-1 : Int32))) ?_ (by rfl) (by rfl)
  replace H := Option.some.inj H
  subst H
  exact Ex.done (by rfl)
def f_w_argument (a1 : Int32) (hc : xI) : Option (Int32 × xI) :=
  if (hc 0 5) = (4 : Int32) then (some ((-1 : Int32), hc)) else (xgd (hc 0 5) 4 (some (((hc 0 5) + (1 : Int32)), (xput (xput hc 26 (hc 0 5).toNatClampNeg a1) 0 5 ((hc 0 5) + (1 : Int32))))))
theorem T_w_argument {hr : xI} {g : xJ} {xs : Nat → Int32} {L c z : Nat} (a1 : Int32) (hc : xI) (r : (Int32 × xI)) (H : f_w_argument a1 hc = some r) : Ex 0 12 (0, [some (.ref 0), some (.int a1)], [], xSt xG0 hc hr xs g L c z) (.inl (some (.int r.1)), xSt xG0 r.2 hr xs g L c z) := by
  unfold f_w_argument at H
  refine Ex.many (f' := (5, [some (.ref 0), some (.int a1)], [.int (4 : Int32), .int (hc 0 5)], xSt xG0 hc hr xs g L c z)) ?_ 3 (by rfl)
  refine Ex.ite (ls := [some (.ref 0), some (.int a1)]) (st := []) (S := xSt xG0 hc hr xs g L c z) (by rfl) (fun q1 => ?_) (fun q1 => ?_)
  · replace H := (if_pos q1).symm.trans H
    refine Ex.many (f' := (9, [none, none], [.int (-1 : Int32)], xSt xG0 hc hr xs g L c z)) ?_ 1 (by rfl)
    replace H := Option.some.inj H
    subst H
    exact Ex.done (by rfl)
  · replace H := (if_neg q1).symm.trans H
    refine Ex.many (f' := (19, [some (.ref 0), some (.int a1)], [.int a1, .int (hc 0 5), .ref 26], xSt xG0 hc hr xs g L c z)) ?_ 5 (by rfl)
    obtain ⟨g2, H⟩ := xgd_some H
    refine Ex.gputC (pc := 20) (k := 26) (n := 4) (i := (hc 0 5)) (v := a1) (ls := [some (.ref 0), some (.int a1)]) (st := []) (hc := hc) ?_ (by rfl) g2 (by rfl)
    refine Ex.many (f' := (27, [some (.ref 0), some (.int a1)], [.int ((hc 0 5) + (1 : Int32)), .ref 0], xSt xG0 (xput hc 26 (hc 0 5).toNatClampNeg a1) hr xs g L c z)) ?_ 5 (by rfl)
    refine Ex.putC (pc := 30) (k := 0) (j := 5) (v := ((hc 0 5) + (1 : Int32))) (ls := [some (.ref 0), some (.int a1)]) (st := []) (hc := (xput hc 26 (hc 0 5).toNatClampNeg a1)) ?_ (by rfl) (by rfl)
    refine Ex.many (f' := (34, [some (.ref 0), some (.int a1)], [.int ((hc 0 5) + (1 : Int32))], xSt xG0 (xput (xput hc 26 (hc 0 5).toNatClampNeg a1) 0 5 ((hc 0 5) + (1 : Int32))) hr xs g L c z)) ?_ 2 (by rfl)
    replace H := Option.some.inj H
    subst H
    exact Ex.done (by rfl)
def f_o_isNumeric_12 (v0 : Int32) : Int32 :=
  if v0 < (103 : Int32) then (0 : Int32) else (if (120 : Int32) < v0 then (0 : Int32) else (1 : Int32))
theorem T_o_isNumeric_12 {hc : xI} {hr : xI} {g : xJ} {xs : Nat → Int32} {L c z : Nat} (v0 : Int32) (r : Int32) (H : f_o_isNumeric_12 v0 = r) : Ex 0 17 (12, [some (.int v0)], [], xSt xG0 hc hr xs g L c z) (.inl (some (.int r)), xSt xG0 hc hr xs g L c z) := by
  unfold f_o_isNumeric_12 at H
  refine Ex.many (f' := (15, [some (.int v0)], [.int (103 : Int32), .int v0], xSt xG0 hc hr xs g L c z)) ?_ 2 (by rfl)
  refine Ex.ite (ls := [some (.int v0)]) (st := []) (S := xSt xG0 hc hr xs g L c z) (by rfl) (fun q1 => ?_) (fun q1 => ?_)
  · replace H := (if_pos q1).symm.trans H
    refine Ex.many (f' := (29, [none], [.int (0 : Int32)], xSt xG0 hc hr xs g L c z)) ?_ 1 (by rfl)
    skip
    subst H
    exact Ex.done (by rfl)
  · replace H := (if_neg q1).symm.trans H
    refine Ex.many (f' := (21, [some (.int v0)], [.int (120 : Int32), .int v0], xSt xG0 hc hr xs g L c z)) ?_ 2 (by rfl)
    refine Ex.ite (ls := [some (.int v0)]) (st := []) (S := xSt xG0 hc hr xs g L c z) (by rfl) (fun q2 => ?_) (fun q2 => ?_)
    · replace H := (if_pos q2).symm.trans H
      refine Ex.many (f' := (29, [none], [.int (0 : Int32)], xSt xG0 hc hr xs g L c z)) ?_ 1 (by rfl)
      skip
      subst H
      exact Ex.done (by rfl)
    · replace H := (if_neg q2).symm.trans H
      refine Ex.many (f' := (29, [none], [.int (1 : Int32)], xSt xG0 hc hr xs g L c z)) ?_ 2 (by rfl)
      skip
      subst H
      exact Ex.done (by rfl)
def f_o_isNumeric (a0 : Int32) : Int32 :=
  if a0 < (69 : Int32) then (f_o_isNumeric_12 a0) else (if a0 ≤ (79 : Int32) then (1 : Int32) else (f_o_isNumeric_12 a0))
theorem T_o_isNumeric {hc : xI} {hr : xI} {g : xJ} {xs : Nat → Int32} {L c z : Nat} (a0 : Int32) (r : Int32) (H : f_o_isNumeric a0 = r) : Ex 0 17 (0, [some (.int a0)], [], xSt xG0 hc hr xs g L c z) (.inl (some (.int r)), xSt xG0 hc hr xs g L c z) := by
  unfold f_o_isNumeric at H
  refine Ex.many (f' := (3, [some (.int a0)], [.int (69 : Int32), .int a0], xSt xG0 hc hr xs g L c z)) ?_ 2 (by rfl)
  refine Ex.ite (ls := [some (.int a0)]) (st := []) (S := xSt xG0 hc hr xs g L c z) (by rfl) (fun q1 => ?_) (fun q1 => ?_)
  · replace H := (if_pos q1).symm.trans H
    exact T_o_isNumeric_12 a0 r H
  · replace H := (if_neg q1).symm.trans H
    refine Ex.many (f' := (9, [some (.int a0)], [.int (79 : Int32), .int a0], xSt xG0 hc hr xs g L c z)) ?_ 2 (by rfl)
    refine Ex.ite (ls := [some (.int a0)]) (st := []) (S := xSt xG0 hc hr xs g L c z) (by rfl) (fun q2 => ?_) (fun q2 => ?_)
    · replace H := (if_pos q2).symm.trans H
      refine Ex.many (f' := (29, [none], [.int (1 : Int32)], xSt xG0 hc hr xs g L c z)) ?_ 2 (by rfl)
      skip
      subst H
      exact Ex.done (by rfl)
    · replace H := (if_neg q2).symm.trans H
      exact T_o_isNumeric_12 a0 r H
def f_o_shapeOf (a0 : Int32) : Int32 :=
  if a0 = (0 : Int32) ∨ a0 = (1 : Int32) ∨ a0 = (5 : Int32) ∨ a0 = (11 : Int32) ∨ a0 = (15 : Int32) ∨ a0 = (26 : Int32) ∨ a0 = (27 : Int32) ∨ a0 = (63 : Int32) ∨ a0 = (64 : Int32) then (0 : Int32) else (if a0 = (2 : Int32) ∨ a0 = (3 : Int32) ∨ a0 = (4 : Int32) then (1 : Int32) else (if a0 = (12 : Int32) ∨ a0 = (13 : Int32) then (2 : Int32) else (if a0 = (14 : Int32) then (3 : Int32) else (if a0 = (16 : Int32) then (4 : Int32) else (if a0 = (32 : Int32) ∨ a0 = (33 : Int32) ∨ a0 = (34 : Int32) then (5 : Int32) else (if a0 = (35 : Int32) ∨ a0 = (36 : Int32) then (6 : Int32) else (if a0 = (40 : Int32) ∨ a0 = (44 : Int32) ∨ a0 = (45 : Int32) ∨ a0 = (46 : Int32) ∨ a0 = (47 : Int32) ∨ a0 = (54 : Int32) ∨ a0 = (58 : Int32) ∨ a0 = (59 : Int32) then (7 : Int32) else (if a0 = (65 : Int32) then (8 : Int32) else (if (f_o_isNumeric a0) = 0 then (-1 : Int32) else (0 : Int32))))))))))
theorem T_o_shapeOf {hc : xI} {hr : xI} {g : xJ} {xs : Nat → Int32} {L c z : Nat} (a0 : Int32) (r : Int32) (H : f_o_shapeOf a0 = r) : Ex 1 16 (0, [some (.int a0)], [], xSt xG0 hc hr xs g L c z) (.inl (some (.int r)), xSt xG0 hc hr xs g L c z) := by
  unfold f_o_shapeOf at H
  refine Ex.many (f' := (1, [some (.int a0)], [.int a0], xSt xG0 hc hr xs g L c z)) ?_ 1 (by rfl)
  by_cases q1 : a0 = (0 : Int32) ∨ a0 = (1 : Int32) ∨ a0 = (5 : Int32) ∨ a0 = (11 : Int32) ∨ a0 = (15 : Int32) ∨ a0 = (26 : Int32) ∨ a0 = (27 : Int32) ∨ a0 = (63 : Int32) ∨ a0 = (64 : Int32)
  · replace H := (if_pos q1).symm.trans H
    refine Ex.sw (t := 280) (ls := [some (.int a0)]) (st := []) (S := xSt xG0 hc hr xs g L c z) ?_ (by rfl) (by rcases q1 with q1 | q1 | q1 | q1 | q1 | q1 | q1 | q1 | q1 <;> (rw [q1]; rfl))
    refine Ex.many (f' := (281, [none], [.int (0 : Int32)], xSt xG0 hc hr xs g L c z)) ?_ 1 (by rfl)
    skip
    subst H
    exact Ex.done (by rfl)
  · replace H := (if_neg q1).symm.trans H
    by_cases q2 : a0 = (2 : Int32) ∨ a0 = (3 : Int32) ∨ a0 = (4 : Int32)
    · replace H := (if_pos q2).symm.trans H
      refine Ex.sw (t := 282) (ls := [some (.int a0)]) (st := []) (S := xSt xG0 hc hr xs g L c z) ?_ (by rfl) (by rcases q2 with q2 | q2 | q2 <;> (rw [q2]; rfl))
      refine Ex.many (f' := (283, [none], [.int (1 : Int32)], xSt xG0 hc hr xs g L c z)) ?_ 1 (by rfl)
      skip
      subst H
      exact Ex.done (by rfl)
    · replace H := (if_neg q2).symm.trans H
      by_cases q3 : a0 = (12 : Int32) ∨ a0 = (13 : Int32)
      · replace H := (if_pos q3).symm.trans H
        refine Ex.sw (t := 284) (ls := [some (.int a0)]) (st := []) (S := xSt xG0 hc hr xs g L c z) ?_ (by rfl) (by rcases q3 with q3 | q3 <;> (rw [q3]; rfl))
        refine Ex.many (f' := (285, [none], [.int (2 : Int32)], xSt xG0 hc hr xs g L c z)) ?_ 1 (by rfl)
        skip
        subst H
        exact Ex.done (by rfl)
      · replace H := (if_neg q3).symm.trans H
        by_cases q4 : a0 = (14 : Int32)
        · replace H := (if_pos q4).symm.trans H
          refine Ex.sw (t := 286) (ls := [some (.int a0)]) (st := []) (S := xSt xG0 hc hr xs g L c z) ?_ (by rfl) (by rw [q4]; rfl)
          refine Ex.many (f' := (287, [none], [.int (3 : Int32)], xSt xG0 hc hr xs g L c z)) ?_ 1 (by rfl)
          skip
          subst H
          exact Ex.done (by rfl)
        · replace H := (if_neg q4).symm.trans H
          by_cases q5 : a0 = (16 : Int32)
          · replace H := (if_pos q5).symm.trans H
            refine Ex.sw (t := 288) (ls := [some (.int a0)]) (st := []) (S := xSt xG0 hc hr xs g L c z) ?_ (by rfl) (by rw [q5]; rfl)
            refine Ex.many (f' := (289, [none], [.int (4 : Int32)], xSt xG0 hc hr xs g L c z)) ?_ 1 (by rfl)
            skip
            subst H
            exact Ex.done (by rfl)
          · replace H := (if_neg q5).symm.trans H
            by_cases q6 : a0 = (32 : Int32) ∨ a0 = (33 : Int32) ∨ a0 = (34 : Int32)
            · replace H := (if_pos q6).symm.trans H
              refine Ex.sw (t := 290) (ls := [some (.int a0)]) (st := []) (S := xSt xG0 hc hr xs g L c z) ?_ (by rfl) (by rcases q6 with q6 | q6 | q6 <;> (rw [q6]; rfl))
              refine Ex.many (f' := (291, [none], [.int (5 : Int32)], xSt xG0 hc hr xs g L c z)) ?_ 1 (by rfl)
              skip
              subst H
              exact Ex.done (by rfl)
            · replace H := (if_neg q6).symm.trans H
              by_cases q7 : a0 = (35 : Int32) ∨ a0 = (36 : Int32)
              · replace H := (if_pos q7).symm.trans H
                refine Ex.sw (t := 292) (ls := [some (.int a0)]) (st := []) (S := xSt xG0 hc hr xs g L c z) ?_ (by rfl) (by rcases q7 with q7 | q7 <;> (rw [q7]; rfl))
                refine Ex.many (f' := (294, [none], [.int (6 : Int32)], xSt xG0 hc hr xs g L c z)) ?_ 1 (by rfl)
                skip
                subst H
                exact Ex.done (by rfl)
              · replace H := (if_neg q7).symm.trans H
                by_cases q8 : a0 = (40 : Int32) ∨ a0 = (44 : Int32) ∨ a0 = (45 : Int32) ∨ a0 = (46 : Int32) ∨ a0 = (47 : Int32) ∨ a0 = (54 : Int32) ∨ a0 = (58 : Int32) ∨ a0 = (59 : Int32)
                · replace H := (if_pos q8).symm.trans H
                  refine Ex.sw (t := 295) (ls := [some (.int a0)]) (st := []) (S := xSt xG0 hc hr xs g L c z) ?_ (by rfl) (by rcases q8 with q8 | q8 | q8 | q8 | q8 | q8 | q8 | q8 <;> (rw [q8]; rfl))
                  refine Ex.many (f' := (297, [none], [.int (7 : Int32)], xSt xG0 hc hr xs g L c z)) ?_ 1 (by rfl)
                  skip
                  subst H
                  exact Ex.done (by rfl)
                · replace H := (if_neg q8).symm.trans H
                  by_cases q9 : a0 = (65 : Int32)
                  · replace H := (if_pos q9).symm.trans H
                    refine Ex.sw (t := 298) (ls := [some (.int a0)]) (st := []) (S := xSt xG0 hc hr xs g L c z) ?_ (by rfl) (by rw [q9]; rfl)
                    refine Ex.many (f' := (300, [none], [.int (8 : Int32)], xSt xG0 hc hr xs g L c z)) ?_ 1 (by rfl)
                    skip
                    subst H
                    exact Ex.done (by rfl)
                  · replace H := (if_neg q9).symm.trans H
                    refine Ex.sw (t := 301) (ls := [some (.int a0)]) (st := []) (S := xSt xG0 hc hr xs g L c z) ?_ (by rfl) (xtsw_d [(0 : Int32), (1 : Int32), (2 : Int32), (3 : Int32), (4 : Int32), (5 : Int32), (11 : Int32), (12 : Int32), (13 : Int32), (14 : Int32), (15 : Int32), (16 : Int32), (26 : Int32), (27 : Int32), (32 : Int32), (33 : Int32), (34 : Int32), (35 : Int32), (36 : Int32), (40 : Int32), (44 : Int32), (45 : Int32), (46 : Int32), (47 : Int32), (54 : Int32), (58 : Int32), (59 : Int32), (63 : Int32), (64 : Int32), (65 : Int32)] (by decide +kernel) (by decide +kernel) (List.forall_mem_cons.mpr ⟨fun e => q1 (.inl e), (List.forall_mem_cons.mpr ⟨fun e => q1 (.inr (.inl e)), (List.forall_mem_cons.mpr ⟨fun e => q2 (.inl e), (List.forall_mem_cons.mpr ⟨fun e => q2 (.inr (.inl e)), (List.forall_mem_cons.mpr ⟨fun e => q2 (.inr (.inr e)), (List.forall_mem_cons.mpr ⟨fun e => q1 (.inr (.inr (.inl e))), (List.forall_mem_cons.mpr ⟨fun e => q1 (.inr (.inr (.inr (.inl e)))), (List.forall_mem_cons.mpr ⟨fun e => q3 (.inl e), (List.forall_mem_cons.mpr ⟨fun e => q3 (.inr e), (List.forall_mem_cons.mpr ⟨fun e => q4 e, (List.forall_mem_cons.mpr ⟨fun e => q1 (.inr (.inr (.inr (.inr (.inl e))))), (List.forall_mem_cons.mpr ⟨fun e => q5 e, (List.forall_mem_cons.mpr ⟨fun e => q1 (.inr (.inr (.inr (.inr (.inr (.inl e)))))), (List.forall_mem_cons.mpr ⟨fun e => q1 (.inr (.inr (.inr (.inr (.inr (.inr (.inl e))))))), (List.forall_mem_cons.mpr ⟨fun e => q6 (.inl e), (List.forall_mem_cons.mpr ⟨fun e => q6 (.inr (.inl e)), (List.forall_mem_cons.mpr ⟨fun e => q6 (.inr (.inr e)), (List.forall_mem_cons.mpr ⟨fun e => q7 (.inl e), (List.forall_mem_cons.mpr ⟨fun e => q7 (.inr e), (List.forall_mem_cons.mpr ⟨fun e => q8 (.inl e), (List.forall_mem_cons.mpr ⟨fun e => q8 (.inr (.inl e)), (List.forall_mem_cons.mpr ⟨fun e => q8 (.inr (.inr (.inl e))), (List.forall_mem_cons.mpr ⟨fun e => q8 (.inr (.inr (.inr (.inl e)))), (List.forall_mem_cons.mpr ⟨fun e => q8 (.inr (.inr (.inr (.inr (.inl e))))), (List.forall_mem_cons.mpr ⟨fun e => q8 (.inr (.inr (.inr (.inr (.inr (.inl e)))))), (List.forall_mem_cons.mpr ⟨fun e => q8 (.inr (.inr (.inr (.inr (.inr (.inr (.inl e))))))), (List.forall_mem_cons.mpr ⟨fun e => q8 (.inr (.inr (.inr (.inr (.inr (.inr (.inr e))))))), (List.forall_mem_cons.mpr ⟨fun e => q1 (.inr (.inr (.inr (.inr (.inr (.inr (.inr (.inl e)))))))), (List.forall_mem_cons.mpr ⟨fun e => q1 (.inr (.inr (.inr (.inr (.inr (.inr (.inr (.inr e)))))))), (List.forall_mem_cons.mpr ⟨fun e => q9 e, (fun _ h => absurd h List.not_mem_nil)⟩)⟩)⟩)⟩)⟩)⟩)⟩)⟩)⟩)⟩)⟩)⟩)⟩)⟩)⟩)⟩)⟩)⟩)⟩)⟩)⟩)⟩)⟩)⟩)⟩)⟩)⟩)⟩)⟩)⟩))
                    refine Ex.many (f' := (302, [some (.int a0)], [.int a0], xSt xG0 hc hr xs g L c z)) ?_ 1 (by rfl)
                    refine Ex.call (mk := 17) (vs := [.int a0]) (rest := []) (by rfl) (by rfl) (Ex.up (T_o_isNumeric a0 _ rfl) (by decide)) (xbb c z) ?_
                    show Ex _ _ (305, [some (.int a0)], [.int (f_o_isNumeric a0)], xSt xG0 hc hr xs g L c z) _
                    refine Ex.ite (ls := [none]) (st := []) (S := xSt xG0 hc hr xs g L c z) (by rfl) (fun q11 => ?_) (fun q11 => ?_)
                    · replace H := (if_pos q11).symm.trans H
                      refine Ex.many (f' := (313, [none], [.int (-1 : Int32)], xSt xG0 hc hr xs g L c z)) ?_ 1 (by rfl)
                      skip
                      subst H
                      exact Ex.done (by rfl)
                    · replace H := (if_neg q11).symm.trans H
                      refine Ex.many (f' := (313, [none], [.int (0 : Int32)], xSt xG0 hc hr xs g L c z)) ?_ 2 (by rfl)
                      skip
                      subst H
                      exact Ex.done (by rfl)
def f_c_sizeAt (a1 : Int32) (hc : xI) : Option Int32 :=
  xgd a1 240 (if (f_o_shapeOf (hc 2 a1.toNatClampNeg)) = (3 : Int32) then (xgd (a1 + (1 : Int32)) 240 (some ((3 : Int32) + (hc 2 (a1 + (1 : Int32)).toNatClampNeg)))) else (if (f_o_shapeOf (hc 2 a1.toNatClampNeg)) = 0 then (some (1 : Int32)) else (some (2 : Int32))))
theorem T_c_sizeAt {hr : xI} {g : xJ} {xs : Nat → Int32} {L c z : Nat} (a1 : Int32) (hc : xI) (r : Int32) (H : f_c_sizeAt a1 hc = some r) : Ex 2 15 (0, [some (.ref 1), some (.int a1), none], [], xSt xG0 hc hr xs g L c z) (.inl (some (.int r)), xSt xG0 hc hr xs g L c z) := by
  unfold f_c_sizeAt at H
  refine Ex.many (f' := (5, [some (.ref 1), some (.int a1), none], [.int a1, .ref 2], xSt xG0 hc hr xs g L c z)) ?_ 3 (by rfl)
  obtain ⟨g1, H⟩ := xgd_some H
  refine Ex.guard (f' := (6, [some (.ref 1), some (.int a1), none], [.int (hc 2 a1.toNatClampNeg)], xSt xG0 hc hr xs g L c z)) (by rfl) g1 ?_
  refine Ex.call (mk := 16) (vs := [.int (hc 2 a1.toNatClampNeg)]) (rest := []) (by rfl) (by rfl) (Ex.up (T_o_shapeOf (hc 2 a1.toNatClampNeg) _ rfl) (by decide)) (xbb c z) ?_
  show Ex _ _ (9, [some (.ref 1), some (.int a1), none], [.int (f_o_shapeOf (hc 2 a1.toNatClampNeg))], xSt xG0 hc hr xs g L c z) _
  refine Ex.many (f' := (12, [some (.ref 1), some (.int a1), some (.int (f_o_shapeOf (hc 2 a1.toNatClampNeg)))], [.int (3 : Int32), .int (f_o_shapeOf (hc 2 a1.toNatClampNeg))], xSt xG0 hc hr xs g L c z)) ?_ 3 (by rfl)
  refine Ex.ite (ls := [some (.ref 1), some (.int a1), some (.int (f_o_shapeOf (hc 2 a1.toNatClampNeg)))]) (st := []) (S := xSt xG0 hc hr xs g L c z) (by rfl) (fun q3 => ?_) (fun q3 => ?_)
  · replace H := (if_pos q3).symm.trans H
    refine Ex.many (f' := (23, [some (.ref 1), some (.int a1), none], [.int (a1 + (1 : Int32)), .ref 2, .int (3 : Int32)], xSt xG0 hc hr xs g L c z)) ?_ 6 (by rfl)
    obtain ⟨g4, H⟩ := xgd_some H
    refine Ex.guard (f' := (24, [some (.ref 1), some (.int a1), none], [.int (hc 2 (a1 + (1 : Int32)).toNatClampNeg), .int (3 : Int32)], xSt xG0 hc hr xs g L c z)) (by rfl) g4 ?_
    refine Ex.many (f' := (25, [some (.ref 1), some (.int a1), none], [.int ((3 : Int32) + (hc 2 (a1 + (1 : Int32)).toNatClampNeg))], xSt xG0 hc hr xs g L c z)) ?_ 1 (by rfl)
    replace H := Option.some.inj H
    subst H
    exact Ex.done (by rfl)
  · replace H := (if_neg q3).symm.trans H
    refine Ex.many (f' := (27, [none, none, some (.int (f_o_shapeOf (hc 2 a1.toNatClampNeg)))], [.int (f_o_shapeOf (hc 2 a1.toNatClampNeg))], xSt xG0 hc hr xs g L c z)) ?_ 1 (by rfl)
    refine Ex.ite (ls := [none, none, some (.int (f_o_shapeOf (hc 2 a1.toNatClampNeg)))]) (st := []) (S := xSt xG0 hc hr xs g L c z) (by rfl) (fun q5 => ?_) (fun q5 => ?_)
    · replace H := (if_pos q5).symm.trans H
      refine Ex.many (f' := (35, [none, none, none], [.int (1 : Int32)], xSt xG0 hc hr xs g L c z)) ?_ 2 (by rfl)
      replace H := Option.some.inj H
      subst H
      exact Ex.done (by rfl)
    · replace H := (if_neg q5).symm.trans H
      refine Ex.many (f' := (35, [none, none, none], [.int (2 : Int32)], xSt xG0 hc hr xs g L c z)) ?_ 1 (by rfl)
      replace H := Option.some.inj H
      subst H
      exact Ex.done (by rfl)
def f_h_push (a1 : Int32) (hc : xI) : Option (Int32 × xI) :=
  if (hc 19 4) = (100 : Int32) then (some ((5 : Int32), hc)) else (xgd (hc 19 4) 100 (some ((0 : Int32), (xput (xput hc 21 (hc 19 4).toNatClampNeg a1) 19 4 ((hc 19 4) + (1 : Int32))))))
theorem T_h_push {hr : xI} {g : xJ} {xs : Nat → Int32} {L c z : Nat} (a1 : Int32) (hc : xI) (r : (Int32 × xI)) (H : f_h_push a1 hc = some r) : Ex 0 34 (0, [some (.ref 19), some (.int a1)], [], xSt xG0 hc hr xs g L c z) (.inl (some (.int r.1)), xSt xG0 r.2 hr xs g L c z) := by
  unfold f_h_push at H
  refine Ex.many (f' := (6, [some (.ref 19), some (.int a1)], [.int (100 : Int32), .int (hc 19 4)], xSt xG0 hc hr xs g L c z)) ?_ 3 (by rfl)
  refine Ex.ite (ls := [some (.ref 19), some (.int a1)]) (st := []) (S := xSt xG0 hc hr xs g L c z) (by rfl) (fun q1 => ?_) (fun q1 => ?_)
  · replace H := (if_pos q1).symm.trans H
    refine Ex.many (f' := (10, [none, none], [.int (5 : Int32)], xSt xG0 hc hr xs g L c z)) ?_ 1 (by rfl)
    replace H := Option.some.inj H
    subst H
    exact Ex.done (by rfl)
  · replace H := (if_neg q1).symm.trans H
    refine Ex.many (f' := (20, [some (.ref 19), some (.int a1)], [.int a1, .int (hc 19 4), .ref 21], xSt xG0 hc hr xs g L c z)) ?_ 5 (by rfl)
    obtain ⟨g2, H⟩ := xgd_some H
    refine Ex.gputC (pc := 21) (k := 21) (n := 100) (i := (hc 19 4)) (v := a1) (ls := [some (.ref 19), some (.int a1)]) (st := []) (hc := hc) ?_ (by rfl) g2 (by rfl)
    refine Ex.many (f' := (28, [some (.ref 19), some (.int a1)], [.int ((hc 19 4) + (1 : Int32)), .ref 19], xSt xG0 (xput hc 21 (hc 19 4).toNatClampNeg a1) hr xs g L c z)) ?_ 5 (by rfl)
    refine Ex.putC (pc := 31) (k := 19) (j := 4) (v := ((hc 19 4) + (1 : Int32))) (ls := [some (.ref 19), some (.int a1)]) (st := []) (hc := (xput hc 21 (hc 19 4).toNatClampNeg a1)) ?_ (by rfl) (by rfl)
    refine Ex.many (f' := (32, [some (.ref 19), some (.int a1)], [.int (0 : Int32)], xSt xG0 (xput (xput hc 21 (hc 19 4).toNatClampNeg a1) 19 4 ((hc 19 4) + (1 : Int32))) hr xs g L c z)) ?_ 1 (by rfl)
    replace H := Option.some.inj H
    subst H
    exact Ex.done (by rfl)
def f_o_isUnary (a0 : Int32) : Int32 :=
  if a0 = (69 : Int32) then (1 : Int32) else (if a0 = (103 : Int32) then (1 : Int32) else (if a0 = (104 : Int32) then (1 : Int32) else (if a0 = (105 : Int32) then (1 : Int32) else (0 : Int32))))
theorem T_o_isUnary {hc : xI} {hr : xI} {g : xJ} {xs : Nat → Int32} {L c z : Nat} (a0 : Int32) (r : Int32) (H : f_o_isUnary a0 = r) : Ex 0 45 (0, [some (.int a0)], [], xSt xG0 hc hr xs g L c z) (.inl (some (.int r)), xSt xG0 hc hr xs g L c z) := by
  unfold f_o_isUnary at H
  refine Ex.many (f' := (3, [some (.int a0)], [.int (69 : Int32), .int a0], xSt xG0 hc hr xs g L c z)) ?_ 2 (by rfl)
  refine Ex.ite (ls := [some (.int a0)]) (st := []) (S := xSt xG0 hc hr xs g L c z) (by rfl) (fun q1 => ?_) (fun q1 => ?_)
  · replace H := (if_pos q1).symm.trans H
    refine Ex.many (f' := (29, [none], [.int (1 : Int32)], xSt xG0 hc hr xs g L c z)) ?_ 2 (by rfl)
    skip
    subst H
    exact Ex.done (by rfl)
  · replace H := (if_neg q1).symm.trans H
    refine Ex.many (f' := (9, [some (.int a0)], [.int (103 : Int32), .int a0], xSt xG0 hc hr xs g L c z)) ?_ 2 (by rfl)
    refine Ex.ite (ls := [some (.int a0)]) (st := []) (S := xSt xG0 hc hr xs g L c z) (by rfl) (fun q2 => ?_) (fun q2 => ?_)
    · replace H := (if_pos q2).symm.trans H
      refine Ex.many (f' := (29, [none], [.int (1 : Int32)], xSt xG0 hc hr xs g L c z)) ?_ 2 (by rfl)
      skip
      subst H
      exact Ex.done (by rfl)
    · replace H := (if_neg q2).symm.trans H
      refine Ex.many (f' := (15, [some (.int a0)], [.int (104 : Int32), .int a0], xSt xG0 hc hr xs g L c z)) ?_ 2 (by rfl)
      refine Ex.ite (ls := [some (.int a0)]) (st := []) (S := xSt xG0 hc hr xs g L c z) (by rfl) (fun q3 => ?_) (fun q3 => ?_)
      · replace H := (if_pos q3).symm.trans H
        refine Ex.many (f' := (29, [none], [.int (1 : Int32)], xSt xG0 hc hr xs g L c z)) ?_ 2 (by rfl)
        skip
        subst H
        exact Ex.done (by rfl)
      · replace H := (if_neg q3).symm.trans H
        refine Ex.many (f' := (21, [some (.int a0)], [.int (105 : Int32), .int a0], xSt xG0 hc hr xs g L c z)) ?_ 2 (by rfl)
        refine Ex.ite (ls := [some (.int a0)]) (st := []) (S := xSt xG0 hc hr xs g L c z) (by rfl) (fun q4 => ?_) (fun q4 => ?_)
        · replace H := (if_pos q4).symm.trans H
          refine Ex.many (f' := (29, [none], [.int (1 : Int32)], xSt xG0 hc hr xs g L c z)) ?_ 2 (by rfl)
          skip
          subst H
          exact Ex.done (by rfl)
        · replace H := (if_neg q4).symm.trans H
          refine Ex.many (f' := (29, [none], [.int (0 : Int32)], xSt xG0 hc hr xs g L c z)) ?_ 1 (by rfl)
          skip
          subst H
          exact Ex.done (by rfl)
def f_o_isDivision (a0 : Int32) : Int32 :=
  if a0 < (109 : Int32) then (0 : Int32) else (if (112 : Int32) < a0 then (0 : Int32) else (1 : Int32))
theorem T_o_isDivision {hc : xI} {hr : xI} {g : xJ} {xs : Nat → Int32} {L c z : Nat} (a0 : Int32) (r : Int32) (H : f_o_isDivision a0 = r) : Ex 0 50 (0, [some (.int a0)], [], xSt xG0 hc hr xs g L c z) (.inl (some (.int r)), xSt xG0 hc hr xs g L c z) := by
  unfold f_o_isDivision at H
  refine Ex.many (f' := (3, [some (.int a0)], [.int (109 : Int32), .int a0], xSt xG0 hc hr xs g L c z)) ?_ 2 (by rfl)
  refine Ex.ite (ls := [some (.int a0)]) (st := []) (S := xSt xG0 hc hr xs g L c z) (by rfl) (fun q1 => ?_) (fun q1 => ?_)
  · replace H := (if_pos q1).symm.trans H
    refine Ex.many (f' := (17, [none], [.int (0 : Int32)], xSt xG0 hc hr xs g L c z)) ?_ 1 (by rfl)
    skip
    subst H
    exact Ex.done (by rfl)
  · replace H := (if_neg q1).symm.trans H
    refine Ex.many (f' := (9, [some (.int a0)], [.int (112 : Int32), .int a0], xSt xG0 hc hr xs g L c z)) ?_ 2 (by rfl)
    refine Ex.ite (ls := [some (.int a0)]) (st := []) (S := xSt xG0 hc hr xs g L c z) (by rfl) (fun q2 => ?_) (fun q2 => ?_)
    · replace H := (if_pos q2).symm.trans H
      refine Ex.many (f' := (17, [none], [.int (0 : Int32)], xSt xG0 hc hr xs g L c z)) ?_ 1 (by rfl)
      skip
      subst H
      exact Ex.done (by rfl)
    · replace H := (if_neg q2).symm.trans H
      refine Ex.many (f' := (17, [none], [.int (1 : Int32)], xSt xG0 hc hr xs g L c z)) ?_ 2 (by rfl)
      skip
      subst H
      exact Ex.done (by rfl)
def f_n_ofTwo (a0 : Int32) (a1 : Int32) (a2 : Int32) : Int32 :=
  if a0 = (106 : Int32) then (a1 + a2) else (if a0 = (107 : Int32) then (a1 - a2) else (if a0 = (108 : Int32) then (a1 * a2) else (if a0 = (113 : Int32) then (a1 &&& a2) else (if a0 = (114 : Int32) then (a1 ||| a2) else (if a0 = (115 : Int32) then (a1 ^^^ a2) else (if a0 = (116 : Int32) then (a1 <<< (a2 &&& 31)) else (if a0 = (117 : Int32) then (a1 >>> (a2 &&& 31)) else (if a0 = (118 : Int32) then (xushr a1 a2) else (if a0 = (119 : Int32) then ((a1 <<< (a2 &&& 31)) ||| (xushr a1 (-a2))) else (((xushr a1 a2) ||| (a1 <<< ((-a2) &&& 31)))))))))))))
theorem T_n_ofTwo {hc : xI} {hr : xI} {g : xJ} {xs : Nat → Int32} {L c z : Nat} (a0 : Int32) (a1 : Int32) (a2 : Int32) (r : Int32) (H : f_n_ofTwo a0 a1 a2 = r) : Ex 0 56 (0, [some (.int a0), some (.int a1), some (.int a2)], [], xSt xG0 hc hr xs g L c z) (.inl (some (.int r)), xSt xG0 hc hr xs g L c z) := by
  unfold f_n_ofTwo at H
  refine Ex.many (f' := (1, [some (.int a0), some (.int a1), some (.int a2)], [.int a0], xSt xG0 hc hr xs g L c z)) ?_ 1 (by rfl)
  by_cases q1 : a0 = (106 : Int32)
  · replace H := (if_pos q1).symm.trans H
    refine Ex.sw (t := 72) (ls := [some (.int a0), some (.int a1), some (.int a2)]) (st := []) (S := xSt xG0 hc hr xs g L c z) ?_ (by rfl) (by rw [q1]; rfl)
    refine Ex.many (f' := (75, [none, some (.int a1), some (.int a2)], [.int (a1 + a2)], xSt xG0 hc hr xs g L c z)) ?_ 3 (by rfl)
    skip
    subst H
    exact Ex.done (by rfl)
  · replace H := (if_neg q1).symm.trans H
    by_cases q2 : a0 = (107 : Int32)
    · replace H := (if_pos q2).symm.trans H
      refine Ex.sw (t := 76) (ls := [some (.int a0), some (.int a1), some (.int a2)]) (st := []) (S := xSt xG0 hc hr xs g L c z) ?_ (by rfl) (by rw [q2]; rfl)
      refine Ex.many (f' := (79, [none, some (.int a1), some (.int a2)], [.int (a1 - a2)], xSt xG0 hc hr xs g L c z)) ?_ 3 (by rfl)
      skip
      subst H
      exact Ex.done (by rfl)
    · replace H := (if_neg q2).symm.trans H
      by_cases q3 : a0 = (108 : Int32)
      · replace H := (if_pos q3).symm.trans H
        refine Ex.sw (t := 80) (ls := [some (.int a0), some (.int a1), some (.int a2)]) (st := []) (S := xSt xG0 hc hr xs g L c z) ?_ (by rfl) (by rw [q3]; rfl)
        refine Ex.many (f' := (83, [none, some (.int a1), some (.int a2)], [.int (a1 * a2)], xSt xG0 hc hr xs g L c z)) ?_ 3 (by rfl)
        skip
        subst H
        exact Ex.done (by rfl)
      · replace H := (if_neg q3).symm.trans H
        by_cases q4 : a0 = (113 : Int32)
        · replace H := (if_pos q4).symm.trans H
          refine Ex.sw (t := 84) (ls := [some (.int a0), some (.int a1), some (.int a2)]) (st := []) (S := xSt xG0 hc hr xs g L c z) ?_ (by rfl) (by rw [q4]; rfl)
          refine Ex.many (f' := (87, [none, some (.int a1), some (.int a2)], [.int (a1 &&& a2)], xSt xG0 hc hr xs g L c z)) ?_ 3 (by rfl)
          skip
          subst H
          exact Ex.done (by rfl)
        · replace H := (if_neg q4).symm.trans H
          by_cases q5 : a0 = (114 : Int32)
          · replace H := (if_pos q5).symm.trans H
            refine Ex.sw (t := 88) (ls := [some (.int a0), some (.int a1), some (.int a2)]) (st := []) (S := xSt xG0 hc hr xs g L c z) ?_ (by rfl) (by rw [q5]; rfl)
            refine Ex.many (f' := (91, [none, some (.int a1), some (.int a2)], [.int (a1 ||| a2)], xSt xG0 hc hr xs g L c z)) ?_ 3 (by rfl)
            skip
            subst H
            exact Ex.done (by rfl)
          · replace H := (if_neg q5).symm.trans H
            by_cases q6 : a0 = (115 : Int32)
            · replace H := (if_pos q6).symm.trans H
              refine Ex.sw (t := 92) (ls := [some (.int a0), some (.int a1), some (.int a2)]) (st := []) (S := xSt xG0 hc hr xs g L c z) ?_ (by rfl) (by rw [q6]; rfl)
              refine Ex.many (f' := (95, [none, some (.int a1), some (.int a2)], [.int (a1 ^^^ a2)], xSt xG0 hc hr xs g L c z)) ?_ 3 (by rfl)
              skip
              subst H
              exact Ex.done (by rfl)
            · replace H := (if_neg q6).symm.trans H
              by_cases q7 : a0 = (116 : Int32)
              · replace H := (if_pos q7).symm.trans H
                refine Ex.sw (t := 96) (ls := [some (.int a0), some (.int a1), some (.int a2)]) (st := []) (S := xSt xG0 hc hr xs g L c z) ?_ (by rfl) (by rw [q7]; rfl)
                refine Ex.many (f' := (99, [none, some (.int a1), some (.int a2)], [.int (a1 <<< (a2 &&& 31))], xSt xG0 hc hr xs g L c z)) ?_ 3 (by rfl)
                skip
                subst H
                exact Ex.done (by rfl)
              · replace H := (if_neg q7).symm.trans H
                by_cases q8 : a0 = (117 : Int32)
                · replace H := (if_pos q8).symm.trans H
                  refine Ex.sw (t := 100) (ls := [some (.int a0), some (.int a1), some (.int a2)]) (st := []) (S := xSt xG0 hc hr xs g L c z) ?_ (by rfl) (by rw [q8]; rfl)
                  refine Ex.many (f' := (103, [none, some (.int a1), some (.int a2)], [.int (a1 >>> (a2 &&& 31))], xSt xG0 hc hr xs g L c z)) ?_ 3 (by rfl)
                  skip
                  subst H
                  exact Ex.done (by rfl)
                · replace H := (if_neg q8).symm.trans H
                  by_cases q9 : a0 = (118 : Int32)
                  · replace H := (if_pos q9).symm.trans H
                    refine Ex.sw (t := 104) (ls := [some (.int a0), some (.int a1), some (.int a2)]) (st := []) (S := xSt xG0 hc hr xs g L c z) ?_ (by rfl) (by rw [q9]; rfl)
                    refine Ex.many (f' := (107, [none, some (.int a1), some (.int a2)], [.int (xushr a1 a2)], xSt xG0 hc hr xs g L c z)) ?_ 3 (by rfl)
                    skip
                    subst H
                    exact Ex.done (by rfl)
                  · replace H := (if_neg q9).symm.trans H
                    by_cases q10 : a0 = (119 : Int32)
                    · replace H := (if_pos q10).symm.trans H
                      refine Ex.sw (t := 108) (ls := [some (.int a0), some (.int a1), some (.int a2)]) (st := []) (S := xSt xG0 hc hr xs g L c z) ?_ (by rfl) (by rw [q10]; rfl)
                      refine Ex.many (f' := (116, [none, some (.int a1), some (.int a2)], [.int ((a1 <<< (a2 &&& 31)) ||| (xushr a1 (-a2)))], xSt xG0 hc hr xs g L c z)) ?_ 8 (by rfl)
                      skip
                      subst H
                      exact Ex.done (by rfl)
                    · replace H := (if_neg q10).symm.trans H
                      refine Ex.sw (t := 117) (ls := [some (.int a0), some (.int a1), some (.int a2)]) (st := []) (S := xSt xG0 hc hr xs g L c z) ?_ (by rfl) (xtsw_d [(106 : Int32), (107 : Int32), (108 : Int32), (113 : Int32), (114 : Int32), (115 : Int32), (116 : Int32), (117 : Int32), (118 : Int32), (119 : Int32)] (by decide +kernel) (by decide +kernel) (List.forall_mem_cons.mpr ⟨fun e => q1 e, (List.forall_mem_cons.mpr ⟨fun e => q2 e, (List.forall_mem_cons.mpr ⟨fun e => q3 e, (List.forall_mem_cons.mpr ⟨fun e => q4 e, (List.forall_mem_cons.mpr ⟨fun e => q5 e, (List.forall_mem_cons.mpr ⟨fun e => q6 e, (List.forall_mem_cons.mpr ⟨fun e => q7 e, (List.forall_mem_cons.mpr ⟨fun e => q8 e, (List.forall_mem_cons.mpr ⟨fun e => q9 e, (List.forall_mem_cons.mpr ⟨fun e => q10 e, (fun _ h => absurd h List.not_mem_nil)⟩)⟩)⟩)⟩)⟩)⟩)⟩)⟩)⟩)⟩))
                      refine Ex.many (f' := (125, [none, some (.int a1), some (.int a2)], [.int ((xushr a1 a2) ||| (a1 <<< ((-a2) &&& 31)))], xSt xG0 hc hr xs g L c z)) ?_ 8 (by rfl)
                      skip
                      subst H
                      exact Ex.done (by rfl)
def f_h_replaceTwo (a1 : Int32) (hc : xI) : Option (Int32 × xI) :=
  xgd (((hc 19 4) - (1 : Int32)) - (1 : Int32)) 100 (some ((0 : Int32), (xput (xput hc 19 4 ((hc 19 4) - (1 : Int32))) 21 (((hc 19 4) - (1 : Int32)) - (1 : Int32)).toNatClampNeg a1)))
theorem T_h_replaceTwo {hr : xI} {g : xJ} {xs : Nat → Int32} {L c z : Nat} (a1 : Int32) (hc : xI) (r : (Int32 × xI)) (H : f_h_replaceTwo a1 hc = some r) : Ex 0 53 (0, [some (.ref 19), some (.int a1)], [], xSt xG0 hc hr xs g L c z) (.inl (some (.int r.1)), xSt xG0 r.2 hr xs g L c z) := by
  unfold f_h_replaceTwo at H
  refine Ex.many (f' := (7, [some (.ref 19), some (.int a1)], [.int ((hc 19 4) - (1 : Int32)), .ref 19], xSt xG0 hc hr xs g L c z)) ?_ 5 (by rfl)
  refine Ex.putC (pc := 10) (k := 19) (j := 4) (v := ((hc 19 4) - (1 : Int32))) (ls := [some (.ref 19), some (.int a1)]) (st := []) (hc := hc) ?_ (by rfl) (by rfl)
  refine Ex.many (f' := (21, [some (.ref 19), some (.int a1)], [.int a1, .int (((hc 19 4) - (1 : Int32)) - (1 : Int32)), .ref 21], xSt xG0 (xput hc 19 4 ((hc 19 4) - (1 : Int32))) hr xs g L c z)) ?_ 7 (by rfl)
  obtain ⟨g1, H⟩ := xgd_some H
  refine Ex.gputC (pc := 22) (k := 21) (n := 100) (i := (((hc 19 4) - (1 : Int32)) - (1 : Int32))) (v := a1) (ls := [some (.ref 19), some (.int a1)]) (st := []) (hc := (xput hc 19 4 ((hc 19 4) - (1 : Int32)))) ?_ (by rfl) g1 (by rfl)
  refine Ex.many (f' := (23, [some (.ref 19), some (.int a1)], [.int (0 : Int32)], xSt xG0 (xput (xput hc 19 4 ((hc 19 4) - (1 : Int32))) 21 (((hc 19 4) - (1 : Int32)) - (1 : Int32)).toNatClampNeg a1) hr xs g L c z)) ?_ 1 (by rfl)
  replace H := Option.some.inj H
  subst H
  exact Ex.done (by rfl)
def f_i_compare (a0 : Int32) (a1 : Int32) : Int32 :=
  if a1 ≤ a0 then (if a0 = a1 then (0 : Int32) else (1 : Int32)) else (-1 : Int32)
theorem T_i_compare {hc : xI} {hr : xI} {g : xJ} {xs : Nat → Int32} {L c z : Nat} (a0 : Int32) (a1 : Int32) (r : Int32) (H : f_i_compare a0 a1 = r) : Ex 0 26 (0, [some (.int a0), some (.int a1)], [], xSt xG0 hc hr xs g L c z) (.inl (some (.int r)), xSt xG0 hc hr xs g L c z) := by
  unfold f_i_compare at H
  refine Ex.many (f' := (2, [some (.int a0), some (.int a1)], [.int a1, .int a0], xSt xG0 hc hr xs g L c z)) ?_ 2 (by rfl)
  refine Ex.ite (ls := [some (.int a0), some (.int a1)]) (st := []) (S := xSt xG0 hc hr xs g L c z) (by rfl) (fun q1 => ?_) (fun q1 => ?_)
  · replace H := (if_pos q1).symm.trans H
    refine Ex.many (f' := (11, [some (.int a0), some (.int a1)], [.int a1, .int a0], xSt xG0 hc hr xs g L c z)) ?_ 2 (by rfl)
    refine Ex.ite (ls := [some (.int a0), some (.int a1)]) (st := []) (S := xSt xG0 hc hr xs g L c z) (by rfl) (fun q2 => ?_) (fun q2 => ?_)
    · replace H := (if_pos q2).symm.trans H
      refine Ex.many (f' := (19, [none, none], [.int (0 : Int32)], xSt xG0 hc hr xs g L c z)) ?_ 2 (by rfl)
      skip
      subst H
      exact Ex.done (by rfl)
    · replace H := (if_neg q2).symm.trans H
      refine Ex.many (f' := (19, [none, none], [.int (1 : Int32)], xSt xG0 hc hr xs g L c z)) ?_ 1 (by rfl)
      skip
      subst H
      exact Ex.done (by rfl)
  · replace H := (if_neg q1).symm.trans H
    refine Ex.many (f' := (19, [none, none], [.int (-1 : Int32)], xSt xG0 hc hr xs g L c z)) ?_ 2 (by rfl)
    skip
    subst H
    exact Ex.done (by rfl)
def f_i_compareUnsigned (a0 : Int32) (a1 : Int32) : Int32 :=
  (f_i_compare (a0 + (-2147483648 : Int32)) (a1 + (-2147483648 : Int32)))
theorem T_i_compareUnsigned {hc : xI} {hr : xI} {g : xJ} {xs : Nat → Int32} {L c z : Nat} (a0 : Int32) (a1 : Int32) (r : Int32) (H : f_i_compareUnsigned a0 a1 = r) : Ex 1 25 (0, [some (.int a0), some (.int a1)], [], xSt xG0 hc hr xs g L c z) (.inl (some (.int r)), xSt xG0 hc hr xs g L c z) := by
  unfold f_i_compareUnsigned at H
  refine Ex.many (f' := (8, [some (.int a0), some (.int a1)], [.int (a1 + (-2147483648 : Int32)), .int (a0 + (-2147483648 : Int32))], xSt xG0 hc hr xs g L c z)) ?_ 6 (by rfl)
  refine Ex.call (mk := 26) (vs := [.int (a0 + (-2147483648 : Int32)), .int (a1 + (-2147483648 : Int32))]) (rest := []) (by rfl) (by rfl) (Ex.up (T_i_compare (a0 + (-2147483648 : Int32)) (a1 + (-2147483648 : Int32)) _ rfl) (by decide)) (xbb c z) ?_
  show Ex _ _ (11, [some (.int a0), some (.int a1)], [.int (f_i_compare (a0 + (-2147483648 : Int32)) (a1 + (-2147483648 : Int32)))], xSt xG0 hc hr xs g L c z) _
  skip
  subst H
  exact Ex.done (by rfl)
def f_n_isTrue (a0 : Int32) (a1 : Int32) (a2 : Int32) : Int32 :=
  if a0 = (70 : Int32) then (if a1 = a2 then (1 : Int32) else (0 : Int32)) else (if a0 = (71 : Int32) then (if a1 = a2 then (0 : Int32) else (1 : Int32)) else (if a0 = (72 : Int32) then (if a2 ≤ a1 then (0 : Int32) else (1 : Int32)) else (if a0 = (73 : Int32) then (if 0 ≤ (f_i_compareUnsigned a1 a2) then (0 : Int32) else (1 : Int32)) else (if a0 = (74 : Int32) then (if a1 ≤ a2 then (0 : Int32) else (1 : Int32)) else (if a0 = (75 : Int32) then (if (f_i_compareUnsigned a1 a2) ≤ 0 then (0 : Int32) else (1 : Int32)) else (if a0 = (76 : Int32) then (if a2 < a1 then (0 : Int32) else (1 : Int32)) else (if a0 = (77 : Int32) then (if 0 < (f_i_compareUnsigned a1 a2) then (0 : Int32) else (1 : Int32)) else (if a0 = (78 : Int32) then (if a1 < a2 then (0 : Int32) else (1 : Int32)) else (if (f_i_compareUnsigned a1 a2) < 0 then (0 : Int32) else (1 : Int32))))))))))
theorem T_n_isTrue {hc : xI} {hr : xI} {g : xJ} {xs : Nat → Int32} {L c z : Nat} (a0 : Int32) (a1 : Int32) (a2 : Int32) (r : Int32) (H : f_n_isTrue a0 a1 a2 = r) : Ex 2 55 (0, [some (.int a0), some (.int a1), some (.int a2)], [], xSt xG0 hc hr xs g L c z) (.inl (some (.int r)), xSt xG0 hc hr xs g L c z) := by
  unfold f_n_isTrue at H
  refine Ex.many (f' := (1, [some (.int a0), some (.int a1), some (.int a2)], [.int a0], xSt xG0 hc hr xs g L c z)) ?_ 1 (by rfl)
  by_cases q1 : a0 = (70 : Int32)
  · replace H := (if_pos q1).symm.trans H
    refine Ex.sw (t := 52) (ls := [some (.int a0), some (.int a1), some (.int a2)]) (st := []) (S := xSt xG0 hc hr xs g L c z) ?_ (by rfl) (by rw [q1]; rfl)
    refine Ex.many (f' := (54, [none, some (.int a1), some (.int a2)], [.int a2, .int a1], xSt xG0 hc hr xs g L c z)) ?_ 2 (by rfl)
    refine Ex.ite (ls := [none, some (.int a1), some (.int a2)]) (st := []) (S := xSt xG0 hc hr xs g L c z) (by rfl) (fun q2 => ?_) (fun q2 => ?_)
    · replace H := (if_pos q2).symm.trans H
      refine Ex.many (f' := (62, [none, none, none], [.int (1 : Int32)], xSt xG0 hc hr xs g L c z)) ?_ 2 (by rfl)
      skip
      subst H
      exact Ex.done (by rfl)
    · replace H := (if_neg q2).symm.trans H
      refine Ex.many (f' := (62, [none, none, none], [.int (0 : Int32)], xSt xG0 hc hr xs g L c z)) ?_ 1 (by rfl)
      skip
      subst H
      exact Ex.done (by rfl)
  · replace H := (if_neg q1).symm.trans H
    by_cases q3 : a0 = (71 : Int32)
    · replace H := (if_pos q3).symm.trans H
      refine Ex.sw (t := 63) (ls := [some (.int a0), some (.int a1), some (.int a2)]) (st := []) (S := xSt xG0 hc hr xs g L c z) ?_ (by rfl) (by rw [q3]; rfl)
      refine Ex.many (f' := (65, [none, some (.int a1), some (.int a2)], [.int a2, .int a1], xSt xG0 hc hr xs g L c z)) ?_ 2 (by rfl)
      refine Ex.ite (ls := [none, some (.int a1), some (.int a2)]) (st := []) (S := xSt xG0 hc hr xs g L c z) (by rfl) (fun q4 => ?_) (fun q4 => ?_)
      · replace H := (if_pos q4).symm.trans H
        refine Ex.many (f' := (73, [none, none, none], [.int (0 : Int32)], xSt xG0 hc hr xs g L c z)) ?_ 1 (by rfl)
        skip
        subst H
        exact Ex.done (by rfl)
      · replace H := (if_neg q4).symm.trans H
        refine Ex.many (f' := (73, [none, none, none], [.int (1 : Int32)], xSt xG0 hc hr xs g L c z)) ?_ 2 (by rfl)
        skip
        subst H
        exact Ex.done (by rfl)
    · replace H := (if_neg q3).symm.trans H
      by_cases q5 : a0 = (72 : Int32)
      · replace H := (if_pos q5).symm.trans H
        refine Ex.sw (t := 74) (ls := [some (.int a0), some (.int a1), some (.int a2)]) (st := []) (S := xSt xG0 hc hr xs g L c z) ?_ (by rfl) (by rw [q5]; rfl)
        refine Ex.many (f' := (76, [none, some (.int a1), some (.int a2)], [.int a2, .int a1], xSt xG0 hc hr xs g L c z)) ?_ 2 (by rfl)
        refine Ex.ite (ls := [none, some (.int a1), some (.int a2)]) (st := []) (S := xSt xG0 hc hr xs g L c z) (by rfl) (fun q6 => ?_) (fun q6 => ?_)
        · replace H := (if_pos q6).symm.trans H
          refine Ex.many (f' := (84, [none, none, none], [.int (0 : Int32)], xSt xG0 hc hr xs g L c z)) ?_ 1 (by rfl)
          skip
          subst H
          exact Ex.done (by rfl)
        · replace H := (if_neg q6).symm.trans H
          refine Ex.many (f' := (84, [none, none, none], [.int (1 : Int32)], xSt xG0 hc hr xs g L c z)) ?_ 2 (by rfl)
          skip
          subst H
          exact Ex.done (by rfl)
      · replace H := (if_neg q5).symm.trans H
        by_cases q7 : a0 = (73 : Int32)
        · replace H := (if_pos q7).symm.trans H
          refine Ex.sw (t := 85) (ls := [some (.int a0), some (.int a1), some (.int a2)]) (st := []) (S := xSt xG0 hc hr xs g L c z) ?_ (by rfl) (by rw [q7]; rfl)
          refine Ex.many (f' := (87, [none, some (.int a1), some (.int a2)], [.int a2, .int a1], xSt xG0 hc hr xs g L c z)) ?_ 2 (by rfl)
          refine Ex.call (mk := 25) (vs := [.int a1, .int a2]) (rest := []) (by rfl) (by rfl) (Ex.up (T_i_compareUnsigned a1 a2 _ rfl) (by decide)) (xbb c z) ?_
          show Ex _ _ (90, [none, some (.int a1), some (.int a2)], [.int (f_i_compareUnsigned a1 a2)], xSt xG0 hc hr xs g L c z) _
          refine Ex.ite (ls := [none, none, none]) (st := []) (S := xSt xG0 hc hr xs g L c z) (by rfl) (fun q9 => ?_) (fun q9 => ?_)
          · replace H := (if_pos q9).symm.trans H
            refine Ex.many (f' := (98, [none, none, none], [.int (0 : Int32)], xSt xG0 hc hr xs g L c z)) ?_ 1 (by rfl)
            skip
            subst H
            exact Ex.done (by rfl)
          · replace H := (if_neg q9).symm.trans H
            refine Ex.many (f' := (98, [none, none, none], [.int (1 : Int32)], xSt xG0 hc hr xs g L c z)) ?_ 2 (by rfl)
            skip
            subst H
            exact Ex.done (by rfl)
        · replace H := (if_neg q7).symm.trans H
          by_cases q10 : a0 = (74 : Int32)
          · replace H := (if_pos q10).symm.trans H
            refine Ex.sw (t := 99) (ls := [some (.int a0), some (.int a1), some (.int a2)]) (st := []) (S := xSt xG0 hc hr xs g L c z) ?_ (by rfl) (by rw [q10]; rfl)
            refine Ex.many (f' := (101, [none, some (.int a1), some (.int a2)], [.int a2, .int a1], xSt xG0 hc hr xs g L c z)) ?_ 2 (by rfl)
            refine Ex.ite (ls := [none, some (.int a1), some (.int a2)]) (st := []) (S := xSt xG0 hc hr xs g L c z) (by rfl) (fun q11 => ?_) (fun q11 => ?_)
            · replace H := (if_pos q11).symm.trans H
              refine Ex.many (f' := (109, [none, none, none], [.int (0 : Int32)], xSt xG0 hc hr xs g L c z)) ?_ 1 (by rfl)
              skip
              subst H
              exact Ex.done (by rfl)
            · replace H := (if_neg q11).symm.trans H
              refine Ex.many (f' := (109, [none, none, none], [.int (1 : Int32)], xSt xG0 hc hr xs g L c z)) ?_ 2 (by rfl)
              skip
              subst H
              exact Ex.done (by rfl)
          · replace H := (if_neg q10).symm.trans H
            by_cases q12 : a0 = (75 : Int32)
            · replace H := (if_pos q12).symm.trans H
              refine Ex.sw (t := 110) (ls := [some (.int a0), some (.int a1), some (.int a2)]) (st := []) (S := xSt xG0 hc hr xs g L c z) ?_ (by rfl) (by rw [q12]; rfl)
              refine Ex.many (f' := (112, [none, some (.int a1), some (.int a2)], [.int a2, .int a1], xSt xG0 hc hr xs g L c z)) ?_ 2 (by rfl)
              refine Ex.call (mk := 25) (vs := [.int a1, .int a2]) (rest := []) (by rfl) (by rfl) (Ex.up (T_i_compareUnsigned a1 a2 _ rfl) (by decide)) (xbb c z) ?_
              show Ex _ _ (115, [none, some (.int a1), some (.int a2)], [.int (f_i_compareUnsigned a1 a2)], xSt xG0 hc hr xs g L c z) _
              refine Ex.ite (ls := [none, none, none]) (st := []) (S := xSt xG0 hc hr xs g L c z) (by rfl) (fun q14 => ?_) (fun q14 => ?_)
              · replace H := (if_pos q14).symm.trans H
                refine Ex.many (f' := (123, [none, none, none], [.int (0 : Int32)], xSt xG0 hc hr xs g L c z)) ?_ 1 (by rfl)
                skip
                subst H
                exact Ex.done (by rfl)
              · replace H := (if_neg q14).symm.trans H
                refine Ex.many (f' := (123, [none, none, none], [.int (1 : Int32)], xSt xG0 hc hr xs g L c z)) ?_ 2 (by rfl)
                skip
                subst H
                exact Ex.done (by rfl)
            · replace H := (if_neg q12).symm.trans H
              by_cases q15 : a0 = (76 : Int32)
              · replace H := (if_pos q15).symm.trans H
                refine Ex.sw (t := 124) (ls := [some (.int a0), some (.int a1), some (.int a2)]) (st := []) (S := xSt xG0 hc hr xs g L c z) ?_ (by rfl) (by rw [q15]; rfl)
                refine Ex.many (f' := (126, [none, some (.int a1), some (.int a2)], [.int a2, .int a1], xSt xG0 hc hr xs g L c z)) ?_ 2 (by rfl)
                refine Ex.ite (ls := [none, some (.int a1), some (.int a2)]) (st := []) (S := xSt xG0 hc hr xs g L c z) (by rfl) (fun q16 => ?_) (fun q16 => ?_)
                · replace H := (if_pos q16).symm.trans H
                  refine Ex.many (f' := (134, [none, none, none], [.int (0 : Int32)], xSt xG0 hc hr xs g L c z)) ?_ 1 (by rfl)
                  skip
                  subst H
                  exact Ex.done (by rfl)
                · replace H := (if_neg q16).symm.trans H
                  refine Ex.many (f' := (134, [none, none, none], [.int (1 : Int32)], xSt xG0 hc hr xs g L c z)) ?_ 2 (by rfl)
                  skip
                  subst H
                  exact Ex.done (by rfl)
              · replace H := (if_neg q15).symm.trans H
                by_cases q17 : a0 = (77 : Int32)
                · replace H := (if_pos q17).symm.trans H
                  refine Ex.sw (t := 135) (ls := [some (.int a0), some (.int a1), some (.int a2)]) (st := []) (S := xSt xG0 hc hr xs g L c z) ?_ (by rfl) (by rw [q17]; rfl)
                  refine Ex.many (f' := (137, [none, some (.int a1), some (.int a2)], [.int a2, .int a1], xSt xG0 hc hr xs g L c z)) ?_ 2 (by rfl)
                  refine Ex.call (mk := 25) (vs := [.int a1, .int a2]) (rest := []) (by rfl) (by rfl) (Ex.up (T_i_compareUnsigned a1 a2 _ rfl) (by decide)) (xbb c z) ?_
                  show Ex _ _ (140, [none, some (.int a1), some (.int a2)], [.int (f_i_compareUnsigned a1 a2)], xSt xG0 hc hr xs g L c z) _
                  refine Ex.ite (ls := [none, none, none]) (st := []) (S := xSt xG0 hc hr xs g L c z) (by rfl) (fun q19 => ?_) (fun q19 => ?_)
                  · replace H := (if_pos q19).symm.trans H
                    refine Ex.many (f' := (148, [none, none, none], [.int (0 : Int32)], xSt xG0 hc hr xs g L c z)) ?_ 1 (by rfl)
                    skip
                    subst H
                    exact Ex.done (by rfl)
                  · replace H := (if_neg q19).symm.trans H
                    refine Ex.many (f' := (148, [none, none, none], [.int (1 : Int32)], xSt xG0 hc hr xs g L c z)) ?_ 2 (by rfl)
                    skip
                    subst H
                    exact Ex.done (by rfl)
                · replace H := (if_neg q17).symm.trans H
                  by_cases q20 : a0 = (78 : Int32)
                  · replace H := (if_pos q20).symm.trans H
                    refine Ex.sw (t := 149) (ls := [some (.int a0), some (.int a1), some (.int a2)]) (st := []) (S := xSt xG0 hc hr xs g L c z) ?_ (by rfl) (by rw [q20]; rfl)
                    refine Ex.many (f' := (151, [none, some (.int a1), some (.int a2)], [.int a2, .int a1], xSt xG0 hc hr xs g L c z)) ?_ 2 (by rfl)
                    refine Ex.ite (ls := [none, some (.int a1), some (.int a2)]) (st := []) (S := xSt xG0 hc hr xs g L c z) (by rfl) (fun q21 => ?_) (fun q21 => ?_)
                    · replace H := (if_pos q21).symm.trans H
                      refine Ex.many (f' := (159, [none, none, none], [.int (0 : Int32)], xSt xG0 hc hr xs g L c z)) ?_ 1 (by rfl)
                      skip
                      subst H
                      exact Ex.done (by rfl)
                    · replace H := (if_neg q21).symm.trans H
                      refine Ex.many (f' := (159, [none, none, none], [.int (1 : Int32)], xSt xG0 hc hr xs g L c z)) ?_ 2 (by rfl)
                      skip
                      subst H
                      exact Ex.done (by rfl)
                  · replace H := (if_neg q20).symm.trans H
                    refine Ex.sw (t := 160) (ls := [some (.int a0), some (.int a1), some (.int a2)]) (st := []) (S := xSt xG0 hc hr xs g L c z) ?_ (by rfl) (xtsw_d [(70 : Int32), (71 : Int32), (72 : Int32), (73 : Int32), (74 : Int32), (75 : Int32), (76 : Int32), (77 : Int32), (78 : Int32)] (by decide +kernel) (by decide +kernel) (List.forall_mem_cons.mpr ⟨fun e => q1 e, (List.forall_mem_cons.mpr ⟨fun e => q3 e, (List.forall_mem_cons.mpr ⟨fun e => q5 e, (List.forall_mem_cons.mpr ⟨fun e => q7 e, (List.forall_mem_cons.mpr ⟨fun e => q10 e, (List.forall_mem_cons.mpr ⟨fun e => q12 e, (List.forall_mem_cons.mpr ⟨fun e => q15 e, (List.forall_mem_cons.mpr ⟨fun e => q17 e, (List.forall_mem_cons.mpr ⟨fun e => q20 e, (fun _ h => absurd h List.not_mem_nil)⟩)⟩)⟩)⟩)⟩)⟩)⟩)⟩)⟩))
                    refine Ex.many (f' := (162, [none, some (.int a1), some (.int a2)], [.int a2, .int a1], xSt xG0 hc hr xs g L c z)) ?_ 2 (by rfl)
                    refine Ex.call (mk := 25) (vs := [.int a1, .int a2]) (rest := []) (by rfl) (by rfl) (Ex.up (T_i_compareUnsigned a1 a2 _ rfl) (by decide)) (xbb c z) ?_
                    show Ex _ _ (165, [none, some (.int a1), some (.int a2)], [.int (f_i_compareUnsigned a1 a2)], xSt xG0 hc hr xs g L c z) _
                    refine Ex.ite (ls := [none, none, none]) (st := []) (S := xSt xG0 hc hr xs g L c z) (by rfl) (fun q23 => ?_) (fun q23 => ?_)
                    · replace H := (if_pos q23).symm.trans H
                      refine Ex.many (f' := (173, [none, none, none], [.int (0 : Int32)], xSt xG0 hc hr xs g L c z)) ?_ 1 (by rfl)
                      skip
                      subst H
                      exact Ex.done (by rfl)
                    · replace H := (if_neg q23).symm.trans H
                      refine Ex.many (f' := (173, [none, none, none], [.int (1 : Int32)], xSt xG0 hc hr xs g L c z)) ?_ 2 (by rfl)
                      skip
                      subst H
                      exact Ex.done (by rfl)
def f_n_compared (a0 : Int32) (a1 : Int32) (a2 : Int32) : Int32 :=
  if (f_n_isTrue a0 a1 a2) = 0 then (0 : Int32) else (1 : Int32)
theorem T_n_compared {hc : xI} {hr : xI} {g : xJ} {xs : Nat → Int32} {L c z : Nat} (a0 : Int32) (a1 : Int32) (a2 : Int32) (r : Int32) (H : f_n_compared a0 a1 a2 = r) : Ex 3 54 (0, [some (.int a0), some (.int a1), some (.int a2)], [], xSt xG0 hc hr xs g L c z) (.inl (some (.int r)), xSt xG0 hc hr xs g L c z) := by
  unfold f_n_compared at H
  refine Ex.many (f' := (3, [some (.int a0), some (.int a1), some (.int a2)], [.int a2, .int a1, .int a0], xSt xG0 hc hr xs g L c z)) ?_ 3 (by rfl)
  refine Ex.call (mk := 55) (vs := [.int a0, .int a1, .int a2]) (rest := []) (by rfl) (by rfl) (Ex.up (T_n_isTrue a0 a1 a2 _ rfl) (by decide)) (xbb c z) ?_
  show Ex _ _ (6, [some (.int a0), some (.int a1), some (.int a2)], [.int (f_n_isTrue a0 a1 a2)], xSt xG0 hc hr xs g L c z) _
  refine Ex.ite (ls := [none, none, none]) (st := []) (S := xSt xG0 hc hr xs g L c z) (by rfl) (fun q2 => ?_) (fun q2 => ?_)
  · replace H := (if_pos q2).symm.trans H
    refine Ex.many (f' := (14, [none, none, none], [.int (0 : Int32)], xSt xG0 hc hr xs g L c z)) ?_ 1 (by rfl)
    skip
    subst H
    exact Ex.done (by rfl)
  · replace H := (if_neg q2).symm.trans H
    refine Ex.many (f' := (14, [none, none, none], [.int (1 : Int32)], xSt xG0 hc hr xs g L c z)) ?_ 2 (by rfl)
    skip
    subst H
    exact Ex.done (by rfl)
def f_i_toUnsignedLong (a0 : Int32) : Int64 :=
  (a0.toInt64 &&& (4294967295 : Int64))
theorem T_i_toUnsignedLong {hc : xI} {hr : xI} {g : xJ} {xs : Nat → Int32} {L c z : Nat} (a0 : Int32) (r : Int64) (H : f_i_toUnsignedLong a0 = r) : Ex 0 39 (0, [some (.int a0)], [], xSt xG0 hc hr xs g L c z) (.inl (some (.long r)), xSt xG0 hc hr xs g L c z) := by
  unfold f_i_toUnsignedLong at H
  refine Ex.many (f' := (6, [some (.int a0)], [.long (a0.toInt64 &&& (4294967295 : Int64))], xSt xG0 hc hr xs g L c z)) ?_ 4 (by rfl)
  skip
  subst H
  exact Ex.done (by rfl)
def f_n_divided (a0 : Int32) (a1 : Int32) (a2 : Int32) : Option Int32 :=
  if a2 = 0 then (some (0 : Int32)) else (if a0 = (109 : Int32) then (xdz a2 (some (a1 / a2))) else (if a0 = (110 : Int32) then (xdzL (f_i_toUnsignedLong a2) (some (((f_i_toUnsignedLong a1) / (f_i_toUnsignedLong a2)).toInt32))) else (if a0 = (111 : Int32) then (xdz a2 (some (a1 - a1 / a2 * a2))) else (xdzL (f_i_toUnsignedLong a2) (some (((f_i_toUnsignedLong a1) - (f_i_toUnsignedLong a1) / (f_i_toUnsignedLong a2) * (f_i_toUnsignedLong a2)).toInt32))))))
theorem T_n_divided {hc : xI} {hr : xI} {g : xJ} {xs : Nat → Int32} {L c z : Nat} (a0 : Int32) (a1 : Int32) (a2 : Int32) (r : Int32) (H : f_n_divided a0 a1 a2 = some r) : Ex 1 52 (0, [some (.int a0), some (.int a1), some (.int a2)], [], xSt xG0 hc hr xs g L c z) (.inl (some (.int r)), xSt xG0 hc hr xs g L c z) := by
  unfold f_n_divided at H
  refine Ex.many (f' := (1, [some (.int a0), some (.int a1), some (.int a2)], [.int a2], xSt xG0 hc hr xs g L c z)) ?_ 1 (by rfl)
  refine Ex.ite (ls := [some (.int a0), some (.int a1), some (.int a2)]) (st := []) (S := xSt xG0 hc hr xs g L c z) (by rfl) (fun q1 => ?_) (fun q1 => ?_)
  · replace H := (if_pos q1).symm.trans H
    refine Ex.many (f' := (5, [none, none, none], [.int (0 : Int32)], xSt xG0 hc hr xs g L c z)) ?_ 1 (by rfl)
    replace H := Option.some.inj H
    subst H
    exact Ex.done (by rfl)
  · replace H := (if_neg q1).symm.trans H
    refine Ex.many (f' := (7, [some (.int a0), some (.int a1), some (.int a2)], [.int a0], xSt xG0 hc hr xs g L c z)) ?_ 1 (by rfl)
    by_cases q2 : a0 = (109 : Int32)
    · replace H := (if_pos q2).symm.trans H
      refine Ex.sw (t := 32) (ls := [some (.int a0), some (.int a1), some (.int a2)]) (st := []) (S := xSt xG0 hc hr xs g L c z) ?_ (by rfl) (by rw [q2]; rfl)
      refine Ex.many (f' := (34, [none, some (.int a1), some (.int a2)], [.int a2, .int a1], xSt xG0 hc hr xs g L c z)) ?_ 2 (by rfl)
      obtain ⟨g3, H⟩ := xdz_some H
      refine Ex.div (f' := (35, [none, some (.int a1), some (.int a2)], [.int (a1 / a2)], xSt xG0 hc hr xs g L c z)) ?_ g3 (by rfl)
      replace H := Option.some.inj H
      subst H
      exact Ex.done (by rfl)
    · replace H := (if_neg q2).symm.trans H
      by_cases q4 : a0 = (110 : Int32)
      · replace H := (if_pos q4).symm.trans H
        refine Ex.sw (t := 40) (ls := [some (.int a0), some (.int a1), some (.int a2)]) (st := []) (S := xSt xG0 hc hr xs g L c z) ?_ (by rfl) (by rw [q4]; rfl)
        refine Ex.many (f' := (41, [none, some (.int a1), some (.int a2)], [.int a1], xSt xG0 hc hr xs g L c z)) ?_ 1 (by rfl)
        refine Ex.call (mk := 39) (vs := [.int a1]) (rest := []) (by rfl) (by rfl) (Ex.up (T_i_toUnsignedLong a1 _ rfl) (by decide)) (xbb c z) ?_
        show Ex _ _ (44, [none, some (.int a1), some (.int a2)], [.long (f_i_toUnsignedLong a1)], xSt xG0 hc hr xs g L c z) _
        refine Ex.many (f' := (45, [none, none, some (.int a2)], [.int a2, .long (f_i_toUnsignedLong a1)], xSt xG0 hc hr xs g L c z)) ?_ 1 (by rfl)
        refine Ex.call (mk := 39) (vs := [.int a2]) (rest := [.long (f_i_toUnsignedLong a1)]) (by rfl) (by rfl) (Ex.up (T_i_toUnsignedLong a2 _ rfl) (by decide)) (xbb c z) ?_
        show Ex _ _ (48, [none, none, some (.int a2)], [.long (f_i_toUnsignedLong a2), .long (f_i_toUnsignedLong a1)], xSt xG0 hc hr xs g L c z) _
        obtain ⟨g7, H⟩ := xdzL_some H
        refine Ex.divL (f' := (49, [none, none, none], [.long ((f_i_toUnsignedLong a1) / (f_i_toUnsignedLong a2))], xSt xG0 hc hr xs g L c z)) ?_ g7 (by rfl)
        refine Ex.many (f' := (50, [none, none, none], [.int ((f_i_toUnsignedLong a1) / (f_i_toUnsignedLong a2)).toInt32], xSt xG0 hc hr xs g L c z)) ?_ 1 (by rfl)
        replace H := Option.some.inj H
        subst H
        exact Ex.done (by rfl)
      · replace H := (if_neg q4).symm.trans H
        by_cases q8 : a0 = (111 : Int32)
        · replace H := (if_pos q8).symm.trans H
          refine Ex.sw (t := 36) (ls := [some (.int a0), some (.int a1), some (.int a2)]) (st := []) (S := xSt xG0 hc hr xs g L c z) ?_ (by rfl) (by rw [q8]; rfl)
          refine Ex.many (f' := (38, [none, some (.int a1), some (.int a2)], [.int a2, .int a1], xSt xG0 hc hr xs g L c z)) ?_ 2 (by rfl)
          obtain ⟨g9, H⟩ := xdz_some H
          refine Ex.div (f' := (39, [none, some (.int a1), some (.int a2)], [.int (a1 - a1 / a2 * a2)], xSt xG0 hc hr xs g L c z)) ?_ g9 (by rfl)
          replace H := Option.some.inj H
          subst H
          exact Ex.done (by rfl)
        · replace H := (if_neg q8).symm.trans H
          refine Ex.sw (t := 51) (ls := [some (.int a0), some (.int a1), some (.int a2)]) (st := []) (S := xSt xG0 hc hr xs g L c z) ?_ (by rfl) (xtsw_d [(109 : Int32), (110 : Int32), (111 : Int32)] (by decide +kernel) (by decide +kernel) (List.forall_mem_cons.mpr ⟨fun e => q2 e, (List.forall_mem_cons.mpr ⟨fun e => q4 e, (List.forall_mem_cons.mpr ⟨fun e => q8 e, (fun _ h => absurd h List.not_mem_nil)⟩)⟩)⟩))
          refine Ex.many (f' := (52, [none, some (.int a1), some (.int a2)], [.int a1], xSt xG0 hc hr xs g L c z)) ?_ 1 (by rfl)
          refine Ex.call (mk := 39) (vs := [.int a1]) (rest := []) (by rfl) (by rfl) (Ex.up (T_i_toUnsignedLong a1 _ rfl) (by decide)) (xbb c z) ?_
          show Ex _ _ (55, [none, some (.int a1), some (.int a2)], [.long (f_i_toUnsignedLong a1)], xSt xG0 hc hr xs g L c z) _
          refine Ex.many (f' := (56, [none, none, some (.int a2)], [.int a2, .long (f_i_toUnsignedLong a1)], xSt xG0 hc hr xs g L c z)) ?_ 1 (by rfl)
          refine Ex.call (mk := 39) (vs := [.int a2]) (rest := [.long (f_i_toUnsignedLong a1)]) (by rfl) (by rfl) (Ex.up (T_i_toUnsignedLong a2 _ rfl) (by decide)) (xbb c z) ?_
          show Ex _ _ (59, [none, none, some (.int a2)], [.long (f_i_toUnsignedLong a2), .long (f_i_toUnsignedLong a1)], xSt xG0 hc hr xs g L c z) _
          obtain ⟨g12, H⟩ := xdzL_some H
          refine Ex.divL (f' := (60, [none, none, none], [.long ((f_i_toUnsignedLong a1) - (f_i_toUnsignedLong a1) / (f_i_toUnsignedLong a2) * (f_i_toUnsignedLong a2))], xSt xG0 hc hr xs g L c z)) ?_ g12 (by rfl)
          refine Ex.many (f' := (61, [none, none, none], [.int ((f_i_toUnsignedLong a1) - (f_i_toUnsignedLong a1) / (f_i_toUnsignedLong a2) * (f_i_toUnsignedLong a2)).toInt32], xSt xG0 hc hr xs g L c z)) ?_ 1 (by rfl)
          replace H := Option.some.inj H
          subst H
          exact Ex.done (by rfl)
def f_h_divide_25 (v1 : Int32) (v2 : Int32) (v3 : Int32) (hc : xI) : Option (Int32 × xI) :=
  (f_n_divided v1 v2 v3).bind fun q1 => (f_h_replaceTwo q1 hc).bind fun q2 => some (q2.1, q2.2)
theorem T_h_divide_25 {hr : xI} {g : xJ} {xs : Nat → Int32} {L c z : Nat} (v1 : Int32) (v2 : Int32) (v3 : Int32) (hc : xI) (r : (Int32 × xI)) (H : f_h_divide_25 v1 v2 v3 hc = some r) : Ex 2 51 (25, [some (.ref 19), some (.int v1), some (.int v2), some (.int v3)], [], xSt xG0 hc hr xs g L c z) (.inl (some (.int r.1)), xSt xG0 r.2 hr xs g L c z) := by
  unfold f_h_divide_25 at H
  refine Ex.many (f' := (29, [some (.ref 19), some (.int v1), some (.int v2), some (.int v3)], [.int v3, .int v2, .int v1, .ref 19], xSt xG0 hc hr xs g L c z)) ?_ 4 (by rfl)
  obtain ⟨q1, hq1, H⟩ := xbd H
  refine Ex.call (mk := 52) (vs := [.int v1, .int v2, .int v3]) (rest := [.ref 19]) (by rfl) (by rfl) (Ex.up (T_n_divided v1 v2 v3 q1 hq1) (by decide)) (xbb c z) ?_
  show Ex _ _ (32, [some (.ref 19), some (.int v1), some (.int v2), some (.int v3)], [.int q1, .ref 19], xSt xG0 hc hr xs g L c z) _
  obtain ⟨q2, hq2, H⟩ := xbd H
  refine Ex.call (mk := 53) (vs := [.ref 19, .int q1]) (rest := []) (by rfl) (by rfl) (Ex.up (T_h_replaceTwo q1 hc q2 hq2) (by decide)) (xbb c z) ?_
  show Ex _ _ (35, [none, none, none, none], [.int q2.1], xSt xG0 q2.2 hr xs g L c z) _
  replace H := Option.some.inj H
  subst H
  exact Ex.done (by rfl)
def f_h_divide (a1 : Int32) (a2 : Int32) (a3 : Int32) (hc : xI) : Option (Int32 × xI) :=
  if a3 = 0 then (some ((2 : Int32), hc)) else (if a1 = (109 : Int32) then (if a2 = (-2147483648 : Int32) then (if a3 = (-1 : Int32) then (some ((3 : Int32), hc)) else (f_h_divide_25 a1 a2 a3 hc)) else (f_h_divide_25 a1 a2 a3 hc)) else (f_h_divide_25 a1 a2 a3 hc))
theorem T_h_divide {hr : xI} {g : xJ} {xs : Nat → Int32} {L c z : Nat} (a1 : Int32) (a2 : Int32) (a3 : Int32) (hc : xI) (r : (Int32 × xI)) (H : f_h_divide a1 a2 a3 hc = some r) : Ex 2 51 (0, [some (.ref 19), some (.int a1), some (.int a2), some (.int a3)], [], xSt xG0 hc hr xs g L c z) (.inl (some (.int r.1)), xSt xG0 r.2 hr xs g L c z) := by
  unfold f_h_divide at H
  refine Ex.many (f' := (1, [some (.ref 19), some (.int a1), some (.int a2), some (.int a3)], [.int a3], xSt xG0 hc hr xs g L c z)) ?_ 1 (by rfl)
  refine Ex.ite (ls := [some (.ref 19), some (.int a1), some (.int a2), some (.int a3)]) (st := []) (S := xSt xG0 hc hr xs g L c z) (by rfl) (fun q1 => ?_) (fun q1 => ?_)
  · replace H := (if_pos q1).symm.trans H
    refine Ex.many (f' := (5, [none, none, none, none], [.int (2 : Int32)], xSt xG0 hc hr xs g L c z)) ?_ 1 (by rfl)
    replace H := Option.some.inj H
    subst H
    exact Ex.done (by rfl)
  · replace H := (if_neg q1).symm.trans H
    refine Ex.many (f' := (9, [some (.ref 19), some (.int a1), some (.int a2), some (.int a3)], [.int (109 : Int32), .int a1], xSt xG0 hc hr xs g L c z)) ?_ 2 (by rfl)
    refine Ex.ite (ls := [some (.ref 19), some (.int a1), some (.int a2), some (.int a3)]) (st := []) (S := xSt xG0 hc hr xs g L c z) (by rfl) (fun q2 => ?_) (fun q2 => ?_)
    · replace H := (if_pos q2).symm.trans H
      refine Ex.many (f' := (15, [some (.ref 19), some (.int a1), some (.int a2), some (.int a3)], [.int (-2147483648 : Int32), .int a2], xSt xG0 hc hr xs g L c z)) ?_ 2 (by rfl)
      refine Ex.ite (ls := [some (.ref 19), some (.int a1), some (.int a2), some (.int a3)]) (st := []) (S := xSt xG0 hc hr xs g L c z) (by rfl) (fun q3 => ?_) (fun q3 => ?_)
      · replace H := (if_pos q3).symm.trans H
        refine Ex.many (f' := (20, [some (.ref 19), some (.int a1), some (.int a2), some (.int a3)], [.int (-1 : Int32), .int a3], xSt xG0 hc hr xs g L c z)) ?_ 2 (by rfl)
        refine Ex.ite (ls := [some (.ref 19), some (.int a1), some (.int a2), some (.int a3)]) (st := []) (S := xSt xG0 hc hr xs g L c z) (by rfl) (fun q4 => ?_) (fun q4 => ?_)
        · replace H := (if_pos q4).symm.trans H
          refine Ex.many (f' := (24, [none, none, none, none], [.int (3 : Int32)], xSt xG0 hc hr xs g L c z)) ?_ 1 (by rfl)
          replace H := Option.some.inj H
          subst H
          exact Ex.done (by rfl)
        · replace H := (if_neg q4).symm.trans H
          exact T_h_divide_25 a1 a2 a3 hc r H
      · replace H := (if_neg q3).symm.trans H
        exact T_h_divide_25 a1 a2 a3 hc r H
    · replace H := (if_neg q2).symm.trans H
      exact T_h_divide_25 a1 a2 a3 hc r H
def f_i_numberOfLeadingZeros_73 (v0 : Int32) (v1 : Int32) : Int32 :=
  (v1 - (xushr v0 (1 : Int32)))
theorem T_i_numberOfLeadingZeros_73 {hc : xI} {hr : xI} {g : xJ} {xs : Nat → Int32} {L c z : Nat} (v0 : Int32) (v1 : Int32) (r : Int32) (H : f_i_numberOfLeadingZeros_73 v0 v1 = r) : Ex 0 47 (73, [some (.int v0), some (.int v1)], [], xSt xG0 hc hr xs g L c z) (.inl (some (.int r)), xSt xG0 hc hr xs g L c z) := by
  unfold f_i_numberOfLeadingZeros_73 at H
  refine Ex.many (f' := (78, [some (.int v0), some (.int v1)], [.int (v1 - (xushr v0 (1 : Int32)))], xSt xG0 hc hr xs g L c z)) ?_ 5 (by rfl)
  skip
  subst H
  exact Ex.done (by rfl)
def f_i_numberOfLeadingZeros_61 (v0 : Int32) (v1 : Int32) : Int32 :=
  if v0 < (4 : Int32) then (f_i_numberOfLeadingZeros_73 v0 v1) else (f_i_numberOfLeadingZeros_73 (xushr v0 (2 : Int32)) (v1 + (-2 : Int32)))
theorem T_i_numberOfLeadingZeros_61 {hc : xI} {hr : xI} {g : xJ} {xs : Nat → Int32} {L c z : Nat} (v0 : Int32) (v1 : Int32) (r : Int32) (H : f_i_numberOfLeadingZeros_61 v0 v1 = r) : Ex 0 47 (61, [some (.int v0), some (.int v1)], [], xSt xG0 hc hr xs g L c z) (.inl (some (.int r)), xSt xG0 hc hr xs g L c z) := by
  unfold f_i_numberOfLeadingZeros_61 at H
  refine Ex.many (f' := (63, [some (.int v0), some (.int v1)], [.int (4 : Int32), .int v0], xSt xG0 hc hr xs g L c z)) ?_ 2 (by rfl)
  refine Ex.ite (ls := [some (.int v0), some (.int v1)]) (st := []) (S := xSt xG0 hc hr xs g L c z) (by rfl) (fun q1 => ?_) (fun q1 => ?_)
  · replace H := (if_pos q1).symm.trans H
    exact T_i_numberOfLeadingZeros_73 v0 v1 r H
  · replace H := (if_neg q1).symm.trans H
    refine Ex.many (f' := (73, [some (.int (xushr v0 (2 : Int32))), some (.int (v1 + (-2 : Int32)))], [], xSt xG0 hc hr xs g L c z)) ?_ 5 (by rfl)
    exact T_i_numberOfLeadingZeros_73 (xushr v0 (2 : Int32)) (v1 + (-2 : Int32)) r H
def f_i_numberOfLeadingZeros_48 (v0 : Int32) (v1 : Int32) : Int32 :=
  if v0 < (16 : Int32) then (f_i_numberOfLeadingZeros_61 v0 v1) else (f_i_numberOfLeadingZeros_61 (xushr v0 (4 : Int32)) (v1 + (-4 : Int32)))
theorem T_i_numberOfLeadingZeros_48 {hc : xI} {hr : xI} {g : xJ} {xs : Nat → Int32} {L c z : Nat} (v0 : Int32) (v1 : Int32) (r : Int32) (H : f_i_numberOfLeadingZeros_48 v0 v1 = r) : Ex 0 47 (48, [some (.int v0), some (.int v1)], [], xSt xG0 hc hr xs g L c z) (.inl (some (.int r)), xSt xG0 hc hr xs g L c z) := by
  unfold f_i_numberOfLeadingZeros_48 at H
  refine Ex.many (f' := (51, [some (.int v0), some (.int v1)], [.int (16 : Int32), .int v0], xSt xG0 hc hr xs g L c z)) ?_ 2 (by rfl)
  refine Ex.ite (ls := [some (.int v0), some (.int v1)]) (st := []) (S := xSt xG0 hc hr xs g L c z) (by rfl) (fun q1 => ?_) (fun q1 => ?_)
  · replace H := (if_pos q1).symm.trans H
    exact T_i_numberOfLeadingZeros_61 v0 v1 r H
  · replace H := (if_neg q1).symm.trans H
    refine Ex.many (f' := (61, [some (.int (xushr v0 (4 : Int32))), some (.int (v1 + (-4 : Int32)))], [], xSt xG0 hc hr xs g L c z)) ?_ 5 (by rfl)
    exact T_i_numberOfLeadingZeros_61 (xushr v0 (4 : Int32)) (v1 + (-4 : Int32)) r H
def f_i_numberOfLeadingZeros_33 (v0 : Int32) (v1 : Int32) : Int32 :=
  if v0 < (256 : Int32) then (f_i_numberOfLeadingZeros_48 v0 v1) else (f_i_numberOfLeadingZeros_48 (xushr v0 (8 : Int32)) (v1 + (-8 : Int32)))
theorem T_i_numberOfLeadingZeros_33 {hc : xI} {hr : xI} {g : xJ} {xs : Nat → Int32} {L c z : Nat} (v0 : Int32) (v1 : Int32) (r : Int32) (H : f_i_numberOfLeadingZeros_33 v0 v1 = r) : Ex 0 47 (33, [some (.int v0), some (.int v1)], [], xSt xG0 hc hr xs g L c z) (.inl (some (.int r)), xSt xG0 hc hr xs g L c z) := by
  unfold f_i_numberOfLeadingZeros_33 at H
  refine Ex.many (f' := (37, [some (.int v0), some (.int v1)], [.int (256 : Int32), .int v0], xSt xG0 hc hr xs g L c z)) ?_ 2 (by rfl)
  refine Ex.ite (ls := [some (.int v0), some (.int v1)]) (st := []) (S := xSt xG0 hc hr xs g L c z) (by rfl) (fun q1 => ?_) (fun q1 => ?_)
  · replace H := (if_pos q1).symm.trans H
    exact T_i_numberOfLeadingZeros_48 v0 v1 r H
  · replace H := (if_neg q1).symm.trans H
    refine Ex.many (f' := (48, [some (.int (xushr v0 (8 : Int32))), some (.int (v1 + (-8 : Int32)))], [], xSt xG0 hc hr xs g L c z)) ?_ 5 (by rfl)
    exact T_i_numberOfLeadingZeros_48 (xushr v0 (8 : Int32)) (v1 + (-8 : Int32)) r H
def f_i_numberOfLeadingZeros (a0 : Int32) : Int32 :=
  if 0 < a0 then (if a0 < (65536 : Int32) then (f_i_numberOfLeadingZeros_33 a0 (31 : Int32)) else (f_i_numberOfLeadingZeros_33 (xushr a0 (16 : Int32)) ((31 : Int32) + (-16 : Int32)))) else (if a0 = 0 then (32 : Int32) else (0 : Int32))
theorem T_i_numberOfLeadingZeros {hc : xI} {hr : xI} {g : xJ} {xs : Nat → Int32} {L c z : Nat} (a0 : Int32) (r : Int32) (H : f_i_numberOfLeadingZeros a0 = r) : Ex 0 47 (0, [some (.int a0), none], [], xSt xG0 hc hr xs g L c z) (.inl (some (.int r)), xSt xG0 hc hr xs g L c z) := by
  unfold f_i_numberOfLeadingZeros at H
  refine Ex.many (f' := (1, [some (.int a0), none], [.int a0], xSt xG0 hc hr xs g L c z)) ?_ 1 (by rfl)
  refine Ex.ite (ls := [some (.int a0), none]) (st := []) (S := xSt xG0 hc hr xs g L c z) (by rfl) (fun q1 => ?_) (fun q1 => ?_)
  · replace H := (if_pos q1).symm.trans H
    refine Ex.many (f' := (22, [some (.int a0), some (.int (31 : Int32))], [.int (65536 : Int32), .int a0], xSt xG0 hc hr xs g L c z)) ?_ 4 (by rfl)
    refine Ex.ite (ls := [some (.int a0), some (.int (31 : Int32))]) (st := []) (S := xSt xG0 hc hr xs g L c z) (by rfl) (fun q2 => ?_) (fun q2 => ?_)
    · replace H := (if_pos q2).symm.trans H
      exact T_i_numberOfLeadingZeros_33 a0 (31 : Int32) r H
    · replace H := (if_neg q2).symm.trans H
      refine Ex.many (f' := (33, [some (.int (xushr a0 (16 : Int32))), some (.int ((31 : Int32) + (-16 : Int32)))], [], xSt xG0 hc hr xs g L c z)) ?_ 5 (by rfl)
      exact T_i_numberOfLeadingZeros_33 (xushr a0 (16 : Int32)) ((31 : Int32) + (-16 : Int32)) r H
  · replace H := (if_neg q1).symm.trans H
    refine Ex.many (f' := (5, [some (.int a0), none], [.int a0], xSt xG0 hc hr xs g L c z)) ?_ 1 (by rfl)
    refine Ex.ite (ls := [some (.int a0), none]) (st := []) (S := xSt xG0 hc hr xs g L c z) (by rfl) (fun q3 => ?_) (fun q3 => ?_)
    · replace H := (if_pos q3).symm.trans H
      refine Ex.many (f' := (14, [none, none], [.int (32 : Int32)], xSt xG0 hc hr xs g L c z)) ?_ 2 (by rfl)
      skip
      subst H
      exact Ex.done (by rfl)
    · replace H := (if_neg q3).symm.trans H
      refine Ex.many (f' := (14, [none, none], [.int (0 : Int32)], xSt xG0 hc hr xs g L c z)) ?_ 1 (by rfl)
      skip
      subst H
      exact Ex.done (by rfl)
def f_i_numberOfTrailingZeros_74 (v0 : Int32) (v1 : Int32) : Int32 :=
  (v1 + (xushr v0 (1 : Int32)))
theorem T_i_numberOfTrailingZeros_74 {hc : xI} {hr : xI} {g : xJ} {xs : Nat → Int32} {L c z : Nat} (v0 : Int32) (v1 : Int32) (r : Int32) (H : f_i_numberOfTrailingZeros_74 v0 v1 = r) : Ex 0 48 (74, [some (.int v0), some (.int v1)], [], xSt xG0 hc hr xs g L c z) (.inl (some (.int r)), xSt xG0 hc hr xs g L c z) := by
  unfold f_i_numberOfTrailingZeros_74 at H
  refine Ex.many (f' := (79, [some (.int v0), some (.int v1)], [.int (v1 + (xushr v0 (1 : Int32)))], xSt xG0 hc hr xs g L c z)) ?_ 5 (by rfl)
  skip
  subst H
  exact Ex.done (by rfl)
def f_i_numberOfTrailingZeros_62 (v0 : Int32) (v1 : Int32) : Int32 :=
  if v0 ≤ (4 : Int32) then (f_i_numberOfTrailingZeros_74 v0 v1) else (f_i_numberOfTrailingZeros_74 (xushr v0 (2 : Int32)) (v1 + (2 : Int32)))
theorem T_i_numberOfTrailingZeros_62 {hc : xI} {hr : xI} {g : xJ} {xs : Nat → Int32} {L c z : Nat} (v0 : Int32) (v1 : Int32) (r : Int32) (H : f_i_numberOfTrailingZeros_62 v0 v1 = r) : Ex 0 48 (62, [some (.int v0), some (.int v1)], [], xSt xG0 hc hr xs g L c z) (.inl (some (.int r)), xSt xG0 hc hr xs g L c z) := by
  unfold f_i_numberOfTrailingZeros_62 at H
  refine Ex.many (f' := (64, [some (.int v0), some (.int v1)], [.int (4 : Int32), .int v0], xSt xG0 hc hr xs g L c z)) ?_ 2 (by rfl)
  refine Ex.ite (ls := [some (.int v0), some (.int v1)]) (st := []) (S := xSt xG0 hc hr xs g L c z) (by rfl) (fun q1 => ?_) (fun q1 => ?_)
  · replace H := (if_pos q1).symm.trans H
    exact T_i_numberOfTrailingZeros_74 v0 v1 r H
  · replace H := (if_neg q1).symm.trans H
    refine Ex.many (f' := (74, [some (.int (xushr v0 (2 : Int32))), some (.int (v1 + (2 : Int32)))], [], xSt xG0 hc hr xs g L c z)) ?_ 5 (by rfl)
    exact T_i_numberOfTrailingZeros_74 (xushr v0 (2 : Int32)) (v1 + (2 : Int32)) r H
def f_i_numberOfTrailingZeros_49 (v0 : Int32) (v1 : Int32) : Int32 :=
  if v0 ≤ (16 : Int32) then (f_i_numberOfTrailingZeros_62 v0 v1) else (f_i_numberOfTrailingZeros_62 (xushr v0 (4 : Int32)) (v1 + (4 : Int32)))
theorem T_i_numberOfTrailingZeros_49 {hc : xI} {hr : xI} {g : xJ} {xs : Nat → Int32} {L c z : Nat} (v0 : Int32) (v1 : Int32) (r : Int32) (H : f_i_numberOfTrailingZeros_49 v0 v1 = r) : Ex 0 48 (49, [some (.int v0), some (.int v1)], [], xSt xG0 hc hr xs g L c z) (.inl (some (.int r)), xSt xG0 hc hr xs g L c z) := by
  unfold f_i_numberOfTrailingZeros_49 at H
  refine Ex.many (f' := (52, [some (.int v0), some (.int v1)], [.int (16 : Int32), .int v0], xSt xG0 hc hr xs g L c z)) ?_ 2 (by rfl)
  refine Ex.ite (ls := [some (.int v0), some (.int v1)]) (st := []) (S := xSt xG0 hc hr xs g L c z) (by rfl) (fun q1 => ?_) (fun q1 => ?_)
  · replace H := (if_pos q1).symm.trans H
    exact T_i_numberOfTrailingZeros_62 v0 v1 r H
  · replace H := (if_neg q1).symm.trans H
    refine Ex.many (f' := (62, [some (.int (xushr v0 (4 : Int32))), some (.int (v1 + (4 : Int32)))], [], xSt xG0 hc hr xs g L c z)) ?_ 5 (by rfl)
    exact T_i_numberOfTrailingZeros_62 (xushr v0 (4 : Int32)) (v1 + (4 : Int32)) r H
def f_i_numberOfTrailingZeros_34 (v0 : Int32) (v1 : Int32) : Int32 :=
  if v0 ≤ (256 : Int32) then (f_i_numberOfTrailingZeros_49 v0 v1) else (f_i_numberOfTrailingZeros_49 (xushr v0 (8 : Int32)) (v1 + (8 : Int32)))
theorem T_i_numberOfTrailingZeros_34 {hc : xI} {hr : xI} {g : xJ} {xs : Nat → Int32} {L c z : Nat} (v0 : Int32) (v1 : Int32) (r : Int32) (H : f_i_numberOfTrailingZeros_34 v0 v1 = r) : Ex 0 48 (34, [some (.int v0), some (.int v1)], [], xSt xG0 hc hr xs g L c z) (.inl (some (.int r)), xSt xG0 hc hr xs g L c z) := by
  unfold f_i_numberOfTrailingZeros_34 at H
  refine Ex.many (f' := (38, [some (.int v0), some (.int v1)], [.int (256 : Int32), .int v0], xSt xG0 hc hr xs g L c z)) ?_ 2 (by rfl)
  refine Ex.ite (ls := [some (.int v0), some (.int v1)]) (st := []) (S := xSt xG0 hc hr xs g L c z) (by rfl) (fun q1 => ?_) (fun q1 => ?_)
  · replace H := (if_pos q1).symm.trans H
    exact T_i_numberOfTrailingZeros_49 v0 v1 r H
  · replace H := (if_neg q1).symm.trans H
    refine Ex.many (f' := (49, [some (.int (xushr v0 (8 : Int32))), some (.int (v1 + (8 : Int32)))], [], xSt xG0 hc hr xs g L c z)) ?_ 5 (by rfl)
    exact T_i_numberOfTrailingZeros_49 (xushr v0 (8 : Int32)) (v1 + (8 : Int32)) r H
def f_i_numberOfTrailingZeros (a0 : Int32) : Int32 :=
  if 0 < ((a0 ^^^ (-1 : Int32)) &&& (a0 - (1 : Int32))) then (if ((a0 ^^^ (-1 : Int32)) &&& (a0 - (1 : Int32))) ≤ (65536 : Int32) then (f_i_numberOfTrailingZeros_34 ((a0 ^^^ (-1 : Int32)) &&& (a0 - (1 : Int32))) (1 : Int32)) else (f_i_numberOfTrailingZeros_34 (xushr ((a0 ^^^ (-1 : Int32)) &&& (a0 - (1 : Int32))) (16 : Int32)) ((1 : Int32) + (16 : Int32)))) else (((a0 ^^^ (-1 : Int32)) &&& (a0 - (1 : Int32))) &&& (32 : Int32))
theorem T_i_numberOfTrailingZeros {hc : xI} {hr : xI} {g : xJ} {xs : Nat → Int32} {L c z : Nat} (a0 : Int32) (r : Int32) (H : f_i_numberOfTrailingZeros a0 = r) : Ex 0 48 (0, [some (.int a0), none], [], xSt xG0 hc hr xs g L c z) (.inl (some (.int r)), xSt xG0 hc hr xs g L c z) := by
  unfold f_i_numberOfTrailingZeros at H
  refine Ex.many (f' := (9, [some (.int ((a0 ^^^ (-1 : Int32)) &&& (a0 - (1 : Int32)))), none], [.int ((a0 ^^^ (-1 : Int32)) &&& (a0 - (1 : Int32)))], xSt xG0 hc hr xs g L c z)) ?_ 9 (by rfl)
  refine Ex.ite (ls := [some (.int ((a0 ^^^ (-1 : Int32)) &&& (a0 - (1 : Int32)))), none]) (st := []) (S := xSt xG0 hc hr xs g L c z) (by rfl) (fun q1 => ?_) (fun q1 => ?_)
  · replace H := (if_pos q1).symm.trans H
    refine Ex.many (f' := (23, [some (.int ((a0 ^^^ (-1 : Int32)) &&& (a0 - (1 : Int32)))), some (.int (1 : Int32))], [.int (65536 : Int32), .int ((a0 ^^^ (-1 : Int32)) &&& (a0 - (1 : Int32)))], xSt xG0 hc hr xs g L c z)) ?_ 4 (by rfl)
    refine Ex.ite (ls := [some (.int ((a0 ^^^ (-1 : Int32)) &&& (a0 - (1 : Int32)))), some (.int (1 : Int32))]) (st := []) (S := xSt xG0 hc hr xs g L c z) (by rfl) (fun q2 => ?_) (fun q2 => ?_)
    · replace H := (if_pos q2).symm.trans H
      exact T_i_numberOfTrailingZeros_34 ((a0 ^^^ (-1 : Int32)) &&& (a0 - (1 : Int32))) (1 : Int32) r H
    · replace H := (if_neg q2).symm.trans H
      refine Ex.many (f' := (34, [some (.int (xushr ((a0 ^^^ (-1 : Int32)) &&& (a0 - (1 : Int32))) (16 : Int32))), some (.int ((1 : Int32) + (16 : Int32)))], [], xSt xG0 hc hr xs g L c z)) ?_ 5 (by rfl)
      exact T_i_numberOfTrailingZeros_34 (xushr ((a0 ^^^ (-1 : Int32)) &&& (a0 - (1 : Int32))) (16 : Int32)) ((1 : Int32) + (16 : Int32)) r H
  · replace H := (if_neg q1).symm.trans H
    refine Ex.many (f' := (16, [some (.int ((a0 ^^^ (-1 : Int32)) &&& (a0 - (1 : Int32)))), none], [.int (((a0 ^^^ (-1 : Int32)) &&& (a0 - (1 : Int32))) &&& (32 : Int32))], xSt xG0 hc hr xs g L c z)) ?_ 3 (by rfl)
    skip
    subst H
    exact Ex.done (by rfl)
