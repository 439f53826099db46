/-! Methods as functions. -/
def f_h_leave_71 (s1 : Int32) (hc : xI) : Option (Int32 × xI) :=
  some ((-1 : Int32), (xput hc 19 6 s1))
theorem T_h_leave_71 {hr : xI} {g : xJ} {xs : Nat → Int32} {L c z : Nat} (s1 : Int32) (hc : xI) (r : (Int32 × xI)) (H : f_h_leave_71 s1 hc = some r) : Ex 1 21 (71, [none, none, none], [.int s1, .ref 19], xSt xG0 hc hr xs g L c z) (.inl (some (.int r.1)), xSt xG0 r.2 hr xs g L c z) := by
  unfold f_h_leave_71 at H
  refine Ex.putC (pc := 74) (k := 19) (j := 6) (v := s1) (ls := [none, none, none]) (st := []) (hc := hc) ?_ (by rfl) (by rfl)
  refine Ex.many (f' := (75, [none, none, none], [.int (-1 : Int32)], xSt xG0 (xput hc 19 6 s1) hr xs g L c z)) ?_ 1 (by rfl)
  replace H := Option.some.inj H
  subst H
  exact Ex.done (by rfl)
def f_h_leave_22 (v1 : Int32) (v2 : Int32) (hc : xI) : Option (Int32 × xI) :=
  xgd v1 6 ((f_h_fallTo (hc 24 v1.toNatClampNeg) v2 hc).bind fun q2 => xgd v1 6 (if v1 ≤ 0 then (if v2 = (1 : Int32) then ((f_h_pop (xput (xput q2 19 5 (q2 23 v1.toNatClampNeg)) 19 7 v1)).bind fun q6 => f_h_leave_71 q6.1 q6.2) else (f_h_leave_71 (0 : Int32) (xput (xput q2 19 5 (q2 23 v1.toNatClampNeg)) 19 7 v1))) else (some ((0 : Int32), (xput (xput q2 19 5 (q2 23 v1.toNatClampNeg)) 19 7 v1)))))
theorem T_h_leave_22 {hr : xI} {g : xJ} {xs : Nat → Int32} {L c z : Nat} (v1 : Int32) (v2 : Int32) (hc : xI) (r : (Int32 × xI)) (H : f_h_leave_22 v1 v2 hc = some r) : Ex 1 21 (22, [some (.ref 19), some (.int v1), some (.int v2)], [], xSt xG0 hc hr xs g L c z) (.inl (some (.int r.1)), xSt xG0 r.2 hr xs g L c z) := by
  unfold f_h_leave_22 at H
  refine Ex.many (f' := (28, [some (.ref 19), some (.int v1), some (.int v2)], [.int v1, .ref 24, .ref 19], xSt xG0 hc hr xs g L c z)) ?_ 4 (by rfl)
  obtain ⟨g1, H⟩ := xgd_some H
  refine Ex.guard (f' := (29, [some (.ref 19), some (.int v1), some (.int v2)], [.int (hc 24 v1.toNatClampNeg), .ref 19], xSt xG0 hc hr xs g L c z)) (by rfl) g1 ?_
  refine Ex.many (f' := (30, [some (.ref 19), some (.int v1), some (.int v2)], [.int v2, .int (hc 24 v1.toNatClampNeg), .ref 19], xSt xG0 hc hr xs g L c z)) ?_ 1 (by rfl)
  obtain ⟨q2, hq2, H⟩ := xbd H
  refine Ex.call (mk := 22) (vs := [.ref 19, .int (hc 24 v1.toNatClampNeg), .int v2]) (rest := []) (by rfl) (by rfl) (Ex.up (T_h_fallTo (hc 24 v1.toNatClampNeg) v2 hc q2 hq2) (by decide)) (xbb c z) ?_
  show Ex _ _ (33, [some (.ref 19), some (.int v1), some (.int v2)], [], xSt xG0 q2 hr xs g L c z) _
  refine Ex.many (f' := (39, [some (.ref 19), some (.int v1), some (.int v2)], [.int v1, .ref 23, .ref 19], xSt xG0 q2 hr xs g L c z)) ?_ 4 (by rfl)
  obtain ⟨g3, H⟩ := xgd_some H
  refine Ex.guard (f' := (40, [some (.ref 19), some (.int v1), some (.int v2)], [.int (q2 23 v1.toNatClampNeg), .ref 19], xSt xG0 q2 hr xs g L c z)) (by rfl) g3 ?_
  refine Ex.putC (pc := 43) (k := 19) (j := 5) (v := (q2 23 v1.toNatClampNeg)) (ls := [some (.ref 19), some (.int v1), some (.int v2)]) (st := []) (hc := q2) ?_ (by rfl) (by rfl)
  refine Ex.many (f' := (45, [some (.ref 19), some (.int v1), some (.int v2)], [.int v1, .ref 19], xSt xG0 (xput q2 19 5 (q2 23 v1.toNatClampNeg)) hr xs g L c z)) ?_ 2 (by rfl)
  refine Ex.putC (pc := 48) (k := 19) (j := 7) (v := v1) (ls := [some (.ref 19), some (.int v1), some (.int v2)]) (st := []) (hc := (xput q2 19 5 (q2 23 v1.toNatClampNeg))) ?_ (by rfl) (by rfl)
  refine Ex.many (f' := (52, [some (.ref 19), some (.int v1), some (.int v2)], [.int v1], xSt xG0 (xput (xput q2 19 5 (q2 23 v1.toNatClampNeg)) 19 7 v1) hr xs g L c z)) ?_ 2 (by rfl)
  refine Ex.ite (ls := [some (.ref 19), some (.int v1), some (.int v2)]) (st := []) (S := xSt xG0 (xput (xput q2 19 5 (q2 23 v1.toNatClampNeg)) 19 7 v1) hr xs g L c z) (by rfl) (fun q4 => ?_) (fun q4 => ?_)
  · replace H := (if_pos q4).symm.trans H
    refine Ex.many (f' := (60, [some (.ref 19), none, some (.int v2)], [.int (1 : Int32), .int v2, .ref 19], xSt xG0 (xput (xput q2 19 5 (q2 23 v1.toNatClampNeg)) 19 7 v1) hr xs g L c z)) ?_ 3 (by rfl)
    refine Ex.ite (ls := [some (.ref 19), none, some (.int v2)]) (st := [.ref 19]) (S := xSt xG0 (xput (xput q2 19 5 (q2 23 v1.toNatClampNeg)) 19 7 v1) hr xs g L c z) (by rfl) (fun q5 => ?_) (fun q5 => ?_)
    · replace H := (if_pos q5).symm.trans H
      refine Ex.many (f' := (64, [some (.ref 19), none, none], [.ref 19, .ref 19], xSt xG0 (xput (xput q2 19 5 (q2 23 v1.toNatClampNeg)) 19 7 v1) hr xs g L c z)) ?_ 1 (by rfl)
      obtain ⟨q6, hq6, H⟩ := xbd H
      refine Ex.call (mk := 19) (vs := [.ref 19]) (rest := [.ref 19]) (by rfl) (by rfl) (Ex.up (T_h_pop (xput (xput q2 19 5 (q2 23 v1.toNatClampNeg)) 19 7 v1) q6 hq6) (by decide)) (xbb c z) ?_
      show Ex _ _ (67, [some (.ref 19), none, none], [.int q6.1, .ref 19], xSt xG0 q6.2 hr xs g L c z) _
      refine Ex.many (f' := (71, [none, none, none], [.int q6.1, .ref 19], xSt xG0 q6.2 hr xs g L c z)) ?_ 1 (by rfl)
      exact T_h_leave_71 q6.1 q6.2 r H
    · replace H := (if_neg q5).symm.trans H
      refine Ex.many (f' := (71, [none, none, none], [.int (0 : Int32), .ref 19], xSt xG0 (xput (xput q2 19 5 (q2 23 v1.toNatClampNeg)) 19 7 v1) hr xs g L c z)) ?_ 1 (by rfl)
      exact T_h_leave_71 (0 : Int32) (xput (xput q2 19 5 (q2 23 v1.toNatClampNeg)) 19 7 v1) r H
  · replace H := (if_neg q4).symm.trans H
    refine Ex.many (f' := (56, [none, none, none], [.int (0 : Int32)], xSt xG0 (xput (xput q2 19 5 (q2 23 v1.toNatClampNeg)) 19 7 v1) hr xs g L c z)) ?_ 1 (by rfl)
    replace H := Option.some.inj H
    subst H
    exact Ex.done (by rfl)
def f_h_leave (hc : xI) : Option (Int32 × xI) :=
  xgd ((hc 19 7) - (1 : Int32)) 6 (xgd (hc 22 ((hc 19 7) - (1 : Int32)).toNatClampNeg) 6 (f_h_leave_22 ((hc 19 7) - (1 : Int32)) (hc 6 (hc 22 ((hc 19 7) - (1 : Int32)).toNatClampNeg).toNatClampNeg) hc))
theorem T_h_leave {hr : xI} {g : xJ} {xs : Nat → Int32} {L c z : Nat} (hc : xI) (r : (Int32 × xI)) (H : f_h_leave hc = some r) : Ex 1 21 (0, [some (.ref 19), none, none], [], xSt xG0 hc hr xs g L c z) (.inl (some (.int r.1)), xSt xG0 r.2 hr xs g L c z) := by
  unfold f_h_leave at H
  refine Ex.many (f' := (19, [some (.ref 19), some (.int ((hc 19 7) - (1 : Int32))), none], [.int ((hc 19 7) - (1 : Int32)), .ref 22, .ref 6], xSt xG0 hc hr xs g L c z)) ?_ 11 (by rfl)
  obtain ⟨g1, H⟩ := xgd_some H
  refine Ex.guard (f' := (20, [some (.ref 19), some (.int ((hc 19 7) - (1 : Int32))), none], [.int (hc 22 ((hc 19 7) - (1 : Int32)).toNatClampNeg), .ref 6], xSt xG0 hc hr xs g L c z)) (by rfl) g1 ?_
  obtain ⟨g2, H⟩ := xgd_some H
  refine Ex.guard (f' := (21, [some (.ref 19), some (.int ((hc 19 7) - (1 : Int32))), none], [.int (hc 6 (hc 22 ((hc 19 7) - (1 : Int32)).toNatClampNeg).toNatClampNeg)], xSt xG0 hc hr xs g L c z)) (by rfl) g2 ?_
  refine Ex.many (f' := (22, [some (.ref 19), some (.int ((hc 19 7) - (1 : Int32))), some (.int (hc 6 (hc 22 ((hc 19 7) - (1 : Int32)).toNatClampNeg).toNatClampNeg))], [], xSt xG0 hc hr xs g L c z)) ?_ 1 (by rfl)
  exact T_h_leave_22 ((hc 19 7) - (1 : Int32)) (hc 6 (hc 22 ((hc 19 7) - (1 : Int32)).toNatClampNeg).toNatClampNeg) hc r H
def f_h_branch_105 (s1 : Int32) (hc : xI) : Option (Int32 × xI) :=
  some ((0 : Int32), (xput hc 19 5 s1))
theorem T_h_branch_105 {hr : xI} {g : xJ} {xs : Nat → Int32} {L c z : Nat} (s1 : Int32) (hc : xI) (r : (Int32 × xI)) (H : f_h_branch_105 s1 hc = some r) : Ex 2 23 (105, [none, none, none, none], [.int s1, .ref 19], xSt xG0 hc hr xs g L c z) (.inl (some (.int r.1)), xSt xG0 r.2 hr xs g L c z) := by
  unfold f_h_branch_105 at H
  refine Ex.putC (pc := 108) (k := 19) (j := 5) (v := s1) (ls := [none, none, none, none]) (st := []) (hc := hc) ?_ (by rfl) (by rfl)
  refine Ex.many (f' := (109, [none, none, none, none], [.int (0 : Int32)], xSt xG0 (xput hc 19 5 s1) hr xs g L c z)) ?_ 1 (by rfl)
  replace H := Option.some.inj H
  subst H
  exact Ex.done (by rfl)
def f_h_branch_80 (v2 : Int32) (v3 : Int32) (s2 : Int32) (s1 : Int32) (hc : xI) : Option (Int32 × xI) :=
  (f_h_fallTo s1 s2 hc).bind fun q1 => if v3 = 0 then (xgd v2 240 (f_h_branch_105 ((q1 7 v2.toNatClampNeg) + (1 : Int32)) q1)) else (f_h_branch_105 (v2 + (2 : Int32)) q1)
theorem T_h_branch_80 {hr : xI} {g : xJ} {xs : Nat → Int32} {L c z : Nat} (v2 : Int32) (v3 : Int32) (s2 : Int32) (s1 : Int32) (hc : xI) (r : (Int32 × xI)) (H : f_h_branch_80 v2 v3 s2 s1 hc = some r) : Ex 2 23 (80, [some (.ref 19), none, some (.int v2), some (.int v3)], [.int s2, .int s1, .ref 19], xSt xG0 hc hr xs g L c z) (.inl (some (.int r.1)), xSt xG0 r.2 hr xs g L c z) := by
  unfold f_h_branch_80 at H
  obtain ⟨q1, hq1, H⟩ := xbd H
  refine Ex.call (mk := 22) (vs := [.ref 19, .int s1, .int s2]) (rest := []) (by rfl) (by rfl) (Ex.up (T_h_fallTo s1 s2 hc q1 hq1) (by decide)) (xbb c z) ?_
  show Ex _ _ (83, [some (.ref 19), none, some (.int v2), some (.int v3)], [], xSt xG0 q1 hr xs g L c z) _
  refine Ex.many (f' := (85, [some (.ref 19), none, some (.int v2), some (.int v3)], [.int v3, .ref 19], xSt xG0 q1 hr xs g L c z)) ?_ 2 (by rfl)
  refine Ex.ite (ls := [some (.ref 19), none, some (.int v2), some (.int v3)]) (st := [.ref 19]) (S := xSt xG0 q1 hr xs g L c z) (by rfl) (fun q2 => ?_) (fun q2 => ?_)
  · replace H := (if_pos q2).symm.trans H
    refine Ex.many (f' := (102, [some (.ref 19), none, some (.int v2), none], [.int v2, .ref 7, .ref 19], xSt xG0 q1 hr xs g L c z)) ?_ 4 (by rfl)
    obtain ⟨g3, H⟩ := xgd_some H
    refine Ex.guard (f' := (103, [some (.ref 19), none, some (.int v2), none], [.int (q1 7 v2.toNatClampNeg), .ref 19], xSt xG0 q1 hr xs g L c z)) (by rfl) g3 ?_
    refine Ex.many (f' := (105, [some (.ref 19), none, some (.int v2), none], [.int ((q1 7 v2.toNatClampNeg) + (1 : Int32)), .ref 19], xSt xG0 q1 hr xs g L c z)) ?_ 2 (by rfl)
    refine Ex.kill (ls' := [none, none, none, none]) (by rfl) ?_
    exact T_h_branch_105 ((q1 7 v2.toNatClampNeg) + (1 : Int32)) q1 r H
  · replace H := (if_neg q2).symm.trans H
    refine Ex.many (f' := (105, [none, none, some (.int v2), none], [.int (v2 + (2 : Int32)), .ref 19], xSt xG0 q1 hr xs g L c z)) ?_ 4 (by rfl)
    refine Ex.kill (ls' := [none, none, none, none]) (by rfl) ?_
    exact T_h_branch_105 (v2 + (2 : Int32)) q1 r H
def f_h_branch_38 (v2 : Int32) (s0 : Int32) (hc : xI) : Option (Int32 × xI) :=
  xgd ((hc 19 7) - (1 : Int32)) 6 (xgd v2 240 (if s0 = 0 then (xgd (v2 + (1 : Int32)) 240 (f_h_branch_80 v2 s0 (hc 2 (v2 + (1 : Int32)).toNatClampNeg) ((hc 24 ((hc 19 7) - (1 : Int32)).toNatClampNeg) + (hc 9 v2.toNatClampNeg)) hc)) else (f_h_branch_80 v2 s0 (0 : Int32) ((hc 24 ((hc 19 7) - (1 : Int32)).toNatClampNeg) + (hc 9 v2.toNatClampNeg)) hc)))
theorem T_h_branch_38 {hr : xI} {g : xJ} {xs : Nat → Int32} {L c z : Nat} (v2 : Int32) (s0 : Int32) (hc : xI) (r : (Int32 × xI)) (H : f_h_branch_38 v2 s0 hc = some r) : Ex 2 23 (38, [some (.ref 19), none, some (.int v2), none], [.int s0], xSt xG0 hc hr xs g L c z) (.inl (some (.int r.1)), xSt xG0 r.2 hr xs g L c z) := by
  unfold f_h_branch_38 at H
  refine Ex.many (f' := (50, [some (.ref 19), none, some (.int v2), some (.int s0)], [.int ((hc 19 7) - (1 : Int32)), .ref 24, .ref 19], xSt xG0 hc hr xs g L c z)) ?_ 8 (by rfl)
  obtain ⟨g1, H⟩ := xgd_some H
  refine Ex.guard (f' := (51, [some (.ref 19), none, some (.int v2), some (.int s0)], [.int (hc 24 ((hc 19 7) - (1 : Int32)).toNatClampNeg), .ref 19], xSt xG0 hc hr xs g L c z)) (by rfl) g1 ?_
  refine Ex.many (f' := (59, [some (.ref 19), none, some (.int v2), some (.int s0)], [.int v2, .ref 9, .int (hc 24 ((hc 19 7) - (1 : Int32)).toNatClampNeg), .ref 19], xSt xG0 hc hr xs g L c z)) ?_ 4 (by rfl)
  obtain ⟨g2, H⟩ := xgd_some H
  refine Ex.guard (f' := (60, [some (.ref 19), none, some (.int v2), some (.int s0)], [.int (hc 9 v2.toNatClampNeg), .int (hc 24 ((hc 19 7) - (1 : Int32)).toNatClampNeg), .ref 19], xSt xG0 hc hr xs g L c z)) (by rfl) g2 ?_
  refine Ex.many (f' := (62, [some (.ref 19), none, some (.int v2), some (.int s0)], [.int s0, .int ((hc 24 ((hc 19 7) - (1 : Int32)).toNatClampNeg) + (hc 9 v2.toNatClampNeg)), .ref 19], xSt xG0 hc hr xs g L c z)) ?_ 2 (by rfl)
  refine Ex.ite (ls := [some (.ref 19), none, some (.int v2), some (.int s0)]) (st := [.int ((hc 24 ((hc 19 7) - (1 : Int32)).toNatClampNeg) + (hc 9 v2.toNatClampNeg)), .ref 19]) (S := xSt xG0 hc hr xs g L c z) (by rfl) (fun q3 => ?_) (fun q3 => ?_)
  · replace H := (if_pos q3).symm.trans H
    refine Ex.many (f' := (79, [some (.ref 19), none, some (.int v2), some (.int s0)], [.int (v2 + (1 : Int32)), .ref 2, .int ((hc 24 ((hc 19 7) - (1 : Int32)).toNatClampNeg) + (hc 9 v2.toNatClampNeg)), .ref 19], xSt xG0 hc hr xs g L c z)) ?_ 6 (by rfl)
    obtain ⟨g4, H⟩ := xgd_some H
    refine Ex.guard (f' := (80, [some (.ref 19), none, some (.int v2), some (.int s0)], [.int (hc 2 (v2 + (1 : Int32)).toNatClampNeg), .int ((hc 24 ((hc 19 7) - (1 : Int32)).toNatClampNeg) + (hc 9 v2.toNatClampNeg)), .ref 19], xSt xG0 hc hr xs g L c z)) (by rfl) g4 ?_
    exact T_h_branch_80 v2 s0 (hc 2 (v2 + (1 : Int32)).toNatClampNeg) ((hc 24 ((hc 19 7) - (1 : Int32)).toNatClampNeg) + (hc 9 v2.toNatClampNeg)) hc r H
  · replace H := (if_neg q3).symm.trans H
    refine Ex.many (f' := (80, [some (.ref 19), none, some (.int v2), some (.int s0)], [.int (0 : Int32), .int ((hc 24 ((hc 19 7) - (1 : Int32)).toNatClampNeg) + (hc 9 v2.toNatClampNeg)), .ref 19], xSt xG0 hc hr xs g L c z)) ?_ 2 (by rfl)
    exact T_h_branch_80 v2 s0 (0 : Int32) ((hc 24 ((hc 19 7) - (1 : Int32)).toNatClampNeg) + (hc 9 v2.toNatClampNeg)) hc r H
def f_h_branch (a1 : Int32) (hc : xI) : Option (Int32 × xI) :=
  xgd a1 240 (if (hc 10 a1.toNatClampNeg) = (-1 : Int32) then ((f_h_leave hc).bind fun q3 => some (q3.1, q3.2)) else (xgd (hc 10 a1.toNatClampNeg) 240 (if (hc 2 (hc 10 a1.toNatClampNeg).toNatClampNeg) = (3 : Int32) then (f_h_branch_38 (hc 10 a1.toNatClampNeg) (1 : Int32) hc) else (f_h_branch_38 (hc 10 a1.toNatClampNeg) (0 : Int32) hc))))
theorem T_h_branch {hr : xI} {g : xJ} {xs : Nat → Int32} {L c z : Nat} (a1 : Int32) (hc : xI) (r : (Int32 × xI)) (H : f_h_branch a1 hc = some r) : Ex 2 23 (0, [some (.ref 19), some (.int a1), none, none], [], xSt xG0 hc hr xs g L c z) (.inl (some (.int r.1)), xSt xG0 r.2 hr xs g L c z) := by
  unfold f_h_branch at H
  refine Ex.many (f' := (8, [some (.ref 19), some (.int a1), none, none], [.int a1, .ref 10], xSt xG0 hc hr xs g L c z)) ?_ 4 (by rfl)
  obtain ⟨g1, H⟩ := xgd_some H
  refine Ex.guard (f' := (9, [some (.ref 19), some (.int a1), none, none], [.int (hc 10 a1.toNatClampNeg)], xSt xG0 hc hr xs g L c z)) (by rfl) g1 ?_
  refine Ex.many (f' := (12, [some (.ref 19), some (.int a1), some (.int (hc 10 a1.toNatClampNeg)), none], [.int (-1 : Int32), .int (hc 10 a1.toNatClampNeg)], xSt xG0 hc hr xs g L c z)) ?_ 3 (by rfl)
  refine Ex.ite (ls := [some (.ref 19), some (.int a1), some (.int (hc 10 a1.toNatClampNeg)), none]) (st := []) (S := xSt xG0 hc hr xs g L c z) (by rfl) (fun q2 => ?_) (fun q2 => ?_)
  · replace H := (if_pos q2).symm.trans H
    refine Ex.many (f' := (16, [some (.ref 19), none, none, none], [.ref 19], xSt xG0 hc hr xs g L c z)) ?_ 1 (by rfl)
    obtain ⟨q3, hq3, H⟩ := xbd H
    refine Ex.call (mk := 21) (vs := [.ref 19]) (rest := []) (by rfl) (by rfl) (Ex.up (T_h_leave hc q3 hq3) (by decide)) (xbb c z) ?_
    show Ex _ _ (19, [some (.ref 19), none, none, none], [.int q3.1], xSt xG0 q3.2 hr xs g L c z) _
    replace H := Option.some.inj H
    subst H
    exact Ex.done (by rfl)
  · replace H := (if_neg q2).symm.trans H
    refine Ex.many (f' := (28, [some (.ref 19), none, some (.int (hc 10 a1.toNatClampNeg)), none], [.int (hc 10 a1.toNatClampNeg), .ref 2], xSt xG0 hc hr xs g L c z)) ?_ 4 (by rfl)
    obtain ⟨g4, H⟩ := xgd_some H
    refine Ex.guard (f' := (29, [some (.ref 19), none, some (.int (hc 10 a1.toNatClampNeg)), none], [.int (hc 2 (hc 10 a1.toNatClampNeg).toNatClampNeg)], xSt xG0 hc hr xs g L c z)) (by rfl) g4 ?_
    refine Ex.many (f' := (30, [some (.ref 19), none, some (.int (hc 10 a1.toNatClampNeg)), none], [.int (3 : Int32), .int (hc 2 (hc 10 a1.toNatClampNeg).toNatClampNeg)], xSt xG0 hc hr xs g L c z)) ?_ 1 (by rfl)
    refine Ex.ite (ls := [some (.ref 19), none, some (.int (hc 10 a1.toNatClampNeg)), none]) (st := []) (S := xSt xG0 hc hr xs g L c z) (by rfl) (fun q5 => ?_) (fun q5 => ?_)
    · replace H := (if_pos q5).symm.trans H
      refine Ex.many (f' := (38, [some (.ref 19), none, some (.int (hc 10 a1.toNatClampNeg)), none], [.int (1 : Int32)], xSt xG0 hc hr xs g L c z)) ?_ 2 (by rfl)
      exact T_h_branch_38 (hc 10 a1.toNatClampNeg) (1 : Int32) hc r H
    · replace H := (if_neg q5).symm.trans H
      refine Ex.many (f' := (38, [some (.ref 19), none, some (.int (hc 10 a1.toNatClampNeg)), none], [.int (0 : Int32)], xSt xG0 hc hr xs g L c z)) ?_ 1 (by rfl)
      exact T_h_branch_38 (hc 10 a1.toNatClampNeg) (0 : Int32) hc r H
def f_h_chosen (a0 : Int32) (a1 : Int32) : Int32 :=
  if 0 ≤ (f_i_compareUnsigned a0 a1) then a1 else a0
theorem T_h_chosen {hc : xI} {hr : xI} {g : xJ} {xs : Nat → Int32} {L c z : Nat} (a0 : Int32) (a1 : Int32) (r : Int32) (H : f_h_chosen a0 a1 = r) : Ex 2 24 (0, [some (.int a0), some (.int a1)], [], xSt xG0 hc hr xs g L c z) (.inl (some (.int r)), xSt xG0 hc hr xs g L c z) := by
  unfold f_h_chosen at H
  refine Ex.many (f' := (2, [some (.int a0), some (.int a1)], [.int a1, .int a0], xSt xG0 hc hr xs g L c z)) ?_ 2 (by rfl)
  refine Ex.call (mk := 25) (vs := [.int a0, .int a1]) (rest := []) (by rfl) (by rfl) (Ex.up (T_i_compareUnsigned a0 a1 _ rfl) (by decide)) (xbb c z) ?_
  show Ex _ _ (5, [some (.int a0), some (.int a1)], [.int (f_i_compareUnsigned a0 a1)], xSt xG0 hc hr xs g L c z) _
  refine Ex.ite (ls := [some (.int a0), some (.int a1)]) (st := []) (S := xSt xG0 hc hr xs g L c z) (by rfl) (fun q2 => ?_) (fun q2 => ?_)
  · replace H := (if_pos q2).symm.trans H
    refine Ex.many (f' := (13, [none, some (.int a1)], [.int a1], xSt xG0 hc hr xs g L c z)) ?_ 1 (by rfl)
    skip
    subst H
    exact Ex.done (by rfl)
  · replace H := (if_neg q2).symm.trans H
    refine Ex.many (f' := (13, [some (.int a0), none], [.int a0], xSt xG0 hc hr xs g L c z)) ?_ 2 (by rfl)
    skip
    subst H
    exact Ex.done (by rfl)
def f_a_rangeCheck (a0 : Int32) (a1 : Int32) (a2 : Int32) : Option Unit :=
  if a1 ≤ a2 then (if 0 ≤ a1 then (if a2 ≤ a0 then (some ()) else none) else none) else none
theorem T_a_rangeCheck {hc : xI} {hr : xI} {g : xJ} {xs : Nat → Int32} {L c z : Nat} (a0 : Int32) (a1 : Int32) (a2 : Int32) (r : Unit) (H : f_a_rangeCheck a0 a1 a2 = some r) : Ex 0 30 (0, [some (.int a0), some (.int a1), some (.int a2)], [], xSt xG0 hc hr xs g L c z) (.inl none, xSt xG0 hc hr xs g L c z) := by
  unfold f_a_rangeCheck at H
  refine Ex.many (f' := (2, [some (.int a0), some (.int a1), some (.int a2)], [.int a2, .int a1], xSt xG0 hc hr xs g L c z)) ?_ 2 (by rfl)
  refine Ex.ite (ls := [some (.int a0), some (.int a1), some (.int a2)]) (st := []) (S := xSt xG0 hc hr xs g L c z) (by rfl) (fun q1 => ?_) (fun q1 => ?_)
  · replace H := (if_pos q1).symm.trans H
    refine Ex.many (f' := (47, [some (.int a0), some (.int a1), some (.int a2)], [.int a1], xSt xG0 hc hr xs g L c z)) ?_ 1 (by rfl)
    refine Ex.ite (ls := [some (.int a0), some (.int a1), some (.int a2)]) (st := []) (S := xSt xG0 hc hr xs g L c z) (by rfl) (fun q2 => ?_) (fun q2 => ?_)
    · replace H := (if_pos q2).symm.trans H
      refine Ex.many (f' := (61, [some (.int a0), none, some (.int a2)], [.int a0, .int a2], xSt xG0 hc hr xs g L c z)) ?_ 2 (by rfl)
      refine Ex.ite (ls := [some (.int a0), none, some (.int a2)]) (st := []) (S := xSt xG0 hc hr xs g L c z) (by rfl) (fun q3 => ?_) (fun q3 => ?_)
      · replace H := (if_pos q3).symm.trans H
        replace H := Option.some.inj H
        subst H
        exact Ex.done (by rfl)
      · replace H := (if_neg q3).symm.trans H
        cases H
    · replace H := (if_neg q2).symm.trans H
      cases H
  · replace H := (if_neg q1).symm.trans H
    cases H
def f_a_fill3_10 : Nat → Int32 → Int32 → Int32 → xI → Option xI
  | 0, _, _, _, _ => none
  | n + 1, v2, v3, v4, hc => if v2 ≤ v4 then (some hc) else (xgd v4 48 (f_a_fill3_10 n v2 v3 (v4 + (1 : Int32)) (xput hc 25 v4.toNatClampNeg v3)))
theorem T_a_fill3_10 {hr : xI} {g : xJ} {xs : Nat → Int32} {L c z : Nat} (n : Nat) : ∀ (v2 : Int32) (v3 : Int32) (v4 : Int32) (hc : xI) (r : xI), f_a_fill3_10 n v2 v3 v4 hc = some r → Ex 1 29 (10, [some (.ref 25), none, some (.int v2), some (.int v3), some (.int v4)], [], xSt xG0 hc hr xs g L c z) (.inl none, xSt xG0 r hr xs g L c z) := by
  induction n with
  | zero =>
    intro v2 v3 v4 hc r H
    unfold f_a_fill3_10 at H
    cases H
  | succ n ih =>
    intro v2 v3 v4 hc r H
    unfold f_a_fill3_10 at H
    refine Ex.many (f' := (13, [some (.ref 25), none, some (.int v2), some (.int v3), some (.int v4)], [.int v2, .int v4], xSt xG0 hc hr xs g L c z)) ?_ 2 (by rfl)
    refine Ex.ite (ls := [some (.ref 25), none, some (.int v2), some (.int v3), some (.int v4)]) (st := []) (S := xSt xG0 hc hr xs g L c z) (by rfl) (fun q1 => ?_) (fun q1 => ?_)
    · replace H := (if_pos q1).symm.trans H
      replace H := Option.some.inj H
      subst H
      exact Ex.done (by rfl)
    · replace H := (if_neg q1).symm.trans H
      refine Ex.many (f' := (20, [some (.ref 25), none, some (.int v2), some (.int v3), some (.int v4)], [.int v3, .int v4, .ref 25], xSt xG0 hc hr xs g L c z)) ?_ 3 (by rfl)
      obtain ⟨g2, H⟩ := xgd_some H
      refine Ex.gputC (pc := 21) (k := 25) (n := 48) (i := v4) (v := v3) (ls := [some (.ref 25), none, some (.int v2), some (.int v3), some (.int v4)]) (st := []) (hc := hc) ?_ (by rfl) g2 (by rfl)
      refine Ex.many (f' := (10, [some (.ref 25), none, some (.int v2), some (.int v3), some (.int (v4 + (1 : Int32)))], [], xSt xG0 (xput hc 25 v4.toNatClampNeg v3) hr xs g L c z)) ?_ 2 (by rfl)
      exact ih v2 v3 (v4 + (1 : Int32)) (xput hc 25 v4.toNatClampNeg v3) r H
def f_a_fill3 (a1 : Int32) (a2 : Int32) (a3 : Int32) (hc : xI) : Option xI :=
  (f_a_rangeCheck (48 : Int32) a1 a2).bind fun q1 => f_a_fill3_10 1000 a2 a3 a1 hc
theorem T_a_fill3 {hr : xI} {g : xJ} {xs : Nat → Int32} {L c z : Nat} (a1 : Int32) (a2 : Int32) (a3 : Int32) (hc : xI) (r : xI) (H : f_a_fill3 a1 a2 a3 hc = some r) : Ex 1 29 (0, [some (.ref 25), some (.int a1), some (.int a2), some (.int a3), none], [], xSt xG0 hc hr xs g L c z) (.inl none, xSt xG0 r hr xs g L c z) := by
  unfold f_a_fill3 at H
  refine Ex.many (f' := (4, [some (.ref 25), some (.int a1), some (.int a2), some (.int a3), none], [.int a2, .int a1, .int (48 : Int32)], xSt xG0 hc hr xs g L c z)) ?_ 4 (by rfl)
  obtain ⟨q1, hq1, H⟩ := xbd H
  refine Ex.call (mk := 30) (vs := [.int (48 : Int32), .int a1, .int a2]) (rest := []) (by rfl) (by rfl) (Ex.up (T_a_rangeCheck (48 : Int32) a1 a2 q1 hq1) (by decide)) (xbb c z) ?_
  show Ex _ _ (7, [some (.ref 25), some (.int a1), some (.int a2), some (.int a3), none], [], xSt xG0 hc hr xs g L c z) _
  refine Ex.many (f' := (10, [some (.ref 25), some (.int a1), some (.int a2), some (.int a3), some (.int a1)], [], xSt xG0 hc hr xs g L c z)) ?_ 2 (by rfl)
  refine Ex.kill (ls' := [some (.ref 25), none, some (.int a2), some (.int a3), some (.int a1)]) (by rfl) ?_
  exact T_a_fill3_10 1000 a2 a3 a1 hc r H
def f_c_bodyStart (a1 : Int32) (hc : xI) : Option Int32 :=
  if a1 = 0 then (some (0 : Int32)) else (xgd (a1 - (1 : Int32)) 6 (some (hc 3 (a1 - (1 : Int32)).toNatClampNeg)))
theorem T_c_bodyStart {hr : xI} {g : xJ} {xs : Nat → Int32} {L c z : Nat} (a1 : Int32) (hc : xI) (r : Int32) (H : f_c_bodyStart a1 hc = some r) : Ex 0 31 (0, [some (.ref 1), some (.int a1)], [], xSt xG0 hc hr xs g L c z) (.inl (some (.int r)), xSt xG0 hc hr xs g L c z) := by
  unfold f_c_bodyStart at H
  refine Ex.many (f' := (1, [some (.ref 1), some (.int a1)], [.int a1], xSt xG0 hc hr xs g L c z)) ?_ 1 (by rfl)
  refine Ex.ite (ls := [some (.ref 1), some (.int a1)]) (st := []) (S := xSt xG0 hc hr xs g L c z) (by rfl) (fun q1 => ?_) (fun q1 => ?_)
  · replace H := (if_pos q1).symm.trans H
    refine Ex.many (f' := (16, [none, none], [.int (0 : Int32)], xSt xG0 hc hr xs g L c z)) ?_ 2 (by rfl)
    replace H := Option.some.inj H
    subst H
    exact Ex.done (by rfl)
  · replace H := (if_neg q1).symm.trans H
    refine Ex.many (f' := (15, [some (.ref 1), some (.int a1)], [.int (a1 - (1 : Int32)), .ref 3], xSt xG0 hc hr xs g L c z)) ?_ 5 (by rfl)
    obtain ⟨g2, H⟩ := xgd_some H
    refine Ex.guard (f' := (16, [some (.ref 1), some (.int a1)], [.int (hc 3 (a1 - (1 : Int32)).toNatClampNeg)], xSt xG0 hc hr xs g L c z)) (by rfl) g2 ?_
    replace H := Option.some.inj H
    subst H
    exact Ex.done (by rfl)
def f_h_enter_84 (v1 : Int32) (v2 : Int32) (v3 : Int32) (hc : xI) : Option (Int32 × xI) :=
  (f_a_fill3 v3 (v3 + (8 : Int32)) (0 : Int32) hc).bind fun q1 => xcpg (q1 19 4) v3 v2 100 48 ((f_c_bodyStart v1 (xset q1 25 (va_cpy (q1 21) (q1 25) (q1 19 4).toNatClampNeg v3.toNatClampNeg v2.toNatClampNeg))).bind fun q3 => some ((0 : Int32), (xput (xset q1 25 (va_cpy (q1 21) (q1 25) (q1 19 4).toNatClampNeg v3.toNatClampNeg v2.toNatClampNeg)) 19 5 q3)))
theorem T_h_enter_84 {hr : xI} {g : xJ} {xs : Nat → Int32} {L c z : Nat} (v1 : Int32) (v2 : Int32) (v3 : Int32) (hc : xI) (r : (Int32 × xI)) (H : f_h_enter_84 v1 v2 v3 hc = some r) : Ex 3 27 (84, [some (.ref 19), some (.int v1), some (.int v2), some (.int v3)], [], xSt xG0 hc hr xs g L c z) (.inl (some (.int r.1)), xSt xG0 r.2 hr xs g L c z) := by
  unfold f_h_enter_84 at H
  refine Ex.many (f' := (94, [some (.ref 19), some (.int v1), some (.int v2), some (.int v3)], [.int (0 : Int32), .int (v3 + (8 : Int32)), .int v3, .ref 25], xSt xG0 hc hr xs g L c z)) ?_ 7 (by rfl)
  obtain ⟨q1, hq1, H⟩ := xbd H
  refine Ex.call (mk := 29) (vs := [.ref 25, .int v3, .int (v3 + (8 : Int32)), .int (0 : Int32)]) (rest := []) (by rfl) (by rfl) (Ex.up (T_a_fill3 v3 (v3 + (8 : Int32)) (0 : Int32) hc q1 hq1) (by decide)) (xbb c z) ?_
  show Ex _ _ (97, [some (.ref 19), some (.int v1), some (.int v2), some (.int v3)], [], xSt xG0 q1 hr xs g L c z) _
  refine Ex.many (f' := (111, [some (.ref 19), some (.int v1), some (.int v2), some (.int v3)], [.int v2, .int v3, .ref 25, .int (q1 19 4), .ref 21], xSt xG0 q1 hr xs g L c z)) ?_ 8 (by rfl)
  obtain ⟨g2, H⟩ := xcpg_some H
  refine Ex.copyC (a := 25) (ls := [some (.ref 19), some (.int v1), some (.int v2), some (.int v3)]) (st := []) (n0 := 100) (n1 := 48) (hc := q1) (pc := 114) (fn := (va_cpy (q1 21) (q1 25) (q1 19 4).toNatClampNeg v3.toNatClampNeg v2.toNatClampNeg)) (w := 0) ?_ (by rfl) g2 (by decide) (by decide) (by rfl)
  refine Ex.many (f' := (120, [some (.ref 19), some (.int v1), some (.int v2), some (.int v3)], [.int v1, .ref 1, .ref 19], xSt xG0 (xset q1 25 (va_cpy (q1 21) (q1 25) (q1 19 4).toNatClampNeg v3.toNatClampNeg v2.toNatClampNeg)) hr xs g L c z)) ?_ 4 (by rfl)
  obtain ⟨q3, hq3, H⟩ := xbd H
  refine Ex.call (mk := 31) (vs := [.ref 1, .int v1]) (rest := [.ref 19]) (by rfl) (by rfl) (Ex.up (T_c_bodyStart v1 (xset q1 25 (va_cpy (q1 21) (q1 25) (q1 19 4).toNatClampNeg v3.toNatClampNeg v2.toNatClampNeg)) q3 hq3) (by decide)) (xbb c z) ?_
  show Ex _ _ (123, [some (.ref 19), some (.int v1), some (.int v2), some (.int v3)], [.int q3, .ref 19], xSt xG0 (xset q1 25 (va_cpy (q1 21) (q1 25) (q1 19 4).toNatClampNeg v3.toNatClampNeg v2.toNatClampNeg)) hr xs g L c z) _
  refine Ex.putC (pc := 126) (k := 19) (j := 5) (v := q3) (ls := [none, none, none, none]) (st := []) (hc := (xset q1 25 (va_cpy (q1 21) (q1 25) (q1 19 4).toNatClampNeg v3.toNatClampNeg v2.toNatClampNeg))) ?_ (by rfl) (by rfl)
  refine Ex.many (f' := (127, [none, none, none, none], [.int (0 : Int32)], xSt xG0 (xput (xset q1 25 (va_cpy (q1 21) (q1 25) (q1 19 4).toNatClampNeg v3.toNatClampNeg v2.toNatClampNeg)) 19 5 q3) hr xs g L c z)) ?_ 1 (by rfl)
  replace H := Option.some.inj H
  subst H
  exact Ex.done (by rfl)
def f_h_enter (a1 : Int32) (hc : xI) : Option (Int32 × xI) :=
  if (hc 19 7) = (6 : Int32) then (some ((6 : Int32), hc)) else (xgd a1 6 (xgd (hc 19 7) 6 (xgd (hc 19 7) 6 (xgd (hc 19 7) 6 (f_h_enter_84 a1 (hc 4 a1.toNatClampNeg) (f_h_localPlace (0 : Int32) (xput (xput (xput (xput (xput hc 19 4 ((hc 19 4) - (hc 4 a1.toNatClampNeg))) 22 (hc 19 7).toNatClampNeg a1) 23 (hc 19 7).toNatClampNeg (hc 19 5)) 24 (hc 19 7).toNatClampNeg ((hc 19 4) - (hc 4 a1.toNatClampNeg))) 19 7 ((hc 19 7) + (1 : Int32)))) (xput (xput (xput (xput (xput hc 19 4 ((hc 19 4) - (hc 4 a1.toNatClampNeg))) 22 (hc 19 7).toNatClampNeg a1) 23 (hc 19 7).toNatClampNeg (hc 19 5)) 24 (hc 19 7).toNatClampNeg ((hc 19 4) - (hc 4 a1.toNatClampNeg))) 19 7 ((hc 19 7) + (1 : Int32))))))))
theorem T_h_enter {hr : xI} {g : xJ} {xs : Nat → Int32} {L c z : Nat} (a1 : Int32) (hc : xI) (r : (Int32 × xI)) (H : f_h_enter a1 hc = some r) : Ex 3 27 (0, [some (.ref 19), some (.int a1), none, none], [], xSt xG0 hc hr xs g L c z) (.inl (some (.int r.1)), xSt xG0 r.2 hr xs g L c z) := by
  unfold f_h_enter at H
  refine Ex.many (f' := (6, [some (.ref 19), some (.int a1), none, none], [.int (6 : Int32), .int (hc 19 7)], xSt xG0 hc hr xs g L c z)) ?_ 3 (by rfl)
  refine Ex.ite (ls := [some (.ref 19), some (.int a1), none, none]) (st := []) (S := xSt xG0 hc hr xs g L c z) (by rfl) (fun q1 => ?_) (fun q1 => ?_)
  · replace H := (if_pos q1).symm.trans H
    refine Ex.many (f' := (11, [none, none, none, none], [.int (6 : Int32)], xSt xG0 hc hr xs g L c z)) ?_ 1 (by rfl)
    replace H := Option.some.inj H
    subst H
    exact Ex.done (by rfl)
  · replace H := (if_neg q1).symm.trans H
    refine Ex.many (f' := (20, [some (.ref 19), some (.int a1), none, none], [.int a1, .ref 4], xSt xG0 hc hr xs g L c z)) ?_ 4 (by rfl)
    obtain ⟨g2, H⟩ := xgd_some H
    refine Ex.guard (f' := (21, [some (.ref 19), some (.int a1), none, none], [.int (hc 4 a1.toNatClampNeg)], xSt xG0 hc hr xs g L c z)) (by rfl) g2 ?_
    refine Ex.many (f' := (29, [some (.ref 19), some (.int a1), some (.int (hc 4 a1.toNatClampNeg)), none], [.int ((hc 19 4) - (hc 4 a1.toNatClampNeg)), .ref 19], xSt xG0 hc hr xs g L c z)) ?_ 6 (by rfl)
    refine Ex.putC (pc := 32) (k := 19) (j := 4) (v := ((hc 19 4) - (hc 4 a1.toNatClampNeg))) (ls := [some (.ref 19), some (.int a1), some (.int (hc 4 a1.toNatClampNeg)), none]) (st := []) (hc := hc) ?_ (by rfl) (by rfl)
    refine Ex.many (f' := (41, [some (.ref 19), some (.int a1), some (.int (hc 4 a1.toNatClampNeg)), none], [.int a1, .int (hc 19 7), .ref 22], xSt xG0 (xput hc 19 4 ((hc 19 4) - (hc 4 a1.toNatClampNeg))) hr xs g L c z)) ?_ 5 (by rfl)
    obtain ⟨g3, H⟩ := xgd_some H
    refine Ex.gputC (pc := 42) (k := 22) (n := 6) (i := (hc 19 7)) (v := a1) (ls := [some (.ref 19), some (.int a1), some (.int (hc 4 a1.toNatClampNeg)), none]) (st := []) (hc := (xput hc 19 4 ((hc 19 4) - (hc 4 a1.toNatClampNeg)))) ?_ (by rfl) g3 (by rfl)
    refine Ex.many (f' := (54, [some (.ref 19), some (.int a1), some (.int (hc 4 a1.toNatClampNeg)), none], [.int (hc 19 5), .int (hc 19 7), .ref 23], xSt xG0 (xput (xput hc 19 4 ((hc 19 4) - (hc 4 a1.toNatClampNeg))) 22 (hc 19 7).toNatClampNeg a1) hr xs g L c z)) ?_ 6 (by rfl)
    obtain ⟨g4, H⟩ := xgd_some H
    refine Ex.gputC (pc := 55) (k := 23) (n := 6) (i := (hc 19 7)) (v := (hc 19 5)) (ls := [some (.ref 19), some (.int a1), some (.int (hc 4 a1.toNatClampNeg)), none]) (st := []) (hc := (xput (xput hc 19 4 ((hc 19 4) - (hc 4 a1.toNatClampNeg))) 22 (hc 19 7).toNatClampNeg a1)) ?_ (by rfl) g4 (by rfl)
    refine Ex.many (f' := (67, [some (.ref 19), some (.int a1), some (.int (hc 4 a1.toNatClampNeg)), none], [.int ((hc 19 4) - (hc 4 a1.toNatClampNeg)), .int (hc 19 7), .ref 24], xSt xG0 (xput (xput (xput hc 19 4 ((hc 19 4) - (hc 4 a1.toNatClampNeg))) 22 (hc 19 7).toNatClampNeg a1) 23 (hc 19 7).toNatClampNeg (hc 19 5)) hr xs g L c z)) ?_ 6 (by rfl)
    obtain ⟨g5, H⟩ := xgd_some H
    refine Ex.gputC (pc := 68) (k := 24) (n := 6) (i := (hc 19 7)) (v := ((hc 19 4) - (hc 4 a1.toNatClampNeg))) (ls := [some (.ref 19), some (.int a1), some (.int (hc 4 a1.toNatClampNeg)), none]) (st := []) (hc := (xput (xput (xput hc 19 4 ((hc 19 4) - (hc 4 a1.toNatClampNeg))) 22 (hc 19 7).toNatClampNeg a1) 23 (hc 19 7).toNatClampNeg (hc 19 5))) ?_ (by rfl) g5 (by rfl)
    refine Ex.many (f' := (75, [some (.ref 19), some (.int a1), some (.int (hc 4 a1.toNatClampNeg)), none], [.int ((hc 19 7) + (1 : Int32)), .ref 19], xSt xG0 (xput (xput (xput (xput hc 19 4 ((hc 19 4) - (hc 4 a1.toNatClampNeg))) 22 (hc 19 7).toNatClampNeg a1) 23 (hc 19 7).toNatClampNeg (hc 19 5)) 24 (hc 19 7).toNatClampNeg ((hc 19 4) - (hc 4 a1.toNatClampNeg))) hr xs g L c z)) ?_ 5 (by rfl)
    refine Ex.putC (pc := 78) (k := 19) (j := 7) (v := ((hc 19 7) + (1 : Int32))) (ls := [some (.ref 19), some (.int a1), some (.int (hc 4 a1.toNatClampNeg)), none]) (st := []) (hc := (xput (xput (xput (xput hc 19 4 ((hc 19 4) - (hc 4 a1.toNatClampNeg))) 22 (hc 19 7).toNatClampNeg a1) 23 (hc 19 7).toNatClampNeg (hc 19 5)) 24 (hc 19 7).toNatClampNeg ((hc 19 4) - (hc 4 a1.toNatClampNeg)))) ?_ (by rfl) (by rfl)
    refine Ex.many (f' := (80, [some (.ref 19), some (.int a1), some (.int (hc 4 a1.toNatClampNeg)), none], [.int (0 : Int32), .ref 19], xSt xG0 (xput (xput (xput (xput (xput hc 19 4 ((hc 19 4) - (hc 4 a1.toNatClampNeg))) 22 (hc 19 7).toNatClampNeg a1) 23 (hc 19 7).toNatClampNeg (hc 19 5)) 24 (hc 19 7).toNatClampNeg ((hc 19 4) - (hc 4 a1.toNatClampNeg))) 19 7 ((hc 19 7) + (1 : Int32))) hr xs g L c z)) ?_ 2 (by rfl)
    refine Ex.call (mk := 28) (vs := [.ref 19, .int (0 : Int32)]) (rest := []) (by rfl) (by rfl) (Ex.up (T_h_localPlace (0 : Int32) (xput (xput (xput (xput (xput hc 19 4 ((hc 19 4) - (hc 4 a1.toNatClampNeg))) 22 (hc 19 7).toNatClampNeg a1) 23 (hc 19 7).toNatClampNeg (hc 19 5)) 24 (hc 19 7).toNatClampNeg ((hc 19 4) - (hc 4 a1.toNatClampNeg))) 19 7 ((hc 19 7) + (1 : Int32))) _ rfl) (by decide)) (xbb c z) ?_
    show Ex _ _ (83, [some (.ref 19), some (.int a1), some (.int (hc 4 a1.toNatClampNeg)), none], [.int (f_h_localPlace (0 : Int32) (xput (xput (xput (xput (xput hc 19 4 ((hc 19 4) - (hc 4 a1.toNatClampNeg))) 22 (hc 19 7).toNatClampNeg a1) 23 (hc 19 7).toNatClampNeg (hc 19 5)) 24 (hc 19 7).toNatClampNeg ((hc 19 4) - (hc 4 a1.toNatClampNeg))) 19 7 ((hc 19 7) + (1 : Int32))))], xSt xG0 (xput (xput (xput (xput (xput hc 19 4 ((hc 19 4) - (hc 4 a1.toNatClampNeg))) 22 (hc 19 7).toNatClampNeg a1) 23 (hc 19 7).toNatClampNeg (hc 19 5)) 24 (hc 19 7).toNatClampNeg ((hc 19 4) - (hc 4 a1.toNatClampNeg))) 19 7 ((hc 19 7) + (1 : Int32))) hr xs g L c z) _
    refine Ex.many (f' := (84, [some (.ref 19), some (.int a1), some (.int (hc 4 a1.toNatClampNeg)), some (.int (f_h_localPlace (0 : Int32) (xput (xput (xput (xput (xput hc 19 4 ((hc 19 4) - (hc 4 a1.toNatClampNeg))) 22 (hc 19 7).toNatClampNeg a1) 23 (hc 19 7).toNatClampNeg (hc 19 5)) 24 (hc 19 7).toNatClampNeg ((hc 19 4) - (hc 4 a1.toNatClampNeg))) 19 7 ((hc 19 7) + (1 : Int32)))))], [], xSt xG0 (xput (xput (xput (xput (xput hc 19 4 ((hc 19 4) - (hc 4 a1.toNatClampNeg))) 22 (hc 19 7).toNatClampNeg a1) 23 (hc 19 7).toNatClampNeg (hc 19 5)) 24 (hc 19 7).toNatClampNeg ((hc 19 4) - (hc 4 a1.toNatClampNeg))) 19 7 ((hc 19 7) + (1 : Int32))) hr xs g L c z)) ?_ 1 (by rfl)
    exact T_h_enter_84 a1 (hc 4 a1.toNatClampNeg) (f_h_localPlace (0 : Int32) (xput (xput (xput (xput (xput hc 19 4 ((hc 19 4) - (hc 4 a1.toNatClampNeg))) 22 (hc 19 7).toNatClampNeg a1) 23 (hc 19 7).toNatClampNeg (hc 19 5)) 24 (hc 19 7).toNatClampNeg ((hc 19 4) - (hc 4 a1.toNatClampNeg))) 19 7 ((hc 19 7) + (1 : Int32)))) (xput (xput (xput (xput (xput hc 19 4 ((hc 19 4) - (hc 4 a1.toNatClampNeg))) 22 (hc 19 7).toNatClampNeg a1) 23 (hc 19 7).toNatClampNeg (hc 19 5)) 24 (hc 19 7).toNatClampNeg ((hc 19 4) - (hc 4 a1.toNatClampNeg))) 19 7 ((hc 19 7) + (1 : Int32))) r H
def f_h_control (a1 : Int32) (a2 : Int32) (hc : xI) : Option (Int32 × xI) :=
  if a1 = (0 : Int32) then (some ((1 : Int32), hc)) else (if a1 = (4 : Int32) then ((f_h_pop hc).bind fun q3 => if q3.1 = 0 then ((f_h_passOver a2 q3.2).bind fun q5 => some (q5.1, q5.2)) else (some ((0 : Int32), q3.2))) else (if a1 = (5 : Int32) then (xgd a2 240 (some ((0 : Int32), (xput hc 19 5 (hc 7 a2.toNatClampNeg))))) else (if a1 = (11 : Int32) then (xgd ((hc 19 7) - (1 : Int32)) 6 (xgd (hc 22 ((hc 19 7) - (1 : Int32)).toNatClampNeg) 6 (if (hc 19 5) = (hc 3 (hc 22 ((hc 19 7) - (1 : Int32)).toNatClampNeg).toNatClampNeg) then ((f_h_leave hc).bind fun q12 => some (q12.1, q12.2)) else (some ((0 : Int32), hc))))) else (if a1 = (12 : Int32) then ((f_h_branch (a2 + (1 : Int32)) hc).bind fun q14 => some (q14.1, q14.2)) else (if a1 = (13 : Int32) then ((f_h_pop hc).bind fun q16 => if q16.1 = 0 then (some ((0 : Int32), q16.2)) else ((f_h_branch (a2 + (1 : Int32)) q16.2).bind fun q18 => some (q18.1, q18.2))) else (if a1 = (14 : Int32) then ((f_h_pop hc).bind fun q20 => xgd (a2 + (1 : Int32)) 240 ((f_h_branch ((a2 + (2 : Int32)) + (f_h_chosen q20.1 (q20.2 2 (a2 + (1 : Int32)).toNatClampNeg))) q20.2).bind fun q23 => some (q23.1, q23.2))) else (if a1 = (15 : Int32) then ((f_h_leave hc).bind fun q25 => some (q25.1, q25.2)) else (if a1 = (16 : Int32) then (xgd (a2 + (1 : Int32)) 240 ((f_h_enter (hc 2 (a2 + (1 : Int32)).toNatClampNeg) hc).bind fun q28 => some (q28.1, q28.2))) else (some ((0 : Int32), hc))))))))))
theorem T_h_control {hr : xI} {g : xJ} {xs : Nat → Int32} {L c z : Nat} (a1 : Int32) (a2 : Int32) (hc : xI) (r : (Int32 × xI)) (H : f_h_control a1 a2 hc = some r) : Ex 4 18 (0, [some (.ref 19), some (.int a1), some (.int a2)], [], xSt xG0 hc hr xs g L c z) (.inl (some (.int r.1)), xSt xG0 r.2 hr xs g L c z) := by
  unfold f_h_control at H
  refine Ex.many (f' := (1, [some (.ref 19), some (.int a1), some (.int a2)], [.int a1], xSt xG0 hc hr xs g L c z)) ?_ 1 (by rfl)
  by_cases q1 : a1 = (0 : Int32)
  · replace H := (if_pos q1).symm.trans H
    refine Ex.sw (t := 84) (ls := [some (.ref 19), some (.int a1), some (.int a2)]) (st := []) (S := xSt xG0 hc hr xs g L c z) ?_ (by rfl) (by rw [q1]; rfl)
    refine Ex.many (f' := (85, [none, none, none], [.int (1 : Int32)], xSt xG0 hc hr xs g L c z)) ?_ 1 (by rfl)
    replace H := Option.some.inj H
    subst H
    exact Ex.done (by rfl)
  · replace H := (if_neg q1).symm.trans H
    by_cases q2 : a1 = (4 : Int32)
    · replace H := (if_pos q2).symm.trans H
      refine Ex.sw (t := 86) (ls := [some (.ref 19), some (.int a1), some (.int a2)]) (st := []) (S := xSt xG0 hc hr xs g L c z) ?_ (by rfl) (by rw [q2]; rfl)
      refine Ex.many (f' := (87, [some (.ref 19), none, some (.int a2)], [.ref 19], xSt xG0 hc hr xs g L c z)) ?_ 1 (by rfl)
      obtain ⟨q3, hq3, H⟩ := xbd H
      refine Ex.call (mk := 19) (vs := [.ref 19]) (rest := []) (by rfl) (by rfl) (Ex.up (T_h_pop hc q3 hq3) (by decide)) (xbb c z) ?_
      show Ex _ _ (90, [some (.ref 19), none, some (.int a2)], [.int q3.1], xSt xG0 q3.2 hr xs g L c z) _
      refine Ex.ite (ls := [some (.ref 19), none, some (.int a2)]) (st := []) (S := xSt xG0 q3.2 hr xs g L c z) (by rfl) (fun q4 => ?_) (fun q4 => ?_)
      · replace H := (if_pos q4).symm.trans H
        refine Ex.many (f' := (99, [some (.ref 19), none, some (.int a2)], [.int a2, .ref 19], xSt xG0 q3.2 hr xs g L c z)) ?_ 2 (by rfl)
        obtain ⟨q5, hq5, H⟩ := xbd H
        refine Ex.call (mk := 20) (vs := [.ref 19, .int a2]) (rest := []) (by rfl) (by rfl) (Ex.up (T_h_passOver a2 q3.2 q5 hq5) (by decide)) (xbb c z) ?_
        show Ex _ _ (102, [some (.ref 19), none, some (.int a2)], [.int q5.1], xSt xG0 q5.2 hr xs g L c z) _
        replace H := Option.some.inj H
        subst H
        exact Ex.done (by rfl)
      · replace H := (if_neg q4).symm.trans H
        refine Ex.many (f' := (102, [none, none, none], [.int (0 : Int32)], xSt xG0 q3.2 hr xs g L c z)) ?_ 2 (by rfl)
        replace H := Option.some.inj H
        subst H
        exact Ex.done (by rfl)
    · replace H := (if_neg q2).symm.trans H
      by_cases q6 : a1 = (5 : Int32)
      · replace H := (if_pos q6).symm.trans H
        refine Ex.sw (t := 103) (ls := [some (.ref 19), some (.int a1), some (.int a2)]) (st := []) (S := xSt xG0 hc hr xs g L c z) ?_ (by rfl) (by rw [q6]; rfl)
        refine Ex.many (f' := (112, [some (.ref 19), none, some (.int a2)], [.int a2, .ref 7, .ref 19], xSt xG0 hc hr xs g L c z)) ?_ 5 (by rfl)
        obtain ⟨g7, H⟩ := xgd_some H
        refine Ex.guard (f' := (113, [some (.ref 19), none, some (.int a2)], [.int (hc 7 a2.toNatClampNeg), .ref 19], xSt xG0 hc hr xs g L c z)) (by rfl) g7 ?_
        refine Ex.putC (pc := 116) (k := 19) (j := 5) (v := (hc 7 a2.toNatClampNeg)) (ls := [some (.ref 19), none, some (.int a2)]) (st := []) (hc := hc) ?_ (by rfl) (by rfl)
        refine Ex.many (f' := (117, [some (.ref 19), none, some (.int a2)], [.int (0 : Int32)], xSt xG0 (xput hc 19 5 (hc 7 a2.toNatClampNeg)) hr xs g L c z)) ?_ 1 (by rfl)
        replace H := Option.some.inj H
        subst H
        exact Ex.done (by rfl)
      · replace H := (if_neg q6).symm.trans H
        by_cases q8 : a1 = (11 : Int32)
        · replace H := (if_pos q8).symm.trans H
          refine Ex.sw (t := 118) (ls := [some (.ref 19), some (.int a1), some (.int a2)]) (st := []) (S := xSt xG0 hc hr xs g L c z) ?_ (by rfl) (by rw [q8]; rfl)
          refine Ex.many (f' := (139, [some (.ref 19), none, none], [.int ((hc 19 7) - (1 : Int32)), .ref 22, .ref 3, .int (hc 19 5)], xSt xG0 hc hr xs g L c z)) ?_ 11 (by rfl)
          obtain ⟨g9, H⟩ := xgd_some H
          refine Ex.guard (f' := (140, [some (.ref 19), none, none], [.int (hc 22 ((hc 19 7) - (1 : Int32)).toNatClampNeg), .ref 3, .int (hc 19 5)], xSt xG0 hc hr xs g L c z)) (by rfl) g9 ?_
          obtain ⟨g10, H⟩ := xgd_some H
          refine Ex.guard (f' := (141, [some (.ref 19), none, none], [.int (hc 3 (hc 22 ((hc 19 7) - (1 : Int32)).toNatClampNeg).toNatClampNeg), .int (hc 19 5)], xSt xG0 hc hr xs g L c z)) (by rfl) g10 ?_
          refine Ex.ite (ls := [some (.ref 19), none, none]) (st := []) (S := xSt xG0 hc hr xs g L c z) (by rfl) (fun q11 => ?_) (fun q11 => ?_)
          · replace H := (if_pos q11).symm.trans H
            refine Ex.many (f' := (145, [some (.ref 19), none, none], [.ref 19], xSt xG0 hc hr xs g L c z)) ?_ 1 (by rfl)
            obtain ⟨q12, hq12, H⟩ := xbd H
            refine Ex.call (mk := 21) (vs := [.ref 19]) (rest := []) (by rfl) (by rfl) (Ex.up (T_h_leave hc q12 hq12) (by decide)) (xbb c z) ?_
            show Ex _ _ (148, [some (.ref 19), none, none], [.int q12.1], xSt xG0 q12.2 hr xs g L c z) _
            refine Ex.many (f' := (152, [none, none, none], [.int q12.1], xSt xG0 q12.2 hr xs g L c z)) ?_ 1 (by rfl)
            replace H := Option.some.inj H
            subst H
            exact Ex.done (by rfl)
          · replace H := (if_neg q11).symm.trans H
            refine Ex.many (f' := (152, [none, none, none], [.int (0 : Int32)], xSt xG0 hc hr xs g L c z)) ?_ 1 (by rfl)
            replace H := Option.some.inj H
            subst H
            exact Ex.done (by rfl)
        · replace H := (if_neg q8).symm.trans H
          by_cases q13 : a1 = (12 : Int32)
          · replace H := (if_pos q13).symm.trans H
            refine Ex.sw (t := 153) (ls := [some (.ref 19), some (.int a1), some (.int a2)]) (st := []) (S := xSt xG0 hc hr xs g L c z) ?_ (by rfl) (by rw [q13]; rfl)
            refine Ex.many (f' := (157, [some (.ref 19), none, some (.int a2)], [.int (a2 + (1 : Int32)), .ref 19], xSt xG0 hc hr xs g L c z)) ?_ 4 (by rfl)
            obtain ⟨q14, hq14, H⟩ := xbd H
            refine Ex.call (mk := 23) (vs := [.ref 19, .int (a2 + (1 : Int32))]) (rest := []) (by rfl) (by rfl) (Ex.up (T_h_branch (a2 + (1 : Int32)) hc q14 hq14) (by decide)) (xbb c z) ?_
            show Ex _ _ (160, [some (.ref 19), none, some (.int a2)], [.int q14.1], xSt xG0 q14.2 hr xs g L c z) _
            replace H := Option.some.inj H
            subst H
            exact Ex.done (by rfl)
          · replace H := (if_neg q13).symm.trans H
            by_cases q15 : a1 = (13 : Int32)
            · replace H := (if_pos q15).symm.trans H
              refine Ex.sw (t := 161) (ls := [some (.ref 19), some (.int a1), some (.int a2)]) (st := []) (S := xSt xG0 hc hr xs g L c z) ?_ (by rfl) (by rw [q15]; rfl)
              refine Ex.many (f' := (162, [some (.ref 19), none, some (.int a2)], [.ref 19], xSt xG0 hc hr xs g L c z)) ?_ 1 (by rfl)
              obtain ⟨q16, hq16, H⟩ := xbd H
              refine Ex.call (mk := 19) (vs := [.ref 19]) (rest := []) (by rfl) (by rfl) (Ex.up (T_h_pop hc q16 hq16) (by decide)) (xbb c z) ?_
              show Ex _ _ (165, [some (.ref 19), none, some (.int a2)], [.int q16.1], xSt xG0 q16.2 hr xs g L c z) _
              refine Ex.ite (ls := [some (.ref 19), none, some (.int a2)]) (st := []) (S := xSt xG0 q16.2 hr xs g L c z) (by rfl) (fun q17 => ?_) (fun q17 => ?_)
              · replace H := (if_pos q17).symm.trans H
                refine Ex.many (f' := (179, [none, none, none], [.int (0 : Int32)], xSt xG0 q16.2 hr xs g L c z)) ?_ 1 (by rfl)
                replace H := Option.some.inj H
                subst H
                exact Ex.done (by rfl)
              · replace H := (if_neg q17).symm.trans H
                refine Ex.many (f' := (172, [some (.ref 19), none, some (.int a2)], [.int (a2 + (1 : Int32)), .ref 19], xSt xG0 q16.2 hr xs g L c z)) ?_ 4 (by rfl)
                obtain ⟨q18, hq18, H⟩ := xbd H
                refine Ex.call (mk := 23) (vs := [.ref 19, .int (a2 + (1 : Int32))]) (rest := []) (by rfl) (by rfl) (Ex.up (T_h_branch (a2 + (1 : Int32)) q16.2 q18 hq18) (by decide)) (xbb c z) ?_
                show Ex _ _ (175, [some (.ref 19), none, some (.int a2)], [.int q18.1], xSt xG0 q18.2 hr xs g L c z) _
                refine Ex.many (f' := (179, [none, none, none], [.int q18.1], xSt xG0 q18.2 hr xs g L c z)) ?_ 1 (by rfl)
                replace H := Option.some.inj H
                subst H
                exact Ex.done (by rfl)
            · replace H := (if_neg q15).symm.trans H
              by_cases q19 : a1 = (14 : Int32)
              · replace H := (if_pos q19).symm.trans H
                refine Ex.sw (t := 180) (ls := [some (.ref 19), some (.int a1), some (.int a2)]) (st := []) (S := xSt xG0 hc hr xs g L c z) ?_ (by rfl) (by rw [q19]; rfl)
                refine Ex.many (f' := (185, [some (.ref 19), none, some (.int a2)], [.ref 19, .int (a2 + (2 : Int32)), .ref 19], xSt xG0 hc hr xs g L c z)) ?_ 5 (by rfl)
                obtain ⟨q20, hq20, H⟩ := xbd H
                refine Ex.call (mk := 19) (vs := [.ref 19]) (rest := [.int (a2 + (2 : Int32)), .ref 19]) (by rfl) (by rfl) (Ex.up (T_h_pop hc q20 hq20) (by decide)) (xbb c z) ?_
                show Ex _ _ (188, [some (.ref 19), none, some (.int a2)], [.int q20.1, .int (a2 + (2 : Int32)), .ref 19], xSt xG0 q20.2 hr xs g L c z) _
                refine Ex.many (f' := (198, [some (.ref 19), none, some (.int a2)], [.int (a2 + (1 : Int32)), .ref 2, .int q20.1, .int (a2 + (2 : Int32)), .ref 19], xSt xG0 q20.2 hr xs g L c z)) ?_ 6 (by rfl)
                obtain ⟨g21, H⟩ := xgd_some H
                refine Ex.guard (f' := (199, [some (.ref 19), none, some (.int a2)], [.int (q20.2 2 (a2 + (1 : Int32)).toNatClampNeg), .int q20.1, .int (a2 + (2 : Int32)), .ref 19], xSt xG0 q20.2 hr xs g L c z)) (by rfl) g21 ?_
                refine Ex.call (mk := 24) (vs := [.int q20.1, .int (q20.2 2 (a2 + (1 : Int32)).toNatClampNeg)]) (rest := [.int (a2 + (2 : Int32)), .ref 19]) (by rfl) (by rfl) (Ex.up (T_h_chosen q20.1 (q20.2 2 (a2 + (1 : Int32)).toNatClampNeg) _ rfl) (by decide)) (xbb c z) ?_
                show Ex _ _ (202, [some (.ref 19), none, some (.int a2)], [.int (f_h_chosen q20.1 (q20.2 2 (a2 + (1 : Int32)).toNatClampNeg)), .int (a2 + (2 : Int32)), .ref 19], xSt xG0 q20.2 hr xs g L c z) _
                refine Ex.many (f' := (203, [none, none, none], [.int ((a2 + (2 : Int32)) + (f_h_chosen q20.1 (q20.2 2 (a2 + (1 : Int32)).toNatClampNeg))), .ref 19], xSt xG0 q20.2 hr xs g L c z)) ?_ 1 (by rfl)
                obtain ⟨q23, hq23, H⟩ := xbd H
                refine Ex.call (mk := 23) (vs := [.ref 19, .int ((a2 + (2 : Int32)) + (f_h_chosen q20.1 (q20.2 2 (a2 + (1 : Int32)).toNatClampNeg)))]) (rest := []) (by rfl) (by rfl) (Ex.up (T_h_branch ((a2 + (2 : Int32)) + (f_h_chosen q20.1 (q20.2 2 (a2 + (1 : Int32)).toNatClampNeg))) q20.2 q23 hq23) (by decide)) (xbb c z) ?_
                show Ex _ _ (206, [none, none, none], [.int q23.1], xSt xG0 q23.2 hr xs g L c z) _
                replace H := Option.some.inj H
                subst H
                exact Ex.done (by rfl)
              · replace H := (if_neg q19).symm.trans H
                by_cases q24 : a1 = (15 : Int32)
                · replace H := (if_pos q24).symm.trans H
                  refine Ex.sw (t := 207) (ls := [some (.ref 19), some (.int a1), some (.int a2)]) (st := []) (S := xSt xG0 hc hr xs g L c z) ?_ (by rfl) (by rw [q24]; rfl)
                  refine Ex.many (f' := (208, [some (.ref 19), none, none], [.ref 19], xSt xG0 hc hr xs g L c z)) ?_ 1 (by rfl)
                  obtain ⟨q25, hq25, H⟩ := xbd H
                  refine Ex.call (mk := 21) (vs := [.ref 19]) (rest := []) (by rfl) (by rfl) (Ex.up (T_h_leave hc q25 hq25) (by decide)) (xbb c z) ?_
                  show Ex _ _ (211, [some (.ref 19), none, none], [.int q25.1], xSt xG0 q25.2 hr xs g L c z) _
                  replace H := Option.some.inj H
                  subst H
                  exact Ex.done (by rfl)
                · replace H := (if_neg q24).symm.trans H
                  by_cases q26 : a1 = (16 : Int32)
                  · replace H := (if_pos q26).symm.trans H
                    refine Ex.sw (t := 212) (ls := [some (.ref 19), some (.int a1), some (.int a2)]) (st := []) (S := xSt xG0 hc hr xs g L c z) ?_ (by rfl) (by rw [q26]; rfl)
                    refine Ex.many (f' := (223, [some (.ref 19), none, some (.int a2)], [.int (a2 + (1 : Int32)), .ref 2, .ref 19], xSt xG0 hc hr xs g L c z)) ?_ 7 (by rfl)
                    obtain ⟨g27, H⟩ := xgd_some H
                    refine Ex.guard (f' := (224, [some (.ref 19), none, some (.int a2)], [.int (hc 2 (a2 + (1 : Int32)).toNatClampNeg), .ref 19], xSt xG0 hc hr xs g L c z)) (by rfl) g27 ?_
                    obtain ⟨q28, hq28, H⟩ := xbd H
                    refine Ex.call (mk := 27) (vs := [.ref 19, .int (hc 2 (a2 + (1 : Int32)).toNatClampNeg)]) (rest := []) (by rfl) (by rfl) (Ex.up (T_h_enter (hc 2 (a2 + (1 : Int32)).toNatClampNeg) hc q28 hq28) (by decide)) (xbb c z) ?_
                    show Ex _ _ (227, [some (.ref 19), none, some (.int a2)], [.int q28.1], xSt xG0 q28.2 hr xs g L c z) _
                    replace H := Option.some.inj H
                    subst H
                    exact Ex.done (by rfl)
                  · replace H := (if_neg q26).symm.trans H
                    refine Ex.sw (t := 228) (ls := [some (.ref 19), some (.int a1), some (.int a2)]) (st := []) (S := xSt xG0 hc hr xs g L c z) ?_ (by rfl) (xtsw_d [(0 : Int32), (4 : Int32), (5 : Int32), (11 : Int32), (12 : Int32), (13 : Int32), (14 : Int32), (15 : Int32), (16 : Int32)] (by decide +kernel) (by decide +kernel) (List.forall_mem_cons.mpr ⟨fun e => q1 e, (List.forall_mem_cons.mpr ⟨fun e => q2 e, (List.forall_mem_cons.mpr ⟨fun e => q6 e, (List.forall_mem_cons.mpr ⟨fun e => q8 e, (List.forall_mem_cons.mpr ⟨fun e => q13 e, (List.forall_mem_cons.mpr ⟨fun e => q15 e, (List.forall_mem_cons.mpr ⟨fun e => q19 e, (List.forall_mem_cons.mpr ⟨fun e => q24 e, (List.forall_mem_cons.mpr ⟨fun e => q26 e, (fun _ h => absurd h List.not_mem_nil)⟩)⟩)⟩)⟩)⟩)⟩)⟩)⟩)⟩))
                    refine Ex.many (f' := (229, [none, none, none], [.int (0 : Int32)], xSt xG0 hc hr xs g L c z)) ?_ 1 (by rfl)
                    replace H := Option.some.inj H
                    subst H
                    exact Ex.done (by rfl)
def f_h_step (hc : xI) : Option (Int32 × xI) :=
  xgd (hc 19 5) 240 ((f_c_sizeAt (hc 19 5) hc).bind fun q2 => if (16 : Int32) < (hc 2 (hc 19 5).toNatClampNeg) then (if (36 : Int32) < (hc 2 (hc 19 5).toNatClampNeg) then (if (64 : Int32) < (hc 2 (hc 19 5).toNatClampNeg) then (if (hc 2 (hc 19 5).toNatClampNeg) = (65 : Int32) then (xgd ((hc 19 5) + (1 : Int32)) 240 ((f_h_push (hc 2 ((hc 19 5) + (1 : Int32)).toNatClampNeg) (xput hc 19 5 ((hc 19 5) + q2))).bind fun q8 => some (q8.1, q8.2))) else ((f_h_calculate (hc 2 (hc 19 5).toNatClampNeg) (xput hc 19 5 ((hc 19 5) + q2))).bind fun q9 => some (q9.1, q9.2))) else ((f_h_useMemory (hc 2 (hc 19 5).toNatClampNeg) (hc 19 5) (xput hc 19 5 ((hc 19 5) + q2))).bind fun q10 => some (q10.1, q10.2))) else ((f_h_move (hc 2 (hc 19 5).toNatClampNeg) (hc 19 5) (xput hc 19 5 ((hc 19 5) + q2))).bind fun q11 => some (q11.1, q11.2))) else ((f_h_control (hc 2 (hc 19 5).toNatClampNeg) (hc 19 5) (xput hc 19 5 ((hc 19 5) + q2))).bind fun q12 => some (q12.1, q12.2)))
theorem T_h_step {hr : xI} {g : xJ} {xs : Nat → Int32} {L c z : Nat} (hc : xI) (r : (Int32 × xI)) (H : f_h_step hc = some r) : Ex 5 14 (0, [some (.ref 19), none, none], [], xSt xG0 hc hr xs g L c z) (.inl (some (.int r.1)), xSt xG0 r.2 hr xs g L c z) := by
  unfold f_h_step at H
  refine Ex.many (f' := (13, [some (.ref 19), some (.int (hc 19 5)), none], [.int (hc 19 5), .ref 2], xSt xG0 hc hr xs g L c z)) ?_ 7 (by rfl)
  obtain ⟨g1, H⟩ := xgd_some H
  refine Ex.guard (f' := (14, [some (.ref 19), some (.int (hc 19 5)), none], [.int (hc 2 (hc 19 5).toNatClampNeg)], xSt xG0 hc hr xs g L c z)) (by rfl) g1 ?_
  refine Ex.many (f' := (22, [some (.ref 19), some (.int (hc 19 5)), some (.int (hc 2 (hc 19 5).toNatClampNeg))], [.int (hc 19 5), .ref 1, .int (hc 19 5), .ref 19], xSt xG0 hc hr xs g L c z)) ?_ 6 (by rfl)
  obtain ⟨q2, hq2, H⟩ := xbd H
  refine Ex.call (mk := 15) (vs := [.ref 1, .int (hc 19 5)]) (rest := [.int (hc 19 5), .ref 19]) (by rfl) (by rfl) (Ex.up (T_c_sizeAt (hc 19 5) hc q2 hq2) (by decide)) (xbb c z) ?_
  show Ex _ _ (25, [some (.ref 19), some (.int (hc 19 5)), some (.int (hc 2 (hc 19 5).toNatClampNeg))], [.int q2, .int (hc 19 5), .ref 19], xSt xG0 hc hr xs g L c z) _
  refine Ex.many (f' := (26, [some (.ref 19), some (.int (hc 19 5)), some (.int (hc 2 (hc 19 5).toNatClampNeg))], [.int ((hc 19 5) + q2), .ref 19], xSt xG0 hc hr xs g L c z)) ?_ 1 (by rfl)
  refine Ex.putC (pc := 29) (k := 19) (j := 5) (v := ((hc 19 5) + q2)) (ls := [some (.ref 19), some (.int (hc 19 5)), some (.int (hc 2 (hc 19 5).toNatClampNeg))]) (st := []) (hc := hc) ?_ (by rfl) (by rfl)
  refine Ex.many (f' := (32, [some (.ref 19), some (.int (hc 19 5)), some (.int (hc 2 (hc 19 5).toNatClampNeg))], [.int (16 : Int32), .int (hc 2 (hc 19 5).toNatClampNeg)], xSt xG0 (xput hc 19 5 ((hc 19 5) + q2)) hr xs g L c z)) ?_ 2 (by rfl)
  refine Ex.ite (ls := [some (.ref 19), some (.int (hc 19 5)), some (.int (hc 2 (hc 19 5).toNatClampNeg))]) (st := []) (S := xSt xG0 (xput hc 19 5 ((hc 19 5) + q2)) hr xs g L c z) (by rfl) (fun q3 => ?_) (fun q3 => ?_)
  · replace H := (if_pos q3).symm.trans H
    refine Ex.many (f' := (45, [some (.ref 19), some (.int (hc 19 5)), some (.int (hc 2 (hc 19 5).toNatClampNeg))], [.int (36 : Int32), .int (hc 2 (hc 19 5).toNatClampNeg)], xSt xG0 (xput hc 19 5 ((hc 19 5) + q2)) hr xs g L c z)) ?_ 2 (by rfl)
    refine Ex.ite (ls := [some (.ref 19), some (.int (hc 19 5)), some (.int (hc 2 (hc 19 5).toNatClampNeg))]) (st := []) (S := xSt xG0 (xput hc 19 5 ((hc 19 5) + q2)) hr xs g L c z) (by rfl) (fun q4 => ?_) (fun q4 => ?_)
    · replace H := (if_pos q4).symm.trans H
      refine Ex.many (f' := (58, [some (.ref 19), some (.int (hc 19 5)), some (.int (hc 2 (hc 19 5).toNatClampNeg))], [.int (64 : Int32), .int (hc 2 (hc 19 5).toNatClampNeg)], xSt xG0 (xput hc 19 5 ((hc 19 5) + q2)) hr xs g L c z)) ?_ 2 (by rfl)
      refine Ex.ite (ls := [some (.ref 19), some (.int (hc 19 5)), some (.int (hc 2 (hc 19 5).toNatClampNeg))]) (st := []) (S := xSt xG0 (xput hc 19 5 ((hc 19 5) + q2)) hr xs g L c z) (by rfl) (fun q5 => ?_) (fun q5 => ?_)
      · replace H := (if_pos q5).symm.trans H
        refine Ex.many (f' := (71, [some (.ref 19), some (.int (hc 19 5)), some (.int (hc 2 (hc 19 5).toNatClampNeg))], [.int (65 : Int32), .int (hc 2 (hc 19 5).toNatClampNeg)], xSt xG0 (xput hc 19 5 ((hc 19 5) + q2)) hr xs g L c z)) ?_ 2 (by rfl)
        refine Ex.ite (ls := [some (.ref 19), some (.int (hc 19 5)), some (.int (hc 2 (hc 19 5).toNatClampNeg))]) (st := []) (S := xSt xG0 (xput hc 19 5 ((hc 19 5) + q2)) hr xs g L c z) (by rfl) (fun q6 => ?_) (fun q6 => ?_)
        · replace H := (if_pos q6).symm.trans H
          refine Ex.many (f' := (85, [some (.ref 19), some (.int (hc 19 5)), none], [.int ((hc 19 5) + (1 : Int32)), .ref 2, .ref 19], xSt xG0 (xput hc 19 5 ((hc 19 5) + q2)) hr xs g L c z)) ?_ 7 (by rfl)
          obtain ⟨g7, H⟩ := xgd_some H
          refine Ex.guard (f' := (86, [some (.ref 19), some (.int (hc 19 5)), none], [.int (hc 2 ((hc 19 5) + (1 : Int32)).toNatClampNeg), .ref 19], xSt xG0 (xput hc 19 5 ((hc 19 5) + q2)) hr xs g L c z)) (by rfl) g7 ?_
          obtain ⟨q8, hq8, H⟩ := xbd H
          refine Ex.call (mk := 34) (vs := [.ref 19, .int (hc 2 ((hc 19 5) + (1 : Int32)).toNatClampNeg)]) (rest := []) (by rfl) (by rfl) (Ex.up (T_h_push (hc 2 ((hc 19 5) + (1 : Int32)).toNatClampNeg) (xput hc 19 5 ((hc 19 5) + q2)) q8 hq8) (by decide)) (xbb c z) ?_
          show Ex _ _ (89, [some (.ref 19), some (.int (hc 19 5)), none], [.int q8.1], xSt xG0 q8.2 hr xs g L c z) _
          refine Ex.many (f' := (97, [none, none, none], [.int q8.1], xSt xG0 q8.2 hr xs g L c z)) ?_ 1 (by rfl)
          replace H := Option.some.inj H
          subst H
          exact Ex.done (by rfl)
        · replace H := (if_neg q6).symm.trans H
          refine Ex.many (f' := (94, [some (.ref 19), none, some (.int (hc 2 (hc 19 5).toNatClampNeg))], [.int (hc 2 (hc 19 5).toNatClampNeg), .ref 19], xSt xG0 (xput hc 19 5 ((hc 19 5) + q2)) hr xs g L c z)) ?_ 2 (by rfl)
          obtain ⟨q9, hq9, H⟩ := xbd H
          refine Ex.call (mk := 44) (vs := [.ref 19, .int (hc 2 (hc 19 5).toNatClampNeg)]) (rest := []) (by rfl) (by rfl) (Ex.up (T_h_calculate (hc 2 (hc 19 5).toNatClampNeg) (xput hc 19 5 ((hc 19 5) + q2)) q9 hq9) (by decide)) (xbb c z) ?_
          show Ex _ _ (97, [some (.ref 19), none, some (.int (hc 2 (hc 19 5).toNatClampNeg))], [.int q9.1], xSt xG0 q9.2 hr xs g L c z) _
          replace H := Option.some.inj H
          subst H
          exact Ex.done (by rfl)
      · replace H := (if_neg q5).symm.trans H
        refine Ex.many (f' := (64, [some (.ref 19), some (.int (hc 19 5)), some (.int (hc 2 (hc 19 5).toNatClampNeg))], [.int (hc 19 5), .int (hc 2 (hc 19 5).toNatClampNeg), .ref 19], xSt xG0 (xput hc 19 5 ((hc 19 5) + q2)) hr xs g L c z)) ?_ 3 (by rfl)
        obtain ⟨q10, hq10, H⟩ := xbd H
        refine Ex.call (mk := 35) (vs := [.ref 19, .int (hc 2 (hc 19 5).toNatClampNeg), .int (hc 19 5)]) (rest := []) (by rfl) (by rfl) (Ex.up (T_h_useMemory (hc 2 (hc 19 5).toNatClampNeg) (hc 19 5) (xput hc 19 5 ((hc 19 5) + q2)) q10 hq10) (by decide)) (xbb c z) ?_
        show Ex _ _ (67, [some (.ref 19), some (.int (hc 19 5)), some (.int (hc 2 (hc 19 5).toNatClampNeg))], [.int q10.1], xSt xG0 q10.2 hr xs g L c z) _
        replace H := Option.some.inj H
        subst H
        exact Ex.done (by rfl)
    · replace H := (if_neg q4).symm.trans H
      refine Ex.many (f' := (51, [some (.ref 19), some (.int (hc 19 5)), some (.int (hc 2 (hc 19 5).toNatClampNeg))], [.int (hc 19 5), .int (hc 2 (hc 19 5).toNatClampNeg), .ref 19], xSt xG0 (xput hc 19 5 ((hc 19 5) + q2)) hr xs g L c z)) ?_ 3 (by rfl)
      obtain ⟨q11, hq11, H⟩ := xbd H
      refine Ex.call (mk := 32) (vs := [.ref 19, .int (hc 2 (hc 19 5).toNatClampNeg), .int (hc 19 5)]) (rest := []) (by rfl) (by rfl) (Ex.up (T_h_move (hc 2 (hc 19 5).toNatClampNeg) (hc 19 5) (xput hc 19 5 ((hc 19 5) + q2)) q11 hq11) (by decide)) (xbb c z) ?_
      show Ex _ _ (54, [some (.ref 19), some (.int (hc 19 5)), some (.int (hc 2 (hc 19 5).toNatClampNeg))], [.int q11.1], xSt xG0 q11.2 hr xs g L c z) _
      replace H := Option.some.inj H
      subst H
      exact Ex.done (by rfl)
  · replace H := (if_neg q3).symm.trans H
    refine Ex.many (f' := (38, [some (.ref 19), some (.int (hc 19 5)), some (.int (hc 2 (hc 19 5).toNatClampNeg))], [.int (hc 19 5), .int (hc 2 (hc 19 5).toNatClampNeg), .ref 19], xSt xG0 (xput hc 19 5 ((hc 19 5) + q2)) hr xs g L c z)) ?_ 3 (by rfl)
    obtain ⟨q12, hq12, H⟩ := xbd H
    refine Ex.call (mk := 18) (vs := [.ref 19, .int (hc 2 (hc 19 5).toNatClampNeg), .int (hc 19 5)]) (rest := []) (by rfl) (by rfl) (Ex.up (T_h_control (hc 2 (hc 19 5).toNatClampNeg) (hc 19 5) (xput hc 19 5 ((hc 19 5) + q2)) q12 hq12) (by decide)) (xbb c z) ?_
    show Ex _ _ (41, [some (.ref 19), some (.int (hc 19 5)), some (.int (hc 2 (hc 19 5).toNatClampNeg))], [.int q12.1], xSt xG0 q12.2 hr xs g L c z) _
    replace H := Option.some.inj H
    subst H
    exact Ex.done (by rfl)
def f_w_heed (a1 : Int32) (hc : xI) : Option xI :=
  if a1 = (-1 : Int32) then (some (xput hc 0 6 (3 : Int32))) else (if a1 = 0 then (some hc) else (some (xput (xput hc 0 6 (4 : Int32)) 0 7 a1)))
theorem T_w_heed {hr : xI} {g : xJ} {xs : Nat → Int32} {L c z : Nat} (a1 : Int32) (hc : xI) (r : xI) (H : f_w_heed a1 hc = some r) : Ex 0 57 (0, [some (.ref 0), some (.int a1)], [], xSt xG0 hc hr xs g L c z) (.inl none, xSt xG0 r hr xs g L c z) := by
  unfold f_w_heed at H
  refine Ex.many (f' := (2, [some (.ref 0), some (.int a1)], [.int (-1 : Int32), .int a1], xSt xG0 hc hr xs g L c z)) ?_ 2 (by rfl)
  refine Ex.ite (ls := [some (.ref 0), some (.int a1)]) (st := []) (S := xSt xG0 hc hr xs g L c z) (by rfl) (fun q1 => ?_) (fun q1 => ?_)
  · replace H := (if_pos q1).symm.trans H
    refine Ex.many (f' := (7, [some (.ref 0), none], [.int (3 : Int32), .ref 0], xSt xG0 hc hr xs g L c z)) ?_ 2 (by rfl)
    refine Ex.putC (pc := 10) (k := 0) (j := 6) (v := (3 : Int32)) (ls := [some (.ref 0), none]) (st := []) (hc := hc) ?_ (by rfl) (by rfl)
    refine Ex.many (f' := (27, [some (.ref 0), none], [], xSt xG0 (xput hc 0 6 (3 : Int32)) hr xs g L c z)) ?_ 1 (by rfl)
    replace H := Option.some.inj H
    subst H
    exact Ex.done (by rfl)
  · replace H := (if_neg q1).symm.trans H
    refine Ex.many (f' := (14, [some (.ref 0), some (.int a1)], [.int a1], xSt xG0 hc hr xs g L c z)) ?_ 1 (by rfl)
    refine Ex.ite (ls := [some (.ref 0), some (.int a1)]) (st := []) (S := xSt xG0 hc hr xs g L c z) (by rfl) (fun q2 => ?_) (fun q2 => ?_)
    · replace H := (if_pos q2).symm.trans H
      replace H := Option.some.inj H
      subst H
      exact Ex.done (by rfl)
    · replace H := (if_neg q2).symm.trans H
      refine Ex.many (f' := (19, [some (.ref 0), some (.int a1)], [.int (4 : Int32), .ref 0], xSt xG0 hc hr xs g L c z)) ?_ 2 (by rfl)
      refine Ex.putC (pc := 22) (k := 0) (j := 6) (v := (4 : Int32)) (ls := [some (.ref 0), some (.int a1)]) (st := []) (hc := hc) ?_ (by rfl) (by rfl)
      refine Ex.many (f' := (24, [some (.ref 0), some (.int a1)], [.int a1, .ref 0], xSt xG0 (xput hc 0 6 (4 : Int32)) hr xs g L c z)) ?_ 2 (by rfl)
      refine Ex.putC (pc := 27) (k := 0) (j := 7) (v := a1) (ls := [some (.ref 0), some (.int a1)]) (st := []) (hc := (xput hc 0 6 (4 : Int32))) ?_ (by rfl) (by rfl)
      replace H := Option.some.inj H
      subst H
      exact Ex.done (by rfl)
def f_w_run_15 : Nat → Int32 → Int32 → xI → Option (Int32 × xI)
  | 0, _, _, _ => none
  | n + 1, v1, v2, hc => if v1 ≤ v2 then (some (v2, hc)) else (if (hc 0 6) = (2 : Int32) then ((f_h_step hc).bind fun q3 => (f_w_heed q3.1 q3.2).bind fun q4 => f_w_run_15 n v1 (v2 + (1 : Int32)) q4) else (some (v2, hc)))
theorem T_w_run_15 {hr : xI} {g : xJ} {xs : Nat → Int32} {L c z : Nat} (n : Nat) : ∀ (v1 : Int32) (v2 : Int32) (hc : xI) (r : (Int32 × xI)), f_w_run_15 n v1 v2 hc = some r → Ex 6 13 (15, [some (.ref 0), some (.int v1), some (.int v2)], [], xSt xG0 hc hr xs g L c z) (.inl (some (.int r.1)), xSt xG0 r.2 hr xs g L c z) := by
  induction n with
  | zero =>
    intro v1 v2 hc r H
    unfold f_w_run_15 at H
    cases H
  | succ n ih =>
    intro v1 v2 hc r H
    unfold f_w_run_15 at H
    refine Ex.many (f' := (17, [some (.ref 0), some (.int v1), some (.int v2)], [.int v1, .int v2], xSt xG0 hc hr xs g L c z)) ?_ 2 (by rfl)
    refine Ex.ite (ls := [some (.ref 0), some (.int v1), some (.int v2)]) (st := []) (S := xSt xG0 hc hr xs g L c z) (by rfl) (fun q1 => ?_) (fun q1 => ?_)
    · replace H := (if_pos q1).symm.trans H
      refine Ex.many (f' := (46, [none, none, some (.int v2)], [.int v2], xSt xG0 hc hr xs g L c z)) ?_ 1 (by rfl)
      replace H := Option.some.inj H
      subst H
      exact Ex.done (by rfl)
    · replace H := (if_neg q1).symm.trans H
      refine Ex.many (f' := (25, [some (.ref 0), some (.int v1), some (.int v2)], [.int (2 : Int32), .int (hc 0 6)], xSt xG0 hc hr xs g L c z)) ?_ 3 (by rfl)
      refine Ex.ite (ls := [some (.ref 0), some (.int v1), some (.int v2)]) (st := []) (S := xSt xG0 hc hr xs g L c z) (by rfl) (fun q2 => ?_) (fun q2 => ?_)
      · replace H := (if_pos q2).symm.trans H
        refine Ex.many (f' := (33, [some (.ref 0), some (.int v1), some (.int v2)], [.ref 19, .ref 0], xSt xG0 hc hr xs g L c z)) ?_ 3 (by rfl)
        obtain ⟨q3, hq3, H⟩ := xbd H
        refine Ex.call (mk := 14) (vs := [.ref 19]) (rest := [.ref 0]) (by rfl) (by rfl) (Ex.up (T_h_step hc q3 hq3) (by decide)) (xbb c z) ?_
        show Ex _ _ (36, [some (.ref 0), some (.int v1), some (.int v2)], [.int q3.1, .ref 0], xSt xG0 q3.2 hr xs g L c z) _
        obtain ⟨q4, hq4, H⟩ := xbd H
        refine Ex.call (mk := 57) (vs := [.ref 0, .int q3.1]) (rest := []) (by rfl) (by rfl) (Ex.up (T_w_heed q3.1 q3.2 q4 hq4) (by decide)) (xbb c z) ?_
        show Ex _ _ (39, [some (.ref 0), some (.int v1), some (.int v2)], [], xSt xG0 q4 hr xs g L c z) _
        refine Ex.many (f' := (15, [some (.ref 0), some (.int v1), some (.int (v2 + (1 : Int32)))], [], xSt xG0 q4 hr xs g L c z)) ?_ 2 (by rfl)
        exact ih v1 (v2 + (1 : Int32)) q4 r H
      · replace H := (if_neg q2).symm.trans H
        refine Ex.many (f' := (46, [none, none, some (.int v2)], [.int v2], xSt xG0 hc hr xs g L c z)) ?_ 1 (by rfl)
        replace H := Option.some.inj H
        subst H
        exact Ex.done (by rfl)
def f_w_run (a1 : Int32) (hc : xI) : Option (Int32 × xI) :=
  if a1 < 0 then (some ((-1 : Int32), hc)) else (if a1 ≤ (500 : Int32) then (f_w_run_15 1000 a1 (0 : Int32) hc) else (some ((-1 : Int32), hc)))
theorem T_w_run {hr : xI} {g : xJ} {xs : Nat → Int32} {L c z : Nat} (a1 : Int32) (hc : xI) (r : (Int32 × xI)) (H : f_w_run a1 hc = some r) : Ex 6 13 (0, [some (.ref 0), some (.int a1), none], [], xSt xG0 hc hr xs g L c z) (.inl (some (.int r.1)), xSt xG0 r.2 hr xs g L c z) := by
  unfold f_w_run at H
  refine Ex.many (f' := (1, [some (.ref 0), some (.int a1), none], [.int a1], xSt xG0 hc hr xs g L c z)) ?_ 1 (by rfl)
  refine Ex.ite (ls := [some (.ref 0), some (.int a1), none]) (st := []) (S := xSt xG0 hc hr xs g L c z) (by rfl) (fun q1 => ?_) (fun q1 => ?_)
  · replace H := (if_pos q1).symm.trans H
    refine Ex.many (f' := (12, [none, none, none], [.int (-1 : Int32)], xSt xG0 hc hr xs g L c z)) ?_ 1 (by rfl)
    replace H := Option.some.inj H
    subst H
    exact Ex.done (by rfl)
  · replace H := (if_neg q1).symm.trans H
    refine Ex.many (f' := (8, [some (.ref 0), some (.int a1), none], [.int (500 : Int32), .int a1], xSt xG0 hc hr xs g L c z)) ?_ 2 (by rfl)
    refine Ex.ite (ls := [some (.ref 0), some (.int a1), none]) (st := []) (S := xSt xG0 hc hr xs g L c z) (by rfl) (fun q2 => ?_) (fun q2 => ?_)
    · replace H := (if_pos q2).symm.trans H
      refine Ex.many (f' := (15, [some (.ref 0), some (.int a1), some (.int (0 : Int32))], [], xSt xG0 hc hr xs g L c z)) ?_ 2 (by rfl)
      exact T_w_run_15 1000 a1 (0 : Int32) hc r H
    · replace H := (if_neg q2).symm.trans H
      refine Ex.many (f' := (12, [none, none, none], [.int (-1 : Int32)], xSt xG0 hc hr xs g L c z)) ?_ 1 (by rfl)
      replace H := Option.some.inj H
      subst H
      exact Ex.done (by rfl)
def f_w_stop (hc : xI) : Option (Int32 × xI) :=
  if (hc 0 6) = (2 : Int32) then (some ((1 : Int32), (xput hc 0 6 (1 : Int32)))) else (some ((0 : Int32), hc))
theorem T_w_stop {hr : xI} {g : xJ} {xs : Nat → Int32} {L c z : Nat} (hc : xI) (r : (Int32 × xI)) (H : f_w_stop hc = some r) : Ex 0 58 (0, [some (.ref 0)], [], xSt xG0 hc hr xs g L c z) (.inl (some (.int r.1)), xSt xG0 r.2 hr xs g L c z) := by
  unfold f_w_stop at H
  refine Ex.many (f' := (5, [some (.ref 0)], [.int (2 : Int32), .int (hc 0 6)], xSt xG0 hc hr xs g L c z)) ?_ 3 (by rfl)
  refine Ex.ite (ls := [some (.ref 0)]) (st := []) (S := xSt xG0 hc hr xs g L c z) (by rfl) (fun q1 => ?_) (fun q1 => ?_)
  · replace H := (if_pos q1).symm.trans H
    refine Ex.many (f' := (12, [some (.ref 0)], [.int (1 : Int32), .ref 0], xSt xG0 hc hr xs g L c z)) ?_ 2 (by rfl)
    refine Ex.putC (pc := 15) (k := 0) (j := 6) (v := (1 : Int32)) (ls := [some (.ref 0)]) (st := []) (hc := hc) ?_ (by rfl) (by rfl)
    refine Ex.many (f' := (16, [some (.ref 0)], [.int (1 : Int32)], xSt xG0 (xput hc 0 6 (1 : Int32)) hr xs g L c z)) ?_ 1 (by rfl)
    replace H := Option.some.inj H
    subst H
    exact Ex.done (by rfl)
  · replace H := (if_neg q1).symm.trans H
    refine Ex.many (f' := (9, [none], [.int (0 : Int32)], xSt xG0 hc hr xs g L c z)) ?_ 1 (by rfl)
    replace H := Option.some.inj H
    subst H
    exact Ex.done (by rfl)
def f_w_look_13 (v1 : Int32) (s0 : Int32) (hc : xI) : Int32 :=
  if v1 = (0 : Int32) then (hc 0 6) else (if v1 = (1 : Int32) then (if (hc 0 6) = (4 : Int32) then (hc 0 7) else (0 : Int32)) else (if v1 = (2 : Int32) then (if s0 = 0 then (-1 : Int32) else (hc 19 5)) else (if v1 = (3 : Int32) then (if s0 = 0 then (0 : Int32) else (hc 19 4)) else (if v1 = (4 : Int32) then (if s0 = 0 then (0 : Int32) else (hc 19 7)) else (if v1 = (5 : Int32) then (hc 11 1) else (if v1 = (6 : Int32) then (hc 1 1) else ((-1 : Int32))))))))
theorem T_w_look_13 {hr : xI} {g : xJ} {xs : Nat → Int32} {L c z : Nat} (v1 : Int32) (s0 : Int32) (hc : xI) (r : Int32) (H : f_w_look_13 v1 s0 hc = r) : Ex 0 59 (13, [some (.ref 0), some (.int v1), none], [.int s0], xSt xG0 hc hr xs g L c z) (.inl (some (.int r)), xSt xG0 hc hr xs g L c z) := by
  unfold f_w_look_13 at H
  refine Ex.many (f' := (15, [some (.ref 0), some (.int v1), some (.int s0)], [.int v1], xSt xG0 hc hr xs g L c z)) ?_ 2 (by rfl)
  by_cases q1 : v1 = (0 : Int32)
  · replace H := (if_pos q1).symm.trans H
    refine Ex.sw (t := 56) (ls := [some (.ref 0), some (.int v1), some (.int s0)]) (st := []) (S := xSt xG0 hc hr xs g L c z) ?_ (by rfl) (by rw [q1]; rfl)
    refine Ex.many (f' := (60, [some (.ref 0), none, none], [.int (hc 0 6)], xSt xG0 hc hr xs g L c z)) ?_ 2 (by rfl)
    skip
    subst H
    exact Ex.done (by rfl)
  · replace H := (if_neg q1).symm.trans H
    by_cases q2 : v1 = (1 : Int32)
    · replace H := (if_pos q2).symm.trans H
      refine Ex.sw (t := 61) (ls := [some (.ref 0), some (.int v1), some (.int s0)]) (st := []) (S := xSt xG0 hc hr xs g L c z) ?_ (by rfl) (by rw [q2]; rfl)
      refine Ex.many (f' := (66, [some (.ref 0), none, none], [.int (4 : Int32), .int (hc 0 6)], xSt xG0 hc hr xs g L c z)) ?_ 3 (by rfl)
      refine Ex.ite (ls := [some (.ref 0), none, none]) (st := []) (S := xSt xG0 hc hr xs g L c z) (by rfl) (fun q3 => ?_) (fun q3 => ?_)
      · replace H := (if_pos q3).symm.trans H
        refine Ex.many (f' := (77, [some (.ref 0), none, none], [.int (hc 0 7)], xSt xG0 hc hr xs g L c z)) ?_ 3 (by rfl)
        skip
        subst H
        exact Ex.done (by rfl)
      · replace H := (if_neg q3).symm.trans H
        refine Ex.many (f' := (77, [none, none, none], [.int (0 : Int32)], xSt xG0 hc hr xs g L c z)) ?_ 1 (by rfl)
        skip
        subst H
        exact Ex.done (by rfl)
    · replace H := (if_neg q2).symm.trans H
      by_cases q4 : v1 = (2 : Int32)
      · replace H := (if_pos q4).symm.trans H
        refine Ex.sw (t := 78) (ls := [some (.ref 0), some (.int v1), some (.int s0)]) (st := []) (S := xSt xG0 hc hr xs g L c z) ?_ (by rfl) (by rw [q4]; rfl)
        refine Ex.many (f' := (79, [some (.ref 0), none, some (.int s0)], [.int s0], xSt xG0 hc hr xs g L c z)) ?_ 1 (by rfl)
        refine Ex.ite (ls := [some (.ref 0), none, some (.int s0)]) (st := []) (S := xSt xG0 hc hr xs g L c z) (by rfl) (fun q5 => ?_) (fun q5 => ?_)
        · replace H := (if_pos q5).symm.trans H
          refine Ex.many (f' := (93, [none, none, none], [.int (-1 : Int32)], xSt xG0 hc hr xs g L c z)) ?_ 1 (by rfl)
          skip
          subst H
          exact Ex.done (by rfl)
        · replace H := (if_neg q5).symm.trans H
          refine Ex.many (f' := (93, [some (.ref 0), none, none], [.int (hc 19 5)], xSt xG0 hc hr xs g L c z)) ?_ 4 (by rfl)
          skip
          subst H
          exact Ex.done (by rfl)
      · replace H := (if_neg q4).symm.trans H
        by_cases q6 : v1 = (3 : Int32)
        · replace H := (if_pos q6).symm.trans H
          refine Ex.sw (t := 94) (ls := [some (.ref 0), some (.int v1), some (.int s0)]) (st := []) (S := xSt xG0 hc hr xs g L c z) ?_ (by rfl) (by rw [q6]; rfl)
          refine Ex.many (f' := (95, [some (.ref 0), none, some (.int s0)], [.int s0], xSt xG0 hc hr xs g L c z)) ?_ 1 (by rfl)
          refine Ex.ite (ls := [some (.ref 0), none, some (.int s0)]) (st := []) (S := xSt xG0 hc hr xs g L c z) (by rfl) (fun q7 => ?_) (fun q7 => ?_)
          · replace H := (if_pos q7).symm.trans H
            refine Ex.many (f' := (109, [none, none, none], [.int (0 : Int32)], xSt xG0 hc hr xs g L c z)) ?_ 1 (by rfl)
            skip
            subst H
            exact Ex.done (by rfl)
          · replace H := (if_neg q7).symm.trans H
            refine Ex.many (f' := (109, [some (.ref 0), none, none], [.int (hc 19 4)], xSt xG0 hc hr xs g L c z)) ?_ 4 (by rfl)
            skip
            subst H
            exact Ex.done (by rfl)
        · replace H := (if_neg q6).symm.trans H
          by_cases q8 : v1 = (4 : Int32)
          · replace H := (if_pos q8).symm.trans H
            refine Ex.sw (t := 110) (ls := [some (.ref 0), some (.int v1), some (.int s0)]) (st := []) (S := xSt xG0 hc hr xs g L c z) ?_ (by rfl) (by rw [q8]; rfl)
            refine Ex.many (f' := (111, [some (.ref 0), none, some (.int s0)], [.int s0], xSt xG0 hc hr xs g L c z)) ?_ 1 (by rfl)
            refine Ex.ite (ls := [some (.ref 0), none, some (.int s0)]) (st := []) (S := xSt xG0 hc hr xs g L c z) (by rfl) (fun q9 => ?_) (fun q9 => ?_)
            · replace H := (if_pos q9).symm.trans H
              refine Ex.many (f' := (125, [none, none, none], [.int (0 : Int32)], xSt xG0 hc hr xs g L c z)) ?_ 1 (by rfl)
              skip
              subst H
              exact Ex.done (by rfl)
            · replace H := (if_neg q9).symm.trans H
              refine Ex.many (f' := (125, [some (.ref 0), none, none], [.int (hc 19 7)], xSt xG0 hc hr xs g L c z)) ?_ 4 (by rfl)
              skip
              subst H
              exact Ex.done (by rfl)
          · replace H := (if_neg q8).symm.trans H
            by_cases q10 : v1 = (5 : Int32)
            · replace H := (if_pos q10).symm.trans H
              refine Ex.sw (t := 126) (ls := [some (.ref 0), some (.int v1), some (.int s0)]) (st := []) (S := xSt xG0 hc hr xs g L c z) ?_ (by rfl) (by rw [q10]; rfl)
              refine Ex.many (f' := (133, [some (.ref 0), none, none], [.int (hc 11 1)], xSt xG0 hc hr xs g L c z)) ?_ 3 (by rfl)
              skip
              subst H
              exact Ex.done (by rfl)
            · replace H := (if_neg q10).symm.trans H
              by_cases q11 : v1 = (6 : Int32)
              · replace H := (if_pos q11).symm.trans H
                refine Ex.sw (t := 134) (ls := [some (.ref 0), some (.int v1), some (.int s0)]) (st := []) (S := xSt xG0 hc hr xs g L c z) ?_ (by rfl) (by rw [q11]; rfl)
                refine Ex.many (f' := (141, [some (.ref 0), none, none], [.int (hc 1 1)], xSt xG0 hc hr xs g L c z)) ?_ 3 (by rfl)
                skip
                subst H
                exact Ex.done (by rfl)
              · replace H := (if_neg q11).symm.trans H
                refine Ex.sw (t := 142) (ls := [some (.ref 0), some (.int v1), some (.int s0)]) (st := []) (S := xSt xG0 hc hr xs g L c z) ?_ (by rfl) (xtsw_d [(0 : Int32), (1 : Int32), (2 : Int32), (3 : Int32), (4 : Int32), (5 : Int32), (6 : Int32)] (by decide +kernel) (by decide +kernel) (List.forall_mem_cons.mpr ⟨fun e => q1 e, (List.forall_mem_cons.mpr ⟨fun e => q2 e, (List.forall_mem_cons.mpr ⟨fun e => q4 e, (List.forall_mem_cons.mpr ⟨fun e => q6 e, (List.forall_mem_cons.mpr ⟨fun e => q8 e, (List.forall_mem_cons.mpr ⟨fun e => q10 e, (List.forall_mem_cons.mpr ⟨fun e => q11 e, (fun _ h => absurd h List.not_mem_nil)⟩)⟩)⟩)⟩)⟩)⟩)⟩))
                refine Ex.many (f' := (143, [none, none, none], [.int (-1 : Int32)], xSt xG0 hc hr xs g L c z)) ?_ 1 (by rfl)
                skip
                subst H
                exact Ex.done (by rfl)
def f_w_look (a1 : Int32) (hc : xI) : Int32 :=
  if (hc 0 6) = (2 : Int32) then (f_w_look_13 a1 (1 : Int32) hc) else (f_w_look_13 a1 (0 : Int32) hc)
theorem T_w_look {hr : xI} {g : xJ} {xs : Nat → Int32} {L c z : Nat} (a1 : Int32) (hc : xI) (r : Int32) (H : f_w_look a1 hc = r) : Ex 0 59 (0, [some (.ref 0), some (.int a1), none], [], xSt xG0 hc hr xs g L c z) (.inl (some (.int r)), xSt xG0 hc hr xs g L c z) := by
  unfold f_w_look at H
  refine Ex.many (f' := (5, [some (.ref 0), some (.int a1), none], [.int (2 : Int32), .int (hc 0 6)], xSt xG0 hc hr xs g L c z)) ?_ 3 (by rfl)
  refine Ex.ite (ls := [some (.ref 0), some (.int a1), none]) (st := []) (S := xSt xG0 hc hr xs g L c z) (by rfl) (fun q1 => ?_) (fun q1 => ?_)
  · replace H := (if_pos q1).symm.trans H
    refine Ex.many (f' := (13, [some (.ref 0), some (.int a1), none], [.int (1 : Int32)], xSt xG0 hc hr xs g L c z)) ?_ 2 (by rfl)
    exact T_w_look_13 a1 (1 : Int32) hc r H
  · replace H := (if_neg q1).symm.trans H
    refine Ex.many (f' := (13, [some (.ref 0), some (.int a1), none], [.int (0 : Int32)], xSt xG0 hc hr xs g L c z)) ?_ 1 (by rfl)
    exact T_w_look_13 a1 (0 : Int32) hc r H
def f_w_peek (a1 : Int32) (hc : xI) : Option Int32 :=
  if (f_y_holds a1.toInt64 (1 : Int32) hc) = 0 then (some (-1 : Int32)) else ((f_y_read a1 (1 : Int32) hc).bind fun q3 => some q3)
theorem T_w_peek {hr : xI} {g : xJ} {xs : Nat → Int32} {L c z : Nat} (a1 : Int32) (hc : xI) (r : Int32) (H : f_w_peek a1 hc = some r) : Ex 1 60 (0, [some (.ref 0), some (.int a1)], [], xSt xG0 hc hr xs g L c z) (.inl (some (.int r)), xSt xG0 hc hr xs g L c z) := by
  unfold f_w_peek at H
  refine Ex.many (f' := (7, [some (.ref 0), some (.int a1)], [.int (1 : Int32), .long a1.toInt64, .ref 11], xSt xG0 hc hr xs g L c z)) ?_ 5 (by rfl)
  refine Ex.call (mk := 40) (vs := [.ref 11, .long a1.toInt64, .int (1 : Int32)]) (rest := []) (by rfl) (by rfl) (Ex.up (T_y_holds a1.toInt64 (1 : Int32) hc _ rfl) (by decide)) (xbb c z) ?_
  show Ex _ _ (10, [some (.ref 0), some (.int a1)], [.int (f_y_holds a1.toInt64 (1 : Int32) hc)], xSt xG0 hc hr xs g L c z) _
  refine Ex.ite (ls := [some (.ref 0), some (.int a1)]) (st := []) (S := xSt xG0 hc hr xs g L c z) (by rfl) (fun q2 => ?_) (fun q2 => ?_)
  · replace H := (if_pos q2).symm.trans H
    refine Ex.many (f' := (26, [none, none], [.int (-1 : Int32)], xSt xG0 hc hr xs g L c z)) ?_ 1 (by rfl)
    replace H := Option.some.inj H
    subst H
    exact Ex.done (by rfl)
  · replace H := (if_neg q2).symm.trans H
    refine Ex.many (f' := (19, [some (.ref 0), some (.int a1)], [.int (1 : Int32), .int a1, .ref 11], xSt xG0 hc hr xs g L c z)) ?_ 4 (by rfl)
    obtain ⟨q3, hq3, H⟩ := xbd H
    refine Ex.call (mk := 43) (vs := [.ref 11, .int a1, .int (1 : Int32)]) (rest := []) (by rfl) (by rfl) (Ex.up (T_y_read a1 (1 : Int32) hc q3 hq3) (by decide)) (xbb c z) ?_
    show Ex _ _ (22, [some (.ref 0), some (.int a1)], [.int q3], xSt xG0 hc hr xs g L c z) _
    refine Ex.many (f' := (26, [none, none], [.int q3], xSt xG0 hc hr xs g L c z)) ?_ 1 (by rfl)
    replace H := Option.some.inj H
    subst H
    exact Ex.done (by rfl)
