/-! Methods as functions. -/
def f_k_closeHeight (a1 : Int32) (hc : xI) : Option xI :=
  xgd a1 9 ((f_k_popValues (hc 15 a1.toNatClampNeg) hc).bind fun q2 => xgd a1 9 (if (q2 13 7) = (q2 16 a1.toNatClampNeg) then (some q2) else ((f_k_fail (3 : Int32) q2).bind fun q5 => some q5)))
theorem T_k_closeHeight {hr : xI} {g : xJ} {xs : Nat → Int32} {L c z : Nat} (a1 : Int32) (hc : xI) (r : xI) (H : f_k_closeHeight a1 hc = some r) : Ex 2 90 (0, [some (.ref 13), some (.int a1)], [], xSt xG0 hc hr xs g L c z) (.inl none, xSt xG0 r hr xs g L c z) := by
  unfold f_k_closeHeight at H
  refine Ex.many (f' := (6, [some (.ref 13), some (.int a1)], [.int a1, .ref 15, .ref 13], xSt xG0 hc hr xs g L c z)) ?_ 4 (by rfl)
  obtain ⟨g1, H⟩ := xgd_some H
  refine Ex.guard (f' := (7, [some (.ref 13), some (.int a1)], [.int (hc 15 a1.toNatClampNeg), .ref 13], xSt xG0 hc hr xs g L c z)) (by rfl) g1 ?_
  obtain ⟨q2, hq2, H⟩ := xbd H
  refine Ex.call (mk := 88) (vs := [.ref 13, .int (hc 15 a1.toNatClampNeg)]) (rest := []) (by rfl) (by rfl) (Ex.up (T_k_popValues (hc 15 a1.toNatClampNeg) hc q2 hq2) (by decide)) (xbb c z) ?_
  show Ex _ _ (10, [some (.ref 13), some (.int a1)], [], xSt xG0 q2 hr xs g L c z) _
  refine Ex.many (f' := (19, [some (.ref 13), some (.int a1)], [.int a1, .ref 16, .int (q2 13 7)], xSt xG0 q2 hr xs g L c z)) ?_ 5 (by rfl)
  obtain ⟨g3, H⟩ := xgd_some H
  refine Ex.guard (f' := (20, [some (.ref 13), some (.int a1)], [.int (q2 16 a1.toNatClampNeg), .int (q2 13 7)], xSt xG0 q2 hr xs g L c z)) (by rfl) g3 ?_
  refine Ex.ite (ls := [some (.ref 13), some (.int a1)]) (st := []) (S := xSt xG0 q2 hr xs g L c z) (by rfl) (fun q4 => ?_) (fun q4 => ?_)
  · replace H := (if_pos q4).symm.trans H
    replace H := Option.some.inj H
    subst H
    exact Ex.done (by rfl)
  · replace H := (if_neg q4).symm.trans H
    refine Ex.many (f' := (25, [some (.ref 13), none], [.int (3 : Int32), .ref 13], xSt xG0 q2 hr xs g L c z)) ?_ 2 (by rfl)
    obtain ⟨q5, hq5, H⟩ := xbd H
    refine Ex.call (mk := 79) (vs := [.ref 13, .int (3 : Int32)]) (rest := []) (by rfl) (by rfl) (Ex.up (T_k_fail (3 : Int32) q2 q5 hq5) (by decide)) (xbb c z) ?_
    show Ex _ _ (28, [some (.ref 13), none], [], xSt xG0 q5 hr xs g L c z) _
    replace H := Option.some.inj H
    subst H
    exact Ex.done (by rfl)
def f_k_checkElse (hc : xI) : Option xI :=
  xgd ((hc 13 6) - (1 : Int32)) 9 (if (hc 14 ((hc 13 6) - (1 : Int32)).toNatClampNeg) = (4 : Int32) then ((f_k_closeHeight ((hc 13 6) - (1 : Int32)) hc).bind fun q3 => xgd ((hc 13 6) - (1 : Int32)) 9 (xgd ((hc 13 6) - (1 : Int32)) 9 (xgd ((hc 13 6) - (1 : Int32)) 9 (xgd (q3 18 ((hc 13 6) - (1 : Int32)).toNatClampNeg) 240 (some (xput (xput (xput q3 14 ((hc 13 6) - (1 : Int32)).toNatClampNeg (5 : Int32)) 17 ((hc 13 6) - (1 : Int32)).toNatClampNeg (vp_nar .boolean (1 : Int32))) 8 (q3 18 ((hc 13 6) - (1 : Int32)).toNatClampNeg).toNatClampNeg (q3 13 11))))))) else ((f_k_fail (3 : Int32) hc).bind fun q8 => some q8))
theorem T_k_checkElse {hr : xI} {g : xJ} {xs : Nat → Int32} {L c z : Nat} (hc : xI) (r : xI) (H : f_k_checkElse hc = some r) : Ex 3 89 (0, [some (.ref 13), none], [], xSt xG0 hc hr xs g L c z) (.inl none, xSt xG0 r hr xs g L c z) := by
  unfold f_k_checkElse at H
  refine Ex.many (f' := (12, [some (.ref 13), some (.int ((hc 13 6) - (1 : Int32)))], [.int ((hc 13 6) - (1 : Int32)), .ref 14], xSt xG0 hc hr xs g L c z)) ?_ 8 (by rfl)
  obtain ⟨g1, H⟩ := xgd_some H
  refine Ex.guard (f' := (13, [some (.ref 13), some (.int ((hc 13 6) - (1 : Int32)))], [.int (hc 14 ((hc 13 6) - (1 : Int32)).toNatClampNeg)], xSt xG0 hc hr xs g L c z)) (by rfl) g1 ?_
  refine Ex.many (f' := (14, [some (.ref 13), some (.int ((hc 13 6) - (1 : Int32)))], [.int (4 : Int32), .int (hc 14 ((hc 13 6) - (1 : Int32)).toNatClampNeg)], xSt xG0 hc hr xs g L c z)) ?_ 1 (by rfl)
  refine Ex.ite (ls := [some (.ref 13), some (.int ((hc 13 6) - (1 : Int32)))]) (st := []) (S := xSt xG0 hc hr xs g L c z) (by rfl) (fun q2 => ?_) (fun q2 => ?_)
  · replace H := (if_pos q2).symm.trans H
    refine Ex.many (f' := (25, [some (.ref 13), some (.int ((hc 13 6) - (1 : Int32)))], [.int ((hc 13 6) - (1 : Int32)), .ref 13], xSt xG0 hc hr xs g L c z)) ?_ 2 (by rfl)
    obtain ⟨q3, hq3, H⟩ := xbd H
    refine Ex.call (mk := 90) (vs := [.ref 13, .int ((hc 13 6) - (1 : Int32))]) (rest := []) (by rfl) (by rfl) (Ex.up (T_k_closeHeight ((hc 13 6) - (1 : Int32)) hc q3 hq3) (by decide)) (xbb c z) ?_
    show Ex _ _ (28, [some (.ref 13), some (.int ((hc 13 6) - (1 : Int32)))], [], xSt xG0 q3 hr xs g L c z) _
    refine Ex.many (f' := (34, [some (.ref 13), some (.int ((hc 13 6) - (1 : Int32)))], [.int (5 : Int32), .int ((hc 13 6) - (1 : Int32)), .ref 14], xSt xG0 q3 hr xs g L c z)) ?_ 4 (by rfl)
    obtain ⟨g4, H⟩ := xgd_some H
    refine Ex.gputC (pc := 35) (k := 14) (n := 9) (i := ((hc 13 6) - (1 : Int32))) (v := (5 : Int32)) (ls := [some (.ref 13), some (.int ((hc 13 6) - (1 : Int32)))]) (st := []) (hc := q3) ?_ (by rfl) g4 (by rfl)
    refine Ex.many (f' := (41, [some (.ref 13), some (.int ((hc 13 6) - (1 : Int32)))], [.int (1 : Int32), .int ((hc 13 6) - (1 : Int32)), .ref 17], xSt xG0 (xput q3 14 ((hc 13 6) - (1 : Int32)).toNatClampNeg (5 : Int32)) hr xs g L c z)) ?_ 4 (by rfl)
    obtain ⟨g5, H⟩ := xgd_some H
    refine Ex.gputC (pc := 42) (k := 17) (n := 9) (i := ((hc 13 6) - (1 : Int32))) (v := (vp_nar .boolean (1 : Int32))) (ls := [some (.ref 13), some (.int ((hc 13 6) - (1 : Int32)))]) (st := []) (hc := (xput q3 14 ((hc 13 6) - (1 : Int32)).toNatClampNeg (5 : Int32))) ?_ (by rfl) g5 (by rfl)
    refine Ex.many (f' := (54, [some (.ref 13), some (.int ((hc 13 6) - (1 : Int32)))], [.int ((hc 13 6) - (1 : Int32)), .ref 18, .ref 8], xSt xG0 (xput (xput q3 14 ((hc 13 6) - (1 : Int32)).toNatClampNeg (5 : Int32)) 17 ((hc 13 6) - (1 : Int32)).toNatClampNeg (vp_nar .boolean (1 : Int32))) hr xs g L c z)) ?_ 6 (by rfl)
    obtain ⟨g6, H⟩ := xgd_some H
    refine Ex.guard (f' := (55, [some (.ref 13), some (.int ((hc 13 6) - (1 : Int32)))], [.int (q3 18 ((hc 13 6) - (1 : Int32)).toNatClampNeg), .ref 8], xSt xG0 (xput (xput q3 14 ((hc 13 6) - (1 : Int32)).toNatClampNeg (5 : Int32)) 17 ((hc 13 6) - (1 : Int32)).toNatClampNeg (vp_nar .boolean (1 : Int32))) hr xs g L c z)) (by rfl) g6 ?_
    refine Ex.many (f' := (59, [some (.ref 13), some (.int ((hc 13 6) - (1 : Int32)))], [.int (q3 13 11), .int (q3 18 ((hc 13 6) - (1 : Int32)).toNatClampNeg), .ref 8], xSt xG0 (xput (xput q3 14 ((hc 13 6) - (1 : Int32)).toNatClampNeg (5 : Int32)) 17 ((hc 13 6) - (1 : Int32)).toNatClampNeg (vp_nar .boolean (1 : Int32))) hr xs g L c z)) ?_ 2 (by rfl)
    obtain ⟨g7, H⟩ := xgd_some H
    refine Ex.gputC (pc := 60) (k := 8) (n := 240) (i := (q3 18 ((hc 13 6) - (1 : Int32)).toNatClampNeg)) (v := (q3 13 11)) (ls := [some (.ref 13), some (.int ((hc 13 6) - (1 : Int32)))]) (st := []) (hc := (xput (xput q3 14 ((hc 13 6) - (1 : Int32)).toNatClampNeg (5 : Int32)) 17 ((hc 13 6) - (1 : Int32)).toNatClampNeg (vp_nar .boolean (1 : Int32)))) ?_ (by rfl) g7 (by rfl)
    replace H := Option.some.inj H
    subst H
    exact Ex.done (by rfl)
  · replace H := (if_neg q2).symm.trans H
    refine Ex.many (f' := (19, [some (.ref 13), none], [.int (3 : Int32), .ref 13], xSt xG0 hc hr xs g L c z)) ?_ 2 (by rfl)
    obtain ⟨q8, hq8, H⟩ := xbd H
    refine Ex.call (mk := 79) (vs := [.ref 13, .int (3 : Int32)]) (rest := []) (by rfl) (by rfl) (Ex.up (T_k_fail (3 : Int32) hc q8 hq8) (by decide)) (xbb c z) ?_
    show Ex _ _ (22, [some (.ref 13), none], [], xSt xG0 q8 hr xs g L c z) _
    replace H := Option.some.inj H
    subst H
    exact Ex.done (by rfl)
def f_k_noteEnd (a1 : Int32) (hc : xI) : Option xI :=
  xgd a1 9 (if (hc 18 a1.toNatClampNeg) = (-1 : Int32) then (some hc) else (xgd (hc 18 a1.toNatClampNeg) 240 (xgd a1 9 (if (hc 14 a1.toNatClampNeg) = (5 : Int32) then (xgd (hc 18 a1.toNatClampNeg) 240 (xgd (hc 8 (hc 18 a1.toNatClampNeg).toNatClampNeg) 240 (some (xput (xput hc 7 (hc 18 a1.toNatClampNeg).toNatClampNeg (hc 13 11)) 7 (hc 8 (hc 18 a1.toNatClampNeg).toNatClampNeg).toNatClampNeg (hc 13 11))))) else (some (xput hc 7 (hc 18 a1.toNatClampNeg).toNatClampNeg (hc 13 11)))))))
theorem T_k_noteEnd {hr : xI} {g : xJ} {xs : Nat → Int32} {L c z : Nat} (a1 : Int32) (hc : xI) (r : xI) (H : f_k_noteEnd a1 hc = some r) : Ex 0 92 (0, [some (.ref 13), some (.int a1), none], [], xSt xG0 hc hr xs g L c z) (.inl none, xSt xG0 r hr xs g L c z) := by
  unfold f_k_noteEnd at H
  refine Ex.many (f' := (5, [some (.ref 13), some (.int a1), none], [.int a1, .ref 18], xSt xG0 hc hr xs g L c z)) ?_ 3 (by rfl)
  obtain ⟨g1, H⟩ := xgd_some H
  refine Ex.guard (f' := (6, [some (.ref 13), some (.int a1), none], [.int (hc 18 a1.toNatClampNeg)], xSt xG0 hc hr xs g L c z)) (by rfl) g1 ?_
  refine Ex.many (f' := (9, [some (.ref 13), some (.int a1), some (.int (hc 18 a1.toNatClampNeg))], [.int (-1 : Int32), .int (hc 18 a1.toNatClampNeg)], xSt xG0 hc hr xs g L c z)) ?_ 3 (by rfl)
  refine Ex.ite (ls := [some (.ref 13), some (.int a1), some (.int (hc 18 a1.toNatClampNeg))]) (st := []) (S := xSt xG0 hc hr xs g L c z) (by rfl) (fun q2 => ?_) (fun q2 => ?_)
  · replace H := (if_pos q2).symm.trans H
    replace H := Option.some.inj H
    subst H
    exact Ex.done (by rfl)
  · replace H := (if_neg q2).symm.trans H
    refine Ex.many (f' := (25, [some (.ref 13), some (.int a1), some (.int (hc 18 a1.toNatClampNeg))], [.int (hc 13 11), .int (hc 18 a1.toNatClampNeg), .ref 7], xSt xG0 hc hr xs g L c z)) ?_ 6 (by rfl)
    obtain ⟨g3, H⟩ := xgd_some H
    refine Ex.gputC (pc := 26) (k := 7) (n := 240) (i := (hc 18 a1.toNatClampNeg)) (v := (hc 13 11)) (ls := [some (.ref 13), some (.int a1), some (.int (hc 18 a1.toNatClampNeg))]) (st := []) (hc := hc) ?_ (by rfl) g3 (by rfl)
    refine Ex.many (f' := (31, [some (.ref 13), some (.int a1), some (.int (hc 18 a1.toNatClampNeg))], [.int a1, .ref 14], xSt xG0 (xput hc 7 (hc 18 a1.toNatClampNeg).toNatClampNeg (hc 13 11)) hr xs g L c z)) ?_ 3 (by rfl)
    obtain ⟨g4, H⟩ := xgd_some H
    refine Ex.guard (f' := (32, [some (.ref 13), some (.int a1), some (.int (hc 18 a1.toNatClampNeg))], [.int (hc 14 a1.toNatClampNeg)], xSt xG0 (xput hc 7 (hc 18 a1.toNatClampNeg).toNatClampNeg (hc 13 11)) hr xs g L c z)) (by rfl) g4 ?_
    refine Ex.many (f' := (33, [some (.ref 13), some (.int a1), some (.int (hc 18 a1.toNatClampNeg))], [.int (5 : Int32), .int (hc 14 a1.toNatClampNeg)], xSt xG0 (xput hc 7 (hc 18 a1.toNatClampNeg).toNatClampNeg (hc 13 11)) hr xs g L c z)) ?_ 1 (by rfl)
    refine Ex.ite (ls := [some (.ref 13), some (.int a1), some (.int (hc 18 a1.toNatClampNeg))]) (st := []) (S := xSt xG0 (xput hc 7 (hc 18 a1.toNatClampNeg).toNatClampNeg (hc 13 11)) hr xs g L c z) (by rfl) (fun q5 => ?_) (fun q5 => ?_)
    · replace H := (if_pos q5).symm.trans H
      refine Ex.many (f' := (51, [some (.ref 13), none, some (.int (hc 18 a1.toNatClampNeg))], [.int (hc 18 a1.toNatClampNeg), .ref 8, .ref 7], xSt xG0 (xput hc 7 (hc 18 a1.toNatClampNeg).toNatClampNeg (hc 13 11)) hr xs g L c z)) ?_ 7 (by rfl)
      obtain ⟨g6, H⟩ := xgd_some H
      refine Ex.guard (f' := (52, [some (.ref 13), none, some (.int (hc 18 a1.toNatClampNeg))], [.int (hc 8 (hc 18 a1.toNatClampNeg).toNatClampNeg), .ref 7], xSt xG0 (xput hc 7 (hc 18 a1.toNatClampNeg).toNatClampNeg (hc 13 11)) hr xs g L c z)) (by rfl) g6 ?_
      refine Ex.many (f' := (56, [some (.ref 13), none, some (.int (hc 18 a1.toNatClampNeg))], [.int (hc 13 11), .int (hc 8 (hc 18 a1.toNatClampNeg).toNatClampNeg), .ref 7], xSt xG0 (xput hc 7 (hc 18 a1.toNatClampNeg).toNatClampNeg (hc 13 11)) hr xs g L c z)) ?_ 2 (by rfl)
      obtain ⟨g7, H⟩ := xgd_some H
      refine Ex.gputC (pc := 57) (k := 7) (n := 240) (i := (hc 8 (hc 18 a1.toNatClampNeg).toNatClampNeg)) (v := (hc 13 11)) (ls := [some (.ref 13), none, some (.int (hc 18 a1.toNatClampNeg))]) (st := []) (hc := (xput hc 7 (hc 18 a1.toNatClampNeg).toNatClampNeg (hc 13 11))) ?_ (by rfl) g7 (by rfl)
      replace H := Option.some.inj H
      subst H
      exact Ex.done (by rfl)
    · replace H := (if_neg q5).symm.trans H
      replace H := Option.some.inj H
      subst H
      exact Ex.done (by rfl)
def f_k_pushValues (a1 : Int32) (hc : xI) : Option xI :=
  if ((hc 13 7) + a1) ≤ (20 : Int32) then (some (xput hc 13 7 ((hc 13 7) + a1))) else ((f_k_fail (6 : Int32) hc).bind fun q2 => some q2)
theorem T_k_pushValues {hr : xI} {g : xJ} {xs : Nat → Int32} {L c z : Nat} (a1 : Int32) (hc : xI) (r : xI) (H : f_k_pushValues a1 hc = some r) : Ex 1 93 (0, [some (.ref 13), some (.int a1)], [], xSt xG0 hc hr xs g L c z) (.inl none, xSt xG0 r hr xs g L c z) := by
  unfold f_k_pushValues at H
  refine Ex.many (f' := (8, [some (.ref 13), some (.int a1)], [.int (20 : Int32), .int ((hc 13 7) + a1)], xSt xG0 hc hr xs g L c z)) ?_ 5 (by rfl)
  refine Ex.ite (ls := [some (.ref 13), some (.int a1)]) (st := []) (S := xSt xG0 hc hr xs g L c z) (by rfl) (fun q1 => ?_) (fun q1 => ?_)
  · replace H := (if_pos q1).symm.trans H
    refine Ex.many (f' := (27, [some (.ref 13), some (.int a1)], [.int ((hc 13 7) + a1), .ref 13], xSt xG0 hc hr xs g L c z)) ?_ 5 (by rfl)
    refine Ex.putC (pc := 30) (k := 13) (j := 7) (v := ((hc 13 7) + a1)) (ls := [some (.ref 13), some (.int a1)]) (st := []) (hc := hc) ?_ (by rfl) (by rfl)
    replace H := Option.some.inj H
    subst H
    exact Ex.done (by rfl)
  · replace H := (if_neg q1).symm.trans H
    refine Ex.many (f' := (14, [some (.ref 13), none], [.int (6 : Int32), .ref 13], xSt xG0 hc hr xs g L c z)) ?_ 2 (by rfl)
    obtain ⟨q2, hq2, H⟩ := xbd H
    refine Ex.call (mk := 79) (vs := [.ref 13, .int (6 : Int32)]) (rest := []) (by rfl) (by rfl) (Ex.up (T_k_fail (6 : Int32) hc q2 hq2) (by decide)) (xbb c z) ?_
    show Ex _ _ (17, [some (.ref 13), none], [], xSt xG0 q2 hr xs g L c z) _
    refine Ex.many (f' := (30, [none, none], [], xSt xG0 q2 hr xs g L c z)) ?_ 1 (by rfl)
    replace H := Option.some.inj H
    subst H
    exact Ex.done (by rfl)
def f_k_checkEnd_36 (v1 : Int32) (hc : xI) : Option xI :=
  if (hc 13 9) = 0 then ((f_k_noteEnd v1 hc).bind fun q2 => xgd v1 9 (if (q2 14 v1.toNatClampNeg) = (-1 : Int32) then (if (q2 13 11) = ((q2 13 8) - (1 : Int32)) then (some (xput q2 13 6 ((q2 13 6) - (1 : Int32)))) else ((f_k_fail (7 : Int32) (xput q2 13 6 ((q2 13 6) - (1 : Int32)))).bind fun q6 => some q6)) else (xgd v1 9 ((f_k_pushValues (q2 15 v1.toNatClampNeg) (xput q2 13 6 ((q2 13 6) - (1 : Int32)))).bind fun q8 => some q8)))) else (some hc)
theorem T_k_checkEnd_36 {hr : xI} {g : xJ} {xs : Nat → Int32} {L c z : Nat} (v1 : Int32) (hc : xI) (r : xI) (H : f_k_checkEnd_36 v1 hc = some r) : Ex 3 91 (36, [some (.ref 13), some (.int v1)], [], xSt xG0 hc hr xs g L c z) (.inl none, xSt xG0 r hr xs g L c z) := by
  unfold f_k_checkEnd_36 at H
  refine Ex.many (f' := (40, [some (.ref 13), some (.int v1)], [.int (hc 13 9)], xSt xG0 hc hr xs g L c z)) ?_ 2 (by rfl)
  refine Ex.ite (ls := [some (.ref 13), some (.int v1)]) (st := []) (S := xSt xG0 hc hr xs g L c z) (by rfl) (fun q1 => ?_) (fun q1 => ?_)
  · replace H := (if_pos q1).symm.trans H
    refine Ex.many (f' := (46, [some (.ref 13), some (.int v1)], [.int v1, .ref 13], xSt xG0 hc hr xs g L c z)) ?_ 2 (by rfl)
    obtain ⟨q2, hq2, H⟩ := xbd H
    refine Ex.call (mk := 92) (vs := [.ref 13, .int v1]) (rest := []) (by rfl) (by rfl) (Ex.up (T_k_noteEnd v1 hc q2 hq2) (by decide)) (xbb c z) ?_
    show Ex _ _ (49, [some (.ref 13), some (.int v1)], [], xSt xG0 q2 hr xs g L c z) _
    refine Ex.many (f' := (56, [some (.ref 13), some (.int v1)], [.int ((q2 13 6) - (1 : Int32)), .ref 13], xSt xG0 q2 hr xs g L c z)) ?_ 5 (by rfl)
    refine Ex.putC (pc := 59) (k := 13) (j := 6) (v := ((q2 13 6) - (1 : Int32))) (ls := [some (.ref 13), some (.int v1)]) (st := []) (hc := q2) ?_ (by rfl) (by rfl)
    refine Ex.many (f' := (64, [some (.ref 13), some (.int v1)], [.int v1, .ref 14], xSt xG0 (xput q2 13 6 ((q2 13 6) - (1 : Int32))) hr xs g L c z)) ?_ 3 (by rfl)
    obtain ⟨g3, H⟩ := xgd_some H
    refine Ex.guard (f' := (65, [some (.ref 13), some (.int v1)], [.int (q2 14 v1.toNatClampNeg)], xSt xG0 (xput q2 13 6 ((q2 13 6) - (1 : Int32))) hr xs g L c z)) (by rfl) g3 ?_
    refine Ex.many (f' := (66, [some (.ref 13), some (.int v1)], [.int (-1 : Int32), .int (q2 14 v1.toNatClampNeg)], xSt xG0 (xput q2 13 6 ((q2 13 6) - (1 : Int32))) hr xs g L c z)) ?_ 1 (by rfl)
    refine Ex.ite (ls := [some (.ref 13), some (.int v1)]) (st := []) (S := xSt xG0 (xput q2 13 6 ((q2 13 6) - (1 : Int32))) hr xs g L c z) (by rfl) (fun q4 => ?_) (fun q4 => ?_)
    · replace H := (if_pos q4).symm.trans H
      refine Ex.many (f' := (92, [some (.ref 13), none], [.int ((q2 13 8) - (1 : Int32)), .int (q2 13 11)], xSt xG0 (xput q2 13 6 ((q2 13 6) - (1 : Int32))) hr xs g L c z)) ?_ 6 (by rfl)
      refine Ex.ite (ls := [some (.ref 13), none]) (st := []) (S := xSt xG0 (xput q2 13 6 ((q2 13 6) - (1 : Int32))) hr xs g L c z) (by rfl) (fun q5 => ?_) (fun q5 => ?_)
      · replace H := (if_pos q5).symm.trans H
        replace H := Option.some.inj H
        subst H
        exact Ex.done (by rfl)
      · replace H := (if_neg q5).symm.trans H
        refine Ex.many (f' := (98, [some (.ref 13), none], [.int (7 : Int32), .ref 13], xSt xG0 (xput q2 13 6 ((q2 13 6) - (1 : Int32))) hr xs g L c z)) ?_ 2 (by rfl)
        obtain ⟨q6, hq6, H⟩ := xbd H
        refine Ex.call (mk := 79) (vs := [.ref 13, .int (7 : Int32)]) (rest := []) (by rfl) (by rfl) (Ex.up (T_k_fail (7 : Int32) (xput q2 13 6 ((q2 13 6) - (1 : Int32))) q6 hq6) (by decide)) (xbb c z) ?_
        show Ex _ _ (101, [some (.ref 13), none], [], xSt xG0 q6 hr xs g L c z) _
        replace H := Option.some.inj H
        subst H
        exact Ex.done (by rfl)
    · replace H := (if_neg q4).symm.trans H
      refine Ex.many (f' := (75, [some (.ref 13), some (.int v1)], [.int v1, .ref 15, .ref 13], xSt xG0 (xput q2 13 6 ((q2 13 6) - (1 : Int32))) hr xs g L c z)) ?_ 4 (by rfl)
      obtain ⟨g7, H⟩ := xgd_some H
      refine Ex.guard (f' := (76, [some (.ref 13), some (.int v1)], [.int (q2 15 v1.toNatClampNeg), .ref 13], xSt xG0 (xput q2 13 6 ((q2 13 6) - (1 : Int32))) hr xs g L c z)) (by rfl) g7 ?_
      obtain ⟨q8, hq8, H⟩ := xbd H
      refine Ex.call (mk := 93) (vs := [.ref 13, .int (q2 15 v1.toNatClampNeg)]) (rest := []) (by rfl) (by rfl) (Ex.up (T_k_pushValues (q2 15 v1.toNatClampNeg) (xput q2 13 6 ((q2 13 6) - (1 : Int32))) q8 hq8) (by decide)) (xbb c z) ?_
      show Ex _ _ (79, [some (.ref 13), some (.int v1)], [], xSt xG0 q8 hr xs g L c z) _
      refine Ex.many (f' := (101, [none, none], [], xSt xG0 q8 hr xs g L c z)) ?_ 1 (by rfl)
      replace H := Option.some.inj H
      subst H
      exact Ex.done (by rfl)
  · replace H := (if_neg q1).symm.trans H
    replace H := Option.some.inj H
    subst H
    exact Ex.done (by rfl)
def f_k_checkEnd (hc : xI) : Option xI :=
  (f_k_closeHeight ((hc 13 6) - (1 : Int32)) hc).bind fun q1 => xgd ((hc 13 6) - (1 : Int32)) 9 (if (q1 14 ((hc 13 6) - (1 : Int32)).toNatClampNeg) = (4 : Int32) then (xgd ((hc 13 6) - (1 : Int32)) 9 (if (q1 15 ((hc 13 6) - (1 : Int32)).toNatClampNeg) = 0 then (f_k_checkEnd_36 ((hc 13 6) - (1 : Int32)) q1) else ((f_k_fail (3 : Int32) q1).bind fun q6 => f_k_checkEnd_36 ((hc 13 6) - (1 : Int32)) q6))) else (f_k_checkEnd_36 ((hc 13 6) - (1 : Int32)) q1))
theorem T_k_checkEnd {hr : xI} {g : xJ} {xs : Nat → Int32} {L c z : Nat} (hc : xI) (r : xI) (H : f_k_checkEnd hc = some r) : Ex 3 91 (0, [some (.ref 13), none], [], xSt xG0 hc hr xs g L c z) (.inl none, xSt xG0 r hr xs g L c z) := by
  unfold f_k_checkEnd at H
  refine Ex.many (f' := (9, [some (.ref 13), some (.int ((hc 13 6) - (1 : Int32)))], [.int ((hc 13 6) - (1 : Int32)), .ref 13], xSt xG0 hc hr xs g L c z)) ?_ 7 (by rfl)
  obtain ⟨q1, hq1, H⟩ := xbd H
  refine Ex.call (mk := 90) (vs := [.ref 13, .int ((hc 13 6) - (1 : Int32))]) (rest := []) (by rfl) (by rfl) (Ex.up (T_k_closeHeight ((hc 13 6) - (1 : Int32)) hc q1 hq1) (by decide)) (xbb c z) ?_
  show Ex _ _ (12, [some (.ref 13), some (.int ((hc 13 6) - (1 : Int32)))], [], xSt xG0 q1 hr xs g L c z) _
  refine Ex.many (f' := (17, [some (.ref 13), some (.int ((hc 13 6) - (1 : Int32)))], [.int ((hc 13 6) - (1 : Int32)), .ref 14], xSt xG0 q1 hr xs g L c z)) ?_ 3 (by rfl)
  obtain ⟨g2, H⟩ := xgd_some H
  refine Ex.guard (f' := (18, [some (.ref 13), some (.int ((hc 13 6) - (1 : Int32)))], [.int (q1 14 ((hc 13 6) - (1 : Int32)).toNatClampNeg)], xSt xG0 q1 hr xs g L c z)) (by rfl) g2 ?_
  refine Ex.many (f' := (19, [some (.ref 13), some (.int ((hc 13 6) - (1 : Int32)))], [.int (4 : Int32), .int (q1 14 ((hc 13 6) - (1 : Int32)).toNatClampNeg)], xSt xG0 q1 hr xs g L c z)) ?_ 1 (by rfl)
  refine Ex.ite (ls := [some (.ref 13), some (.int ((hc 13 6) - (1 : Int32)))]) (st := []) (S := xSt xG0 q1 hr xs g L c z) (by rfl) (fun q3 => ?_) (fun q3 => ?_)
  · replace H := (if_pos q3).symm.trans H
    refine Ex.many (f' := (27, [some (.ref 13), some (.int ((hc 13 6) - (1 : Int32)))], [.int ((hc 13 6) - (1 : Int32)), .ref 15], xSt xG0 q1 hr xs g L c z)) ?_ 3 (by rfl)
    obtain ⟨g4, H⟩ := xgd_some H
    refine Ex.guard (f' := (28, [some (.ref 13), some (.int ((hc 13 6) - (1 : Int32)))], [.int (q1 15 ((hc 13 6) - (1 : Int32)).toNatClampNeg)], xSt xG0 q1 hr xs g L c z)) (by rfl) g4 ?_
    refine Ex.ite (ls := [some (.ref 13), some (.int ((hc 13 6) - (1 : Int32)))]) (st := []) (S := xSt xG0 q1 hr xs g L c z) (by rfl) (fun q5 => ?_) (fun q5 => ?_)
    · replace H := (if_pos q5).symm.trans H
      exact T_k_checkEnd_36 ((hc 13 6) - (1 : Int32)) q1 r H
    · replace H := (if_neg q5).symm.trans H
      refine Ex.many (f' := (33, [some (.ref 13), some (.int ((hc 13 6) - (1 : Int32)))], [.int (3 : Int32), .ref 13], xSt xG0 q1 hr xs g L c z)) ?_ 2 (by rfl)
      obtain ⟨q6, hq6, H⟩ := xbd H
      refine Ex.call (mk := 79) (vs := [.ref 13, .int (3 : Int32)]) (rest := []) (by rfl) (by rfl) (Ex.up (T_k_fail (3 : Int32) q1 q6 hq6) (by decide)) (xbb c z) ?_
      show Ex _ _ (36, [some (.ref 13), some (.int ((hc 13 6) - (1 : Int32)))], [], xSt xG0 q6 hr xs g L c z) _
      exact T_k_checkEnd_36 ((hc 13 6) - (1 : Int32)) q6 r H
  · replace H := (if_neg q3).symm.trans H
    exact T_k_checkEnd_36 ((hc 13 6) - (1 : Int32)) q1 r H
def f_k_takenByLabel (a1 : Int32) (hc : xI) : Option Int32 :=
  xgd a1 240 (xgd (((hc 13 6) - (1 : Int32)) - (hc 2 a1.toNatClampNeg)) 9 (if (hc 14 (((hc 13 6) - (1 : Int32)) - (hc 2 a1.toNatClampNeg)).toNatClampNeg) = (3 : Int32) then (some (0 : Int32)) else (xgd (((hc 13 6) - (1 : Int32)) - (hc 2 a1.toNatClampNeg)) 9 (some (hc 15 (((hc 13 6) - (1 : Int32)) - (hc 2 a1.toNatClampNeg)).toNatClampNeg)))))
theorem T_k_takenByLabel {hr : xI} {g : xJ} {xs : Nat → Int32} {L c z : Nat} (a1 : Int32) (hc : xI) (r : Int32) (H : f_k_takenByLabel a1 hc = some r) : Ex 0 94 (0, [some (.ref 13), some (.int a1), none], [], xSt xG0 hc hr xs g L c z) (.inl (some (.int r)), xSt xG0 hc hr xs g L c z) := by
  unfold f_k_takenByLabel at H
  refine Ex.many (f' := (14, [some (.ref 13), some (.int a1), none], [.int a1, .ref 2, .int ((hc 13 6) - (1 : Int32))], xSt xG0 hc hr xs g L c z)) ?_ 8 (by rfl)
  obtain ⟨g1, H⟩ := xgd_some H
  refine Ex.guard (f' := (15, [some (.ref 13), some (.int a1), none], [.int (hc 2 a1.toNatClampNeg), .int ((hc 13 6) - (1 : Int32))], xSt xG0 hc hr xs g L c z)) (by rfl) g1 ?_
  refine Ex.many (f' := (22, [some (.ref 13), some (.int a1), some (.int (((hc 13 6) - (1 : Int32)) - (hc 2 a1.toNatClampNeg)))], [.int (((hc 13 6) - (1 : Int32)) - (hc 2 a1.toNatClampNeg)), .ref 14], xSt xG0 hc hr xs g L c z)) ?_ 5 (by rfl)
  obtain ⟨g2, H⟩ := xgd_some H
  refine Ex.guard (f' := (23, [some (.ref 13), some (.int a1), some (.int (((hc 13 6) - (1 : Int32)) - (hc 2 a1.toNatClampNeg)))], [.int (hc 14 (((hc 13 6) - (1 : Int32)) - (hc 2 a1.toNatClampNeg)).toNatClampNeg)], xSt xG0 hc hr xs g L c z)) (by rfl) g2 ?_
  refine Ex.many (f' := (24, [some (.ref 13), some (.int a1), some (.int (((hc 13 6) - (1 : Int32)) - (hc 2 a1.toNatClampNeg)))], [.int (3 : Int32), .int (hc 14 (((hc 13 6) - (1 : Int32)) - (hc 2 a1.toNatClampNeg)).toNatClampNeg)], xSt xG0 hc hr xs g L c z)) ?_ 1 (by rfl)
  refine Ex.ite (ls := [some (.ref 13), some (.int a1), some (.int (((hc 13 6) - (1 : Int32)) - (hc 2 a1.toNatClampNeg)))]) (st := []) (S := xSt xG0 hc hr xs g L c z) (by rfl) (fun q3 => ?_) (fun q3 => ?_)
  · replace H := (if_pos q3).symm.trans H
    refine Ex.many (f' := (37, [none, none, none], [.int (0 : Int32)], xSt xG0 hc hr xs g L c z)) ?_ 2 (by rfl)
    replace H := Option.some.inj H
    subst H
    exact Ex.done (by rfl)
  · replace H := (if_neg q3).symm.trans H
    refine Ex.many (f' := (36, [some (.ref 13), none, some (.int (((hc 13 6) - (1 : Int32)) - (hc 2 a1.toNatClampNeg)))], [.int (((hc 13 6) - (1 : Int32)) - (hc 2 a1.toNatClampNeg)), .ref 15], xSt xG0 hc hr xs g L c z)) ?_ 3 (by rfl)
    obtain ⟨g4, H⟩ := xgd_some H
    refine Ex.guard (f' := (37, [some (.ref 13), none, some (.int (((hc 13 6) - (1 : Int32)) - (hc 2 a1.toNatClampNeg)))], [.int (hc 15 (((hc 13 6) - (1 : Int32)) - (hc 2 a1.toNatClampNeg)).toNatClampNeg)], xSt xG0 hc hr xs g L c z)) (by rfl) g4 ?_
    replace H := Option.some.inj H
    subst H
    exact Ex.done (by rfl)
def f_k_exchange (a1 : Int32) (a2 : Int32) (hc : xI) : Option xI :=
  (f_k_popValues a1 hc).bind fun q1 => (f_k_pushValues a2 q1).bind fun q2 => some q2
theorem T_k_exchange {hr : xI} {g : xJ} {xs : Nat → Int32} {L c z : Nat} (a1 : Int32) (a2 : Int32) (hc : xI) (r : xI) (H : f_k_exchange a1 a2 hc = some r) : Ex 2 95 (0, [some (.ref 13), some (.int a1), some (.int a2)], [], xSt xG0 hc hr xs g L c z) (.inl none, xSt xG0 r hr xs g L c z) := by
  unfold f_k_exchange at H
  refine Ex.many (f' := (2, [some (.ref 13), some (.int a1), some (.int a2)], [.int a1, .ref 13], xSt xG0 hc hr xs g L c z)) ?_ 2 (by rfl)
  obtain ⟨q1, hq1, H⟩ := xbd H
  refine Ex.call (mk := 88) (vs := [.ref 13, .int a1]) (rest := []) (by rfl) (by rfl) (Ex.up (T_k_popValues a1 hc q1 hq1) (by decide)) (xbb c z) ?_
  show Ex _ _ (5, [some (.ref 13), some (.int a1), some (.int a2)], [], xSt xG0 q1 hr xs g L c z) _
  refine Ex.many (f' := (7, [some (.ref 13), none, some (.int a2)], [.int a2, .ref 13], xSt xG0 q1 hr xs g L c z)) ?_ 2 (by rfl)
  obtain ⟨q2, hq2, H⟩ := xbd H
  refine Ex.call (mk := 93) (vs := [.ref 13, .int a2]) (rest := []) (by rfl) (by rfl) (Ex.up (T_k_pushValues a2 q1 q2 hq2) (by decide)) (xbb c z) ?_
  show Ex _ _ (10, [some (.ref 13), none, some (.int a2)], [], xSt xG0 q2 hr xs g L c z) _
  replace H := Option.some.inj H
  subst H
  exact Ex.done (by rfl)
def f_k_checkTableTyping_39 (k : Int32 → Int32 → Int32 → xI → Option xI) (v1 : Int32) (v2 : Int32) (v3 : Int32) (hc : xI) : Option xI :=
  k v1 v2 (v3 + (1 : Int32)) hc
theorem T_k_checkTableTyping_39 {hr : xI} {g : xJ} {xs : Nat → Int32} {L c z : Nat} (k : Int32 → Int32 → Int32 → xI → Option xI) (hk : ∀ (v1 : Int32) (v2 : Int32) (v3 : Int32) (hc : xI) (r : xI), k v1 v2 v3 hc = some r → Ex 2 96 (13, [some (.ref 13), some (.int v1), some (.int v2), some (.int v3)], [], xSt xG0 hc hr xs g L c z) (.inl none, xSt xG0 r hr xs g L c z)) (v1 : Int32) (v2 : Int32) (v3 : Int32) (hc : xI) (r : xI) (H : f_k_checkTableTyping_39 k v1 v2 v3 hc = some r) : Ex 2 96 (39, [some (.ref 13), some (.int v1), some (.int v2), some (.int v3)], [], xSt xG0 hc hr xs g L c z) (.inl none, xSt xG0 r hr xs g L c z) := by
  unfold f_k_checkTableTyping_39 at H
  refine Ex.many (f' := (13, [some (.ref 13), some (.int v1), some (.int v2), some (.int (v3 + (1 : Int32)))], [], xSt xG0 hc hr xs g L c z)) ?_ 2 (by rfl)
  exact hk v1 v2 (v3 + (1 : Int32)) hc r H
def f_k_checkTableTyping_13 : Nat → Int32 → Int32 → Int32 → xI → Option xI
  | 0, _, _, _, _ => none
  | n + 1, v1, v2, v3, hc => if v1 < v3 then ((f_k_popValues (1 : Int32) hc).bind fun q2 => (f_k_popValues v2 q2).bind fun q3 => (f_k_leaveOff q3).bind fun q4 => some q4) else ((f_k_takenByLabel (((hc 13 11) + (2 : Int32)) + v3) hc).bind fun q5 => if q5 = v2 then (f_k_checkTableTyping_39 (f_k_checkTableTyping_13 n) v1 v2 v3 hc) else ((f_k_fail (3 : Int32) hc).bind fun q7 => f_k_checkTableTyping_39 (f_k_checkTableTyping_13 n) v1 v2 v3 q7))
theorem T_k_checkTableTyping_13 {hr : xI} {g : xJ} {xs : Nat → Int32} {L c z : Nat} (n : Nat) : ∀ (v1 : Int32) (v2 : Int32) (v3 : Int32) (hc : xI) (r : xI), f_k_checkTableTyping_13 n v1 v2 v3 hc = some r → Ex 2 96 (13, [some (.ref 13), some (.int v1), some (.int v2), some (.int v3)], [], xSt xG0 hc hr xs g L c z) (.inl none, xSt xG0 r hr xs g L c z) := by
  induction n with
  | zero =>
    intro v1 v2 v3 hc r H
    unfold f_k_checkTableTyping_13 at H
    cases H
  | succ n ih =>
    intro v1 v2 v3 hc r H
    unfold f_k_checkTableTyping_13 at H
    refine Ex.many (f' := (15, [some (.ref 13), some (.int v1), some (.int v2), some (.int v3)], [.int v1, .int v3], xSt xG0 hc hr xs g L c z)) ?_ 2 (by rfl)
    refine Ex.ite (ls := [some (.ref 13), some (.int v1), some (.int v2), some (.int v3)]) (st := []) (S := xSt xG0 hc hr xs g L c z) (by rfl) (fun q1 => ?_) (fun q1 => ?_)
    · replace H := (if_pos q1).symm.trans H
      refine Ex.many (f' := (47, [some (.ref 13), none, some (.int v2), none], [.int (1 : Int32), .ref 13], xSt xG0 hc hr xs g L c z)) ?_ 2 (by rfl)
      obtain ⟨q2, hq2, H⟩ := xbd H
      refine Ex.call (mk := 88) (vs := [.ref 13, .int (1 : Int32)]) (rest := []) (by rfl) (by rfl) (Ex.up (T_k_popValues (1 : Int32) hc q2 hq2) (by decide)) (xbb c z) ?_
      show Ex _ _ (50, [some (.ref 13), none, some (.int v2), none], [], xSt xG0 q2 hr xs g L c z) _
      refine Ex.many (f' := (52, [some (.ref 13), none, some (.int v2), none], [.int v2, .ref 13], xSt xG0 q2 hr xs g L c z)) ?_ 2 (by rfl)
      obtain ⟨q3, hq3, H⟩ := xbd H
      refine Ex.call (mk := 88) (vs := [.ref 13, .int v2]) (rest := []) (by rfl) (by rfl) (Ex.up (T_k_popValues v2 q2 q3 hq3) (by decide)) (xbb c z) ?_
      show Ex _ _ (55, [some (.ref 13), none, some (.int v2), none], [], xSt xG0 q3 hr xs g L c z) _
      refine Ex.many (f' := (56, [some (.ref 13), none, none, none], [.ref 13], xSt xG0 q3 hr xs g L c z)) ?_ 1 (by rfl)
      obtain ⟨q4, hq4, H⟩ := xbd H
      refine Ex.call (mk := 87) (vs := [.ref 13]) (rest := []) (by rfl) (by rfl) (Ex.up (T_k_leaveOff q3 q4 hq4) (by decide)) (xbb c z) ?_
      show Ex _ _ (59, [some (.ref 13), none, none, none], [], xSt xG0 q4 hr xs g L c z) _
      replace H := Option.some.inj H
      subst H
      exact Ex.done (by rfl)
    · replace H := (if_neg q1).symm.trans H
      refine Ex.many (f' := (27, [some (.ref 13), some (.int v1), some (.int v2), some (.int v3)], [.int (((hc 13 11) + (2 : Int32)) + v3), .ref 13], xSt xG0 hc hr xs g L c z)) ?_ 7 (by rfl)
      obtain ⟨q5, hq5, H⟩ := xbd H
      refine Ex.call (mk := 94) (vs := [.ref 13, .int (((hc 13 11) + (2 : Int32)) + v3)]) (rest := []) (by rfl) (by rfl) (Ex.up (T_k_takenByLabel (((hc 13 11) + (2 : Int32)) + v3) hc q5 hq5) (by decide)) (xbb c z) ?_
      show Ex _ _ (30, [some (.ref 13), some (.int v1), some (.int v2), some (.int v3)], [.int q5], xSt xG0 hc hr xs g L c z) _
      refine Ex.many (f' := (31, [some (.ref 13), some (.int v1), some (.int v2), some (.int v3)], [.int v2, .int q5], xSt xG0 hc hr xs g L c z)) ?_ 1 (by rfl)
      refine Ex.ite (ls := [some (.ref 13), some (.int v1), some (.int v2), some (.int v3)]) (st := []) (S := xSt xG0 hc hr xs g L c z) (by rfl) (fun q6 => ?_) (fun q6 => ?_)
      · replace H := (if_pos q6).symm.trans H
        exact T_k_checkTableTyping_39 (f_k_checkTableTyping_13 n) ih v1 v2 v3 hc r H
      · replace H := (if_neg q6).symm.trans H
        refine Ex.many (f' := (36, [some (.ref 13), some (.int v1), some (.int v2), some (.int v3)], [.int (3 : Int32), .ref 13], xSt xG0 hc hr xs g L c z)) ?_ 2 (by rfl)
        obtain ⟨q7, hq7, H⟩ := xbd H
        refine Ex.call (mk := 79) (vs := [.ref 13, .int (3 : Int32)]) (rest := []) (by rfl) (by rfl) (Ex.up (T_k_fail (3 : Int32) hc q7 hq7) (by decide)) (xbb c z) ?_
        show Ex _ _ (39, [some (.ref 13), some (.int v1), some (.int v2), some (.int v3)], [], xSt xG0 q7 hr xs g L c z) _
        exact T_k_checkTableTyping_39 (f_k_checkTableTyping_13 n) ih v1 v2 v3 q7 r H
def f_k_checkTableTyping (a1 : Int32) (hc : xI) : Option xI :=
  (f_k_takenByLabel ((hc 13 11) + (2 : Int32)) hc).bind fun q1 => f_k_checkTableTyping_13 1000 a1 q1 (1 : Int32) hc
theorem T_k_checkTableTyping {hr : xI} {g : xJ} {xs : Nat → Int32} {L c z : Nat} (a1 : Int32) (hc : xI) (r : xI) (H : f_k_checkTableTyping a1 hc = some r) : Ex 2 96 (0, [some (.ref 13), some (.int a1), none, none], [], xSt xG0 hc hr xs g L c z) (.inl none, xSt xG0 r hr xs g L c z) := by
  unfold f_k_checkTableTyping at H
  refine Ex.many (f' := (7, [some (.ref 13), some (.int a1), none, none], [.int ((hc 13 11) + (2 : Int32)), .ref 13], xSt xG0 hc hr xs g L c z)) ?_ 5 (by rfl)
  obtain ⟨q1, hq1, H⟩ := xbd H
  refine Ex.call (mk := 94) (vs := [.ref 13, .int ((hc 13 11) + (2 : Int32))]) (rest := []) (by rfl) (by rfl) (Ex.up (T_k_takenByLabel ((hc 13 11) + (2 : Int32)) hc q1 hq1) (by decide)) (xbb c z) ?_
  show Ex _ _ (10, [some (.ref 13), some (.int a1), none, none], [.int q1], xSt xG0 hc hr xs g L c z) _
  refine Ex.many (f' := (13, [some (.ref 13), some (.int a1), some (.int q1), some (.int (1 : Int32))], [], xSt xG0 hc hr xs g L c z)) ?_ 3 (by rfl)
  exact T_k_checkTableTyping_13 1000 a1 q1 (1 : Int32) hc r H
def f_o_takes (a0 : Int32) : Int32 :=
  if a0 = (26 : Int32) ∨ a0 = (33 : Int32) ∨ a0 = (34 : Int32) ∨ a0 = (36 : Int32) ∨ a0 = (40 : Int32) ∨ a0 = (44 : Int32) ∨ a0 = (45 : Int32) ∨ a0 = (46 : Int32) ∨ a0 = (47 : Int32) ∨ a0 = (64 : Int32) then (1 : Int32) else (if a0 = (27 : Int32) then (3 : Int32) else (if a0 = (54 : Int32) ∨ a0 = (58 : Int32) ∨ a0 = (59 : Int32) then (2 : Int32) else (if (f_o_isUnary a0) = 0 then (if (f_o_isNumeric a0) = 0 then (0 : Int32) else (2 : Int32)) else (1 : Int32))))
theorem T_o_takes {hc : xI} {hr : xI} {g : xJ} {xs : Nat → Int32} {L c z : Nat} (a0 : Int32) (r : Int32) (H : f_o_takes a0 = r) : Ex 1 97 (0, [some (.int a0)], [], xSt xG0 hc hr xs g L c z) (.inl (some (.int r)), xSt xG0 hc hr xs g L c z) := by
  unfold f_o_takes at H
  refine Ex.many (f' := (1, [some (.int a0)], [.int a0], xSt xG0 hc hr xs g L c z)) ?_ 1 (by rfl)
  by_cases q1 : a0 = (26 : Int32) ∨ a0 = (33 : Int32) ∨ a0 = (34 : Int32) ∨ a0 = (36 : Int32) ∨ a0 = (40 : Int32) ∨ a0 = (44 : Int32) ∨ a0 = (45 : Int32) ∨ a0 = (46 : Int32) ∨ a0 = (47 : Int32) ∨ a0 = (64 : Int32)
  · replace H := (if_pos q1).symm.trans H
    refine Ex.sw (t := 172) (ls := [some (.int a0)]) (st := []) (S := xSt xG0 hc hr xs g L c z) ?_ (by rfl) (by rcases q1 with q1 | q1 | q1 | q1 | q1 | q1 | q1 | q1 | q1 | q1 <;> (rw [q1]; rfl))
    refine Ex.many (f' := (173, [none], [.int (1 : Int32)], xSt xG0 hc hr xs g L c z)) ?_ 1 (by rfl)
    skip
    subst H
    exact Ex.done (by rfl)
  · replace H := (if_neg q1).symm.trans H
    by_cases q2 : a0 = (27 : Int32)
    · replace H := (if_pos q2).symm.trans H
      refine Ex.sw (t := 176) (ls := [some (.int a0)]) (st := []) (S := xSt xG0 hc hr xs g L c z) ?_ (by rfl) (by rw [q2]; rfl)
      refine Ex.many (f' := (177, [none], [.int (3 : Int32)], xSt xG0 hc hr xs g L c z)) ?_ 1 (by rfl)
      skip
      subst H
      exact Ex.done (by rfl)
    · replace H := (if_neg q2).symm.trans H
      by_cases q3 : a0 = (54 : Int32) ∨ a0 = (58 : Int32) ∨ a0 = (59 : Int32)
      · replace H := (if_pos q3).symm.trans H
        refine Ex.sw (t := 174) (ls := [some (.int a0)]) (st := []) (S := xSt xG0 hc hr xs g L c z) ?_ (by rfl) (by rcases q3 with q3 | q3 | q3 <;> (rw [q3]; rfl))
        refine Ex.many (f' := (175, [none], [.int (2 : Int32)], xSt xG0 hc hr xs g L c z)) ?_ 1 (by rfl)
        skip
        subst H
        exact Ex.done (by rfl)
      · replace H := (if_neg q3).symm.trans H
        refine Ex.sw (t := 178) (ls := [some (.int a0)]) (st := []) (S := xSt xG0 hc hr xs g L c z) ?_ (by rfl) (xtsw_d [(26 : Int32), (27 : Int32), (33 : Int32), (34 : Int32), (36 : Int32), (40 : Int32), (44 : Int32), (45 : Int32), (46 : Int32), (47 : Int32), (54 : Int32), (58 : Int32), (59 : Int32), (64 : Int32)] (by decide +kernel) (by decide +kernel) (List.forall_mem_cons.mpr ⟨fun e => q1 (.inl e), (List.forall_mem_cons.mpr ⟨fun e => q2 e, (List.forall_mem_cons.mpr ⟨fun e => q1 (.inr (.inl e)), (List.forall_mem_cons.mpr ⟨fun e => q1 (.inr (.inr (.inl e))), (List.forall_mem_cons.mpr ⟨fun e => q1 (.inr (.inr (.inr (.inl e)))), (List.forall_mem_cons.mpr ⟨fun e => q1 (.inr (.inr (.inr (.inr (.inl e))))), (List.forall_mem_cons.mpr ⟨fun e => q1 (.inr (.inr (.inr (.inr (.inr (.inl e)))))), (List.forall_mem_cons.mpr ⟨fun e => q1 (.inr (.inr (.inr (.inr (.inr (.inr (.inl e))))))), (List.forall_mem_cons.mpr ⟨fun e => q1 (.inr (.inr (.inr (.inr (.inr (.inr (.inr (.inl e)))))))), (List.forall_mem_cons.mpr ⟨fun e => q1 (.inr (.inr (.inr (.inr (.inr (.inr (.inr (.inr (.inl e))))))))), (List.forall_mem_cons.mpr ⟨fun e => q3 (.inl e), (List.forall_mem_cons.mpr ⟨fun e => q3 (.inr (.inl e)), (List.forall_mem_cons.mpr ⟨fun e => q3 (.inr (.inr e)), (List.forall_mem_cons.mpr ⟨fun e => q1 (.inr (.inr (.inr (.inr (.inr (.inr (.inr (.inr (.inr e))))))))), (fun _ h => absurd h List.not_mem_nil)⟩)⟩)⟩)⟩)⟩)⟩)⟩)⟩)⟩)⟩)⟩)⟩)⟩)⟩))
        refine Ex.many (f' := (179, [some (.int a0)], [.int a0], xSt xG0 hc hr xs g L c z)) ?_ 1 (by rfl)
        refine Ex.call (mk := 45) (vs := [.int a0]) (rest := []) (by rfl) (by rfl) (Ex.up (T_o_isUnary a0 _ rfl) (by decide)) (xbb c z) ?_
        show Ex _ _ (182, [some (.int a0)], [.int (f_o_isUnary a0)], xSt xG0 hc hr xs g L c z) _
        refine Ex.ite (ls := [some (.int a0)]) (st := []) (S := xSt xG0 hc hr xs g L c z) (by rfl) (fun q5 => ?_) (fun q5 => ?_)
        · replace H := (if_pos q5).symm.trans H
          refine Ex.many (f' := (190, [some (.int a0)], [.int a0], xSt xG0 hc hr xs g L c z)) ?_ 1 (by rfl)
          refine Ex.call (mk := 17) (vs := [.int a0]) (rest := []) (by rfl) (by rfl) (Ex.up (T_o_isNumeric a0 _ rfl) (by decide)) (xbb c z) ?_
          show Ex _ _ (193, [some (.int a0)], [.int (f_o_isNumeric a0)], xSt xG0 hc hr xs g L c z) _
          refine Ex.ite (ls := [none]) (st := []) (S := xSt xG0 hc hr xs g L c z) (by rfl) (fun q7 => ?_) (fun q7 => ?_)
          · replace H := (if_pos q7).symm.trans H
            refine Ex.many (f' := (201, [none], [.int (0 : Int32)], xSt xG0 hc hr xs g L c z)) ?_ 1 (by rfl)
            skip
            subst H
            exact Ex.done (by rfl)
          · replace H := (if_neg q7).symm.trans H
            refine Ex.many (f' := (201, [none], [.int (2 : Int32)], xSt xG0 hc hr xs g L c z)) ?_ 2 (by rfl)
            skip
            subst H
            exact Ex.done (by rfl)
        · replace H := (if_neg q5).symm.trans H
          refine Ex.many (f' := (201, [none], [.int (1 : Int32)], xSt xG0 hc hr xs g L c z)) ?_ 2 (by rfl)
          skip
          subst H
          exact Ex.done (by rfl)
def f_o_gives (a0 : Int32) : Int32 :=
  if a0 = (1 : Int32) ∨ a0 = (26 : Int32) ∨ a0 = (33 : Int32) ∨ a0 = (36 : Int32) ∨ a0 = (54 : Int32) ∨ a0 = (58 : Int32) ∨ a0 = (59 : Int32) then (0 : Int32) else ((1 : Int32))
theorem T_o_gives {hc : xI} {hr : xI} {g : xJ} {xs : Nat → Int32} {L c z : Nat} (a0 : Int32) (r : Int32) (H : f_o_gives a0 = r) : Ex 0 98 (0, [some (.int a0)], [], xSt xG0 hc hr xs g L c z) (.inl (some (.int r)), xSt xG0 hc hr xs g L c z) := by
  unfold f_o_gives at H
  refine Ex.many (f' := (1, [some (.int a0)], [.int a0], xSt xG0 hc hr xs g L c z)) ?_ 1 (by rfl)
  by_cases q1 : a0 = (1 : Int32) ∨ a0 = (26 : Int32) ∨ a0 = (33 : Int32) ∨ a0 = (36 : Int32) ∨ a0 = (54 : Int32) ∨ a0 = (58 : Int32) ∨ a0 = (59 : Int32)
  · replace H := (if_pos q1).symm.trans H
    refine Ex.sw (t := 68) (ls := [some (.int a0)]) (st := []) (S := xSt xG0 hc hr xs g L c z) ?_ (by rfl) (by rcases q1 with q1 | q1 | q1 | q1 | q1 | q1 | q1 <;> (rw [q1]; rfl))
    refine Ex.many (f' := (69, [none], [.int (0 : Int32)], xSt xG0 hc hr xs g L c z)) ?_ 1 (by rfl)
    skip
    subst H
    exact Ex.done (by rfl)
  · replace H := (if_neg q1).symm.trans H
    refine Ex.sw (t := 70) (ls := [some (.int a0)]) (st := []) (S := xSt xG0 hc hr xs g L c z) ?_ (by rfl) (xlsw_d [(1 : Int32), (26 : Int32), (33 : Int32), (36 : Int32), (54 : Int32), (58 : Int32), (59 : Int32)] (by decide +kernel) (List.forall_mem_cons.mpr ⟨fun e => q1 (.inl e), (List.forall_mem_cons.mpr ⟨fun e => q1 (.inr (.inl e)), (List.forall_mem_cons.mpr ⟨fun e => q1 (.inr (.inr (.inl e))), (List.forall_mem_cons.mpr ⟨fun e => q1 (.inr (.inr (.inr (.inl e)))), (List.forall_mem_cons.mpr ⟨fun e => q1 (.inr (.inr (.inr (.inr (.inl e))))), (List.forall_mem_cons.mpr ⟨fun e => q1 (.inr (.inr (.inr (.inr (.inr (.inl e)))))), (List.forall_mem_cons.mpr ⟨fun e => q1 (.inr (.inr (.inr (.inr (.inr (.inr e)))))), (fun _ h => absurd h List.not_mem_nil)⟩)⟩)⟩)⟩)⟩)⟩)⟩))
    refine Ex.many (f' := (71, [none], [.int (1 : Int32)], xSt xG0 hc hr xs g L c z)) ?_ 1 (by rfl)
    skip
    subst H
    exact Ex.done (by rfl)
def f_k_checkTyping (a1 : Int32) (hc : xI) : Option xI :=
  if a1 = (0 : Int32) then ((f_k_leaveOff hc).bind fun q2 => some q2) else (if a1 = (2 : Int32) ∨ a1 = (3 : Int32) then ((f_k_immediate hc).bind fun q4 => (f_k_openFrame a1 q4 (hc 13 11) hc).bind fun q5 => some q5) else (if a1 = (4 : Int32) then ((f_k_popValues (1 : Int32) hc).bind fun q7 => (f_k_immediate q7).bind fun q8 => (f_k_openFrame a1 q8 (q7 13 11) q7).bind fun q9 => some q9) else (if a1 = (5 : Int32) then ((f_k_checkElse hc).bind fun q11 => some q11) else (if a1 = (11 : Int32) then ((f_k_checkEnd hc).bind fun q13 => some q13) else (if a1 = (12 : Int32) then ((f_k_takenByLabel ((hc 13 11) + (1 : Int32)) hc).bind fun q15 => (f_k_popValues q15 hc).bind fun q16 => (f_k_leaveOff q16).bind fun q17 => some q17) else (if a1 = (13 : Int32) then ((f_k_popValues (1 : Int32) hc).bind fun q19 => (f_k_takenByLabel ((q19 13 11) + (1 : Int32)) q19).bind fun q20 => (f_k_takenByLabel ((q19 13 11) + (1 : Int32)) q19).bind fun q21 => (f_k_exchange q20 q21 q19).bind fun q22 => some q22) else (if a1 = (14 : Int32) then ((f_k_immediate hc).bind fun q24 => (f_k_checkTableTyping q24 hc).bind fun q25 => some q25) else (if a1 = (15 : Int32) then (xgd (hc 13 10) 6 ((f_k_popValues (hc 6 (hc 13 10).toNatClampNeg) hc).bind fun q28 => (f_k_leaveOff q28).bind fun q29 => some q29)) else (if a1 = (16 : Int32) then ((f_k_immediate hc).bind fun q31 => xgd q31 6 ((f_k_immediate hc).bind fun q33 => xgd q33 6 ((f_k_exchange (hc 4 q31.toNatClampNeg) (hc 6 q33.toNatClampNeg) hc).bind fun q35 => some q35))) else ((f_k_exchange (f_o_takes a1) (f_o_gives a1) hc).bind fun q38 => some q38))))))))))
theorem T_k_checkTyping {hr : xI} {g : xJ} {xs : Nat → Int32} {L c z : Nat} (a1 : Int32) (hc : xI) (r : xI) (H : f_k_checkTyping a1 hc = some r) : Ex 4 86 (0, [some (.ref 13), some (.int a1)], [], xSt xG0 hc hr xs g L c z) (.inl none, xSt xG0 r hr xs g L c z) := by
  unfold f_k_checkTyping at H
  refine Ex.many (f' := (1, [some (.ref 13), some (.int a1)], [.int a1], xSt xG0 hc hr xs g L c z)) ?_ 1 (by rfl)
  by_cases q1 : a1 = (0 : Int32)
  · replace H := (if_pos q1).symm.trans H
    refine Ex.sw (t := 84) (ls := [some (.ref 13), some (.int a1)]) (st := []) (S := xSt xG0 hc hr xs g L c z) ?_ (by rfl) (by rw [q1]; rfl)
    refine Ex.many (f' := (85, [some (.ref 13), none], [.ref 13], xSt xG0 hc hr xs g L c z)) ?_ 1 (by rfl)
    obtain ⟨q2, hq2, H⟩ := xbd H
    refine Ex.call (mk := 87) (vs := [.ref 13]) (rest := []) (by rfl) (by rfl) (Ex.up (T_k_leaveOff hc q2 hq2) (by decide)) (xbb c z) ?_
    show Ex _ _ (88, [some (.ref 13), none], [], xSt xG0 q2 hr xs g L c z) _
    refine Ex.many (f' := (272, [none, none], [], xSt xG0 q2 hr xs g L c z)) ?_ 1 (by rfl)
    replace H := Option.some.inj H
    subst H
    exact Ex.done (by rfl)
  · replace H := (if_neg q1).symm.trans H
    by_cases q3 : a1 = (2 : Int32) ∨ a1 = (3 : Int32)
    · replace H := (if_pos q3).symm.trans H
      refine Ex.sw (t := 112) (ls := [some (.ref 13), some (.int a1)]) (st := []) (S := xSt xG0 hc hr xs g L c z) ?_ (by rfl) (by rcases q3 with q3 | q3 <;> (rw [q3]; rfl))
      refine Ex.many (f' := (115, [some (.ref 13), some (.int a1)], [.ref 13, .int a1, .ref 13], xSt xG0 hc hr xs g L c z)) ?_ 3 (by rfl)
      obtain ⟨q4, hq4, H⟩ := xbd H
      refine Ex.call (mk := 81) (vs := [.ref 13]) (rest := [.int a1, .ref 13]) (by rfl) (by rfl) (Ex.up (T_k_immediate hc q4 hq4) (by decide)) (xbb c z) ?_
      show Ex _ _ (118, [some (.ref 13), some (.int a1)], [.int q4, .int a1, .ref 13], xSt xG0 hc hr xs g L c z) _
      refine Ex.many (f' := (122, [some (.ref 13), none], [.int (hc 13 11), .int q4, .int a1, .ref 13], xSt xG0 hc hr xs g L c z)) ?_ 2 (by rfl)
      obtain ⟨q5, hq5, H⟩ := xbd H
      refine Ex.call (mk := 78) (vs := [.ref 13, .int a1, .int q4, .int (hc 13 11)]) (rest := []) (by rfl) (by rfl) (Ex.up (T_k_openFrame a1 q4 (hc 13 11) hc q5 hq5) (by decide)) (xbb c z) ?_
      show Ex _ _ (125, [some (.ref 13), none], [], xSt xG0 q5 hr xs g L c z) _
      refine Ex.many (f' := (272, [none, none], [], xSt xG0 q5 hr xs g L c z)) ?_ 1 (by rfl)
      replace H := Option.some.inj H
      subst H
      exact Ex.done (by rfl)
    · replace H := (if_neg q3).symm.trans H
      by_cases q6 : a1 = (4 : Int32)
      · replace H := (if_pos q6).symm.trans H
        refine Ex.sw (t := 91) (ls := [some (.ref 13), some (.int a1)]) (st := []) (S := xSt xG0 hc hr xs g L c z) ?_ (by rfl) (by rw [q6]; rfl)
        refine Ex.many (f' := (93, [some (.ref 13), some (.int a1)], [.int (1 : Int32), .ref 13], xSt xG0 hc hr xs g L c z)) ?_ 2 (by rfl)
        obtain ⟨q7, hq7, H⟩ := xbd H
        refine Ex.call (mk := 88) (vs := [.ref 13, .int (1 : Int32)]) (rest := []) (by rfl) (by rfl) (Ex.up (T_k_popValues (1 : Int32) hc q7 hq7) (by decide)) (xbb c z) ?_
        show Ex _ _ (96, [some (.ref 13), some (.int a1)], [], xSt xG0 q7 hr xs g L c z) _
        refine Ex.many (f' := (99, [some (.ref 13), some (.int a1)], [.ref 13, .int a1, .ref 13], xSt xG0 q7 hr xs g L c z)) ?_ 3 (by rfl)
        obtain ⟨q8, hq8, H⟩ := xbd H
        refine Ex.call (mk := 81) (vs := [.ref 13]) (rest := [.int a1, .ref 13]) (by rfl) (by rfl) (Ex.up (T_k_immediate q7 q8 hq8) (by decide)) (xbb c z) ?_
        show Ex _ _ (102, [some (.ref 13), some (.int a1)], [.int q8, .int a1, .ref 13], xSt xG0 q7 hr xs g L c z) _
        refine Ex.many (f' := (106, [some (.ref 13), none], [.int (q7 13 11), .int q8, .int a1, .ref 13], xSt xG0 q7 hr xs g L c z)) ?_ 2 (by rfl)
        obtain ⟨q9, hq9, H⟩ := xbd H
        refine Ex.call (mk := 78) (vs := [.ref 13, .int a1, .int q8, .int (q7 13 11)]) (rest := []) (by rfl) (by rfl) (Ex.up (T_k_openFrame a1 q8 (q7 13 11) q7 q9 hq9) (by decide)) (xbb c z) ?_
        show Ex _ _ (109, [some (.ref 13), none], [], xSt xG0 q9 hr xs g L c z) _
        refine Ex.many (f' := (272, [none, none], [], xSt xG0 q9 hr xs g L c z)) ?_ 1 (by rfl)
        replace H := Option.some.inj H
        subst H
        exact Ex.done (by rfl)
      · replace H := (if_neg q6).symm.trans H
        by_cases q10 : a1 = (5 : Int32)
        · replace H := (if_pos q10).symm.trans H
          refine Ex.sw (t := 128) (ls := [some (.ref 13), some (.int a1)]) (st := []) (S := xSt xG0 hc hr xs g L c z) ?_ (by rfl) (by rw [q10]; rfl)
          refine Ex.many (f' := (129, [some (.ref 13), none], [.ref 13], xSt xG0 hc hr xs g L c z)) ?_ 1 (by rfl)
          obtain ⟨q11, hq11, H⟩ := xbd H
          refine Ex.call (mk := 89) (vs := [.ref 13]) (rest := []) (by rfl) (by rfl) (Ex.up (T_k_checkElse hc q11 hq11) (by decide)) (xbb c z) ?_
          show Ex _ _ (132, [some (.ref 13), none], [], xSt xG0 q11 hr xs g L c z) _
          refine Ex.many (f' := (272, [none, none], [], xSt xG0 q11 hr xs g L c z)) ?_ 1 (by rfl)
          replace H := Option.some.inj H
          subst H
          exact Ex.done (by rfl)
        · replace H := (if_neg q10).symm.trans H
          by_cases q12 : a1 = (11 : Int32)
          · replace H := (if_pos q12).symm.trans H
            refine Ex.sw (t := 135) (ls := [some (.ref 13), some (.int a1)]) (st := []) (S := xSt xG0 hc hr xs g L c z) ?_ (by rfl) (by rw [q12]; rfl)
            refine Ex.many (f' := (136, [some (.ref 13), none], [.ref 13], xSt xG0 hc hr xs g L c z)) ?_ 1 (by rfl)
            obtain ⟨q13, hq13, H⟩ := xbd H
            refine Ex.call (mk := 91) (vs := [.ref 13]) (rest := []) (by rfl) (by rfl) (Ex.up (T_k_checkEnd hc q13 hq13) (by decide)) (xbb c z) ?_
            show Ex _ _ (139, [some (.ref 13), none], [], xSt xG0 q13 hr xs g L c z) _
            refine Ex.many (f' := (272, [none, none], [], xSt xG0 q13 hr xs g L c z)) ?_ 1 (by rfl)
            replace H := Option.some.inj H
            subst H
            exact Ex.done (by rfl)
          · replace H := (if_neg q12).symm.trans H
            by_cases q14 : a1 = (12 : Int32)
            · replace H := (if_pos q14).symm.trans H
              refine Ex.sw (t := 142) (ls := [some (.ref 13), some (.int a1)]) (st := []) (S := xSt xG0 hc hr xs g L c z) ?_ (by rfl) (by rw [q14]; rfl)
              refine Ex.many (f' := (150, [some (.ref 13), none], [.int ((hc 13 11) + (1 : Int32)), .ref 13, .ref 13], xSt xG0 hc hr xs g L c z)) ?_ 6 (by rfl)
              obtain ⟨q15, hq15, H⟩ := xbd H
              refine Ex.call (mk := 94) (vs := [.ref 13, .int ((hc 13 11) + (1 : Int32))]) (rest := [.ref 13]) (by rfl) (by rfl) (Ex.up (T_k_takenByLabel ((hc 13 11) + (1 : Int32)) hc q15 hq15) (by decide)) (xbb c z) ?_
              show Ex _ _ (153, [some (.ref 13), none], [.int q15, .ref 13], xSt xG0 hc hr xs g L c z) _
              obtain ⟨q16, hq16, H⟩ := xbd H
              refine Ex.call (mk := 88) (vs := [.ref 13, .int q15]) (rest := []) (by rfl) (by rfl) (Ex.up (T_k_popValues q15 hc q16 hq16) (by decide)) (xbb c z) ?_
              show Ex _ _ (156, [some (.ref 13), none], [], xSt xG0 q16 hr xs g L c z) _
              refine Ex.many (f' := (157, [some (.ref 13), none], [.ref 13], xSt xG0 q16 hr xs g L c z)) ?_ 1 (by rfl)
              obtain ⟨q17, hq17, H⟩ := xbd H
              refine Ex.call (mk := 87) (vs := [.ref 13]) (rest := []) (by rfl) (by rfl) (Ex.up (T_k_leaveOff q16 q17 hq17) (by decide)) (xbb c z) ?_
              show Ex _ _ (160, [some (.ref 13), none], [], xSt xG0 q17 hr xs g L c z) _
              refine Ex.many (f' := (272, [none, none], [], xSt xG0 q17 hr xs g L c z)) ?_ 1 (by rfl)
              replace H := Option.some.inj H
              subst H
              exact Ex.done (by rfl)
            · replace H := (if_neg q14).symm.trans H
              by_cases q18 : a1 = (13 : Int32)
              · replace H := (if_pos q18).symm.trans H
                refine Ex.sw (t := 163) (ls := [some (.ref 13), some (.int a1)]) (st := []) (S := xSt xG0 hc hr xs g L c z) ?_ (by rfl) (by rw [q18]; rfl)
                refine Ex.many (f' := (165, [some (.ref 13), none], [.int (1 : Int32), .ref 13], xSt xG0 hc hr xs g L c z)) ?_ 2 (by rfl)
                obtain ⟨q19, hq19, H⟩ := xbd H
                refine Ex.call (mk := 88) (vs := [.ref 13, .int (1 : Int32)]) (rest := []) (by rfl) (by rfl) (Ex.up (T_k_popValues (1 : Int32) hc q19 hq19) (by decide)) (xbb c z) ?_
                show Ex _ _ (168, [some (.ref 13), none], [], xSt xG0 q19 hr xs g L c z) _
                refine Ex.many (f' := (176, [some (.ref 13), none], [.int ((q19 13 11) + (1 : Int32)), .ref 13, .ref 13], xSt xG0 q19 hr xs g L c z)) ?_ 6 (by rfl)
                obtain ⟨q20, hq20, H⟩ := xbd H
                refine Ex.call (mk := 94) (vs := [.ref 13, .int ((q19 13 11) + (1 : Int32))]) (rest := [.ref 13]) (by rfl) (by rfl) (Ex.up (T_k_takenByLabel ((q19 13 11) + (1 : Int32)) q19 q20 hq20) (by decide)) (xbb c z) ?_
                show Ex _ _ (179, [some (.ref 13), none], [.int q20, .ref 13], xSt xG0 q19 hr xs g L c z) _
                refine Ex.many (f' := (186, [some (.ref 13), none], [.int ((q19 13 11) + (1 : Int32)), .ref 13, .int q20, .ref 13], xSt xG0 q19 hr xs g L c z)) ?_ 5 (by rfl)
                obtain ⟨q21, hq21, H⟩ := xbd H
                refine Ex.call (mk := 94) (vs := [.ref 13, .int ((q19 13 11) + (1 : Int32))]) (rest := [.int q20, .ref 13]) (by rfl) (by rfl) (Ex.up (T_k_takenByLabel ((q19 13 11) + (1 : Int32)) q19 q21 hq21) (by decide)) (xbb c z) ?_
                show Ex _ _ (189, [some (.ref 13), none], [.int q21, .int q20, .ref 13], xSt xG0 q19 hr xs g L c z) _
                obtain ⟨q22, hq22, H⟩ := xbd H
                refine Ex.call (mk := 95) (vs := [.ref 13, .int q20, .int q21]) (rest := []) (by rfl) (by rfl) (Ex.up (T_k_exchange q20 q21 q19 q22 hq22) (by decide)) (xbb c z) ?_
                show Ex _ _ (192, [none, none], [], xSt xG0 q22 hr xs g L c z) _
                refine Ex.many (f' := (272, [none, none], [], xSt xG0 q22 hr xs g L c z)) ?_ 1 (by rfl)
                replace H := Option.some.inj H
                subst H
                exact Ex.done (by rfl)
              · replace H := (if_neg q18).symm.trans H
                by_cases q23 : a1 = (14 : Int32)
                · replace H := (if_pos q23).symm.trans H
                  refine Ex.sw (t := 195) (ls := [some (.ref 13), some (.int a1)]) (st := []) (S := xSt xG0 hc hr xs g L c z) ?_ (by rfl) (by rw [q23]; rfl)
                  refine Ex.many (f' := (197, [some (.ref 13), none], [.ref 13, .ref 13], xSt xG0 hc hr xs g L c z)) ?_ 2 (by rfl)
                  obtain ⟨q24, hq24, H⟩ := xbd H
                  refine Ex.call (mk := 81) (vs := [.ref 13]) (rest := [.ref 13]) (by rfl) (by rfl) (Ex.up (T_k_immediate hc q24 hq24) (by decide)) (xbb c z) ?_
                  show Ex _ _ (200, [some (.ref 13), none], [.int q24, .ref 13], xSt xG0 hc hr xs g L c z) _
                  obtain ⟨q25, hq25, H⟩ := xbd H
                  refine Ex.call (mk := 96) (vs := [.ref 13, .int q24]) (rest := []) (by rfl) (by rfl) (Ex.up (T_k_checkTableTyping q24 hc q25 hq25) (by decide)) (xbb c z) ?_
                  show Ex _ _ (203, [none, none], [], xSt xG0 q25 hr xs g L c z) _
                  refine Ex.many (f' := (272, [none, none], [], xSt xG0 q25 hr xs g L c z)) ?_ 1 (by rfl)
                  replace H := Option.some.inj H
                  subst H
                  exact Ex.done (by rfl)
                · replace H := (if_neg q23).symm.trans H
                  by_cases q26 : a1 = (15 : Int32)
                  · replace H := (if_pos q26).symm.trans H
                    refine Ex.sw (t := 206) (ls := [some (.ref 13), some (.int a1)]) (st := []) (S := xSt xG0 hc hr xs g L c z) ?_ (by rfl) (by rw [q26]; rfl)
                    refine Ex.many (f' := (218, [some (.ref 13), none], [.int (hc 13 10), .ref 6, .ref 13], xSt xG0 hc hr xs g L c z)) ?_ 6 (by rfl)
                    obtain ⟨g27, H⟩ := xgd_some H
                    refine Ex.guard (f' := (219, [some (.ref 13), none], [.int (hc 6 (hc 13 10).toNatClampNeg), .ref 13], xSt xG0 hc hr xs g L c z)) (by rfl) g27 ?_
                    obtain ⟨q28, hq28, H⟩ := xbd H
                    refine Ex.call (mk := 88) (vs := [.ref 13, .int (hc 6 (hc 13 10).toNatClampNeg)]) (rest := []) (by rfl) (by rfl) (Ex.up (T_k_popValues (hc 6 (hc 13 10).toNatClampNeg) hc q28 hq28) (by decide)) (xbb c z) ?_
                    show Ex _ _ (222, [some (.ref 13), none], [], xSt xG0 q28 hr xs g L c z) _
                    refine Ex.many (f' := (223, [some (.ref 13), none], [.ref 13], xSt xG0 q28 hr xs g L c z)) ?_ 1 (by rfl)
                    obtain ⟨q29, hq29, H⟩ := xbd H
                    refine Ex.call (mk := 87) (vs := [.ref 13]) (rest := []) (by rfl) (by rfl) (Ex.up (T_k_leaveOff q28 q29 hq29) (by decide)) (xbb c z) ?_
                    show Ex _ _ (226, [some (.ref 13), none], [], xSt xG0 q29 hr xs g L c z) _
                    refine Ex.many (f' := (272, [none, none], [], xSt xG0 q29 hr xs g L c z)) ?_ 1 (by rfl)
                    replace H := Option.some.inj H
                    subst H
                    exact Ex.done (by rfl)
                  · replace H := (if_neg q26).symm.trans H
                    by_cases q30 : a1 = (16 : Int32)
                    · replace H := (if_pos q30).symm.trans H
                      refine Ex.sw (t := 229) (ls := [some (.ref 13), some (.int a1)]) (st := []) (S := xSt xG0 hc hr xs g L c z) ?_ (by rfl) (by rw [q30]; rfl)
                      refine Ex.many (f' := (238, [some (.ref 13), none], [.ref 13, .ref 4, .ref 13], xSt xG0 hc hr xs g L c z)) ?_ 5 (by rfl)
                      obtain ⟨q31, hq31, H⟩ := xbd H
                      refine Ex.call (mk := 81) (vs := [.ref 13]) (rest := [.ref 4, .ref 13]) (by rfl) (by rfl) (Ex.up (T_k_immediate hc q31 hq31) (by decide)) (xbb c z) ?_
                      show Ex _ _ (241, [some (.ref 13), none], [.int q31, .ref 4, .ref 13], xSt xG0 hc hr xs g L c z) _
                      obtain ⟨g32, H⟩ := xgd_some H
                      refine Ex.guard (f' := (242, [some (.ref 13), none], [.int (hc 4 q31.toNatClampNeg), .ref 13], xSt xG0 hc hr xs g L c z)) (by rfl) g32 ?_
                      refine Ex.many (f' := (250, [some (.ref 13), none], [.ref 13, .ref 6, .int (hc 4 q31.toNatClampNeg), .ref 13], xSt xG0 hc hr xs g L c z)) ?_ 4 (by rfl)
                      obtain ⟨q33, hq33, H⟩ := xbd H
                      refine Ex.call (mk := 81) (vs := [.ref 13]) (rest := [.ref 6, .int (hc 4 q31.toNatClampNeg), .ref 13]) (by rfl) (by rfl) (Ex.up (T_k_immediate hc q33 hq33) (by decide)) (xbb c z) ?_
                      show Ex _ _ (253, [some (.ref 13), none], [.int q33, .ref 6, .int (hc 4 q31.toNatClampNeg), .ref 13], xSt xG0 hc hr xs g L c z) _
                      obtain ⟨g34, H⟩ := xgd_some H
                      refine Ex.guard (f' := (254, [none, none], [.int (hc 6 q33.toNatClampNeg), .int (hc 4 q31.toNatClampNeg), .ref 13], xSt xG0 hc hr xs g L c z)) (by rfl) g34 ?_
                      obtain ⟨q35, hq35, H⟩ := xbd H
                      refine Ex.call (mk := 95) (vs := [.ref 13, .int (hc 4 q31.toNatClampNeg), .int (hc 6 q33.toNatClampNeg)]) (rest := []) (by rfl) (by rfl) (Ex.up (T_k_exchange (hc 4 q31.toNatClampNeg) (hc 6 q33.toNatClampNeg) hc q35 hq35) (by decide)) (xbb c z) ?_
                      show Ex _ _ (257, [none, none], [], xSt xG0 q35 hr xs g L c z) _
                      refine Ex.many (f' := (272, [none, none], [], xSt xG0 q35 hr xs g L c z)) ?_ 1 (by rfl)
                      replace H := Option.some.inj H
                      subst H
                      exact Ex.done (by rfl)
                    · replace H := (if_neg q30).symm.trans H
                      refine Ex.sw (t := 260) (ls := [some (.ref 13), some (.int a1)]) (st := []) (S := xSt xG0 hc hr xs g L c z) ?_ (by rfl) (xtsw_d [(0 : Int32), (2 : Int32), (3 : Int32), (4 : Int32), (5 : Int32), (11 : Int32), (12 : Int32), (13 : Int32), (14 : Int32), (15 : Int32), (16 : Int32)] (by decide +kernel) (by decide +kernel) (List.forall_mem_cons.mpr ⟨fun e => q1 e, (List.forall_mem_cons.mpr ⟨fun e => q3 (.inl e), (List.forall_mem_cons.mpr ⟨fun e => q3 (.inr e), (List.forall_mem_cons.mpr ⟨fun e => q6 e, (List.forall_mem_cons.mpr ⟨fun e => q10 e, (List.forall_mem_cons.mpr ⟨fun e => q12 e, (List.forall_mem_cons.mpr ⟨fun e => q14 e, (List.forall_mem_cons.mpr ⟨fun e => q18 e, (List.forall_mem_cons.mpr ⟨fun e => q23 e, (List.forall_mem_cons.mpr ⟨fun e => q26 e, (List.forall_mem_cons.mpr ⟨fun e => q30 e, (fun _ h => absurd h List.not_mem_nil)⟩)⟩)⟩)⟩)⟩)⟩)⟩)⟩)⟩)⟩)⟩))
                      refine Ex.many (f' := (262, [some (.ref 13), some (.int a1)], [.int a1, .ref 13], xSt xG0 hc hr xs g L c z)) ?_ 2 (by rfl)
                      refine Ex.call (mk := 97) (vs := [.int a1]) (rest := [.ref 13]) (by rfl) (by rfl) (Ex.up (T_o_takes a1 _ rfl) (by decide)) (xbb c z) ?_
                      show Ex _ _ (265, [some (.ref 13), some (.int a1)], [.int (f_o_takes a1), .ref 13], xSt xG0 hc hr xs g L c z) _
                      refine Ex.many (f' := (266, [none, some (.int a1)], [.int a1, .int (f_o_takes a1), .ref 13], xSt xG0 hc hr xs g L c z)) ?_ 1 (by rfl)
                      refine Ex.call (mk := 98) (vs := [.int a1]) (rest := [.int (f_o_takes a1), .ref 13]) (by rfl) (by rfl) (Ex.up (T_o_gives a1 _ rfl) (by decide)) (xbb c z) ?_
                      show Ex _ _ (269, [none, some (.int a1)], [.int (f_o_gives a1), .int (f_o_takes a1), .ref 13], xSt xG0 hc hr xs g L c z) _
                      obtain ⟨q38, hq38, H⟩ := xbd H
                      refine Ex.call (mk := 95) (vs := [.ref 13, .int (f_o_takes a1), .int (f_o_gives a1)]) (rest := []) (by rfl) (by rfl) (Ex.up (T_k_exchange (f_o_takes a1) (f_o_gives a1) hc q38 hq38) (by decide)) (xbb c z) ?_
                      show Ex _ _ (272, [none, none], [], xSt xG0 q38 hr xs g L c z) _
                      replace H := Option.some.inj H
                      subst H
                      exact Ex.done (by rfl)
def f_k_checkBody_147 (hc : xI) : Option xI :=
  if (hc 13 6) ≤ 0 then (some hc) else ((f_k_fail (1 : Int32) hc).bind fun q2 => some q2)
theorem T_k_checkBody_147 {hr : xI} {g : xJ} {xs : Nat → Int32} {L c z : Nat} (hc : xI) (r : xI) (H : f_k_checkBody_147 hc = some r) : Ex 5 77 (147, [some (.ref 13), none, none, none], [], xSt xG0 hc hr xs g L c z) (.inl none, xSt xG0 r hr xs g L c z) := by
  unfold f_k_checkBody_147 at H
  refine Ex.many (f' := (151, [some (.ref 13), none, none, none], [.int (hc 13 6)], xSt xG0 hc hr xs g L c z)) ?_ 2 (by rfl)
  refine Ex.ite (ls := [some (.ref 13), none, none, none]) (st := []) (S := xSt xG0 hc hr xs g L c z) (by rfl) (fun q1 => ?_) (fun q1 => ?_)
  · replace H := (if_pos q1).symm.trans H
    replace H := Option.some.inj H
    subst H
    exact Ex.done (by rfl)
  · replace H := (if_neg q1).symm.trans H
    refine Ex.many (f' := (156, [some (.ref 13), none, none, none], [.int (1 : Int32), .ref 13], xSt xG0 hc hr xs g L c z)) ?_ 2 (by rfl)
    obtain ⟨q2, hq2, H⟩ := xbd H
    refine Ex.call (mk := 79) (vs := [.ref 13, .int (1 : Int32)]) (rest := []) (by rfl) (by rfl) (Ex.up (T_k_fail (1 : Int32) hc q2 hq2) (by decide)) (xbb c z) ?_
    show Ex _ _ (159, [some (.ref 13), none, none, none], [], xSt xG0 q2 hr xs g L c z) _
    replace H := Option.some.inj H
    subst H
    exact Ex.done (by rfl)
def f_k_checkBody_113 (k : Int32 → xI → Option xI) (v2 : Int32) (hc : xI) : Option xI :=
  if (hc 13 9) = 0 then ((f_c_sizeAt (hc 13 11) hc).bind fun q2 => k (v2 + (-1 : Int32)) (xput hc 13 11 ((hc 13 11) + q2))) else (some hc)
theorem T_k_checkBody_113 {hr : xI} {g : xJ} {xs : Nat → Int32} {L c z : Nat} (k : Int32 → xI → Option xI) (hk : ∀ (v2 : Int32) (hc : xI) (r : xI), k v2 hc = some r → Ex 5 77 (65, [some (.ref 13), none, some (.int v2), none], [], xSt xG0 hc hr xs g L c z) (.inl none, xSt xG0 r hr xs g L c z)) (v2 : Int32) (hc : xI) (r : xI) (H : f_k_checkBody_113 k v2 hc = some r) : Ex 5 77 (113, [some (.ref 13), none, some (.int v2), none], [], xSt xG0 hc hr xs g L c z) (.inl none, xSt xG0 r hr xs g L c z) := by
  unfold f_k_checkBody_113 at H
  refine Ex.many (f' := (117, [some (.ref 13), none, some (.int v2), none], [.int (hc 13 9)], xSt xG0 hc hr xs g L c z)) ?_ 2 (by rfl)
  refine Ex.ite (ls := [some (.ref 13), none, some (.int v2), none]) (st := []) (S := xSt xG0 hc hr xs g L c z) (by rfl) (fun q1 => ?_) (fun q1 => ?_)
  · replace H := (if_pos q1).symm.trans H
    refine Ex.many (f' := (134, [some (.ref 13), none, some (.int v2), none], [.int (hc 13 11), .ref 1, .int (hc 13 11), .ref 13], xSt xG0 hc hr xs g L c z)) ?_ 7 (by rfl)
    obtain ⟨q2, hq2, H⟩ := xbd H
    refine Ex.call (mk := 15) (vs := [.ref 1, .int (hc 13 11)]) (rest := [.int (hc 13 11), .ref 13]) (by rfl) (by rfl) (Ex.up (T_c_sizeAt (hc 13 11) hc q2 hq2) (by decide)) (xbb c z) ?_
    show Ex _ _ (137, [some (.ref 13), none, some (.int v2), none], [.int q2, .int (hc 13 11), .ref 13], xSt xG0 hc hr xs g L c z) _
    refine Ex.many (f' := (138, [some (.ref 13), none, some (.int v2), none], [.int ((hc 13 11) + q2), .ref 13], xSt xG0 hc hr xs g L c z)) ?_ 1 (by rfl)
    refine Ex.putC (pc := 141) (k := 13) (j := 11) (v := ((hc 13 11) + q2)) (ls := [some (.ref 13), none, some (.int v2), none]) (st := []) (hc := hc) ?_ (by rfl) (by rfl)
    refine Ex.many (f' := (65, [some (.ref 13), none, some (.int (v2 + (-1 : Int32))), none], [], xSt xG0 (xput hc 13 11 ((hc 13 11) + q2)) hr xs g L c z)) ?_ 2 (by rfl)
    exact hk (v2 + (-1 : Int32)) (xput hc 13 11 ((hc 13 11) + q2)) r H
  · replace H := (if_neg q1).symm.trans H
    replace H := Option.some.inj H
    subst H
    exact Ex.done (by rfl)
def f_k_checkBody_65 : Nat → Int32 → xI → Option xI
  | 0, _, _ => none
  | n + 1, v2, hc => if v2 ≤ 0 then (f_k_checkBody_147 hc) else (if (hc 13 8) ≤ (hc 13 11) then (f_k_checkBody_147 hc) else (xgd (hc 13 11) 240 ((f_k_checkImmediates (f_o_shapeOf (hc 2 (hc 13 11).toNatClampNeg)) hc).bind fun q5 => if (q5 13 9) = 0 then ((f_k_checkTyping (hc 2 (hc 13 11).toNatClampNeg) q5).bind fun q7 => f_k_checkBody_113 (f_k_checkBody_65 n) v2 q7) else (f_k_checkBody_113 (f_k_checkBody_65 n) v2 q5))))
theorem T_k_checkBody_65 {hr : xI} {g : xJ} {xs : Nat → Int32} {L c z : Nat} (n : Nat) : ∀ (v2 : Int32) (hc : xI) (r : xI), f_k_checkBody_65 n v2 hc = some r → Ex 5 77 (65, [some (.ref 13), none, some (.int v2), none], [], xSt xG0 hc hr xs g L c z) (.inl none, xSt xG0 r hr xs g L c z) := by
  induction n with
  | zero =>
    intro v2 hc r H
    unfold f_k_checkBody_65 at H
    cases H
  | succ n ih =>
    intro v2 hc r H
    unfold f_k_checkBody_65 at H
    refine Ex.many (f' := (66, [some (.ref 13), none, some (.int v2), none], [.int v2], xSt xG0 hc hr xs g L c z)) ?_ 1 (by rfl)
    refine Ex.ite (ls := [some (.ref 13), none, some (.int v2), none]) (st := []) (S := xSt xG0 hc hr xs g L c z) (by rfl) (fun q1 => ?_) (fun q1 => ?_)
    · replace H := (if_pos q1).symm.trans H
      refine Ex.kill (ls' := [some (.ref 13), none, none, none]) (by rfl) ?_
      exact T_k_checkBody_147 hc r H
    · replace H := (if_neg q1).symm.trans H
      refine Ex.many (f' := (77, [some (.ref 13), none, some (.int v2), none], [.int (hc 13 8), .int (hc 13 11)], xSt xG0 hc hr xs g L c z)) ?_ 4 (by rfl)
      refine Ex.ite (ls := [some (.ref 13), none, some (.int v2), none]) (st := []) (S := xSt xG0 hc hr xs g L c z) (by rfl) (fun q2 => ?_) (fun q2 => ?_)
      · replace H := (if_pos q2).symm.trans H
        refine Ex.kill (ls' := [some (.ref 13), none, none, none]) (by rfl) ?_
        exact T_k_checkBody_147 hc r H
      · replace H := (if_neg q2).symm.trans H
        refine Ex.many (f' := (91, [some (.ref 13), none, some (.int v2), none], [.int (hc 13 11), .ref 2], xSt xG0 hc hr xs g L c z)) ?_ 5 (by rfl)
        obtain ⟨g3, H⟩ := xgd_some H
        refine Ex.guard (f' := (92, [some (.ref 13), none, some (.int v2), none], [.int (hc 2 (hc 13 11).toNatClampNeg)], xSt xG0 hc hr xs g L c z)) (by rfl) g3 ?_
        refine Ex.many (f' := (95, [some (.ref 13), none, some (.int v2), some (.int (hc 2 (hc 13 11).toNatClampNeg))], [.int (hc 2 (hc 13 11).toNatClampNeg), .ref 13], xSt xG0 hc hr xs g L c z)) ?_ 3 (by rfl)
        refine Ex.call (mk := 16) (vs := [.int (hc 2 (hc 13 11).toNatClampNeg)]) (rest := [.ref 13]) (by rfl) (by rfl) (Ex.up (T_o_shapeOf (hc 2 (hc 13 11).toNatClampNeg) _ rfl) (by decide)) (xbb c z) ?_
        show Ex _ _ (98, [some (.ref 13), none, some (.int v2), some (.int (hc 2 (hc 13 11).toNatClampNeg))], [.int (f_o_shapeOf (hc 2 (hc 13 11).toNatClampNeg)), .ref 13], xSt xG0 hc hr xs g L c z) _
        obtain ⟨q5, hq5, H⟩ := xbd H
        refine Ex.call (mk := 80) (vs := [.ref 13, .int (f_o_shapeOf (hc 2 (hc 13 11).toNatClampNeg))]) (rest := []) (by rfl) (by rfl) (Ex.up (T_k_checkImmediates (f_o_shapeOf (hc 2 (hc 13 11).toNatClampNeg)) hc q5 hq5) (by decide)) (xbb c z) ?_
        show Ex _ _ (101, [some (.ref 13), none, some (.int v2), some (.int (hc 2 (hc 13 11).toNatClampNeg))], [], xSt xG0 q5 hr xs g L c z) _
        refine Ex.many (f' := (105, [some (.ref 13), none, some (.int v2), some (.int (hc 2 (hc 13 11).toNatClampNeg))], [.int (q5 13 9)], xSt xG0 q5 hr xs g L c z)) ?_ 2 (by rfl)
        refine Ex.ite (ls := [some (.ref 13), none, some (.int v2), some (.int (hc 2 (hc 13 11).toNatClampNeg))]) (st := []) (S := xSt xG0 q5 hr xs g L c z) (by rfl) (fun q6 => ?_) (fun q6 => ?_)
        · replace H := (if_pos q6).symm.trans H
          refine Ex.many (f' := (110, [some (.ref 13), none, some (.int v2), some (.int (hc 2 (hc 13 11).toNatClampNeg))], [.int (hc 2 (hc 13 11).toNatClampNeg), .ref 13], xSt xG0 q5 hr xs g L c z)) ?_ 2 (by rfl)
          obtain ⟨q7, hq7, H⟩ := xbd H
          refine Ex.call (mk := 86) (vs := [.ref 13, .int (hc 2 (hc 13 11).toNatClampNeg)]) (rest := []) (by rfl) (by rfl) (Ex.up (T_k_checkTyping (hc 2 (hc 13 11).toNatClampNeg) q5 q7 hq7) (by decide)) (xbb c z) ?_
          show Ex _ _ (113, [some (.ref 13), none, some (.int v2), some (.int (hc 2 (hc 13 11).toNatClampNeg))], [], xSt xG0 q7 hr xs g L c z) _
          refine Ex.kill (ls' := [some (.ref 13), none, some (.int v2), none]) (by rfl) ?_
          exact T_k_checkBody_113 (f_k_checkBody_65 n) ih v2 q7 r H
        · replace H := (if_neg q6).symm.trans H
          refine Ex.kill (ls' := [some (.ref 13), none, some (.int v2), none]) (by rfl) ?_
          exact T_k_checkBody_113 (f_k_checkBody_65 n) ih v2 q5 r H
def f_k_checkBody (a1 : Int32) (hc : xI) : Option xI :=
  (f_c_bodyStart a1 (xput hc 13 10 a1)).bind fun q1 => xgd a1 6 (xgd a1 6 ((f_k_openFrame (-1 : Int32) (hc 6 a1.toNatClampNeg) (-1 : Int32) (xput (xput (xput (xput (xput hc 13 10 a1) 13 11 q1) 13 8 (hc 3 a1.toNatClampNeg)) 13 6 (0 : Int32)) 13 7 (0 : Int32))).bind fun q4 => f_k_checkBody_65 1000 ((q4 13 8) - (q4 13 11)) q4))
theorem T_k_checkBody {hr : xI} {g : xJ} {xs : Nat → Int32} {L c z : Nat} (a1 : Int32) (hc : xI) (r : xI) (H : f_k_checkBody a1 hc = some r) : Ex 5 77 (0, [some (.ref 13), some (.int a1), none, none], [], xSt xG0 hc hr xs g L c z) (.inl none, xSt xG0 r hr xs g L c z) := by
  unfold f_k_checkBody at H
  refine Ex.many (f' := (2, [some (.ref 13), some (.int a1), none, none], [.int a1, .ref 13], xSt xG0 hc hr xs g L c z)) ?_ 2 (by rfl)
  refine Ex.putC (pc := 5) (k := 13) (j := 10) (v := a1) (ls := [some (.ref 13), some (.int a1), none, none]) (st := []) (hc := hc) ?_ (by rfl) (by rfl)
  refine Ex.many (f' := (11, [some (.ref 13), some (.int a1), none, none], [.int a1, .ref 1, .ref 13], xSt xG0 (xput hc 13 10 a1) hr xs g L c z)) ?_ 4 (by rfl)
  obtain ⟨q1, hq1, H⟩ := xbd H
  refine Ex.call (mk := 31) (vs := [.ref 1, .int a1]) (rest := [.ref 13]) (by rfl) (by rfl) (Ex.up (T_c_bodyStart a1 (xput hc 13 10 a1) q1 hq1) (by decide)) (xbb c z) ?_
  show Ex _ _ (14, [some (.ref 13), some (.int a1), none, none], [.int q1, .ref 13], xSt xG0 (xput hc 13 10 a1) hr xs g L c z) _
  refine Ex.putC (pc := 17) (k := 13) (j := 11) (v := q1) (ls := [some (.ref 13), some (.int a1), none, none]) (st := []) (hc := (xput hc 13 10 a1)) ?_ (by rfl) (by rfl)
  refine Ex.many (f' := (26, [some (.ref 13), some (.int a1), none, none], [.int a1, .ref 3, .ref 13], xSt xG0 (xput (xput hc 13 10 a1) 13 11 q1) hr xs g L c z)) ?_ 5 (by rfl)
  obtain ⟨g2, H⟩ := xgd_some H
  refine Ex.guard (f' := (27, [some (.ref 13), some (.int a1), none, none], [.int (hc 3 a1.toNatClampNeg), .ref 13], xSt xG0 (xput (xput hc 13 10 a1) 13 11 q1) hr xs g L c z)) (by rfl) g2 ?_
  refine Ex.putC (pc := 30) (k := 13) (j := 8) (v := (hc 3 a1.toNatClampNeg)) (ls := [some (.ref 13), some (.int a1), none, none]) (st := []) (hc := (xput (xput hc 13 10 a1) 13 11 q1)) ?_ (by rfl) (by rfl)
  refine Ex.many (f' := (32, [some (.ref 13), some (.int a1), none, none], [.int (0 : Int32), .ref 13], xSt xG0 (xput (xput (xput hc 13 10 a1) 13 11 q1) 13 8 (hc 3 a1.toNatClampNeg)) hr xs g L c z)) ?_ 2 (by rfl)
  refine Ex.putC (pc := 35) (k := 13) (j := 6) (v := (0 : Int32)) (ls := [some (.ref 13), some (.int a1), none, none]) (st := []) (hc := (xput (xput (xput hc 13 10 a1) 13 11 q1) 13 8 (hc 3 a1.toNatClampNeg))) ?_ (by rfl) (by rfl)
  refine Ex.many (f' := (37, [some (.ref 13), some (.int a1), none, none], [.int (0 : Int32), .ref 13], xSt xG0 (xput (xput (xput (xput hc 13 10 a1) 13 11 q1) 13 8 (hc 3 a1.toNatClampNeg)) 13 6 (0 : Int32)) hr xs g L c z)) ?_ 2 (by rfl)
  refine Ex.putC (pc := 40) (k := 13) (j := 7) (v := (0 : Int32)) (ls := [some (.ref 13), some (.int a1), none, none]) (st := []) (hc := (xput (xput (xput (xput hc 13 10 a1) 13 11 q1) 13 8 (hc 3 a1.toNatClampNeg)) 13 6 (0 : Int32))) ?_ (by rfl) (by rfl)
  refine Ex.many (f' := (50, [some (.ref 13), some (.int a1), none, none], [.int a1, .ref 6, .int (-1 : Int32), .ref 13], xSt xG0 (xput (xput (xput (xput (xput hc 13 10 a1) 13 11 q1) 13 8 (hc 3 a1.toNatClampNeg)) 13 6 (0 : Int32)) 13 7 (0 : Int32)) hr xs g L c z)) ?_ 6 (by rfl)
  obtain ⟨g3, H⟩ := xgd_some H
  refine Ex.guard (f' := (51, [some (.ref 13), some (.int a1), none, none], [.int (hc 6 a1.toNatClampNeg), .int (-1 : Int32), .ref 13], xSt xG0 (xput (xput (xput (xput (xput hc 13 10 a1) 13 11 q1) 13 8 (hc 3 a1.toNatClampNeg)) 13 6 (0 : Int32)) 13 7 (0 : Int32)) hr xs g L c z)) (by rfl) g3 ?_
  refine Ex.many (f' := (52, [some (.ref 13), some (.int a1), none, none], [.int (-1 : Int32), .int (hc 6 a1.toNatClampNeg), .int (-1 : Int32), .ref 13], xSt xG0 (xput (xput (xput (xput (xput hc 13 10 a1) 13 11 q1) 13 8 (hc 3 a1.toNatClampNeg)) 13 6 (0 : Int32)) 13 7 (0 : Int32)) hr xs g L c z)) ?_ 1 (by rfl)
  obtain ⟨q4, hq4, H⟩ := xbd H
  refine Ex.call (mk := 78) (vs := [.ref 13, .int (-1 : Int32), .int (hc 6 a1.toNatClampNeg), .int (-1 : Int32)]) (rest := []) (by rfl) (by rfl) (Ex.up (T_k_openFrame (-1 : Int32) (hc 6 a1.toNatClampNeg) (-1 : Int32) (xput (xput (xput (xput (xput hc 13 10 a1) 13 11 q1) 13 8 (hc 3 a1.toNatClampNeg)) 13 6 (0 : Int32)) 13 7 (0 : Int32)) q4 hq4) (by decide)) (xbb c z) ?_
  show Ex _ _ (55, [some (.ref 13), some (.int a1), none, none], [], xSt xG0 q4 hr xs g L c z) _
  refine Ex.many (f' := (65, [some (.ref 13), none, some (.int ((q4 13 8) - (q4 13 11))), none], [], xSt xG0 q4 hr xs g L c z)) ?_ 6 (by rfl)
  exact T_k_checkBody_65 1000 ((q4 13 8) - (q4 13 11)) q4 r H
def f_k_firstError_36 (hc : xI) : Option (Int32 × xI) :=
  some ((hc 13 9), hc)
theorem T_k_firstError_36 {hr : xI} {g : xJ} {xs : Nat → Int32} {L c z : Nat} (hc : xI) (r : (Int32 × xI)) (H : f_k_firstError_36 hc = some r) : Ex 6 76 (36, [some (.ref 13), none], [], xSt xG0 hc hr xs g L c z) (.inl (some (.int r.1)), xSt xG0 r.2 hr xs g L c z) := by
  unfold f_k_firstError_36 at H
  refine Ex.many (f' := (40, [some (.ref 13), none], [.int (hc 13 9)], xSt xG0 hc hr xs g L c z)) ?_ 2 (by rfl)
  replace H := Option.some.inj H
  subst H
  exact Ex.done (by rfl)
def f_k_firstError_7 : Nat → Int32 → xI → Option (Int32 × xI)
  | 0, _, _ => none
  | n + 1, v1, hc => if (hc 1 2) ≤ v1 then (f_k_firstError_36 hc) else (if (hc 13 9) = 0 then ((f_k_checkBody v1 hc).bind fun q3 => f_k_firstError_7 n (v1 + (1 : Int32)) q3) else (f_k_firstError_36 hc))
theorem T_k_firstError_7 {hr : xI} {g : xJ} {xs : Nat → Int32} {L c z : Nat} (n : Nat) : ∀ (v1 : Int32) (hc : xI) (r : (Int32 × xI)), f_k_firstError_7 n v1 hc = some r → Ex 6 76 (7, [some (.ref 13), some (.int v1)], [], xSt xG0 hc hr xs g L c z) (.inl (some (.int r.1)), xSt xG0 r.2 hr xs g L c z) := by
  induction n with
  | zero =>
    intro v1 hc r H
    unfold f_k_firstError_7 at H
    cases H
  | succ n ih =>
    intro v1 hc r H
    unfold f_k_firstError_7 at H
    refine Ex.many (f' := (15, [some (.ref 13), some (.int v1)], [.int (hc 1 2), .int v1], xSt xG0 hc hr xs g L c z)) ?_ 4 (by rfl)
    refine Ex.ite (ls := [some (.ref 13), some (.int v1)]) (st := []) (S := xSt xG0 hc hr xs g L c z) (by rfl) (fun q1 => ?_) (fun q1 => ?_)
    · replace H := (if_pos q1).symm.trans H
      refine Ex.kill (ls' := [some (.ref 13), none]) (by rfl) ?_
      exact T_k_firstError_36 hc r H
    · replace H := (if_neg q1).symm.trans H
      refine Ex.many (f' := (22, [some (.ref 13), some (.int v1)], [.int (hc 13 9)], xSt xG0 hc hr xs g L c z)) ?_ 2 (by rfl)
      refine Ex.ite (ls := [some (.ref 13), some (.int v1)]) (st := []) (S := xSt xG0 hc hr xs g L c z) (by rfl) (fun q2 => ?_) (fun q2 => ?_)
      · replace H := (if_pos q2).symm.trans H
        refine Ex.many (f' := (27, [some (.ref 13), some (.int v1)], [.int v1, .ref 13], xSt xG0 hc hr xs g L c z)) ?_ 2 (by rfl)
        obtain ⟨q3, hq3, H⟩ := xbd H
        refine Ex.call (mk := 77) (vs := [.ref 13, .int v1]) (rest := []) (by rfl) (by rfl) (Ex.up (T_k_checkBody v1 hc q3 hq3) (by decide)) (xbb c z) ?_
        show Ex _ _ (30, [some (.ref 13), some (.int v1)], [], xSt xG0 q3 hr xs g L c z) _
        refine Ex.many (f' := (7, [some (.ref 13), some (.int (v1 + (1 : Int32)))], [], xSt xG0 q3 hr xs g L c z)) ?_ 2 (by rfl)
        exact ih (v1 + (1 : Int32)) q3 r H
      · replace H := (if_neg q2).symm.trans H
        refine Ex.kill (ls' := [some (.ref 13), none]) (by rfl) ?_
        exact T_k_firstError_36 hc r H
def f_k_firstError (hc : xI) : Option (Int32 × xI) :=
  f_k_firstError_7 1000 (0 : Int32) (xput hc 13 9 (0 : Int32))
theorem T_k_firstError {hr : xI} {g : xJ} {xs : Nat → Int32} {L c z : Nat} (hc : xI) (r : (Int32 × xI)) (H : f_k_firstError hc = some r) : Ex 6 76 (0, [some (.ref 13), none], [], xSt xG0 hc hr xs g L c z) (.inl (some (.int r.1)), xSt xG0 r.2 hr xs g L c z) := by
  unfold f_k_firstError at H
  refine Ex.many (f' := (2, [some (.ref 13), none], [.int (0 : Int32), .ref 13], xSt xG0 hc hr xs g L c z)) ?_ 2 (by rfl)
  refine Ex.putC (pc := 5) (k := 13) (j := 9) (v := (0 : Int32)) (ls := [some (.ref 13), none]) (st := []) (hc := hc) ?_ (by rfl) (by rfl)
  refine Ex.many (f' := (7, [some (.ref 13), some (.int (0 : Int32))], [], xSt xG0 (xput hc 13 9 (0 : Int32)) hr xs g L c z)) ?_ 2 (by rfl)
  exact T_k_firstError_7 1000 (0 : Int32) (xput hc 13 9 (0 : Int32)) r H
def f_w_validate_27 (hc : xI) : Option ((Int32 ⊕ Nat) × xI) :=
  some ((.inr 1), hc)
theorem T_w_validate_27 {hr : xI} {g : xJ} {xs : Nat → Int32} {L c z : Nat} (hcz : 0 < c ∧ 6 ≤ z) (hc : xI) (r : ((Int32 ⊕ Nat) × xI)) (H : f_w_validate_27 hc = some r) : Ex 7 75 (27, [none, none], [], xSt xG0 hc hr xs g L c z) (xto r.1, xSt xG0 r.2 hr xs g L (xtc r.1 c) (xtz r.1 z)) := by
  unfold f_w_validate_27 at H
  replace H := Option.some.inj H
  subst H
  exact Ex.throw (w := 0) hcz (by rfl) (by decide) (by decide)
def f_w_validate (hc : xI) : Option ((Int32 ⊕ Nat) × xI) :=
  if (hc 0 6) = 0 then (if (hc 1 2) = 0 then (f_w_validate_27 hc) else ((f_c_hasLooseWords hc).bind fun q3 => if q3 = 0 then ((f_k_firstError hc).bind fun q5 => if q5.1 = 0 then (some ((.inl q5.1), (xput q5.2 0 6 (1 : Int32)))) else (some ((.inl q5.1), (xput (xput q5.2 0 8 (q5.2 13 10)) 0 9 (q5.2 13 11))))) else (f_w_validate_27 hc))) else (f_w_validate_27 hc)
theorem T_w_validate {hr : xI} {g : xJ} {xs : Nat → Int32} {L c z : Nat} (hcz : 0 < c ∧ 6 ≤ z) (hc : xI) (r : ((Int32 ⊕ Nat) × xI)) (H : f_w_validate hc = some r) : Ex 7 75 (0, [some (.ref 0), none], [], xSt xG0 hc hr xs g L c z) (xto r.1, xSt xG0 r.2 hr xs g L (xtc r.1 c) (xtz r.1 z)) := by
  unfold f_w_validate at H
  refine Ex.many (f' := (4, [some (.ref 0), none], [.int (hc 0 6)], xSt xG0 hc hr xs g L c z)) ?_ 2 (by rfl)
  refine Ex.ite (ls := [some (.ref 0), none]) (st := []) (S := xSt xG0 hc hr xs g L c z) (by rfl) (fun q1 => ?_) (fun q1 => ?_)
  · replace H := (if_pos q1).symm.trans H
    refine Ex.many (f' := (14, [some (.ref 0), none], [.int (hc 1 2)], xSt xG0 hc hr xs g L c z)) ?_ 3 (by rfl)
    refine Ex.ite (ls := [some (.ref 0), none]) (st := []) (S := xSt xG0 hc hr xs g L c z) (by rfl) (fun q2 => ?_) (fun q2 => ?_)
    · replace H := (if_pos q2).symm.trans H
      refine Ex.kill (ls' := [none, none]) (by rfl) ?_
      exact T_w_validate_27 hcz hc r H
    · replace H := (if_neg q2).symm.trans H
      refine Ex.many (f' := (21, [some (.ref 0), none], [.ref 1], xSt xG0 hc hr xs g L c z)) ?_ 2 (by rfl)
      obtain ⟨q3, hq3, H⟩ := xbd H
      refine Ex.call (mk := 72) (vs := [.ref 1]) (rest := []) (by rfl) (by rfl) (Ex.up (T_c_hasLooseWords hc q3 hq3) (by decide)) (xbb c z) ?_
      show Ex _ _ (24, [some (.ref 0), none], [.int q3], xSt xG0 hc hr xs g L c z) _
      refine Ex.ite (ls := [some (.ref 0), none]) (st := []) (S := xSt xG0 hc hr xs g L c z) (by rfl) (fun q4 => ?_) (fun q4 => ?_)
      · replace H := (if_pos q4).symm.trans H
        refine Ex.many (f' := (41, [some (.ref 0), none], [.ref 13], xSt xG0 hc hr xs g L c z)) ?_ 2 (by rfl)
        obtain ⟨q5, hq5, H⟩ := xbd H
        refine Ex.call (mk := 76) (vs := [.ref 13]) (rest := []) (by rfl) (by rfl) (Ex.up (T_k_firstError hc q5 hq5) (by decide)) (xbb c z) ?_
        show Ex _ _ (44, [some (.ref 0), none], [.int q5.1], xSt xG0 q5.2 hr xs g L c z) _
        refine Ex.many (f' := (46, [some (.ref 0), some (.int q5.1)], [.int q5.1], xSt xG0 q5.2 hr xs g L c z)) ?_ 2 (by rfl)
        refine Ex.ite (ls := [some (.ref 0), some (.int q5.1)]) (st := []) (S := xSt xG0 q5.2 hr xs g L c z) (by rfl) (fun q6 => ?_) (fun q6 => ?_)
        · replace H := (if_pos q6).symm.trans H
          refine Ex.many (f' := (51, [some (.ref 0), some (.int q5.1)], [.int (1 : Int32), .ref 0], xSt xG0 q5.2 hr xs g L c z)) ?_ 2 (by rfl)
          refine Ex.putC (pc := 54) (k := 0) (j := 6) (v := (1 : Int32)) (ls := [some (.ref 0), some (.int q5.1)]) (st := []) (hc := q5.2) ?_ (by rfl) (by rfl)
          refine Ex.many (f' := (80, [none, some (.int q5.1)], [.int q5.1], xSt xG0 (xput q5.2 0 6 (1 : Int32)) hr xs g L c z)) ?_ 2 (by rfl)
          replace H := Option.some.inj H
          subst H
          exact Ex.done (by rfl)
        · replace H := (if_neg q6).symm.trans H
          refine Ex.many (f' := (65, [some (.ref 0), some (.int q5.1)], [.int (q5.2 13 10), .ref 0], xSt xG0 q5.2 hr xs g L c z)) ?_ 4 (by rfl)
          refine Ex.putC (pc := 68) (k := 0) (j := 8) (v := (q5.2 13 10)) (ls := [some (.ref 0), some (.int q5.1)]) (st := []) (hc := q5.2) ?_ (by rfl) (by rfl)
          refine Ex.many (f' := (76, [some (.ref 0), some (.int q5.1)], [.int (q5.2 13 11), .ref 0], xSt xG0 (xput q5.2 0 8 (q5.2 13 10)) hr xs g L c z)) ?_ 4 (by rfl)
          refine Ex.putC (pc := 79) (k := 0) (j := 9) (v := (q5.2 13 11)) (ls := [some (.ref 0), some (.int q5.1)]) (st := []) (hc := (xput q5.2 0 8 (q5.2 13 10))) ?_ (by rfl) (by rfl)
          refine Ex.many (f' := (80, [none, some (.int q5.1)], [.int q5.1], xSt xG0 (xput (xput q5.2 0 8 (q5.2 13 10)) 0 9 (q5.2 13 11)) hr xs g L c z)) ?_ 1 (by rfl)
          replace H := Option.some.inj H
          subst H
          exact Ex.done (by rfl)
      · replace H := (if_neg q4).symm.trans H
        refine Ex.kill (ls' := [none, none]) (by rfl) ?_
        exact T_w_validate_27 hcz hc r H
  · replace H := (if_neg q1).symm.trans H
    refine Ex.kill (ls' := [none, none]) (by rfl) ?_
    exact T_w_validate_27 hcz hc r H
def f_h_begin (a1 : Int32) (hc : xI) : Option xI :=
  xgd a1 6 (xcpg (0 : Int32) (0 : Int32) (hc 4 a1.toNatClampNeg) 4 100 ((f_h_enter a1 (xset (xput (xput hc 19 7 (0 : Int32)) 19 4 (hc 4 a1.toNatClampNeg)) 21 (va_cpy (hc 26) (hc 21) (0 : Int32).toNatClampNeg (0 : Int32).toNatClampNeg (hc 4 a1.toNatClampNeg).toNatClampNeg))).bind fun q3 => some q3.2))
theorem T_h_begin {hr : xI} {g : xJ} {xs : Nat → Int32} {L c z : Nat} (a1 : Int32) (hc : xI) (r : xI) (H : f_h_begin a1 hc = some r) : Ex 4 101 (0, [some (.ref 19), some (.int a1), some (.ref 26)], [], xSt xG0 hc hr xs g L c z) (.inl none, xSt xG0 r hr xs g L c z) := by
  unfold f_h_begin at H
  refine Ex.many (f' := (2, [some (.ref 19), some (.int a1), some (.ref 26)], [.int (0 : Int32), .ref 19], xSt xG0 hc hr xs g L c z)) ?_ 2 (by rfl)
  refine Ex.putC (pc := 5) (k := 19) (j := 7) (v := (0 : Int32)) (ls := [some (.ref 19), some (.int a1), some (.ref 26)]) (st := []) (hc := hc) ?_ (by rfl) (by rfl)
  refine Ex.many (f' := (14, [some (.ref 19), some (.int a1), some (.ref 26)], [.int a1, .ref 4, .ref 19], xSt xG0 (xput hc 19 7 (0 : Int32)) hr xs g L c z)) ?_ 5 (by rfl)
  obtain ⟨g1, H⟩ := xgd_some H
  refine Ex.guard (f' := (15, [some (.ref 19), some (.int a1), some (.ref 26)], [.int (hc 4 a1.toNatClampNeg), .ref 19], xSt xG0 (xput hc 19 7 (0 : Int32)) hr xs g L c z)) (by rfl) g1 ?_
  refine Ex.putC (pc := 18) (k := 19) (j := 4) (v := (hc 4 a1.toNatClampNeg)) (ls := [some (.ref 19), some (.int a1), some (.ref 26)]) (st := []) (hc := (xput hc 19 7 (0 : Int32))) ?_ (by rfl) (by rfl)
  refine Ex.many (f' := (29, [some (.ref 19), some (.int a1), some (.ref 26)], [.int (hc 4 a1.toNatClampNeg), .int (0 : Int32), .ref 21, .int (0 : Int32), .ref 26], xSt xG0 (xput (xput hc 19 7 (0 : Int32)) 19 4 (hc 4 a1.toNatClampNeg)) hr xs g L c z)) ?_ 7 (by rfl)
  obtain ⟨g2, H⟩ := xcpg_some H
  refine Ex.copyC (a := 21) (ls := [some (.ref 19), some (.int a1), some (.ref 26)]) (st := []) (n0 := 4) (n1 := 100) (hc := (xput (xput hc 19 7 (0 : Int32)) 19 4 (hc 4 a1.toNatClampNeg))) (pc := 32) (fn := (va_cpy (hc 26) (hc 21) (0 : Int32).toNatClampNeg (0 : Int32).toNatClampNeg (hc 4 a1.toNatClampNeg).toNatClampNeg)) (w := 0) ?_ (by rfl) g2 (by decide) (by decide) (by rfl)
  refine Ex.many (f' := (34, [some (.ref 19), some (.int a1), some (.ref 26)], [.int a1, .ref 19], xSt xG0 (xset (xput (xput hc 19 7 (0 : Int32)) 19 4 (hc 4 a1.toNatClampNeg)) 21 (va_cpy (hc 26) (hc 21) (0 : Int32).toNatClampNeg (0 : Int32).toNatClampNeg (hc 4 a1.toNatClampNeg).toNatClampNeg)) hr xs g L c z)) ?_ 2 (by rfl)
  obtain ⟨q3, hq3, H⟩ := xbd H
  refine Ex.call (mk := 27) (vs := [.ref 19, .int a1]) (rest := []) (by rfl) (by rfl) (Ex.up (T_h_enter a1 (xset (xput (xput hc 19 7 (0 : Int32)) 19 4 (hc 4 a1.toNatClampNeg)) 21 (va_cpy (hc 26) (hc 21) (0 : Int32).toNatClampNeg (0 : Int32).toNatClampNeg (hc 4 a1.toNatClampNeg).toNatClampNeg)) q3 hq3) (by decide)) (xbb c z) ?_
  show Ex _ _ (37, [some (.ref 19), some (.int a1), some (.ref 26)], [.int q3.1], xSt xG0 q3.2 hr xs g L c z) _
  refine Ex.many (f' := (38, [none, none, none], [], xSt xG0 q3.2 hr xs g L c z)) ?_ 1 (by rfl)
  replace H := Option.some.inj H
  subst H
  exact Ex.done (by rfl)
