/-! Methods as functions. -/
def f_w_invoke_15 (hc : xI) : Option ((Unit ⊕ Nat) × xI) :=
  some ((.inr 1), hc)
theorem T_w_invoke_15 {hr : xI} {g : xJ} {xs : Nat → Int32} {L c z : Nat} (hcz : 0 < c ∧ 6 ≤ z) (hc : xI) (r : ((Unit ⊕ Nat) × xI)) (H : f_w_invoke_15 hc = some r) : Ex 6 100 (15, [none, none], [], xSt xG0 hc hr xs g L c z) (xtoV r.1, xSt xG0 r.2 hr xs g L (xtc r.1 c) (xtz r.1 z)) := by
  unfold f_w_invoke_15 at H
  replace H := Option.some.inj H
  subst H
  exact Ex.throw (w := 0) hcz (by rfl) (by decide) (by decide)
def f_w_invoke (a1 : Int32) (hc : xI) : Option ((Unit ⊕ Nat) × xI) :=
  if (hc 0 6) = 0 then (f_w_invoke_15 hc) else (if (hc 0 6) = (2 : Int32) then (f_w_invoke_15 hc) else (if (f_c_hasFunction a1 hc) = 0 then (some ((.inr 2), hc)) else (xgd a1 6 (if (hc 0 5) = (hc 4 a1.toNatClampNeg) then ((f_h_begin a1 hc).bind fun q7 => some ((.inl ()), (xput (xput q7 0 5 (0 : Int32)) 0 6 (2 : Int32)))) else (some ((.inr 0), hc))))))
theorem T_w_invoke {hr : xI} {g : xJ} {xs : Nat → Int32} {L c z : Nat} (hcz : 0 < c ∧ 6 ≤ z) (a1 : Int32) (hc : xI) (r : ((Unit ⊕ Nat) × xI)) (H : f_w_invoke a1 hc = some r) : Ex 6 100 (0, [some (.ref 0), some (.int a1)], [], xSt xG0 hc hr xs g L c z) (xtoV r.1, xSt xG0 r.2 hr xs g L (xtc r.1 c) (xtz r.1 z)) := by
  unfold f_w_invoke at H
  refine Ex.many (f' := (4, [some (.ref 0), some (.int a1)], [.int (hc 0 6)], xSt xG0 hc hr xs g L c z)) ?_ 2 (by rfl)
  refine Ex.ite (ls := [some (.ref 0), some (.int a1)]) (st := []) (S := xSt xG0 hc hr xs g L c z) (by rfl) (fun q1 => ?_) (fun q1 => ?_)
  · replace H := (if_pos q1).symm.trans H
    refine Ex.kill (ls' := [none, none]) (by rfl) ?_
    exact T_w_invoke_15 hcz hc r H
  · replace H := (if_neg q1).symm.trans H
    refine Ex.many (f' := (12, [some (.ref 0), some (.int a1)], [.int (2 : Int32), .int (hc 0 6)], xSt xG0 hc hr xs g L c z)) ?_ 3 (by rfl)
    refine Ex.ite (ls := [some (.ref 0), some (.int a1)]) (st := []) (S := xSt xG0 hc hr xs g L c z) (by rfl) (fun q2 => ?_) (fun q2 => ?_)
    · replace H := (if_pos q2).symm.trans H
      refine Ex.kill (ls' := [none, none]) (by rfl) ?_
      exact T_w_invoke_15 hcz hc r H
    · replace H := (if_neg q2).symm.trans H
      refine Ex.many (f' := (30, [some (.ref 0), some (.int a1)], [.int a1, .ref 1], xSt xG0 hc hr xs g L c z)) ?_ 3 (by rfl)
      refine Ex.call (mk := 85) (vs := [.ref 1, .int a1]) (rest := []) (by rfl) (by rfl) (Ex.up (T_c_hasFunction a1 hc _ rfl) (by decide)) (xbb c z) ?_
      show Ex _ _ (33, [some (.ref 0), some (.int a1)], [.int (f_c_hasFunction a1 hc)], xSt xG0 hc hr xs g L c z) _
      refine Ex.ite (ls := [some (.ref 0), some (.int a1)]) (st := []) (S := xSt xG0 hc hr xs g L c z) (by rfl) (fun q4 => ?_) (fun q4 => ?_)
      · replace H := (if_pos q4).symm.trans H
        replace H := Option.some.inj H
        subst H
        exact Ex.throw (w := 0) hcz (by rfl) (by decide) (by decide)
      · replace H := (if_neg q4).symm.trans H
        refine Ex.many (f' := (58, [some (.ref 0), some (.int a1)], [.int a1, .ref 4, .int (hc 0 5)], xSt xG0 hc hr xs g L c z)) ?_ 6 (by rfl)
        obtain ⟨g5, H⟩ := xgd_some H
        refine Ex.guard (f' := (59, [some (.ref 0), some (.int a1)], [.int (hc 4 a1.toNatClampNeg), .int (hc 0 5)], xSt xG0 hc hr xs g L c z)) (by rfl) g5 ?_
        refine Ex.ite (ls := [some (.ref 0), some (.int a1)]) (st := []) (S := xSt xG0 hc hr xs g L c z) (by rfl) (fun q6 => ?_) (fun q6 => ?_)
        · replace H := (if_pos q6).symm.trans H
          refine Ex.many (f' := (81, [some (.ref 0), some (.int a1)], [.ref 26, .int a1, .ref 19], xSt xG0 hc hr xs g L c z)) ?_ 5 (by rfl)
          obtain ⟨q7, hq7, H⟩ := xbd H
          refine Ex.call (mk := 101) (vs := [.ref 19, .int a1, .ref 26]) (rest := []) (by rfl) (by rfl) (Ex.up (T_h_begin a1 hc q7 hq7) (by decide)) (xbb c z) ?_
          show Ex _ _ (84, [some (.ref 0), some (.int a1)], [], xSt xG0 q7 hr xs g L c z) _
          refine Ex.many (f' := (86, [some (.ref 0), none], [.int (0 : Int32), .ref 0], xSt xG0 q7 hr xs g L c z)) ?_ 2 (by rfl)
          refine Ex.putC (pc := 89) (k := 0) (j := 5) (v := (0 : Int32)) (ls := [some (.ref 0), none]) (st := []) (hc := q7) ?_ (by rfl) (by rfl)
          refine Ex.many (f' := (91, [some (.ref 0), none], [.int (2 : Int32), .ref 0], xSt xG0 (xput q7 0 5 (0 : Int32)) hr xs g L c z)) ?_ 2 (by rfl)
          refine Ex.putC (pc := 94) (k := 0) (j := 6) (v := (2 : Int32)) (ls := [some (.ref 0), none]) (st := []) (hc := (xput q7 0 5 (0 : Int32))) ?_ (by rfl) (by rfl)
          replace H := Option.some.inj H
          subst H
          exact Ex.done (by rfl)
        · replace H := (if_neg q6).symm.trans H
          replace H := Option.some.inj H
          subst H
          exact Ex.throw (w := 0) hcz (by rfl) (by decide) (by decide)
def f_w_result (hc : xI) : Option ((Int32 ⊕ Nat)) :=
  if (hc 0 6) = (3 : Int32) then (some (.inl (hc 19 6))) else (some (.inr 1))
theorem T_w_result {hr : xI} {g : xJ} {xs : Nat → Int32} {L c z : Nat} (hcz : 0 < c ∧ 6 ≤ z) (hc : xI) (r : ((Int32 ⊕ Nat))) (H : f_w_result hc = some r) : Ex 6 103 (0, [some (.ref 0)], [], xSt xG0 hc hr xs g L c z) (xto r, xSt xG0 hc hr xs g L (xtc r c) (xtz r z)) := by
  unfold f_w_result at H
  refine Ex.many (f' := (5, [some (.ref 0)], [.int (3 : Int32), .int (hc 0 6)], xSt xG0 hc hr xs g L c z)) ?_ 3 (by rfl)
  refine Ex.ite (ls := [some (.ref 0)]) (st := []) (S := xSt xG0 hc hr xs g L c z) (by rfl) (fun q1 => ?_) (fun q1 => ?_)
  · replace H := (if_pos q1).symm.trans H
    refine Ex.many (f' := (25, [some (.ref 0)], [.int (hc 19 6)], xSt xG0 hc hr xs g L c z)) ?_ 3 (by rfl)
    replace H := Option.some.inj H
    subst H
    exact Ex.done (by rfl)
  · replace H := (if_neg q1).symm.trans H
    replace H := Option.some.inj H
    subst H
    exact Ex.throw (w := 0) hcz (by rfl) (by decide) (by decide)
def f_h_localCount (hc : xI) : Option Int32 :=
  xgd ((hc 19 7) - (1 : Int32)) 6 (xgd (hc 22 ((hc 19 7) - (1 : Int32)).toNatClampNeg) 6 (some (hc 5 (hc 22 ((hc 19 7) - (1 : Int32)).toNatClampNeg).toNatClampNeg)))
theorem T_h_localCount {hr : xI} {g : xJ} {xs : Nat → Int32} {L c z : Nat} (hc : xI) (r : Int32) (H : f_h_localCount hc = some r) : Ex 0 107 (0, [some (.ref 19)], [], xSt xG0 hc hr xs g L c z) (.inl (some (.int r)), xSt xG0 hc hr xs g L c z) := by
  unfold f_h_localCount at H
  refine Ex.many (f' := (17, [some (.ref 19)], [.int ((hc 19 7) - (1 : Int32)), .ref 22, .ref 5], xSt xG0 hc hr xs g L c z)) ?_ 9 (by rfl)
  obtain ⟨g1, H⟩ := xgd_some H
  refine Ex.guard (f' := (18, [some (.ref 19)], [.int (hc 22 ((hc 19 7) - (1 : Int32)).toNatClampNeg), .ref 5], xSt xG0 hc hr xs g L c z)) (by rfl) g1 ?_
  obtain ⟨g2, H⟩ := xgd_some H
  refine Ex.guard (f' := (19, [some (.ref 19)], [.int (hc 5 (hc 22 ((hc 19 7) - (1 : Int32)).toNatClampNeg).toNatClampNeg)], xSt xG0 hc hr xs g L c z)) (by rfl) g2 ?_
  replace H := Option.some.inj H
  subst H
  exact Ex.done (by rfl)
def f_w_countOf (a1 : Int32) (hc : xI) : Option Int32 :=
  if a1 = (2 : Int32) then (some (4 : Int32)) else (if (hc 0 6) = (2 : Int32) then (if a1 = 0 then (some (hc 19 4)) else (if a1 = (1 : Int32) then ((f_h_localCount hc).bind fun q5 => some q5) else (some (0 : Int32)))) else (some (0 : Int32)))
theorem T_w_countOf {hr : xI} {g : xJ} {xs : Nat → Int32} {L c z : Nat} (a1 : Int32) (hc : xI) (r : Int32) (H : f_w_countOf a1 hc = some r) : Ex 1 106 (0, [some (.ref 0), some (.int a1)], [], xSt xG0 hc hr xs g L c z) (.inl (some (.int r)), xSt xG0 hc hr xs g L c z) := by
  unfold f_w_countOf at H
  refine Ex.many (f' := (2, [some (.ref 0), some (.int a1)], [.int (2 : Int32), .int a1], xSt xG0 hc hr xs g L c z)) ?_ 2 (by rfl)
  refine Ex.ite (ls := [some (.ref 0), some (.int a1)]) (st := []) (S := xSt xG0 hc hr xs g L c z) (by rfl) (fun q1 => ?_) (fun q1 => ?_)
  · replace H := (if_pos q1).symm.trans H
    refine Ex.many (f' := (13, [some (.ref 0), none], [.int (4 : Int32)], xSt xG0 hc hr xs g L c z)) ?_ 4 (by rfl)
    replace H := Option.some.inj H
    subst H
    exact Ex.done (by rfl)
  · replace H := (if_neg q1).symm.trans H
    refine Ex.many (f' := (19, [some (.ref 0), some (.int a1)], [.int (2 : Int32), .int (hc 0 6)], xSt xG0 hc hr xs g L c z)) ?_ 3 (by rfl)
    refine Ex.ite (ls := [some (.ref 0), some (.int a1)]) (st := []) (S := xSt xG0 hc hr xs g L c z) (by rfl) (fun q2 => ?_) (fun q2 => ?_)
    · replace H := (if_pos q2).symm.trans H
      refine Ex.many (f' := (25, [some (.ref 0), some (.int a1)], [.int a1], xSt xG0 hc hr xs g L c z)) ?_ 1 (by rfl)
      refine Ex.ite (ls := [some (.ref 0), some (.int a1)]) (st := []) (S := xSt xG0 hc hr xs g L c z) (by rfl) (fun q3 => ?_) (fun q3 => ?_)
      · replace H := (if_pos q3).symm.trans H
        refine Ex.many (f' := (35, [some (.ref 0), none], [.int (hc 19 4)], xSt xG0 hc hr xs g L c z)) ?_ 3 (by rfl)
        replace H := Option.some.inj H
        subst H
        exact Ex.done (by rfl)
      · replace H := (if_neg q3).symm.trans H
        refine Ex.many (f' := (38, [some (.ref 0), some (.int a1)], [.int (1 : Int32), .int a1], xSt xG0 hc hr xs g L c z)) ?_ 2 (by rfl)
        refine Ex.ite (ls := [some (.ref 0), some (.int a1)]) (st := []) (S := xSt xG0 hc hr xs g L c z) (by rfl) (fun q4 => ?_) (fun q4 => ?_)
        · replace H := (if_pos q4).symm.trans H
          refine Ex.many (f' := (45, [some (.ref 0), none], [.ref 19], xSt xG0 hc hr xs g L c z)) ?_ 2 (by rfl)
          obtain ⟨q5, hq5, H⟩ := xbd H
          refine Ex.call (mk := 107) (vs := [.ref 19]) (rest := []) (by rfl) (by rfl) (Ex.up (T_h_localCount hc q5 hq5) (by decide)) (xbb c z) ?_
          show Ex _ _ (48, [some (.ref 0), none], [.int q5], xSt xG0 hc hr xs g L c z) _
          refine Ex.many (f' := (52, [none, none], [.int q5], xSt xG0 hc hr xs g L c z)) ?_ 1 (by rfl)
          replace H := Option.some.inj H
          subst H
          exact Ex.done (by rfl)
        · replace H := (if_neg q4).symm.trans H
          refine Ex.many (f' := (52, [none, none], [.int (0 : Int32)], xSt xG0 hc hr xs g L c z)) ?_ 1 (by rfl)
          replace H := Option.some.inj H
          subst H
          exact Ex.done (by rfl)
    · replace H := (if_neg q2).symm.trans H
      refine Ex.many (f' := (23, [none, none], [.int (0 : Int32)], xSt xG0 hc hr xs g L c z)) ?_ 1 (by rfl)
      replace H := Option.some.inj H
      subst H
      exact Ex.done (by rfl)
def f_h_localAt (a1 : Int32) (hc : xI) : Option Int32 :=
  xgd (f_h_localPlace a1 hc) 48 (some (hc 25 (f_h_localPlace a1 hc).toNatClampNeg))
theorem T_h_localAt {hr : xI} {g : xJ} {xs : Nat → Int32} {L c z : Nat} (a1 : Int32) (hc : xI) (r : Int32) (H : f_h_localAt a1 hc = some r) : Ex 1 108 (0, [some (.ref 19), some (.int a1)], [], xSt xG0 hc hr xs g L c z) (.inl (some (.int r)), xSt xG0 hc hr xs g L c z) := by
  unfold f_h_localAt at H
  refine Ex.many (f' := (6, [some (.ref 19), some (.int a1)], [.int a1, .ref 19, .ref 25], xSt xG0 hc hr xs g L c z)) ?_ 4 (by rfl)
  refine Ex.call (mk := 28) (vs := [.ref 19, .int a1]) (rest := [.ref 25]) (by rfl) (by rfl) (Ex.up (T_h_localPlace a1 hc _ rfl) (by decide)) (xbb c z) ?_
  show Ex _ _ (9, [some (.ref 19), some (.int a1)], [.int (f_h_localPlace a1 hc), .ref 25], xSt xG0 hc hr xs g L c z) _
  obtain ⟨g2, H⟩ := xgd_some H
  refine Ex.guard (f' := (10, [none, none], [.int (hc 25 (f_h_localPlace a1 hc).toNatClampNeg)], xSt xG0 hc hr xs g L c z)) (by rfl) g2 ?_
  replace H := Option.some.inj H
  subst H
  exact Ex.done (by rfl)
def f_w_value_13 (hc : xI) : Option ((Int32 ⊕ Nat)) :=
  some (.inr 2)
theorem T_w_value_13 {hr : xI} {g : xJ} {xs : Nat → Int32} {L c z : Nat} (hcz : 0 < c ∧ 6 ≤ z) (hc : xI) (r : ((Int32 ⊕ Nat))) (H : f_w_value_13 hc = some r) : Ex 6 105 (13, [none, none, none], [], xSt xG0 hc hr xs g L c z) (xto r, xSt xG0 hc hr xs g L (xtc r c) (xtz r z)) := by
  unfold f_w_value_13 at H
  replace H := Option.some.inj H
  subst H
  exact Ex.throw (w := 0) hcz (by rfl) (by decide) (by decide)
def f_w_value (a1 : Int32) (a2 : Int32) (hc : xI) : Option ((Int32 ⊕ Nat)) :=
  if a2 < 0 then (f_w_value_13 hc) else ((f_w_countOf a1 hc).bind fun q2 => if a2 < q2 then (if a1 = 0 then (xgd a2 100 (some (.inl (hc 21 a2.toNatClampNeg)))) else (if a1 = (1 : Int32) then ((f_h_localAt a2 hc).bind fun q7 => some (.inl q7)) else (xgd a2 4 (some (.inl (hc 20 a2.toNatClampNeg)))))) else (f_w_value_13 hc))
theorem T_w_value {hr : xI} {g : xJ} {xs : Nat → Int32} {L c z : Nat} (hcz : 0 < c ∧ 6 ≤ z) (a1 : Int32) (a2 : Int32) (hc : xI) (r : ((Int32 ⊕ Nat))) (H : f_w_value a1 a2 hc = some r) : Ex 6 105 (0, [some (.ref 0), some (.int a1), some (.int a2)], [], xSt xG0 hc hr xs g L c z) (xto r, xSt xG0 hc hr xs g L (xtc r c) (xtz r z)) := by
  unfold f_w_value at H
  refine Ex.many (f' := (1, [some (.ref 0), some (.int a1), some (.int a2)], [.int a2], xSt xG0 hc hr xs g L c z)) ?_ 1 (by rfl)
  refine Ex.ite (ls := [some (.ref 0), some (.int a1), some (.int a2)]) (st := []) (S := xSt xG0 hc hr xs g L c z) (by rfl) (fun q1 => ?_) (fun q1 => ?_)
  · replace H := (if_pos q1).symm.trans H
    refine Ex.kill (ls' := [none, none, none]) (by rfl) ?_
    exact T_w_value_13 hcz hc r H
  · replace H := (if_neg q1).symm.trans H
    refine Ex.many (f' := (7, [some (.ref 0), some (.int a1), some (.int a2)], [.int a1, .ref 0, .int a2], xSt xG0 hc hr xs g L c z)) ?_ 3 (by rfl)
    obtain ⟨q2, hq2, H⟩ := xbd H
    refine Ex.call (mk := 106) (vs := [.ref 0, .int a1]) (rest := [.int a2]) (by rfl) (by rfl) (Ex.up (T_w_countOf a1 hc q2 hq2) (by decide)) (xbb c z) ?_
    show Ex _ _ (10, [some (.ref 0), some (.int a1), some (.int a2)], [.int q2, .int a2], xSt xG0 hc hr xs g L c z) _
    refine Ex.ite (ls := [some (.ref 0), some (.int a1), some (.int a2)]) (st := []) (S := xSt xG0 hc hr xs g L c z) (by rfl) (fun q3 => ?_) (fun q3 => ?_)
    · replace H := (if_pos q3).symm.trans H
      refine Ex.many (f' := (24, [some (.ref 0), some (.int a1), some (.int a2)], [.int a1], xSt xG0 hc hr xs g L c z)) ?_ 1 (by rfl)
      refine Ex.ite (ls := [some (.ref 0), some (.int a1), some (.int a2)]) (st := []) (S := xSt xG0 hc hr xs g L c z) (by rfl) (fun q4 => ?_) (fun q4 => ?_)
      · replace H := (if_pos q4).symm.trans H
        refine Ex.many (f' := (35, [some (.ref 0), none, some (.int a2)], [.int a2, .ref 21], xSt xG0 hc hr xs g L c z)) ?_ 4 (by rfl)
        obtain ⟨g5, H⟩ := xgd_some H
        refine Ex.guard (f' := (36, [some (.ref 0), none, some (.int a2)], [.int (hc 21 a2.toNatClampNeg)], xSt xG0 hc hr xs g L c z)) (by rfl) g5 ?_
        replace H := Option.some.inj H
        subst H
        exact Ex.done (by rfl)
      · replace H := (if_neg q4).symm.trans H
        refine Ex.many (f' := (39, [some (.ref 0), some (.int a1), some (.int a2)], [.int (1 : Int32), .int a1], xSt xG0 hc hr xs g L c z)) ?_ 2 (by rfl)
        refine Ex.ite (ls := [some (.ref 0), some (.int a1), some (.int a2)]) (st := []) (S := xSt xG0 hc hr xs g L c z) (by rfl) (fun q6 => ?_) (fun q6 => ?_)
        · replace H := (if_pos q6).symm.trans H
          refine Ex.many (f' := (47, [some (.ref 0), none, some (.int a2)], [.int a2, .ref 19], xSt xG0 hc hr xs g L c z)) ?_ 3 (by rfl)
          obtain ⟨q7, hq7, H⟩ := xbd H
          refine Ex.call (mk := 108) (vs := [.ref 19, .int a2]) (rest := []) (by rfl) (by rfl) (Ex.up (T_h_localAt a2 hc q7 hq7) (by decide)) (xbb c z) ?_
          show Ex _ _ (50, [some (.ref 0), none, some (.int a2)], [.int q7], xSt xG0 hc hr xs g L c z) _
          refine Ex.many (f' := (62, [none, none, none], [.int q7], xSt xG0 hc hr xs g L c z)) ?_ 1 (by rfl)
          replace H := Option.some.inj H
          subst H
          exact Ex.done (by rfl)
        · replace H := (if_neg q6).symm.trans H
          refine Ex.many (f' := (61, [some (.ref 0), none, some (.int a2)], [.int a2, .ref 20], xSt xG0 hc hr xs g L c z)) ?_ 4 (by rfl)
          obtain ⟨g8, H⟩ := xgd_some H
          refine Ex.guard (f' := (62, [some (.ref 0), none, some (.int a2)], [.int (hc 20 a2.toNatClampNeg)], xSt xG0 hc hr xs g L c z)) (by rfl) g8 ?_
          replace H := Option.some.inj H
          subst H
          exact Ex.done (by rfl)
    · replace H := (if_neg q3).symm.trans H
      refine Ex.kill (ls' := [none, none, none]) (by rfl) ?_
      exact T_w_value_13 hcz hc r H
def f_m_thrown (hr : xI) : Int32 :=
  (hr 27 0)
theorem T_m_thrown {hc : xI} {g : xJ} {xs : Nat → Int32} {L c z : Nat} (hr : xI) (r : Int32) (H : f_m_thrown hr = r) : Ex 0 110 (0, [some (.ref 27)], [], xSt xG0 hc hr xs g L c z) (.inl (some (.int r)), xSt xG0 hc hr xs g L c z) := by
  unfold f_m_thrown at H
  refine Ex.many (f' := (4, [some (.ref 27)], [.int (hr 27 0)], xSt xG0 hc hr xs g L c z)) ?_ 2 (by rfl)
  skip
  subst H
  exact Ex.done (by rfl)
def f_m_feed_57 : Nat → Int64 → Int32 → xI → Option (Int32 × xI)
  | 0, _, _, _ => none
  | n + 1, v2, v4, hr => if v4 < 0 then (some ((hr 27 2), hr)) else (xgd (hr 27 2) 240 (f_m_feed_57 n v2 (v4 + (-1 : Int32)) (xput (xput hr 28 (hr 27 2).toNatClampNeg ((v2 >>> (((8 : Int32) * v4).toInt64 &&& 63)).toInt32 &&& (255 : Int32))) 27 2 ((hr 27 2) + (1 : Int32)))))
theorem T_m_feed_57 {hc : xI} {g : xJ} {xs : Nat → Int32} {L c z : Nat} (n : Nat) : ∀ (v2 : Int64) (v4 : Int32) (hr : xI) (r : (Int32 × xI)), f_m_feed_57 n v2 v4 hr = some r → Ex 0 111 (57, [some (.ref 27), none, some (.long v2), none, some (.int v4)], [], xSt xG0 hc hr xs g L c z) (.inl (some (.int r.1)), xSt xG0 hc r.2 xs g L c z) := by
  induction n with
  | zero =>
    intro v2 v4 hr r H
    unfold f_m_feed_57 at H
    cases H
  | succ n ih =>
    intro v2 v4 hr r H
    unfold f_m_feed_57 at H
    refine Ex.many (f' := (59, [some (.ref 27), none, some (.long v2), none, some (.int v4)], [.int v4], xSt xG0 hc hr xs g L c z)) ?_ 1 (by rfl)
    refine Ex.ite (ls := [some (.ref 27), none, some (.long v2), none, some (.int v4)]) (st := []) (S := xSt xG0 hc hr xs g L c z) (by rfl) (fun q1 => ?_) (fun q1 => ?_)
    · replace H := (if_pos q1).symm.trans H
      refine Ex.many (f' := (103, [some (.ref 27), none, none, none, none], [.int (hr 27 2)], xSt xG0 hc hr xs g L c z)) ?_ 2 (by rfl)
      replace H := Option.some.inj H
      subst H
      exact Ex.done (by rfl)
    · replace H := (if_neg q1).symm.trans H
      refine Ex.many (f' := (82, [some (.ref 27), none, some (.long v2), none, some (.int v4)], [.int ((v2 >>> (((8 : Int32) * v4).toInt64 &&& 63)).toInt32 &&& (255 : Int32)), .int (hr 27 2), .ref 28], xSt xG0 hc hr xs g L c z)) ?_ 12 (by rfl)
      obtain ⟨g2, H⟩ := xgd_some H
      refine Ex.gputR (pc := 83) (k := 28) (n := 240) (i := (hr 27 2)) (v := ((v2 >>> (((8 : Int32) * v4).toInt64 &&& 63)).toInt32 &&& (255 : Int32))) (ls := [some (.ref 27), none, some (.long v2), none, some (.int v4)]) (st := []) (hr := hr) ?_ (by rfl) g2 (by rfl)
      refine Ex.many (f' := (90, [some (.ref 27), none, some (.long v2), none, some (.int v4)], [.int ((hr 27 2) + (1 : Int32)), .ref 27], xSt xG0 hc (xput hr 28 (hr 27 2).toNatClampNeg ((v2 >>> (((8 : Int32) * v4).toInt64 &&& 63)).toInt32 &&& (255 : Int32))) xs g L c z)) ?_ 5 (by rfl)
      refine Ex.putR (pc := 93) (k := 27) (j := 2) (v := ((hr 27 2) + (1 : Int32))) (ls := [some (.ref 27), none, some (.long v2), none, some (.int v4)]) (st := []) (hr := (xput hr 28 (hr 27 2).toNatClampNeg ((v2 >>> (((8 : Int32) * v4).toInt64 &&& 63)).toInt32 &&& (255 : Int32)))) ?_ (by rfl) (by rfl)
      refine Ex.many (f' := (57, [some (.ref 27), none, some (.long v2), none, some (.int (v4 + (-1 : Int32)))], [], xSt xG0 hc (xput (xput hr 28 (hr 27 2).toNatClampNeg ((v2 >>> (((8 : Int32) * v4).toInt64 &&& 63)).toInt32 &&& (255 : Int32))) 27 2 ((hr 27 2) + (1 : Int32))) xs g L c z)) ?_ 2 (by rfl)
      exact ih v2 (v4 + (-1 : Int32)) (xput (xput hr 28 (hr 27 2).toNatClampNeg ((v2 >>> (((8 : Int32) * v4).toInt64 &&& 63)).toInt32 &&& (255 : Int32))) 27 2 ((hr 27 2) + (1 : Int32))) r H
def f_m_feed_40 (v1 : Int32) (v2 : Int64) (s1 : Int32) (hr : xI) : Option (Int32 × xI) :=
  if s1 ≤ 0 then (f_m_feed_57 1000 v2 (v1 - (1 : Int32)) (xput hr 27 0 s1)) else (some ((0 : Int32), (xput hr 27 0 s1)))
theorem T_m_feed_40 {hc : xI} {g : xJ} {xs : Nat → Int32} {L c z : Nat} (v1 : Int32) (v2 : Int64) (s1 : Int32) (hr : xI) (r : (Int32 × xI)) (H : f_m_feed_40 v1 v2 s1 hr = some r) : Ex 0 111 (40, [some (.ref 27), some (.int v1), some (.long v2), none, none], [.int s1, .ref 27], xSt xG0 hc hr xs g L c z) (.inl (some (.int r.1)), xSt xG0 hc r.2 xs g L c z) := by
  unfold f_m_feed_40 at H
  refine Ex.putR (pc := 43) (k := 27) (j := 0) (v := s1) (ls := [some (.ref 27), some (.int v1), some (.long v2), none, none]) (st := []) (hr := hr) ?_ (by rfl) (by rfl)
  refine Ex.many (f' := (47, [some (.ref 27), some (.int v1), some (.long v2), none, none], [.int s1], xSt xG0 hc (xput hr 27 0 s1) xs g L c z)) ?_ 2 (by rfl)
  refine Ex.ite (ls := [some (.ref 27), some (.int v1), some (.long v2), none, none]) (st := []) (S := xSt xG0 hc (xput hr 27 0 s1) xs g L c z) (by rfl) (fun q1 => ?_) (fun q1 => ?_)
  · replace H := (if_pos q1).symm.trans H
    refine Ex.many (f' := (57, [some (.ref 27), some (.int v1), some (.long v2), none, some (.int (v1 - (1 : Int32)))], [], xSt xG0 hc (xput hr 27 0 s1) xs g L c z)) ?_ 4 (by rfl)
    refine Ex.kill (ls' := [some (.ref 27), none, some (.long v2), none, some (.int (v1 - (1 : Int32)))]) (by rfl) ?_
    exact T_m_feed_57 1000 v2 (v1 - (1 : Int32)) (xput hr 27 0 s1) r H
  · replace H := (if_neg q1).symm.trans H
    refine Ex.many (f' := (51, [none, none, none, none, none], [.int (0 : Int32)], xSt xG0 hc (xput hr 27 0 s1) xs g L c z)) ?_ 1 (by rfl)
    replace H := Option.some.inj H
    subst H
    exact Ex.done (by rfl)
def f_m_feed_12 (v1 : Int32) (v2 : Int64) (hr : xI) : Option (Int32 × xI) :=
  f_m_feed_40 v1 v2 (1 : Int32) hr
theorem T_m_feed_12 {hc : xI} {g : xJ} {xs : Nat → Int32} {L c z : Nat} (v1 : Int32) (v2 : Int64) (hr : xI) (r : (Int32 × xI)) (H : f_m_feed_12 v1 v2 hr = some r) : Ex 0 111 (12, [some (.ref 27), some (.int v1), some (.long v2), none, none], [.ref 27], xSt xG0 hc hr xs g L c z) (.inl (some (.int r.1)), xSt xG0 hc r.2 xs g L c z) := by
  unfold f_m_feed_12 at H
  refine Ex.many (f' := (40, [some (.ref 27), some (.int v1), some (.long v2), none, none], [.int (1 : Int32), .ref 27], xSt xG0 hc hr xs g L c z)) ?_ 2 (by rfl)
  exact T_m_feed_40 v1 v2 (1 : Int32) hr r H
def f_m_feed_35 (v1 : Int32) (v2 : Int64) (hr : xI) : Option (Int32 × xI) :=
  f_m_feed_40 v1 v2 (2 : Int32) hr
theorem T_m_feed_35 {hc : xI} {g : xJ} {xs : Nat → Int32} {L c z : Nat} (v1 : Int32) (v2 : Int64) (hr : xI) (r : (Int32 × xI)) (H : f_m_feed_35 v1 v2 hr = some r) : Ex 0 111 (35, [some (.ref 27), some (.int v1), some (.long v2), none, none], [.ref 27], xSt xG0 hc hr xs g L c z) (.inl (some (.int r.1)), xSt xG0 hc r.2 xs g L c z) := by
  unfold f_m_feed_35 at H
  refine Ex.many (f' := (40, [some (.ref 27), some (.int v1), some (.long v2), none, none], [.int (2 : Int32), .ref 27], xSt xG0 hc hr xs g L c z)) ?_ 2 (by rfl)
  exact T_m_feed_40 v1 v2 (2 : Int32) hr r H
def f_m_feed (a1 : Int32) (a2 : Int64) (hr : xI) : Option (Int32 × xI) :=
  if a1 < (1 : Int32) then (f_m_feed_12 a1 a2 hr) else (if a1 ≤ (8 : Int32) then (if (hr 27 1) = 0 then (if ((hr 27 2) + a1) ≤ (240 : Int32) then (f_m_feed_40 a1 a2 (0 : Int32) hr) else (f_m_feed_35 a1 a2 hr)) else (f_m_feed_35 a1 a2 hr)) else (f_m_feed_12 a1 a2 hr))
theorem T_m_feed {hc : xI} {g : xJ} {xs : Nat → Int32} {L c z : Nat} (a1 : Int32) (a2 : Int64) (hr : xI) (r : (Int32 × xI)) (H : f_m_feed a1 a2 hr = some r) : Ex 0 111 (0, [some (.ref 27), some (.int a1), some (.long a2), none, none], [], xSt xG0 hc hr xs g L c z) (.inl (some (.int r.1)), xSt xG0 hc r.2 xs g L c z) := by
  unfold f_m_feed at H
  refine Ex.many (f' := (3, [some (.ref 27), some (.int a1), some (.long a2), none, none], [.int (1 : Int32), .int a1, .ref 27], xSt xG0 hc hr xs g L c z)) ?_ 3 (by rfl)
  refine Ex.ite (ls := [some (.ref 27), some (.int a1), some (.long a2), none, none]) (st := [.ref 27]) (S := xSt xG0 hc hr xs g L c z) (by rfl) (fun q1 => ?_) (fun q1 => ?_)
  · replace H := (if_pos q1).symm.trans H
    exact T_m_feed_12 a1 a2 hr r H
  · replace H := (if_neg q1).symm.trans H
    refine Ex.many (f' := (9, [some (.ref 27), some (.int a1), some (.long a2), none, none], [.int (8 : Int32), .int a1, .ref 27], xSt xG0 hc hr xs g L c z)) ?_ 2 (by rfl)
    refine Ex.ite (ls := [some (.ref 27), some (.int a1), some (.long a2), none, none]) (st := [.ref 27]) (S := xSt xG0 hc hr xs g L c z) (by rfl) (fun q2 => ?_) (fun q2 => ?_)
    · replace H := (if_pos q2).symm.trans H
      refine Ex.many (f' := (20, [some (.ref 27), some (.int a1), some (.long a2), none, none], [.int (hr 27 1), .ref 27], xSt xG0 hc hr xs g L c z)) ?_ 2 (by rfl)
      refine Ex.ite (ls := [some (.ref 27), some (.int a1), some (.long a2), none, none]) (st := [.ref 27]) (S := xSt xG0 hc hr xs g L c z) (by rfl) (fun q3 => ?_) (fun q3 => ?_)
      · replace H := (if_pos q3).symm.trans H
        refine Ex.many (f' := (32, [some (.ref 27), some (.int a1), some (.long a2), none, none], [.int (240 : Int32), .int ((hr 27 2) + a1), .ref 27], xSt xG0 hc hr xs g L c z)) ?_ 5 (by rfl)
        refine Ex.ite (ls := [some (.ref 27), some (.int a1), some (.long a2), none, none]) (st := [.ref 27]) (S := xSt xG0 hc hr xs g L c z) (by rfl) (fun q4 => ?_) (fun q4 => ?_)
        · replace H := (if_pos q4).symm.trans H
          refine Ex.many (f' := (40, [some (.ref 27), some (.int a1), some (.long a2), none, none], [.int (0 : Int32), .ref 27], xSt xG0 hc hr xs g L c z)) ?_ 1 (by rfl)
          exact T_m_feed_40 a1 a2 (0 : Int32) hr r H
        · replace H := (if_neg q4).symm.trans H
          exact T_m_feed_35 a1 a2 hr r H
      · replace H := (if_neg q3).symm.trans H
        exact T_m_feed_35 a1 a2 hr r H
    · replace H := (if_neg q2).symm.trans H
      exact T_m_feed_12 a1 a2 hr r H
def f_m_word_23 (v1 : Int32) (s1 : Int32) (hr : xI) : Option (Int32 × xI) :=
  if s1 ≤ 0 then (xgd (hr 27 2) 240 (some (((hr 27 2) + (1 : Int32)), (xput (xput (xput hr 27 0 s1) 28 (hr 27 2).toNatClampNeg v1) 27 2 ((hr 27 2) + (1 : Int32)))))) else (some ((0 : Int32), (xput hr 27 0 s1)))
theorem T_m_word_23 {hc : xI} {g : xJ} {xs : Nat → Int32} {L c z : Nat} (v1 : Int32) (s1 : Int32) (hr : xI) (r : (Int32 × xI)) (H : f_m_word_23 v1 s1 hr = some r) : Ex 0 112 (23, [some (.ref 27), some (.int v1)], [.int s1, .ref 27], xSt xG0 hc hr xs g L c z) (.inl (some (.int r.1)), xSt xG0 hc r.2 xs g L c z) := by
  unfold f_m_word_23 at H
  refine Ex.putR (pc := 26) (k := 27) (j := 0) (v := s1) (ls := [some (.ref 27), some (.int v1)]) (st := []) (hr := hr) ?_ (by rfl) (by rfl)
  refine Ex.many (f' := (30, [some (.ref 27), some (.int v1)], [.int s1], xSt xG0 hc (xput hr 27 0 s1) xs g L c z)) ?_ 2 (by rfl)
  refine Ex.ite (ls := [some (.ref 27), some (.int v1)]) (st := []) (S := xSt xG0 hc (xput hr 27 0 s1) xs g L c z) (by rfl) (fun q1 => ?_) (fun q1 => ?_)
  · replace H := (if_pos q1).symm.trans H
    refine Ex.many (f' := (44, [some (.ref 27), some (.int v1)], [.int v1, .int (hr 27 2), .ref 28], xSt xG0 hc (xput hr 27 0 s1) xs g L c z)) ?_ 5 (by rfl)
    obtain ⟨g2, H⟩ := xgd_some H
    refine Ex.gputR (pc := 45) (k := 28) (n := 240) (i := (hr 27 2)) (v := v1) (ls := [some (.ref 27), some (.int v1)]) (st := []) (hr := (xput hr 27 0 s1)) ?_ (by rfl) g2 (by rfl)
    refine Ex.many (f' := (52, [some (.ref 27), some (.int v1)], [.int ((hr 27 2) + (1 : Int32)), .ref 27], xSt xG0 hc (xput (xput hr 27 0 s1) 28 (hr 27 2).toNatClampNeg v1) xs g L c z)) ?_ 5 (by rfl)
    refine Ex.putR (pc := 55) (k := 27) (j := 2) (v := ((hr 27 2) + (1 : Int32))) (ls := [some (.ref 27), some (.int v1)]) (st := []) (hr := (xput (xput hr 27 0 s1) 28 (hr 27 2).toNatClampNeg v1)) ?_ (by rfl) (by rfl)
    refine Ex.many (f' := (59, [some (.ref 27), some (.int v1)], [.int ((hr 27 2) + (1 : Int32))], xSt xG0 hc (xput (xput (xput hr 27 0 s1) 28 (hr 27 2).toNatClampNeg v1) 27 2 ((hr 27 2) + (1 : Int32))) xs g L c z)) ?_ 2 (by rfl)
    replace H := Option.some.inj H
    subst H
    exact Ex.done (by rfl)
  · replace H := (if_neg q1).symm.trans H
    refine Ex.many (f' := (34, [none, none], [.int (0 : Int32)], xSt xG0 hc (xput hr 27 0 s1) xs g L c z)) ?_ 1 (by rfl)
    replace H := Option.some.inj H
    subst H
    exact Ex.done (by rfl)
def f_m_word_18 (v1 : Int32) (hr : xI) : Option (Int32 × xI) :=
  f_m_word_23 v1 (1 : Int32) hr
theorem T_m_word_18 {hc : xI} {g : xJ} {xs : Nat → Int32} {L c z : Nat} (v1 : Int32) (hr : xI) (r : (Int32 × xI)) (H : f_m_word_18 v1 hr = some r) : Ex 0 112 (18, [some (.ref 27), some (.int v1)], [.ref 27], xSt xG0 hc hr xs g L c z) (.inl (some (.int r.1)), xSt xG0 hc r.2 xs g L c z) := by
  unfold f_m_word_18 at H
  refine Ex.many (f' := (23, [some (.ref 27), some (.int v1)], [.int (1 : Int32), .ref 27], xSt xG0 hc hr xs g L c z)) ?_ 2 (by rfl)
  exact T_m_word_23 v1 (1 : Int32) hr r H
def f_m_word (a1 : Int32) (hr : xI) : Option (Int32 × xI) :=
  if (hr 27 1) = 0 then (if (hr 27 2) = (240 : Int32) then (f_m_word_18 a1 hr) else (f_m_word_23 a1 (0 : Int32) hr)) else (f_m_word_18 a1 hr)
theorem T_m_word {hc : xI} {g : xJ} {xs : Nat → Int32} {L c z : Nat} (a1 : Int32) (hr : xI) (r : (Int32 × xI)) (H : f_m_word a1 hr = some r) : Ex 0 112 (0, [some (.ref 27), some (.int a1)], [], xSt xG0 hc hr xs g L c z) (.inl (some (.int r.1)), xSt xG0 hc r.2 xs g L c z) := by
  unfold f_m_word at H
  refine Ex.many (f' := (5, [some (.ref 27), some (.int a1)], [.int (hr 27 1), .ref 27], xSt xG0 hc hr xs g L c z)) ?_ 3 (by rfl)
  refine Ex.ite (ls := [some (.ref 27), some (.int a1)]) (st := [.ref 27]) (S := xSt xG0 hc hr xs g L c z) (by rfl) (fun q1 => ?_) (fun q1 => ?_)
  · replace H := (if_pos q1).symm.trans H
    refine Ex.many (f' := (15, [some (.ref 27), some (.int a1)], [.int (240 : Int32), .int (hr 27 2), .ref 27], xSt xG0 hc hr xs g L c z)) ?_ 3 (by rfl)
    refine Ex.ite (ls := [some (.ref 27), some (.int a1)]) (st := [.ref 27]) (S := xSt xG0 hc hr xs g L c z) (by rfl) (fun q2 => ?_) (fun q2 => ?_)
    · replace H := (if_pos q2).symm.trans H
      exact T_m_word_18 a1 hr r H
    · replace H := (if_neg q2).symm.trans H
      refine Ex.many (f' := (23, [some (.ref 27), some (.int a1)], [.int (0 : Int32), .ref 27], xSt xG0 hc hr xs g L c z)) ?_ 1 (by rfl)
      exact T_m_word_23 a1 (0 : Int32) hr r H
  · replace H := (if_neg q1).symm.trans H
    exact T_m_word_18 a1 hr r H
def f_m_declare_69 (v1 : Int32) (v2 : Int32) (v3 : Int32) (s1 : Int32) (hr : xI) : Option (Int32 × xI) :=
  if s1 ≤ 0 then (xgd (hr 27 4) 6 (xgd (hr 27 4) 6 (xgd (hr 27 4) 6 (xgd ((hr 27 4) + (1 : Int32)) 7 (some ((((hr 27 4) + (1 : Int32)) - (1 : Int32)), (xput (xput (xput (xput (xput (xput hr 27 0 s1) 30 (hr 27 4).toNatClampNeg v1) 31 (hr 27 4).toNatClampNeg v2) 32 (hr 27 4).toNatClampNeg v3) 27 4 ((hr 27 4) + (1 : Int32))) 29 ((hr 27 4) + (1 : Int32)).toNatClampNeg (hr 27 2)))))))) else (some ((0 : Int32), (xput hr 27 0 s1)))
theorem T_m_declare_69 {hc : xI} {g : xJ} {xs : Nat → Int32} {L c z : Nat} (v1 : Int32) (v2 : Int32) (v3 : Int32) (s1 : Int32) (hr : xI) (r : (Int32 × xI)) (H : f_m_declare_69 v1 v2 v3 s1 hr = some r) : Ex 0 113 (69, [some (.ref 27), some (.int v1), some (.int v2), some (.int v3)], [.int s1, .ref 27], xSt xG0 hc hr xs g L c z) (.inl (some (.int r.1)), xSt xG0 hc r.2 xs g L c z) := by
  unfold f_m_declare_69 at H
  refine Ex.putR (pc := 72) (k := 27) (j := 0) (v := s1) (ls := [some (.ref 27), some (.int v1), some (.int v2), some (.int v3)]) (st := []) (hr := hr) ?_ (by rfl) (by rfl)
  refine Ex.many (f' := (76, [some (.ref 27), some (.int v1), some (.int v2), some (.int v3)], [.int s1], xSt xG0 hc (xput hr 27 0 s1) xs g L c z)) ?_ 2 (by rfl)
  refine Ex.ite (ls := [some (.ref 27), some (.int v1), some (.int v2), some (.int v3)]) (st := []) (S := xSt xG0 hc (xput hr 27 0 s1) xs g L c z) (by rfl) (fun q1 => ?_) (fun q1 => ?_)
  · replace H := (if_pos q1).symm.trans H
    refine Ex.many (f' := (90, [some (.ref 27), some (.int v1), some (.int v2), some (.int v3)], [.int v1, .int (hr 27 4), .ref 30], xSt xG0 hc (xput hr 27 0 s1) xs g L c z)) ?_ 5 (by rfl)
    obtain ⟨g2, H⟩ := xgd_some H
    refine Ex.gputR (pc := 91) (k := 30) (n := 6) (i := (hr 27 4)) (v := v1) (ls := [some (.ref 27), some (.int v1), some (.int v2), some (.int v3)]) (st := []) (hr := (xput hr 27 0 s1)) ?_ (by rfl) g2 (by rfl)
    refine Ex.many (f' := (100, [some (.ref 27), some (.int v1), some (.int v2), some (.int v3)], [.int v2, .int (hr 27 4), .ref 31], xSt xG0 hc (xput (xput hr 27 0 s1) 30 (hr 27 4).toNatClampNeg v1) xs g L c z)) ?_ 5 (by rfl)
    obtain ⟨g3, H⟩ := xgd_some H
    refine Ex.gputR (pc := 101) (k := 31) (n := 6) (i := (hr 27 4)) (v := v2) (ls := [some (.ref 27), some (.int v1), some (.int v2), some (.int v3)]) (st := []) (hr := (xput (xput hr 27 0 s1) 30 (hr 27 4).toNatClampNeg v1)) ?_ (by rfl) g3 (by rfl)
    refine Ex.many (f' := (110, [some (.ref 27), some (.int v1), some (.int v2), some (.int v3)], [.int v3, .int (hr 27 4), .ref 32], xSt xG0 hc (xput (xput (xput hr 27 0 s1) 30 (hr 27 4).toNatClampNeg v1) 31 (hr 27 4).toNatClampNeg v2) xs g L c z)) ?_ 5 (by rfl)
    obtain ⟨g4, H⟩ := xgd_some H
    refine Ex.gputR (pc := 111) (k := 32) (n := 6) (i := (hr 27 4)) (v := v3) (ls := [some (.ref 27), some (.int v1), some (.int v2), some (.int v3)]) (st := []) (hr := (xput (xput (xput hr 27 0 s1) 30 (hr 27 4).toNatClampNeg v1) 31 (hr 27 4).toNatClampNeg v2)) ?_ (by rfl) g4 (by rfl)
    refine Ex.many (f' := (118, [some (.ref 27), some (.int v1), some (.int v2), some (.int v3)], [.int ((hr 27 4) + (1 : Int32)), .ref 27], xSt xG0 hc (xput (xput (xput (xput hr 27 0 s1) 30 (hr 27 4).toNatClampNeg v1) 31 (hr 27 4).toNatClampNeg v2) 32 (hr 27 4).toNatClampNeg v3) xs g L c z)) ?_ 5 (by rfl)
    refine Ex.putR (pc := 121) (k := 27) (j := 4) (v := ((hr 27 4) + (1 : Int32))) (ls := [some (.ref 27), some (.int v1), some (.int v2), some (.int v3)]) (st := []) (hr := (xput (xput (xput (xput hr 27 0 s1) 30 (hr 27 4).toNatClampNeg v1) 31 (hr 27 4).toNatClampNeg v2) 32 (hr 27 4).toNatClampNeg v3)) ?_ (by rfl) (by rfl)
    refine Ex.many (f' := (133, [some (.ref 27), some (.int v1), some (.int v2), some (.int v3)], [.int (hr 27 2), .int ((hr 27 4) + (1 : Int32)), .ref 29], xSt xG0 hc (xput (xput (xput (xput (xput hr 27 0 s1) 30 (hr 27 4).toNatClampNeg v1) 31 (hr 27 4).toNatClampNeg v2) 32 (hr 27 4).toNatClampNeg v3) 27 4 ((hr 27 4) + (1 : Int32))) xs g L c z)) ?_ 6 (by rfl)
    obtain ⟨g5, H⟩ := xgd_some H
    refine Ex.gputR (pc := 134) (k := 29) (n := 7) (i := ((hr 27 4) + (1 : Int32))) (v := (hr 27 2)) (ls := [some (.ref 27), some (.int v1), some (.int v2), some (.int v3)]) (st := []) (hr := (xput (xput (xput (xput (xput hr 27 0 s1) 30 (hr 27 4).toNatClampNeg v1) 31 (hr 27 4).toNatClampNeg v2) 32 (hr 27 4).toNatClampNeg v3) 27 4 ((hr 27 4) + (1 : Int32)))) ?_ (by rfl) g5 (by rfl)
    refine Ex.many (f' := (140, [some (.ref 27), some (.int v1), some (.int v2), some (.int v3)], [.int (((hr 27 4) + (1 : Int32)) - (1 : Int32))], xSt xG0 hc (xput (xput (xput (xput (xput (xput hr 27 0 s1) 30 (hr 27 4).toNatClampNeg v1) 31 (hr 27 4).toNatClampNeg v2) 32 (hr 27 4).toNatClampNeg v3) 27 4 ((hr 27 4) + (1 : Int32))) 29 ((hr 27 4) + (1 : Int32)).toNatClampNeg (hr 27 2)) xs g L c z)) ?_ 4 (by rfl)
    replace H := Option.some.inj H
    subst H
    exact Ex.done (by rfl)
  · replace H := (if_neg q1).symm.trans H
    refine Ex.many (f' := (80, [none, none, none, none], [.int (0 : Int32)], xSt xG0 hc (xput hr 27 0 s1) xs g L c z)) ?_ 1 (by rfl)
    replace H := Option.some.inj H
    subst H
    exact Ex.done (by rfl)
def f_m_declare_28 (v1 : Int32) (v2 : Int32) (v3 : Int32) (hr : xI) : Option (Int32 × xI) :=
  f_m_declare_69 v1 v2 v3 (1 : Int32) hr
theorem T_m_declare_28 {hc : xI} {g : xJ} {xs : Nat → Int32} {L c z : Nat} (v1 : Int32) (v2 : Int32) (v3 : Int32) (hr : xI) (r : (Int32 × xI)) (H : f_m_declare_28 v1 v2 v3 hr = some r) : Ex 0 113 (28, [some (.ref 27), some (.int v1), some (.int v2), some (.int v3)], [.ref 27], xSt xG0 hc hr xs g L c z) (.inl (some (.int r.1)), xSt xG0 hc r.2 xs g L c z) := by
  unfold f_m_declare_28 at H
  refine Ex.many (f' := (69, [some (.ref 27), some (.int v1), some (.int v2), some (.int v3)], [.int (1 : Int32), .ref 27], xSt xG0 hc hr xs g L c z)) ?_ 2 (by rfl)
  exact T_m_declare_69 v1 v2 v3 (1 : Int32) hr r H
def f_m_declare_64 (v1 : Int32) (v2 : Int32) (v3 : Int32) (hr : xI) : Option (Int32 × xI) :=
  f_m_declare_69 v1 v2 v3 (2 : Int32) hr
theorem T_m_declare_64 {hc : xI} {g : xJ} {xs : Nat → Int32} {L c z : Nat} (v1 : Int32) (v2 : Int32) (v3 : Int32) (hr : xI) (r : (Int32 × xI)) (H : f_m_declare_64 v1 v2 v3 hr = some r) : Ex 0 113 (64, [some (.ref 27), some (.int v1), some (.int v2), some (.int v3)], [.ref 27], xSt xG0 hc hr xs g L c z) (.inl (some (.int r.1)), xSt xG0 hc r.2 xs g L c z) := by
  unfold f_m_declare_64 at H
  refine Ex.many (f' := (69, [some (.ref 27), some (.int v1), some (.int v2), some (.int v3)], [.int (2 : Int32), .ref 27], xSt xG0 hc hr xs g L c z)) ?_ 2 (by rfl)
  exact T_m_declare_69 v1 v2 v3 (2 : Int32) hr r H
def f_m_declare (a1 : Int32) (a2 : Int32) (a3 : Int32) (hr : xI) : Option (Int32 × xI) :=
  if a1 < 0 then (f_m_declare_28 a1 a2 a3 hr) else (if (4 : Int32) < a1 then (f_m_declare_28 a1 a2 a3 hr) else (if a2 < 0 then (f_m_declare_28 a1 a2 a3 hr) else (if (4 : Int32) < a2 then (f_m_declare_28 a1 a2 a3 hr) else (if a3 < 0 then (f_m_declare_28 a1 a2 a3 hr) else (if a3 ≤ (1 : Int32) then (if (hr 27 1) = 0 then (if (hr 27 4) = (6 : Int32) then (f_m_declare_64 a1 a2 a3 hr) else (xgd (hr 27 4) 7 (if (hr 29 (hr 27 4).toNatClampNeg) = (hr 27 2) then (f_m_declare_64 a1 a2 a3 hr) else (f_m_declare_69 a1 a2 a3 (0 : Int32) hr)))) else (f_m_declare_64 a1 a2 a3 hr)) else (f_m_declare_28 a1 a2 a3 hr))))))
theorem T_m_declare {hc : xI} {g : xJ} {xs : Nat → Int32} {L c z : Nat} (a1 : Int32) (a2 : Int32) (a3 : Int32) (hr : xI) (r : (Int32 × xI)) (H : f_m_declare a1 a2 a3 hr = some r) : Ex 0 113 (0, [some (.ref 27), some (.int a1), some (.int a2), some (.int a3)], [], xSt xG0 hc hr xs g L c z) (.inl (some (.int r.1)), xSt xG0 hc r.2 xs g L c z) := by
  unfold f_m_declare at H
  refine Ex.many (f' := (2, [some (.ref 27), some (.int a1), some (.int a2), some (.int a3)], [.int a1, .ref 27], xSt xG0 hc hr xs g L c z)) ?_ 2 (by rfl)
  refine Ex.ite (ls := [some (.ref 27), some (.int a1), some (.int a2), some (.int a3)]) (st := [.ref 27]) (S := xSt xG0 hc hr xs g L c z) (by rfl) (fun q1 => ?_) (fun q1 => ?_)
  · replace H := (if_pos q1).symm.trans H
    exact T_m_declare_28 a1 a2 a3 hr r H
  · replace H := (if_neg q1).symm.trans H
    refine Ex.many (f' := (7, [some (.ref 27), some (.int a1), some (.int a2), some (.int a3)], [.int (4 : Int32), .int a1, .ref 27], xSt xG0 hc hr xs g L c z)) ?_ 2 (by rfl)
    refine Ex.ite (ls := [some (.ref 27), some (.int a1), some (.int a2), some (.int a3)]) (st := [.ref 27]) (S := xSt xG0 hc hr xs g L c z) (by rfl) (fun q2 => ?_) (fun q2 => ?_)
    · replace H := (if_pos q2).symm.trans H
      exact T_m_declare_28 a1 a2 a3 hr r H
    · replace H := (if_neg q2).symm.trans H
      refine Ex.many (f' := (11, [some (.ref 27), some (.int a1), some (.int a2), some (.int a3)], [.int a2, .ref 27], xSt xG0 hc hr xs g L c z)) ?_ 1 (by rfl)
      refine Ex.ite (ls := [some (.ref 27), some (.int a1), some (.int a2), some (.int a3)]) (st := [.ref 27]) (S := xSt xG0 hc hr xs g L c z) (by rfl) (fun q3 => ?_) (fun q3 => ?_)
      · replace H := (if_pos q3).symm.trans H
        exact T_m_declare_28 a1 a2 a3 hr r H
      · replace H := (if_neg q3).symm.trans H
        refine Ex.many (f' := (16, [some (.ref 27), some (.int a1), some (.int a2), some (.int a3)], [.int (4 : Int32), .int a2, .ref 27], xSt xG0 hc hr xs g L c z)) ?_ 2 (by rfl)
        refine Ex.ite (ls := [some (.ref 27), some (.int a1), some (.int a2), some (.int a3)]) (st := [.ref 27]) (S := xSt xG0 hc hr xs g L c z) (by rfl) (fun q4 => ?_) (fun q4 => ?_)
        · replace H := (if_pos q4).symm.trans H
          exact T_m_declare_28 a1 a2 a3 hr r H
        · replace H := (if_neg q4).symm.trans H
          refine Ex.many (f' := (20, [some (.ref 27), some (.int a1), some (.int a2), some (.int a3)], [.int a3, .ref 27], xSt xG0 hc hr xs g L c z)) ?_ 1 (by rfl)
          refine Ex.ite (ls := [some (.ref 27), some (.int a1), some (.int a2), some (.int a3)]) (st := [.ref 27]) (S := xSt xG0 hc hr xs g L c z) (by rfl) (fun q5 => ?_) (fun q5 => ?_)
          · replace H := (if_pos q5).symm.trans H
            exact T_m_declare_28 a1 a2 a3 hr r H
          · replace H := (if_neg q5).symm.trans H
            refine Ex.many (f' := (25, [some (.ref 27), some (.int a1), some (.int a2), some (.int a3)], [.int (1 : Int32), .int a3, .ref 27], xSt xG0 hc hr xs g L c z)) ?_ 2 (by rfl)
            refine Ex.ite (ls := [some (.ref 27), some (.int a1), some (.int a2), some (.int a3)]) (st := [.ref 27]) (S := xSt xG0 hc hr xs g L c z) (by rfl) (fun q6 => ?_) (fun q6 => ?_)
            · replace H := (if_pos q6).symm.trans H
              refine Ex.many (f' := (36, [some (.ref 27), some (.int a1), some (.int a2), some (.int a3)], [.int (hr 27 1), .ref 27], xSt xG0 hc hr xs g L c z)) ?_ 2 (by rfl)
              refine Ex.ite (ls := [some (.ref 27), some (.int a1), some (.int a2), some (.int a3)]) (st := [.ref 27]) (S := xSt xG0 hc hr xs g L c z) (by rfl) (fun q7 => ?_) (fun q7 => ?_)
              · replace H := (if_pos q7).symm.trans H
                refine Ex.many (f' := (45, [some (.ref 27), some (.int a1), some (.int a2), some (.int a3)], [.int (6 : Int32), .int (hr 27 4), .ref 27], xSt xG0 hc hr xs g L c z)) ?_ 3 (by rfl)
                refine Ex.ite (ls := [some (.ref 27), some (.int a1), some (.int a2), some (.int a3)]) (st := [.ref 27]) (S := xSt xG0 hc hr xs g L c z) (by rfl) (fun q8 => ?_) (fun q8 => ?_)
                · replace H := (if_pos q8).symm.trans H
                  exact T_m_declare_64 a1 a2 a3 hr r H
                · replace H := (if_neg q8).symm.trans H
                  refine Ex.many (f' := (56, [some (.ref 27), some (.int a1), some (.int a2), some (.int a3)], [.int (hr 27 4), .ref 29, .ref 27], xSt xG0 hc hr xs g L c z)) ?_ 4 (by rfl)
                  obtain ⟨g9, H⟩ := xgd_some H
                  refine Ex.guard (f' := (57, [some (.ref 27), some (.int a1), some (.int a2), some (.int a3)], [.int (hr 29 (hr 27 4).toNatClampNeg), .ref 27], xSt xG0 hc hr xs g L c z)) (by rfl) g9 ?_
                  refine Ex.many (f' := (61, [some (.ref 27), some (.int a1), some (.int a2), some (.int a3)], [.int (hr 27 2), .int (hr 29 (hr 27 4).toNatClampNeg), .ref 27], xSt xG0 hc hr xs g L c z)) ?_ 2 (by rfl)
                  refine Ex.ite (ls := [some (.ref 27), some (.int a1), some (.int a2), some (.int a3)]) (st := [.ref 27]) (S := xSt xG0 hc hr xs g L c z) (by rfl) (fun q10 => ?_) (fun q10 => ?_)
                  · replace H := (if_pos q10).symm.trans H
                    exact T_m_declare_64 a1 a2 a3 hr r H
                  · replace H := (if_neg q10).symm.trans H
                    refine Ex.many (f' := (69, [some (.ref 27), some (.int a1), some (.int a2), some (.int a3)], [.int (0 : Int32), .ref 27], xSt xG0 hc hr xs g L c z)) ?_ 1 (by rfl)
                    exact T_m_declare_69 a1 a2 a3 (0 : Int32) hr r H
              · replace H := (if_neg q7).symm.trans H
                exact T_m_declare_64 a1 a2 a3 hr r H
            · replace H := (if_neg q6).symm.trans H
              exact T_m_declare_28 a1 a2 a3 hr r H
def f_m_clear_64 : Nat → Int32 → xI → Option xI
  | 0, _, _ => none
  | n + 1, v1, hr => if (4 : Int32) ≤ v1 then (some hr) else (xgd v1 4 (f_m_clear_64 n (v1 + (1 : Int32)) (xput hr 44 v1.toNatClampNeg (0 : Int32))))
theorem T_m_clear_64 {hc : xI} {g : xJ} {xs : Nat → Int32} {L c z : Nat} (n : Nat) : ∀ (v1 : Int32) (hr : xI) (r : xI), f_m_clear_64 n v1 hr = some r → Ex 0 114 (64, [some (.ref 27), some (.int v1)], [], xSt xG0 hc hr xs g L c z) (.inl none, xSt xG0 hc r xs g L c z) := by
  induction n with
  | zero =>
    intro v1 hr r H
    unfold f_m_clear_64 at H
    cases H
  | succ n ih =>
    intro v1 hr r H
    unfold f_m_clear_64 at H
    refine Ex.many (f' := (66, [some (.ref 27), some (.int v1)], [.int (4 : Int32), .int v1], xSt xG0 hc hr xs g L c z)) ?_ 2 (by rfl)
    refine Ex.ite (ls := [some (.ref 27), some (.int v1)]) (st := []) (S := xSt xG0 hc hr xs g L c z) (by rfl) (fun q1 => ?_) (fun q1 => ?_)
    · replace H := (if_pos q1).symm.trans H
      replace H := Option.some.inj H
      subst H
      exact Ex.done (by rfl)
    · replace H := (if_neg q1).symm.trans H
      refine Ex.many (f' := (75, [some (.ref 27), some (.int v1)], [.int (0 : Int32), .int v1, .ref 44], xSt xG0 hc hr xs g L c z)) ?_ 4 (by rfl)
      obtain ⟨g2, H⟩ := xgd_some H
      refine Ex.gputR (pc := 76) (k := 44) (n := 4) (i := v1) (v := (0 : Int32)) (ls := [some (.ref 27), some (.int v1)]) (st := []) (hr := hr) ?_ (by rfl) g2 (by rfl)
      refine Ex.many (f' := (64, [some (.ref 27), some (.int (v1 + (1 : Int32)))], [], xSt xG0 hc (xput hr 44 v1.toNatClampNeg (0 : Int32)) xs g L c z)) ?_ 2 (by rfl)
      exact ih (v1 + (1 : Int32)) (xput hr 44 v1.toNatClampNeg (0 : Int32)) r H
def f_m_clear_42 : Nat → Int32 → xI → Option xI
  | 0, _, _ => none
  | n + 1, v1, hr => if (256 : Int32) ≤ v1 then (f_m_clear_64 1000 (0 : Int32) hr) else (xgd v1 256 (f_m_clear_42 n (v1 + (1 : Int32)) (xput hr 43 v1.toNatClampNeg (0 : Int32))))
theorem T_m_clear_42 {hc : xI} {g : xJ} {xs : Nat → Int32} {L c z : Nat} (n : Nat) : ∀ (v1 : Int32) (hr : xI) (r : xI), f_m_clear_42 n v1 hr = some r → Ex 0 114 (42, [some (.ref 27), some (.int v1)], [], xSt xG0 hc hr xs g L c z) (.inl none, xSt xG0 hc r xs g L c z) := by
  induction n with
  | zero =>
    intro v1 hr r H
    unfold f_m_clear_42 at H
    cases H
  | succ n ih =>
    intro v1 hr r H
    unfold f_m_clear_42 at H
    refine Ex.many (f' := (46, [some (.ref 27), some (.int v1)], [.int (256 : Int32), .int v1], xSt xG0 hc hr xs g L c z)) ?_ 2 (by rfl)
    refine Ex.ite (ls := [some (.ref 27), some (.int v1)]) (st := []) (S := xSt xG0 hc hr xs g L c z) (by rfl) (fun q1 => ?_) (fun q1 => ?_)
    · replace H := (if_pos q1).symm.trans H
      refine Ex.many (f' := (64, [some (.ref 27), some (.int (0 : Int32))], [], xSt xG0 hc hr xs g L c z)) ?_ 2 (by rfl)
      exact T_m_clear_64 1000 (0 : Int32) hr r H
    · replace H := (if_neg q1).symm.trans H
      refine Ex.many (f' := (55, [some (.ref 27), some (.int v1)], [.int (0 : Int32), .int v1, .ref 43], xSt xG0 hc hr xs g L c z)) ?_ 4 (by rfl)
      obtain ⟨g2, H⟩ := xgd_some H
      refine Ex.gputR (pc := 56) (k := 43) (n := 256) (i := v1) (v := (0 : Int32)) (ls := [some (.ref 27), some (.int v1)]) (st := []) (hr := hr) ?_ (by rfl) g2 (by rfl)
      refine Ex.many (f' := (42, [some (.ref 27), some (.int (v1 + (1 : Int32)))], [], xSt xG0 hc (xput hr 43 v1.toNatClampNeg (0 : Int32)) xs g L c z)) ?_ 2 (by rfl)
      exact ih (v1 + (1 : Int32)) (xput hr 43 v1.toNatClampNeg (0 : Int32)) r H
def f_m_clear (hr : xI) : Option xI :=
  f_m_clear_42 1000 (0 : Int32) (xput (xput (xput (xput (xput (xput (xput (xput hr 27 0 (0 : Int32)) 27 1 (0 : Int32)) 27 2 (0 : Int32)) 27 4 (0 : Int32)) 27 9 (-1 : Int32)) 27 10 (-1 : Int32)) 27 27 (1 : Int32)) 27 29 (0 : Int32))
theorem T_m_clear {hc : xI} {g : xJ} {xs : Nat → Int32} {L c z : Nat} (hr : xI) (r : xI) (H : f_m_clear hr = some r) : Ex 0 114 (0, [some (.ref 27), none], [], xSt xG0 hc hr xs g L c z) (.inl none, xSt xG0 hc r xs g L c z) := by
  unfold f_m_clear at H
  refine Ex.many (f' := (2, [some (.ref 27), none], [.int (0 : Int32), .ref 27], xSt xG0 hc hr xs g L c z)) ?_ 2 (by rfl)
  refine Ex.putR (pc := 5) (k := 27) (j := 0) (v := (0 : Int32)) (ls := [some (.ref 27), none]) (st := []) (hr := hr) ?_ (by rfl) (by rfl)
  refine Ex.many (f' := (7, [some (.ref 27), none], [.int (0 : Int32), .ref 27], xSt xG0 hc (xput hr 27 0 (0 : Int32)) xs g L c z)) ?_ 2 (by rfl)
  refine Ex.putR (pc := 10) (k := 27) (j := 1) (v := (0 : Int32)) (ls := [some (.ref 27), none]) (st := []) (hr := (xput hr 27 0 (0 : Int32))) ?_ (by rfl) (by rfl)
  refine Ex.many (f' := (12, [some (.ref 27), none], [.int (0 : Int32), .ref 27], xSt xG0 hc (xput (xput hr 27 0 (0 : Int32)) 27 1 (0 : Int32)) xs g L c z)) ?_ 2 (by rfl)
  refine Ex.putR (pc := 15) (k := 27) (j := 2) (v := (0 : Int32)) (ls := [some (.ref 27), none]) (st := []) (hr := (xput (xput hr 27 0 (0 : Int32)) 27 1 (0 : Int32))) ?_ (by rfl) (by rfl)
  refine Ex.many (f' := (17, [some (.ref 27), none], [.int (0 : Int32), .ref 27], xSt xG0 hc (xput (xput (xput hr 27 0 (0 : Int32)) 27 1 (0 : Int32)) 27 2 (0 : Int32)) xs g L c z)) ?_ 2 (by rfl)
  refine Ex.putR (pc := 20) (k := 27) (j := 4) (v := (0 : Int32)) (ls := [some (.ref 27), none]) (st := []) (hr := (xput (xput (xput hr 27 0 (0 : Int32)) 27 1 (0 : Int32)) 27 2 (0 : Int32))) ?_ (by rfl) (by rfl)
  refine Ex.many (f' := (22, [some (.ref 27), none], [.int (-1 : Int32), .ref 27], xSt xG0 hc (xput (xput (xput (xput hr 27 0 (0 : Int32)) 27 1 (0 : Int32)) 27 2 (0 : Int32)) 27 4 (0 : Int32)) xs g L c z)) ?_ 2 (by rfl)
  refine Ex.putR (pc := 25) (k := 27) (j := 9) (v := (-1 : Int32)) (ls := [some (.ref 27), none]) (st := []) (hr := (xput (xput (xput (xput hr 27 0 (0 : Int32)) 27 1 (0 : Int32)) 27 2 (0 : Int32)) 27 4 (0 : Int32))) ?_ (by rfl) (by rfl)
  refine Ex.many (f' := (27, [some (.ref 27), none], [.int (-1 : Int32), .ref 27], xSt xG0 hc (xput (xput (xput (xput (xput hr 27 0 (0 : Int32)) 27 1 (0 : Int32)) 27 2 (0 : Int32)) 27 4 (0 : Int32)) 27 9 (-1 : Int32)) xs g L c z)) ?_ 2 (by rfl)
  refine Ex.putR (pc := 30) (k := 27) (j := 10) (v := (-1 : Int32)) (ls := [some (.ref 27), none]) (st := []) (hr := (xput (xput (xput (xput (xput hr 27 0 (0 : Int32)) 27 1 (0 : Int32)) 27 2 (0 : Int32)) 27 4 (0 : Int32)) 27 9 (-1 : Int32))) ?_ (by rfl) (by rfl)
  refine Ex.many (f' := (32, [some (.ref 27), none], [.int (1 : Int32), .ref 27], xSt xG0 hc (xput (xput (xput (xput (xput (xput hr 27 0 (0 : Int32)) 27 1 (0 : Int32)) 27 2 (0 : Int32)) 27 4 (0 : Int32)) 27 9 (-1 : Int32)) 27 10 (-1 : Int32)) xs g L c z)) ?_ 2 (by rfl)
  refine Ex.putR (pc := 35) (k := 27) (j := 27) (v := (1 : Int32)) (ls := [some (.ref 27), none]) (st := []) (hr := (xput (xput (xput (xput (xput (xput hr 27 0 (0 : Int32)) 27 1 (0 : Int32)) 27 2 (0 : Int32)) 27 4 (0 : Int32)) 27 9 (-1 : Int32)) 27 10 (-1 : Int32))) ?_ (by rfl) (by rfl)
  refine Ex.many (f' := (37, [some (.ref 27), none], [.int (0 : Int32), .ref 27], xSt xG0 hc (xput (xput (xput (xput (xput (xput (xput hr 27 0 (0 : Int32)) 27 1 (0 : Int32)) 27 2 (0 : Int32)) 27 4 (0 : Int32)) 27 9 (-1 : Int32)) 27 10 (-1 : Int32)) 27 27 (1 : Int32)) xs g L c z)) ?_ 2 (by rfl)
  refine Ex.putR (pc := 40) (k := 27) (j := 29) (v := (0 : Int32)) (ls := [some (.ref 27), none]) (st := []) (hr := (xput (xput (xput (xput (xput (xput (xput hr 27 0 (0 : Int32)) 27 1 (0 : Int32)) 27 2 (0 : Int32)) 27 4 (0 : Int32)) 27 9 (-1 : Int32)) 27 10 (-1 : Int32)) 27 27 (1 : Int32))) ?_ (by rfl) (by rfl)
  refine Ex.many (f' := (42, [some (.ref 27), some (.int (0 : Int32))], [], xSt xG0 hc (xput (xput (xput (xput (xput (xput (xput (xput hr 27 0 (0 : Int32)) 27 1 (0 : Int32)) 27 2 (0 : Int32)) 27 4 (0 : Int32)) 27 9 (-1 : Int32)) 27 10 (-1 : Int32)) 27 27 (1 : Int32)) 27 29 (0 : Int32)) xs g L c z)) ?_ 2 (by rfl)
  exact T_m_clear_42 1000 (0 : Int32) (xput (xput (xput (xput (xput (xput (xput (xput hr 27 0 (0 : Int32)) 27 1 (0 : Int32)) 27 2 (0 : Int32)) 27 4 (0 : Int32)) 27 9 (-1 : Int32)) 27 10 (-1 : Int32)) 27 27 (1 : Int32)) 27 29 (0 : Int32)) r H
def f_m_fail_16 (s1 : Int32) (hr : xI) : Option xI :=
  some (xput hr 27 25 s1)
theorem T_m_fail_16 {hc : xI} {g : xJ} {xs : Nat → Int32} {L c z : Nat} (s1 : Int32) (hr : xI) (r : xI) (H : f_m_fail_16 s1 hr = some r) : Ex 0 118 (16, [none, none], [.int s1, .ref 27], xSt xG0 hc hr xs g L c z) (.inl none, xSt xG0 hc r xs g L c z) := by
  unfold f_m_fail_16 at H
  refine Ex.putR (pc := 19) (k := 27) (j := 25) (v := s1) (ls := [none, none]) (st := []) (hr := hr) ?_ (by rfl) (by rfl)
  replace H := Option.some.inj H
  subst H
  exact Ex.done (by rfl)
def f_m_fail (a1 : Int32) (hr : xI) : Option xI :=
  if (hr 27 25) = 0 then (f_m_fail_16 a1 hr) else (f_m_fail_16 (hr 27 25) hr)
theorem T_m_fail {hc : xI} {g : xJ} {xs : Nat → Int32} {L c z : Nat} (a1 : Int32) (hr : xI) (r : xI) (H : f_m_fail a1 hr = some r) : Ex 0 118 (0, [some (.ref 27), some (.int a1)], [], xSt xG0 hc hr xs g L c z) (.inl none, xSt xG0 hc r xs g L c z) := by
  unfold f_m_fail at H
  refine Ex.many (f' := (5, [some (.ref 27), some (.int a1)], [.int (hr 27 25), .ref 27], xSt xG0 hc hr xs g L c z)) ?_ 3 (by rfl)
  refine Ex.ite (ls := [some (.ref 27), some (.int a1)]) (st := [.ref 27]) (S := xSt xG0 hc hr xs g L c z) (by rfl) (fun q1 => ?_) (fun q1 => ?_)
  · replace H := (if_pos q1).symm.trans H
    refine Ex.many (f' := (16, [none, some (.int a1)], [.int a1, .ref 27], xSt xG0 hc hr xs g L c z)) ?_ 2 (by rfl)
    refine Ex.kill (ls' := [none, none]) (by rfl) ?_
    exact T_m_fail_16 a1 hr r H
  · replace H := (if_neg q1).symm.trans H
    refine Ex.many (f' := (16, [some (.ref 27), none], [.int (hr 27 25), .ref 27], xSt xG0 hc hr xs g L c z)) ?_ 2 (by rfl)
    refine Ex.kill (ls' := [none, none]) (by rfl) ?_
    exact T_m_fail_16 (hr 27 25) hr r H
def f_m_open (a1 : Int32) (a2 : Int32) (a3 : Int32) (hr : xI) : Option xI :=
  xgd (hr 27 11) 250 (xgd (hr 27 11) 250 (xgd (hr 27 11) 250 (xgd (hr 27 11) 250 (xgd (hr 27 11) 250 (xgd (hr 27 11) 250 (xgd (hr 27 11) 250 (xgd (hr 27 11) 250 (xgd a3 240 (if ((hr 27 23) + (1 : Int32)) ≤ (9 : Int32) then (some (xput (xput (xput (xput (xput (xput (xput (xput (xput (xput (xput (xput hr 27 11 ((hr 27 11) + (1 : Int32))) 33 (hr 27 11).toNatClampNeg a1) 34 (hr 27 11).toNatClampNeg a2) 35 (hr 27 11).toNatClampNeg (hr 27 24)) 36 (hr 27 11).toNatClampNeg (hr 27 22)) 37 (hr 27 11).toNatClampNeg a3) 38 (hr 27 11).toNatClampNeg (-1 : Int32)) 39 (hr 27 11).toNatClampNeg (-1 : Int32)) 40 (hr 27 11).toNatClampNeg (vp_nar .boolean (1 : Int32))) 42 a3.toNatClampNeg (hr 27 11)) 27 22 (hr 27 11)) 27 23 ((hr 27 23) + (1 : Int32)))) else ((f_m_fail (6 : Int32) (xput (xput (xput (xput (xput (xput (xput (xput (xput (xput (xput (xput hr 27 11 ((hr 27 11) + (1 : Int32))) 33 (hr 27 11).toNatClampNeg a1) 34 (hr 27 11).toNatClampNeg a2) 35 (hr 27 11).toNatClampNeg (hr 27 24)) 36 (hr 27 11).toNatClampNeg (hr 27 22)) 37 (hr 27 11).toNatClampNeg a3) 38 (hr 27 11).toNatClampNeg (-1 : Int32)) 39 (hr 27 11).toNatClampNeg (-1 : Int32)) 40 (hr 27 11).toNatClampNeg (vp_nar .boolean (1 : Int32))) 42 a3.toNatClampNeg (hr 27 11)) 27 22 (hr 27 11)) 27 23 ((hr 27 23) + (1 : Int32)))).bind fun q11 => some q11))))))))))
theorem T_m_open {hc : xI} {g : xJ} {xs : Nat → Int32} {L c z : Nat} (a1 : Int32) (a2 : Int32) (a3 : Int32) (hr : xI) (r : xI) (H : f_m_open a1 a2 a3 hr = some r) : Ex 1 117 (0, [some (.ref 27), some (.int a1), some (.int a2), some (.int a3), none], [], xSt xG0 hc hr xs g L c z) (.inl none, xSt xG0 hc r xs g L c z) := by
  unfold f_m_open at H
  refine Ex.many (f' := (13, [some (.ref 27), some (.int a1), some (.int a2), some (.int a3), some (.int (hr 27 11))], [.int ((hr 27 11) + (1 : Int32)), .ref 27], xSt xG0 hc hr xs g L c z)) ?_ 8 (by rfl)
  refine Ex.putR (pc := 16) (k := 27) (j := 11) (v := ((hr 27 11) + (1 : Int32))) (ls := [some (.ref 27), some (.int a1), some (.int a2), some (.int a3), some (.int (hr 27 11))]) (st := []) (hr := hr) ?_ (by rfl) (by rfl)
  refine Ex.many (f' := (23, [some (.ref 27), some (.int a1), some (.int a2), some (.int a3), some (.int (hr 27 11))], [.int a1, .int (hr 27 11), .ref 33], xSt xG0 hc (xput hr 27 11 ((hr 27 11) + (1 : Int32))) xs g L c z)) ?_ 4 (by rfl)
  obtain ⟨g1, H⟩ := xgd_some H
  refine Ex.gputR (pc := 24) (k := 33) (n := 250) (i := (hr 27 11)) (v := a1) (ls := [some (.ref 27), some (.int a1), some (.int a2), some (.int a3), some (.int (hr 27 11))]) (st := []) (hr := (xput hr 27 11 ((hr 27 11) + (1 : Int32)))) ?_ (by rfl) g1 (by rfl)
  refine Ex.many (f' := (31, [some (.ref 27), some (.int a1), some (.int a2), some (.int a3), some (.int (hr 27 11))], [.int a2, .int (hr 27 11), .ref 34], xSt xG0 hc (xput (xput hr 27 11 ((hr 27 11) + (1 : Int32))) 33 (hr 27 11).toNatClampNeg a1) xs g L c z)) ?_ 4 (by rfl)
  obtain ⟨g2, H⟩ := xgd_some H
  refine Ex.gputR (pc := 32) (k := 34) (n := 250) (i := (hr 27 11)) (v := a2) (ls := [some (.ref 27), some (.int a1), some (.int a2), some (.int a3), some (.int (hr 27 11))]) (st := []) (hr := (xput (xput hr 27 11 ((hr 27 11) + (1 : Int32))) 33 (hr 27 11).toNatClampNeg a1)) ?_ (by rfl) g2 (by rfl)
  refine Ex.many (f' := (42, [some (.ref 27), some (.int a1), some (.int a2), some (.int a3), some (.int (hr 27 11))], [.int (hr 27 24), .int (hr 27 11), .ref 35], xSt xG0 hc (xput (xput (xput hr 27 11 ((hr 27 11) + (1 : Int32))) 33 (hr 27 11).toNatClampNeg a1) 34 (hr 27 11).toNatClampNeg a2) xs g L c z)) ?_ 5 (by rfl)
  obtain ⟨g3, H⟩ := xgd_some H
  refine Ex.gputR (pc := 43) (k := 35) (n := 250) (i := (hr 27 11)) (v := (hr 27 24)) (ls := [some (.ref 27), some (.int a1), some (.int a2), some (.int a3), some (.int (hr 27 11))]) (st := []) (hr := (xput (xput (xput hr 27 11 ((hr 27 11) + (1 : Int32))) 33 (hr 27 11).toNatClampNeg a1) 34 (hr 27 11).toNatClampNeg a2)) ?_ (by rfl) g3 (by rfl)
  refine Ex.many (f' := (53, [some (.ref 27), some (.int a1), some (.int a2), some (.int a3), some (.int (hr 27 11))], [.int (hr 27 22), .int (hr 27 11), .ref 36], xSt xG0 hc (xput (xput (xput (xput hr 27 11 ((hr 27 11) + (1 : Int32))) 33 (hr 27 11).toNatClampNeg a1) 34 (hr 27 11).toNatClampNeg a2) 35 (hr 27 11).toNatClampNeg (hr 27 24)) xs g L c z)) ?_ 5 (by rfl)
  obtain ⟨g4, H⟩ := xgd_some H
  refine Ex.gputR (pc := 54) (k := 36) (n := 250) (i := (hr 27 11)) (v := (hr 27 22)) (ls := [some (.ref 27), some (.int a1), some (.int a2), some (.int a3), some (.int (hr 27 11))]) (st := []) (hr := (xput (xput (xput (xput hr 27 11 ((hr 27 11) + (1 : Int32))) 33 (hr 27 11).toNatClampNeg a1) 34 (hr 27 11).toNatClampNeg a2) 35 (hr 27 11).toNatClampNeg (hr 27 24))) ?_ (by rfl) g4 (by rfl)
  refine Ex.many (f' := (61, [some (.ref 27), some (.int a1), some (.int a2), some (.int a3), some (.int (hr 27 11))], [.int a3, .int (hr 27 11), .ref 37], xSt xG0 hc (xput (xput (xput (xput (xput hr 27 11 ((hr 27 11) + (1 : Int32))) 33 (hr 27 11).toNatClampNeg a1) 34 (hr 27 11).toNatClampNeg a2) 35 (hr 27 11).toNatClampNeg (hr 27 24)) 36 (hr 27 11).toNatClampNeg (hr 27 22)) xs g L c z)) ?_ 4 (by rfl)
  obtain ⟨g5, H⟩ := xgd_some H
  refine Ex.gputR (pc := 62) (k := 37) (n := 250) (i := (hr 27 11)) (v := a3) (ls := [some (.ref 27), some (.int a1), some (.int a2), some (.int a3), some (.int (hr 27 11))]) (st := []) (hr := (xput (xput (xput (xput (xput hr 27 11 ((hr 27 11) + (1 : Int32))) 33 (hr 27 11).toNatClampNeg a1) 34 (hr 27 11).toNatClampNeg a2) 35 (hr 27 11).toNatClampNeg (hr 27 24)) 36 (hr 27 11).toNatClampNeg (hr 27 22))) ?_ (by rfl) g5 (by rfl)
  refine Ex.many (f' := (69, [some (.ref 27), some (.int a1), some (.int a2), some (.int a3), some (.int (hr 27 11))], [.int (-1 : Int32), .int (hr 27 11), .ref 38], xSt xG0 hc (xput (xput (xput (xput (xput (xput hr 27 11 ((hr 27 11) + (1 : Int32))) 33 (hr 27 11).toNatClampNeg a1) 34 (hr 27 11).toNatClampNeg a2) 35 (hr 27 11).toNatClampNeg (hr 27 24)) 36 (hr 27 11).toNatClampNeg (hr 27 22)) 37 (hr 27 11).toNatClampNeg a3) xs g L c z)) ?_ 4 (by rfl)
  obtain ⟨g6, H⟩ := xgd_some H
  refine Ex.gputR (pc := 70) (k := 38) (n := 250) (i := (hr 27 11)) (v := (-1 : Int32)) (ls := [some (.ref 27), some (.int a1), some (.int a2), some (.int a3), some (.int (hr 27 11))]) (st := []) (hr := (xput (xput (xput (xput (xput (xput hr 27 11 ((hr 27 11) + (1 : Int32))) 33 (hr 27 11).toNatClampNeg a1) 34 (hr 27 11).toNatClampNeg a2) 35 (hr 27 11).toNatClampNeg (hr 27 24)) 36 (hr 27 11).toNatClampNeg (hr 27 22)) 37 (hr 27 11).toNatClampNeg a3)) ?_ (by rfl) g6 (by rfl)
  refine Ex.many (f' := (77, [some (.ref 27), some (.int a1), some (.int a2), some (.int a3), some (.int (hr 27 11))], [.int (-1 : Int32), .int (hr 27 11), .ref 39], xSt xG0 hc (xput (xput (xput (xput (xput (xput (xput hr 27 11 ((hr 27 11) + (1 : Int32))) 33 (hr 27 11).toNatClampNeg a1) 34 (hr 27 11).toNatClampNeg a2) 35 (hr 27 11).toNatClampNeg (hr 27 24)) 36 (hr 27 11).toNatClampNeg (hr 27 22)) 37 (hr 27 11).toNatClampNeg a3) 38 (hr 27 11).toNatClampNeg (-1 : Int32)) xs g L c z)) ?_ 4 (by rfl)
  obtain ⟨g7, H⟩ := xgd_some H
  refine Ex.gputR (pc := 78) (k := 39) (n := 250) (i := (hr 27 11)) (v := (-1 : Int32)) (ls := [some (.ref 27), some (.int a1), some (.int a2), some (.int a3), some (.int (hr 27 11))]) (st := []) (hr := (xput (xput (xput (xput (xput (xput (xput hr 27 11 ((hr 27 11) + (1 : Int32))) 33 (hr 27 11).toNatClampNeg a1) 34 (hr 27 11).toNatClampNeg a2) 35 (hr 27 11).toNatClampNeg (hr 27 24)) 36 (hr 27 11).toNatClampNeg (hr 27 22)) 37 (hr 27 11).toNatClampNeg a3) 38 (hr 27 11).toNatClampNeg (-1 : Int32))) ?_ (by rfl) g7 (by rfl)
  refine Ex.many (f' := (85, [some (.ref 27), some (.int a1), some (.int a2), some (.int a3), some (.int (hr 27 11))], [.int (1 : Int32), .int (hr 27 11), .ref 40], xSt xG0 hc (xput (xput (xput (xput (xput (xput (xput (xput hr 27 11 ((hr 27 11) + (1 : Int32))) 33 (hr 27 11).toNatClampNeg a1) 34 (hr 27 11).toNatClampNeg a2) 35 (hr 27 11).toNatClampNeg (hr 27 24)) 36 (hr 27 11).toNatClampNeg (hr 27 22)) 37 (hr 27 11).toNatClampNeg a3) 38 (hr 27 11).toNatClampNeg (-1 : Int32)) 39 (hr 27 11).toNatClampNeg (-1 : Int32)) xs g L c z)) ?_ 4 (by rfl)
  obtain ⟨g8, H⟩ := xgd_some H
  refine Ex.gputR (pc := 86) (k := 40) (n := 250) (i := (hr 27 11)) (v := (vp_nar .boolean (1 : Int32))) (ls := [some (.ref 27), some (.int a1), some (.int a2), some (.int a3), some (.int (hr 27 11))]) (st := []) (hr := (xput (xput (xput (xput (xput (xput (xput (xput hr 27 11 ((hr 27 11) + (1 : Int32))) 33 (hr 27 11).toNatClampNeg a1) 34 (hr 27 11).toNatClampNeg a2) 35 (hr 27 11).toNatClampNeg (hr 27 24)) 36 (hr 27 11).toNatClampNeg (hr 27 22)) 37 (hr 27 11).toNatClampNeg a3) 38 (hr 27 11).toNatClampNeg (-1 : Int32)) 39 (hr 27 11).toNatClampNeg (-1 : Int32))) ?_ (by rfl) g8 (by rfl)
  refine Ex.many (f' := (93, [some (.ref 27), some (.int a1), some (.int a2), some (.int a3), some (.int (hr 27 11))], [.int (hr 27 11), .int a3, .ref 42], xSt xG0 hc (xput (xput (xput (xput (xput (xput (xput (xput (xput hr 27 11 ((hr 27 11) + (1 : Int32))) 33 (hr 27 11).toNatClampNeg a1) 34 (hr 27 11).toNatClampNeg a2) 35 (hr 27 11).toNatClampNeg (hr 27 24)) 36 (hr 27 11).toNatClampNeg (hr 27 22)) 37 (hr 27 11).toNatClampNeg a3) 38 (hr 27 11).toNatClampNeg (-1 : Int32)) 39 (hr 27 11).toNatClampNeg (-1 : Int32)) 40 (hr 27 11).toNatClampNeg (vp_nar .boolean (1 : Int32))) xs g L c z)) ?_ 4 (by rfl)
  obtain ⟨g9, H⟩ := xgd_some H
  refine Ex.gputR (pc := 94) (k := 42) (n := 240) (i := a3) (v := (hr 27 11)) (ls := [some (.ref 27), some (.int a1), some (.int a2), some (.int a3), some (.int (hr 27 11))]) (st := []) (hr := (xput (xput (xput (xput (xput (xput (xput (xput (xput hr 27 11 ((hr 27 11) + (1 : Int32))) 33 (hr 27 11).toNatClampNeg a1) 34 (hr 27 11).toNatClampNeg a2) 35 (hr 27 11).toNatClampNeg (hr 27 24)) 36 (hr 27 11).toNatClampNeg (hr 27 22)) 37 (hr 27 11).toNatClampNeg a3) 38 (hr 27 11).toNatClampNeg (-1 : Int32)) 39 (hr 27 11).toNatClampNeg (-1 : Int32)) 40 (hr 27 11).toNatClampNeg (vp_nar .boolean (1 : Int32)))) ?_ (by rfl) g9 (by rfl)
  refine Ex.many (f' := (97, [some (.ref 27), some (.int a1), some (.int a2), some (.int a3), some (.int (hr 27 11))], [.int (hr 27 11), .ref 27], xSt xG0 hc (xput (xput (xput (xput (xput (xput (xput (xput (xput (xput hr 27 11 ((hr 27 11) + (1 : Int32))) 33 (hr 27 11).toNatClampNeg a1) 34 (hr 27 11).toNatClampNeg a2) 35 (hr 27 11).toNatClampNeg (hr 27 24)) 36 (hr 27 11).toNatClampNeg (hr 27 22)) 37 (hr 27 11).toNatClampNeg a3) 38 (hr 27 11).toNatClampNeg (-1 : Int32)) 39 (hr 27 11).toNatClampNeg (-1 : Int32)) 40 (hr 27 11).toNatClampNeg (vp_nar .boolean (1 : Int32))) 42 a3.toNatClampNeg (hr 27 11)) xs g L c z)) ?_ 2 (by rfl)
  refine Ex.putR (pc := 100) (k := 27) (j := 22) (v := (hr 27 11)) (ls := [some (.ref 27), some (.int a1), some (.int a2), some (.int a3), some (.int (hr 27 11))]) (st := []) (hr := (xput (xput (xput (xput (xput (xput (xput (xput (xput (xput hr 27 11 ((hr 27 11) + (1 : Int32))) 33 (hr 27 11).toNatClampNeg a1) 34 (hr 27 11).toNatClampNeg a2) 35 (hr 27 11).toNatClampNeg (hr 27 24)) 36 (hr 27 11).toNatClampNeg (hr 27 22)) 37 (hr 27 11).toNatClampNeg a3) 38 (hr 27 11).toNatClampNeg (-1 : Int32)) 39 (hr 27 11).toNatClampNeg (-1 : Int32)) 40 (hr 27 11).toNatClampNeg (vp_nar .boolean (1 : Int32))) 42 a3.toNatClampNeg (hr 27 11))) ?_ (by rfl) (by rfl)
  refine Ex.many (f' := (107, [some (.ref 27), some (.int a1), some (.int a2), some (.int a3), some (.int (hr 27 11))], [.int ((hr 27 23) + (1 : Int32)), .ref 27], xSt xG0 hc (xput (xput (xput (xput (xput (xput (xput (xput (xput (xput (xput hr 27 11 ((hr 27 11) + (1 : Int32))) 33 (hr 27 11).toNatClampNeg a1) 34 (hr 27 11).toNatClampNeg a2) 35 (hr 27 11).toNatClampNeg (hr 27 24)) 36 (hr 27 11).toNatClampNeg (hr 27 22)) 37 (hr 27 11).toNatClampNeg a3) 38 (hr 27 11).toNatClampNeg (-1 : Int32)) 39 (hr 27 11).toNatClampNeg (-1 : Int32)) 40 (hr 27 11).toNatClampNeg (vp_nar .boolean (1 : Int32))) 42 a3.toNatClampNeg (hr 27 11)) 27 22 (hr 27 11)) xs g L c z)) ?_ 5 (by rfl)
  refine Ex.putR (pc := 110) (k := 27) (j := 23) (v := ((hr 27 23) + (1 : Int32))) (ls := [some (.ref 27), some (.int a1), some (.int a2), some (.int a3), some (.int (hr 27 11))]) (st := []) (hr := (xput (xput (xput (xput (xput (xput (xput (xput (xput (xput (xput hr 27 11 ((hr 27 11) + (1 : Int32))) 33 (hr 27 11).toNatClampNeg a1) 34 (hr 27 11).toNatClampNeg a2) 35 (hr 27 11).toNatClampNeg (hr 27 24)) 36 (hr 27 11).toNatClampNeg (hr 27 22)) 37 (hr 27 11).toNatClampNeg a3) 38 (hr 27 11).toNatClampNeg (-1 : Int32)) 39 (hr 27 11).toNatClampNeg (-1 : Int32)) 40 (hr 27 11).toNatClampNeg (vp_nar .boolean (1 : Int32))) 42 a3.toNatClampNeg (hr 27 11)) 27 22 (hr 27 11))) ?_ (by rfl) (by rfl)
  refine Ex.many (f' := (116, [some (.ref 27), some (.int a1), some (.int a2), some (.int a3), some (.int (hr 27 11))], [.int (9 : Int32), .int ((hr 27 23) + (1 : Int32))], xSt xG0 hc (xput (xput (xput (xput (xput (xput (xput (xput (xput (xput (xput (xput hr 27 11 ((hr 27 11) + (1 : Int32))) 33 (hr 27 11).toNatClampNeg a1) 34 (hr 27 11).toNatClampNeg a2) 35 (hr 27 11).toNatClampNeg (hr 27 24)) 36 (hr 27 11).toNatClampNeg (hr 27 22)) 37 (hr 27 11).toNatClampNeg a3) 38 (hr 27 11).toNatClampNeg (-1 : Int32)) 39 (hr 27 11).toNatClampNeg (-1 : Int32)) 40 (hr 27 11).toNatClampNeg (vp_nar .boolean (1 : Int32))) 42 a3.toNatClampNeg (hr 27 11)) 27 22 (hr 27 11)) 27 23 ((hr 27 23) + (1 : Int32))) xs g L c z)) ?_ 3 (by rfl)
  refine Ex.ite (ls := [some (.ref 27), some (.int a1), some (.int a2), some (.int a3), some (.int (hr 27 11))]) (st := []) (S := xSt xG0 hc (xput (xput (xput (xput (xput (xput (xput (xput (xput (xput (xput (xput hr 27 11 ((hr 27 11) + (1 : Int32))) 33 (hr 27 11).toNatClampNeg a1) 34 (hr 27 11).toNatClampNeg a2) 35 (hr 27 11).toNatClampNeg (hr 27 24)) 36 (hr 27 11).toNatClampNeg (hr 27 22)) 37 (hr 27 11).toNatClampNeg a3) 38 (hr 27 11).toNatClampNeg (-1 : Int32)) 39 (hr 27 11).toNatClampNeg (-1 : Int32)) 40 (hr 27 11).toNatClampNeg (vp_nar .boolean (1 : Int32))) 42 a3.toNatClampNeg (hr 27 11)) 27 22 (hr 27 11)) 27 23 ((hr 27 23) + (1 : Int32))) xs g L c z) (by rfl) (fun q10 => ?_) (fun q10 => ?_)
  · replace H := (if_pos q10).symm.trans H
    replace H := Option.some.inj H
    subst H
    exact Ex.done (by rfl)
  · replace H := (if_neg q10).symm.trans H
    refine Ex.many (f' := (122, [some (.ref 27), none, none, none, none], [.int (6 : Int32), .ref 27], xSt xG0 hc (xput (xput (xput (xput (xput (xput (xput (xput (xput (xput (xput (xput hr 27 11 ((hr 27 11) + (1 : Int32))) 33 (hr 27 11).toNatClampNeg a1) 34 (hr 27 11).toNatClampNeg a2) 35 (hr 27 11).toNatClampNeg (hr 27 24)) 36 (hr 27 11).toNatClampNeg (hr 27 22)) 37 (hr 27 11).toNatClampNeg a3) 38 (hr 27 11).toNatClampNeg (-1 : Int32)) 39 (hr 27 11).toNatClampNeg (-1 : Int32)) 40 (hr 27 11).toNatClampNeg (vp_nar .boolean (1 : Int32))) 42 a3.toNatClampNeg (hr 27 11)) 27 22 (hr 27 11)) 27 23 ((hr 27 23) + (1 : Int32))) xs g L c z)) ?_ 2 (by rfl)
    obtain ⟨q11, hq11, H⟩ := xbd H
    refine Ex.call (mk := 118) (vs := [.ref 27, .int (6 : Int32)]) (rest := []) (by rfl) (by rfl) (Ex.up (T_m_fail (6 : Int32) (xput (xput (xput (xput (xput (xput (xput (xput (xput (xput (xput (xput hr 27 11 ((hr 27 11) + (1 : Int32))) 33 (hr 27 11).toNatClampNeg a1) 34 (hr 27 11).toNatClampNeg a2) 35 (hr 27 11).toNatClampNeg (hr 27 24)) 36 (hr 27 11).toNatClampNeg (hr 27 22)) 37 (hr 27 11).toNatClampNeg a3) 38 (hr 27 11).toNatClampNeg (-1 : Int32)) 39 (hr 27 11).toNatClampNeg (-1 : Int32)) 40 (hr 27 11).toNatClampNeg (vp_nar .boolean (1 : Int32))) 42 a3.toNatClampNeg (hr 27 11)) 27 22 (hr 27 11)) 27 23 ((hr 27 23) + (1 : Int32))) q11 hq11) (by decide)) (xbb c z) ?_
    show Ex _ _ (125, [some (.ref 27), none, none, none, none], [], xSt xG0 hc q11 xs g L c z) _
    replace H := Option.some.inj H
    subst H
    exact Ex.done (by rfl)
def f_m_isKnown_105 (v0 : Int32) : Int32 :=
  if v0 < (103 : Int32) then (0 : Int32) else (if (120 : Int32) < v0 then (0 : Int32) else (1 : Int32))
theorem T_m_isKnown_105 {hc : xI} {hr : xI} {g : xJ} {xs : Nat → Int32} {L c z : Nat} (v0 : Int32) (r : Int32) (H : f_m_isKnown_105 v0 = r) : Ex 0 120 (105, [some (.int v0)], [], xSt xG0 hc hr xs g L c z) (.inl (some (.int r)), xSt xG0 hc hr xs g L c z) := by
  unfold f_m_isKnown_105 at H
  refine Ex.many (f' := (108, [some (.int v0)], [.int (103 : Int32), .int v0], xSt xG0 hc hr xs g L c z)) ?_ 2 (by rfl)
  refine Ex.ite (ls := [some (.int v0)]) (st := []) (S := xSt xG0 hc hr xs g L c z) (by rfl) (fun q1 => ?_) (fun q1 => ?_)
  · replace H := (if_pos q1).symm.trans H
    refine Ex.many (f' := (122, [none], [.int (0 : Int32)], xSt xG0 hc hr xs g L c z)) ?_ 1 (by rfl)
    skip
    subst H
    exact Ex.done (by rfl)
  · replace H := (if_neg q1).symm.trans H
    refine Ex.many (f' := (114, [some (.int v0)], [.int (120 : Int32), .int v0], xSt xG0 hc hr xs g L c z)) ?_ 2 (by rfl)
    refine Ex.ite (ls := [some (.int v0)]) (st := []) (S := xSt xG0 hc hr xs g L c z) (by rfl) (fun q2 => ?_) (fun q2 => ?_)
    · replace H := (if_pos q2).symm.trans H
      refine Ex.many (f' := (122, [none], [.int (0 : Int32)], xSt xG0 hc hr xs g L c z)) ?_ 1 (by rfl)
      skip
      subst H
      exact Ex.done (by rfl)
    · replace H := (if_neg q2).symm.trans H
      refine Ex.many (f' := (122, [none], [.int (1 : Int32)], xSt xG0 hc hr xs g L c z)) ?_ 2 (by rfl)
      skip
      subst H
      exact Ex.done (by rfl)
def f_m_isKnown_93 (v0 : Int32) : Int32 :=
  if v0 < (69 : Int32) then (f_m_isKnown_105 v0) else (if v0 ≤ (79 : Int32) then (1 : Int32) else (f_m_isKnown_105 v0))
theorem T_m_isKnown_93 {hc : xI} {hr : xI} {g : xJ} {xs : Nat → Int32} {L c z : Nat} (v0 : Int32) (r : Int32) (H : f_m_isKnown_93 v0 = r) : Ex 0 120 (93, [some (.int v0)], [], xSt xG0 hc hr xs g L c z) (.inl (some (.int r)), xSt xG0 hc hr xs g L c z) := by
  unfold f_m_isKnown_93 at H
  refine Ex.many (f' := (96, [some (.int v0)], [.int (69 : Int32), .int v0], xSt xG0 hc hr xs g L c z)) ?_ 2 (by rfl)
  refine Ex.ite (ls := [some (.int v0)]) (st := []) (S := xSt xG0 hc hr xs g L c z) (by rfl) (fun q1 => ?_) (fun q1 => ?_)
  · replace H := (if_pos q1).symm.trans H
    exact T_m_isKnown_105 v0 r H
  · replace H := (if_neg q1).symm.trans H
    refine Ex.many (f' := (102, [some (.int v0)], [.int (79 : Int32), .int v0], xSt xG0 hc hr xs g L c z)) ?_ 2 (by rfl)
    refine Ex.ite (ls := [some (.int v0)]) (st := []) (S := xSt xG0 hc hr xs g L c z) (by rfl) (fun q2 => ?_) (fun q2 => ?_)
    · replace H := (if_pos q2).symm.trans H
      refine Ex.many (f' := (122, [none], [.int (1 : Int32)], xSt xG0 hc hr xs g L c z)) ?_ 2 (by rfl)
      skip
      subst H
      exact Ex.done (by rfl)
    · replace H := (if_neg q2).symm.trans H
      exact T_m_isKnown_105 v0 r H
def f_m_isKnown_63 (v0 : Int32) : Int32 :=
  if v0 = (54 : Int32) then (1 : Int32) else (if v0 = (58 : Int32) then (1 : Int32) else (if v0 = (59 : Int32) then (1 : Int32) else (if v0 < (63 : Int32) then (f_m_isKnown_93 v0) else (if v0 ≤ (65 : Int32) then (1 : Int32) else (f_m_isKnown_93 v0)))))
theorem T_m_isKnown_63 {hc : xI} {hr : xI} {g : xJ} {xs : Nat → Int32} {L c z : Nat} (v0 : Int32) (r : Int32) (H : f_m_isKnown_63 v0 = r) : Ex 0 120 (63, [some (.int v0)], [], xSt xG0 hc hr xs g L c z) (.inl (some (.int r)), xSt xG0 hc hr xs g L c z) := by
  unfold f_m_isKnown_63 at H
  refine Ex.many (f' := (66, [some (.int v0)], [.int (54 : Int32), .int v0], xSt xG0 hc hr xs g L c z)) ?_ 2 (by rfl)
  refine Ex.ite (ls := [some (.int v0)]) (st := []) (S := xSt xG0 hc hr xs g L c z) (by rfl) (fun q1 => ?_) (fun q1 => ?_)
  · replace H := (if_pos q1).symm.trans H
    refine Ex.many (f' := (122, [none], [.int (1 : Int32)], xSt xG0 hc hr xs g L c z)) ?_ 2 (by rfl)
    skip
    subst H
    exact Ex.done (by rfl)
  · replace H := (if_neg q1).symm.trans H
    refine Ex.many (f' := (72, [some (.int v0)], [.int (58 : Int32), .int v0], xSt xG0 hc hr xs g L c z)) ?_ 2 (by rfl)
    refine Ex.ite (ls := [some (.int v0)]) (st := []) (S := xSt xG0 hc hr xs g L c z) (by rfl) (fun q2 => ?_) (fun q2 => ?_)
    · replace H := (if_pos q2).symm.trans H
      refine Ex.many (f' := (122, [none], [.int (1 : Int32)], xSt xG0 hc hr xs g L c z)) ?_ 2 (by rfl)
      skip
      subst H
      exact Ex.done (by rfl)
    · replace H := (if_neg q2).symm.trans H
      refine Ex.many (f' := (78, [some (.int v0)], [.int (59 : Int32), .int v0], xSt xG0 hc hr xs g L c z)) ?_ 2 (by rfl)
      refine Ex.ite (ls := [some (.int v0)]) (st := []) (S := xSt xG0 hc hr xs g L c z) (by rfl) (fun q3 => ?_) (fun q3 => ?_)
      · replace H := (if_pos q3).symm.trans H
        refine Ex.many (f' := (122, [none], [.int (1 : Int32)], xSt xG0 hc hr xs g L c z)) ?_ 2 (by rfl)
        skip
        subst H
        exact Ex.done (by rfl)
      · replace H := (if_neg q3).symm.trans H
        refine Ex.many (f' := (84, [some (.int v0)], [.int (63 : Int32), .int v0], xSt xG0 hc hr xs g L c z)) ?_ 2 (by rfl)
        refine Ex.ite (ls := [some (.int v0)]) (st := []) (S := xSt xG0 hc hr xs g L c z) (by rfl) (fun q4 => ?_) (fun q4 => ?_)
        · replace H := (if_pos q4).symm.trans H
          exact T_m_isKnown_93 v0 r H
        · replace H := (if_neg q4).symm.trans H
          refine Ex.many (f' := (90, [some (.int v0)], [.int (65 : Int32), .int v0], xSt xG0 hc hr xs g L c z)) ?_ 2 (by rfl)
          refine Ex.ite (ls := [some (.int v0)]) (st := []) (S := xSt xG0 hc hr xs g L c z) (by rfl) (fun q5 => ?_) (fun q5 => ?_)
          · replace H := (if_pos q5).symm.trans H
            refine Ex.many (f' := (122, [none], [.int (1 : Int32)], xSt xG0 hc hr xs g L c z)) ?_ 2 (by rfl)
            skip
            subst H
            exact Ex.done (by rfl)
          · replace H := (if_neg q5).symm.trans H
            exact T_m_isKnown_93 v0 r H
def f_m_isKnown_45 (v0 : Int32) : Int32 :=
  if v0 = (40 : Int32) then (1 : Int32) else (if v0 < (44 : Int32) then (f_m_isKnown_63 v0) else (if v0 ≤ (47 : Int32) then (1 : Int32) else (f_m_isKnown_63 v0)))
theorem T_m_isKnown_45 {hc : xI} {hr : xI} {g : xJ} {xs : Nat → Int32} {L c z : Nat} (v0 : Int32) (r : Int32) (H : f_m_isKnown_45 v0 = r) : Ex 0 120 (45, [some (.int v0)], [], xSt xG0 hc hr xs g L c z) (.inl (some (.int r)), xSt xG0 hc hr xs g L c z) := by
  unfold f_m_isKnown_45 at H
  refine Ex.many (f' := (48, [some (.int v0)], [.int (40 : Int32), .int v0], xSt xG0 hc hr xs g L c z)) ?_ 2 (by rfl)
  refine Ex.ite (ls := [some (.int v0)]) (st := []) (S := xSt xG0 hc hr xs g L c z) (by rfl) (fun q1 => ?_) (fun q1 => ?_)
  · replace H := (if_pos q1).symm.trans H
    refine Ex.many (f' := (122, [none], [.int (1 : Int32)], xSt xG0 hc hr xs g L c z)) ?_ 2 (by rfl)
    skip
    subst H
    exact Ex.done (by rfl)
  · replace H := (if_neg q1).symm.trans H
    refine Ex.many (f' := (54, [some (.int v0)], [.int (44 : Int32), .int v0], xSt xG0 hc hr xs g L c z)) ?_ 2 (by rfl)
    refine Ex.ite (ls := [some (.int v0)]) (st := []) (S := xSt xG0 hc hr xs g L c z) (by rfl) (fun q2 => ?_) (fun q2 => ?_)
    · replace H := (if_pos q2).symm.trans H
      exact T_m_isKnown_63 v0 r H
    · replace H := (if_neg q2).symm.trans H
      refine Ex.many (f' := (60, [some (.int v0)], [.int (47 : Int32), .int v0], xSt xG0 hc hr xs g L c z)) ?_ 2 (by rfl)
      refine Ex.ite (ls := [some (.int v0)]) (st := []) (S := xSt xG0 hc hr xs g L c z) (by rfl) (fun q3 => ?_) (fun q3 => ?_)
      · replace H := (if_pos q3).symm.trans H
        refine Ex.many (f' := (122, [none], [.int (1 : Int32)], xSt xG0 hc hr xs g L c z)) ?_ 2 (by rfl)
        skip
        subst H
        exact Ex.done (by rfl)
      · replace H := (if_neg q3).symm.trans H
        exact T_m_isKnown_63 v0 r H
def f_m_isKnown_21 (v0 : Int32) : Int32 :=
  if v0 = (26 : Int32) then (1 : Int32) else (if v0 = (27 : Int32) then (1 : Int32) else (if v0 < (32 : Int32) then (f_m_isKnown_45 v0) else (if v0 ≤ (36 : Int32) then (1 : Int32) else (f_m_isKnown_45 v0))))
theorem T_m_isKnown_21 {hc : xI} {hr : xI} {g : xJ} {xs : Nat → Int32} {L c z : Nat} (v0 : Int32) (r : Int32) (H : f_m_isKnown_21 v0 = r) : Ex 0 120 (21, [some (.int v0)], [], xSt xG0 hc hr xs g L c z) (.inl (some (.int r)), xSt xG0 hc hr xs g L c z) := by
  unfold f_m_isKnown_21 at H
  refine Ex.many (f' := (24, [some (.int v0)], [.int (26 : Int32), .int v0], xSt xG0 hc hr xs g L c z)) ?_ 2 (by rfl)
  refine Ex.ite (ls := [some (.int v0)]) (st := []) (S := xSt xG0 hc hr xs g L c z) (by rfl) (fun q1 => ?_) (fun q1 => ?_)
  · replace H := (if_pos q1).symm.trans H
    refine Ex.many (f' := (122, [none], [.int (1 : Int32)], xSt xG0 hc hr xs g L c z)) ?_ 2 (by rfl)
    skip
    subst H
    exact Ex.done (by rfl)
  · replace H := (if_neg q1).symm.trans H
    refine Ex.many (f' := (30, [some (.int v0)], [.int (27 : Int32), .int v0], xSt xG0 hc hr xs g L c z)) ?_ 2 (by rfl)
    refine Ex.ite (ls := [some (.int v0)]) (st := []) (S := xSt xG0 hc hr xs g L c z) (by rfl) (fun q2 => ?_) (fun q2 => ?_)
    · replace H := (if_pos q2).symm.trans H
      refine Ex.many (f' := (122, [none], [.int (1 : Int32)], xSt xG0 hc hr xs g L c z)) ?_ 2 (by rfl)
      skip
      subst H
      exact Ex.done (by rfl)
    · replace H := (if_neg q2).symm.trans H
      refine Ex.many (f' := (36, [some (.int v0)], [.int (32 : Int32), .int v0], xSt xG0 hc hr xs g L c z)) ?_ 2 (by rfl)
      refine Ex.ite (ls := [some (.int v0)]) (st := []) (S := xSt xG0 hc hr xs g L c z) (by rfl) (fun q3 => ?_) (fun q3 => ?_)
      · replace H := (if_pos q3).symm.trans H
        exact T_m_isKnown_45 v0 r H
      · replace H := (if_neg q3).symm.trans H
        refine Ex.many (f' := (42, [some (.int v0)], [.int (36 : Int32), .int v0], xSt xG0 hc hr xs g L c z)) ?_ 2 (by rfl)
        refine Ex.ite (ls := [some (.int v0)]) (st := []) (S := xSt xG0 hc hr xs g L c z) (by rfl) (fun q4 => ?_) (fun q4 => ?_)
        · replace H := (if_pos q4).symm.trans H
          refine Ex.many (f' := (122, [none], [.int (1 : Int32)], xSt xG0 hc hr xs g L c z)) ?_ 2 (by rfl)
          skip
          subst H
          exact Ex.done (by rfl)
        · replace H := (if_neg q4).symm.trans H
          exact T_m_isKnown_45 v0 r H
def f_m_isKnown_9 (v0 : Int32) : Int32 :=
  if v0 < (11 : Int32) then (f_m_isKnown_21 v0) else (if v0 ≤ (16 : Int32) then (1 : Int32) else (f_m_isKnown_21 v0))
theorem T_m_isKnown_9 {hc : xI} {hr : xI} {g : xJ} {xs : Nat → Int32} {L c z : Nat} (v0 : Int32) (r : Int32) (H : f_m_isKnown_9 v0 = r) : Ex 0 120 (9, [some (.int v0)], [], xSt xG0 hc hr xs g L c z) (.inl (some (.int r)), xSt xG0 hc hr xs g L c z) := by
  unfold f_m_isKnown_9 at H
  refine Ex.many (f' := (12, [some (.int v0)], [.int (11 : Int32), .int v0], xSt xG0 hc hr xs g L c z)) ?_ 2 (by rfl)
  refine Ex.ite (ls := [some (.int v0)]) (st := []) (S := xSt xG0 hc hr xs g L c z) (by rfl) (fun q1 => ?_) (fun q1 => ?_)
  · replace H := (if_pos q1).symm.trans H
    exact T_m_isKnown_21 v0 r H
  · replace H := (if_neg q1).symm.trans H
    refine Ex.many (f' := (18, [some (.int v0)], [.int (16 : Int32), .int v0], xSt xG0 hc hr xs g L c z)) ?_ 2 (by rfl)
    refine Ex.ite (ls := [some (.int v0)]) (st := []) (S := xSt xG0 hc hr xs g L c z) (by rfl) (fun q2 => ?_) (fun q2 => ?_)
    · replace H := (if_pos q2).symm.trans H
      refine Ex.many (f' := (122, [none], [.int (1 : Int32)], xSt xG0 hc hr xs g L c z)) ?_ 2 (by rfl)
      skip
      subst H
      exact Ex.done (by rfl)
    · replace H := (if_neg q2).symm.trans H
      exact T_m_isKnown_21 v0 r H
def f_m_isKnown (a0 : Int32) : Int32 :=
  if a0 < 0 then (f_m_isKnown_9 a0) else (if a0 ≤ (5 : Int32) then (1 : Int32) else (f_m_isKnown_9 a0))
theorem T_m_isKnown {hc : xI} {hr : xI} {g : xJ} {xs : Nat → Int32} {L c z : Nat} (a0 : Int32) (r : Int32) (H : f_m_isKnown a0 = r) : Ex 0 120 (0, [some (.int a0)], [], xSt xG0 hc hr xs g L c z) (.inl (some (.int r)), xSt xG0 hc hr xs g L c z) := by
  unfold f_m_isKnown at H
  refine Ex.many (f' := (1, [some (.int a0)], [.int a0], xSt xG0 hc hr xs g L c z)) ?_ 1 (by rfl)
  refine Ex.ite (ls := [some (.int a0)]) (st := []) (S := xSt xG0 hc hr xs g L c z) (by rfl) (fun q1 => ?_) (fun q1 => ?_)
  · replace H := (if_pos q1).symm.trans H
    exact T_m_isKnown_9 a0 r H
  · replace H := (if_neg q1).symm.trans H
    refine Ex.many (f' := (6, [some (.int a0)], [.int (5 : Int32), .int a0], xSt xG0 hc hr xs g L c z)) ?_ 2 (by rfl)
    refine Ex.ite (ls := [some (.int a0)]) (st := []) (S := xSt xG0 hc hr xs g L c z) (by rfl) (fun q2 => ?_) (fun q2 => ?_)
    · replace H := (if_pos q2).symm.trans H
      refine Ex.many (f' := (122, [none], [.int (1 : Int32)], xSt xG0 hc hr xs g L c z)) ?_ 2 (by rfl)
      skip
      subst H
      exact Ex.done (by rfl)
    · replace H := (if_neg q2).symm.trans H
      exact T_m_isKnown_9 a0 r H
def f_m_immediates_64 (v0 : Int32) : Int32 :=
  if v0 = (54 : Int32) then (1 : Int32) else (if v0 = (58 : Int32) then (1 : Int32) else (if v0 = (59 : Int32) then (1 : Int32) else (if v0 = (65 : Int32) then (1 : Int32) else (0 : Int32))))
theorem T_m_immediates_64 {hc : xI} {hr : xI} {g : xJ} {xs : Nat → Int32} {L c z : Nat} (v0 : Int32) (r : Int32) (H : f_m_immediates_64 v0 = r) : Ex 0 121 (64, [some (.int v0)], [], xSt xG0 hc hr xs g L c z) (.inl (some (.int r)), xSt xG0 hc hr xs g L c z) := by
  unfold f_m_immediates_64 at H
  refine Ex.many (f' := (67, [some (.int v0)], [.int (54 : Int32), .int v0], xSt xG0 hc hr xs g L c z)) ?_ 2 (by rfl)
  refine Ex.ite (ls := [some (.int v0)]) (st := []) (S := xSt xG0 hc hr xs g L c z) (by rfl) (fun q1 => ?_) (fun q1 => ?_)
  · replace H := (if_pos q1).symm.trans H
    refine Ex.many (f' := (93, [none], [.int (1 : Int32)], xSt xG0 hc hr xs g L c z)) ?_ 2 (by rfl)
    skip
    subst H
    exact Ex.done (by rfl)
  · replace H := (if_neg q1).symm.trans H
    refine Ex.many (f' := (73, [some (.int v0)], [.int (58 : Int32), .int v0], xSt xG0 hc hr xs g L c z)) ?_ 2 (by rfl)
    refine Ex.ite (ls := [some (.int v0)]) (st := []) (S := xSt xG0 hc hr xs g L c z) (by rfl) (fun q2 => ?_) (fun q2 => ?_)
    · replace H := (if_pos q2).symm.trans H
      refine Ex.many (f' := (93, [none], [.int (1 : Int32)], xSt xG0 hc hr xs g L c z)) ?_ 2 (by rfl)
      skip
      subst H
      exact Ex.done (by rfl)
    · replace H := (if_neg q2).symm.trans H
      refine Ex.many (f' := (79, [some (.int v0)], [.int (59 : Int32), .int v0], xSt xG0 hc hr xs g L c z)) ?_ 2 (by rfl)
      refine Ex.ite (ls := [some (.int v0)]) (st := []) (S := xSt xG0 hc hr xs g L c z) (by rfl) (fun q3 => ?_) (fun q3 => ?_)
      · replace H := (if_pos q3).symm.trans H
        refine Ex.many (f' := (93, [none], [.int (1 : Int32)], xSt xG0 hc hr xs g L c z)) ?_ 2 (by rfl)
        skip
        subst H
        exact Ex.done (by rfl)
      · replace H := (if_neg q3).symm.trans H
        refine Ex.many (f' := (85, [some (.int v0)], [.int (65 : Int32), .int v0], xSt xG0 hc hr xs g L c z)) ?_ 2 (by rfl)
        refine Ex.ite (ls := [some (.int v0)]) (st := []) (S := xSt xG0 hc hr xs g L c z) (by rfl) (fun q4 => ?_) (fun q4 => ?_)
        · replace H := (if_pos q4).symm.trans H
          refine Ex.many (f' := (93, [none], [.int (1 : Int32)], xSt xG0 hc hr xs g L c z)) ?_ 2 (by rfl)
          skip
          subst H
          exact Ex.done (by rfl)
        · replace H := (if_neg q4).symm.trans H
          refine Ex.many (f' := (93, [none], [.int (0 : Int32)], xSt xG0 hc hr xs g L c z)) ?_ 1 (by rfl)
          skip
          subst H
          exact Ex.done (by rfl)
def f_m_immediates_46 (v0 : Int32) : Int32 :=
  if v0 = (40 : Int32) then (1 : Int32) else (if v0 < (44 : Int32) then (f_m_immediates_64 v0) else (if v0 ≤ (47 : Int32) then (1 : Int32) else (f_m_immediates_64 v0)))
theorem T_m_immediates_46 {hc : xI} {hr : xI} {g : xJ} {xs : Nat → Int32} {L c z : Nat} (v0 : Int32) (r : Int32) (H : f_m_immediates_46 v0 = r) : Ex 0 121 (46, [some (.int v0)], [], xSt xG0 hc hr xs g L c z) (.inl (some (.int r)), xSt xG0 hc hr xs g L c z) := by
  unfold f_m_immediates_46 at H
  refine Ex.many (f' := (49, [some (.int v0)], [.int (40 : Int32), .int v0], xSt xG0 hc hr xs g L c z)) ?_ 2 (by rfl)
  refine Ex.ite (ls := [some (.int v0)]) (st := []) (S := xSt xG0 hc hr xs g L c z) (by rfl) (fun q1 => ?_) (fun q1 => ?_)
  · replace H := (if_pos q1).symm.trans H
    refine Ex.many (f' := (93, [none], [.int (1 : Int32)], xSt xG0 hc hr xs g L c z)) ?_ 2 (by rfl)
    skip
    subst H
    exact Ex.done (by rfl)
  · replace H := (if_neg q1).symm.trans H
    refine Ex.many (f' := (55, [some (.int v0)], [.int (44 : Int32), .int v0], xSt xG0 hc hr xs g L c z)) ?_ 2 (by rfl)
    refine Ex.ite (ls := [some (.int v0)]) (st := []) (S := xSt xG0 hc hr xs g L c z) (by rfl) (fun q2 => ?_) (fun q2 => ?_)
    · replace H := (if_pos q2).symm.trans H
      exact T_m_immediates_64 v0 r H
    · replace H := (if_neg q2).symm.trans H
      refine Ex.many (f' := (61, [some (.int v0)], [.int (47 : Int32), .int v0], xSt xG0 hc hr xs g L c z)) ?_ 2 (by rfl)
      refine Ex.ite (ls := [some (.int v0)]) (st := []) (S := xSt xG0 hc hr xs g L c z) (by rfl) (fun q3 => ?_) (fun q3 => ?_)
      · replace H := (if_pos q3).symm.trans H
        refine Ex.many (f' := (93, [none], [.int (1 : Int32)], xSt xG0 hc hr xs g L c z)) ?_ 2 (by rfl)
        skip
        subst H
        exact Ex.done (by rfl)
      · replace H := (if_neg q3).symm.trans H
        exact T_m_immediates_64 v0 r H
def f_m_immediates_10 (v0 : Int32) : Int32 :=
  if v0 = (12 : Int32) then (1 : Int32) else (if v0 = (13 : Int32) then (1 : Int32) else (if v0 = (14 : Int32) then (1 : Int32) else (if v0 = (16 : Int32) then (1 : Int32) else (if v0 < (32 : Int32) then (f_m_immediates_46 v0) else (if v0 ≤ (36 : Int32) then (1 : Int32) else (f_m_immediates_46 v0))))))
theorem T_m_immediates_10 {hc : xI} {hr : xI} {g : xJ} {xs : Nat → Int32} {L c z : Nat} (v0 : Int32) (r : Int32) (H : f_m_immediates_10 v0 = r) : Ex 0 121 (10, [some (.int v0)], [], xSt xG0 hc hr xs g L c z) (.inl (some (.int r)), xSt xG0 hc hr xs g L c z) := by
  unfold f_m_immediates_10 at H
  refine Ex.many (f' := (13, [some (.int v0)], [.int (12 : Int32), .int v0], xSt xG0 hc hr xs g L c z)) ?_ 2 (by rfl)
  refine Ex.ite (ls := [some (.int v0)]) (st := []) (S := xSt xG0 hc hr xs g L c z) (by rfl) (fun q1 => ?_) (fun q1 => ?_)
  · replace H := (if_pos q1).symm.trans H
    refine Ex.many (f' := (93, [none], [.int (1 : Int32)], xSt xG0 hc hr xs g L c z)) ?_ 2 (by rfl)
    skip
    subst H
    exact Ex.done (by rfl)
  · replace H := (if_neg q1).symm.trans H
    refine Ex.many (f' := (19, [some (.int v0)], [.int (13 : Int32), .int v0], xSt xG0 hc hr xs g L c z)) ?_ 2 (by rfl)
    refine Ex.ite (ls := [some (.int v0)]) (st := []) (S := xSt xG0 hc hr xs g L c z) (by rfl) (fun q2 => ?_) (fun q2 => ?_)
    · replace H := (if_pos q2).symm.trans H
      refine Ex.many (f' := (93, [none], [.int (1 : Int32)], xSt xG0 hc hr xs g L c z)) ?_ 2 (by rfl)
      skip
      subst H
      exact Ex.done (by rfl)
    · replace H := (if_neg q2).symm.trans H
      refine Ex.many (f' := (25, [some (.int v0)], [.int (14 : Int32), .int v0], xSt xG0 hc hr xs g L c z)) ?_ 2 (by rfl)
      refine Ex.ite (ls := [some (.int v0)]) (st := []) (S := xSt xG0 hc hr xs g L c z) (by rfl) (fun q3 => ?_) (fun q3 => ?_)
      · replace H := (if_pos q3).symm.trans H
        refine Ex.many (f' := (93, [none], [.int (1 : Int32)], xSt xG0 hc hr xs g L c z)) ?_ 2 (by rfl)
        skip
        subst H
        exact Ex.done (by rfl)
      · replace H := (if_neg q3).symm.trans H
        refine Ex.many (f' := (31, [some (.int v0)], [.int (16 : Int32), .int v0], xSt xG0 hc hr xs g L c z)) ?_ 2 (by rfl)
        refine Ex.ite (ls := [some (.int v0)]) (st := []) (S := xSt xG0 hc hr xs g L c z) (by rfl) (fun q4 => ?_) (fun q4 => ?_)
        · replace H := (if_pos q4).symm.trans H
          refine Ex.many (f' := (93, [none], [.int (1 : Int32)], xSt xG0 hc hr xs g L c z)) ?_ 2 (by rfl)
          skip
          subst H
          exact Ex.done (by rfl)
        · replace H := (if_neg q4).symm.trans H
          refine Ex.many (f' := (37, [some (.int v0)], [.int (32 : Int32), .int v0], xSt xG0 hc hr xs g L c z)) ?_ 2 (by rfl)
          refine Ex.ite (ls := [some (.int v0)]) (st := []) (S := xSt xG0 hc hr xs g L c z) (by rfl) (fun q5 => ?_) (fun q5 => ?_)
          · replace H := (if_pos q5).symm.trans H
            exact T_m_immediates_46 v0 r H
          · replace H := (if_neg q5).symm.trans H
            refine Ex.many (f' := (43, [some (.int v0)], [.int (36 : Int32), .int v0], xSt xG0 hc hr xs g L c z)) ?_ 2 (by rfl)
            refine Ex.ite (ls := [some (.int v0)]) (st := []) (S := xSt xG0 hc hr xs g L c z) (by rfl) (fun q6 => ?_) (fun q6 => ?_)
            · replace H := (if_pos q6).symm.trans H
              refine Ex.many (f' := (93, [none], [.int (1 : Int32)], xSt xG0 hc hr xs g L c z)) ?_ 2 (by rfl)
              skip
              subst H
              exact Ex.done (by rfl)
            · replace H := (if_neg q6).symm.trans H
              exact T_m_immediates_46 v0 r H
def f_m_immediates (a0 : Int32) : Int32 :=
  if a0 < (2 : Int32) then (f_m_immediates_10 a0) else (if a0 ≤ (4 : Int32) then (1 : Int32) else (f_m_immediates_10 a0))
theorem T_m_immediates {hc : xI} {hr : xI} {g : xJ} {xs : Nat → Int32} {L c z : Nat} (a0 : Int32) (r : Int32) (H : f_m_immediates a0 = r) : Ex 0 121 (0, [some (.int a0)], [], xSt xG0 hc hr xs g L c z) (.inl (some (.int r)), xSt xG0 hc hr xs g L c z) := by
  unfold f_m_immediates at H
  refine Ex.many (f' := (2, [some (.int a0)], [.int (2 : Int32), .int a0], xSt xG0 hc hr xs g L c z)) ?_ 2 (by rfl)
  refine Ex.ite (ls := [some (.int a0)]) (st := []) (S := xSt xG0 hc hr xs g L c z) (by rfl) (fun q1 => ?_) (fun q1 => ?_)
  · replace H := (if_pos q1).symm.trans H
    exact T_m_immediates_10 a0 r H
  · replace H := (if_neg q1).symm.trans H
    refine Ex.many (f' := (7, [some (.int a0)], [.int (4 : Int32), .int a0], xSt xG0 hc hr xs g L c z)) ?_ 2 (by rfl)
    refine Ex.ite (ls := [some (.int a0)]) (st := []) (S := xSt xG0 hc hr xs g L c z) (by rfl) (fun q2 => ?_) (fun q2 => ?_)
    · replace H := (if_pos q2).symm.trans H
      refine Ex.many (f' := (93, [none], [.int (1 : Int32)], xSt xG0 hc hr xs g L c z)) ?_ 2 (by rfl)
      skip
      subst H
      exact Ex.done (by rfl)
    · replace H := (if_neg q2).symm.trans H
      exact T_m_immediates_10 a0 r H
