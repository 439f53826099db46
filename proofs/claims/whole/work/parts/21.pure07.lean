/-! Methods as functions. -/
def f_m_yields (a0 : Int32) : Int32 :=
  if a0 = (1 : Int32) then (0 : Int32) else (if a0 = (26 : Int32) then (0 : Int32) else (if a0 = (33 : Int32) then (0 : Int32) else (if a0 = (36 : Int32) then (0 : Int32) else (if a0 = (54 : Int32) then (0 : Int32) else (if a0 = (58 : Int32) then (0 : Int32) else (if a0 = (59 : Int32) then (0 : Int32) else (1 : Int32)))))))
theorem T_m_yields {hc : xI} {hr : xI} {g : xJ} {xs : Nat → Int32} {L c z : Nat} (a0 : Int32) (r : Int32) (H : f_m_yields a0 = r) : Ex 0 134 (0, [some (.int a0)], [], xSt xG0 hc hr xs g L c z) (.inl (some (.int r)), xSt xG0 hc hr xs g L c z) := by
  unfold f_m_yields at H
  refine Ex.many (f' := (2, [some (.int a0)], [.int (1 : Int32), .int a0], xSt xG0 hc hr xs g L c z)) ?_ 2 (by rfl)
  refine Ex.ite (ls := [some (.int a0)]) (st := []) (S := xSt xG0 hc hr xs g L c z) (by rfl) (fun q1 => ?_) (fun q1 => ?_)
  · replace H := (if_pos q1).symm.trans H
    refine Ex.many (f' := (46, [none], [.int (0 : Int32)], xSt xG0 hc hr xs g L c z)) ?_ 2 (by rfl)
    skip
    subst H
    exact Ex.done (by rfl)
  · replace H := (if_neg q1).symm.trans H
    refine Ex.many (f' := (8, [some (.int a0)], [.int (26 : Int32), .int a0], xSt xG0 hc hr xs g L c z)) ?_ 2 (by rfl)
    refine Ex.ite (ls := [some (.int a0)]) (st := []) (S := xSt xG0 hc hr xs g L c z) (by rfl) (fun q2 => ?_) (fun q2 => ?_)
    · replace H := (if_pos q2).symm.trans H
      refine Ex.many (f' := (46, [none], [.int (0 : Int32)], xSt xG0 hc hr xs g L c z)) ?_ 2 (by rfl)
      skip
      subst H
      exact Ex.done (by rfl)
    · replace H := (if_neg q2).symm.trans H
      refine Ex.many (f' := (14, [some (.int a0)], [.int (33 : Int32), .int a0], xSt xG0 hc hr xs g L c z)) ?_ 2 (by rfl)
      refine Ex.ite (ls := [some (.int a0)]) (st := []) (S := xSt xG0 hc hr xs g L c z) (by rfl) (fun q3 => ?_) (fun q3 => ?_)
      · replace H := (if_pos q3).symm.trans H
        refine Ex.many (f' := (46, [none], [.int (0 : Int32)], xSt xG0 hc hr xs g L c z)) ?_ 2 (by rfl)
        skip
        subst H
        exact Ex.done (by rfl)
      · replace H := (if_neg q3).symm.trans H
        refine Ex.many (f' := (20, [some (.int a0)], [.int (36 : Int32), .int a0], xSt xG0 hc hr xs g L c z)) ?_ 2 (by rfl)
        refine Ex.ite (ls := [some (.int a0)]) (st := []) (S := xSt xG0 hc hr xs g L c z) (by rfl) (fun q4 => ?_) (fun q4 => ?_)
        · replace H := (if_pos q4).symm.trans H
          refine Ex.many (f' := (46, [none], [.int (0 : Int32)], xSt xG0 hc hr xs g L c z)) ?_ 2 (by rfl)
          skip
          subst H
          exact Ex.done (by rfl)
        · replace H := (if_neg q4).symm.trans H
          refine Ex.many (f' := (26, [some (.int a0)], [.int (54 : Int32), .int a0], xSt xG0 hc hr xs g L c z)) ?_ 2 (by rfl)
          refine Ex.ite (ls := [some (.int a0)]) (st := []) (S := xSt xG0 hc hr xs g L c z) (by rfl) (fun q5 => ?_) (fun q5 => ?_)
          · replace H := (if_pos q5).symm.trans H
            refine Ex.many (f' := (46, [none], [.int (0 : Int32)], xSt xG0 hc hr xs g L c z)) ?_ 2 (by rfl)
            skip
            subst H
            exact Ex.done (by rfl)
          · replace H := (if_neg q5).symm.trans H
            refine Ex.many (f' := (32, [some (.int a0)], [.int (58 : Int32), .int a0], xSt xG0 hc hr xs g L c z)) ?_ 2 (by rfl)
            refine Ex.ite (ls := [some (.int a0)]) (st := []) (S := xSt xG0 hc hr xs g L c z) (by rfl) (fun q6 => ?_) (fun q6 => ?_)
            · replace H := (if_pos q6).symm.trans H
              refine Ex.many (f' := (46, [none], [.int (0 : Int32)], xSt xG0 hc hr xs g L c z)) ?_ 2 (by rfl)
              skip
              subst H
              exact Ex.done (by rfl)
            · replace H := (if_neg q6).symm.trans H
              refine Ex.many (f' := (38, [some (.int a0)], [.int (59 : Int32), .int a0], xSt xG0 hc hr xs g L c z)) ?_ 2 (by rfl)
              refine Ex.ite (ls := [some (.int a0)]) (st := []) (S := xSt xG0 hc hr xs g L c z) (by rfl) (fun q7 => ?_) (fun q7 => ?_)
              · replace H := (if_pos q7).symm.trans H
                refine Ex.many (f' := (46, [none], [.int (0 : Int32)], xSt xG0 hc hr xs g L c z)) ?_ 2 (by rfl)
                skip
                subst H
                exact Ex.done (by rfl)
              · replace H := (if_neg q7).symm.trans H
                refine Ex.many (f' := (46, [none], [.int (1 : Int32)], xSt xG0 hc hr xs g L c z)) ?_ 1 (by rfl)
                skip
                subst H
                exact Ex.done (by rfl)
def f_m_check_69 (v1 : Int32) (v2 : Int32) (v3 : Int32) (v4 : Int32) (hr : xI) : Option xI :=
  if v3 = (5 : Int32) then ((f_m_checkElse v2 hr).bind fun q2 => some q2) else (if v3 = (11 : Int32) then ((f_m_checkEnd v1 v2 hr).bind fun q4 => some q4) else (if v3 = (12 : Int32) then ((f_m_outer (hr 27 22) v4 hr).bind fun q6 => (f_m_takes q6 hr).bind fun q7 => (f_m_pop q7 hr).bind fun q8 => (f_m_leave q8).bind fun q9 => some q9) else (if v3 = (13 : Int32) then ((f_m_outer (hr 27 22) v4 hr).bind fun q11 => (f_m_takes q11 hr).bind fun q12 => (f_m_pop (1 : Int32) hr).bind fun q13 => (f_m_pop q12 q13).bind fun q14 => (f_m_push q12 q14).bind fun q15 => some q15) else (if v3 = (14 : Int32) then ((f_m_checkTable v2 hr).bind fun q17 => some q17) else (if v3 = (15 : Int32) then (xgd v1 6 ((f_m_pop (hr 32 v1.toNatClampNeg) hr).bind fun q20 => (f_m_leave q20).bind fun q21 => some q21)) else (if v3 = 0 then ((f_m_leave hr).bind fun q23 => some q23) else (if v3 = (16 : Int32) then (xgd v4 6 ((f_m_pop (hr 30 v4.toNatClampNeg) hr).bind fun q26 => xgd v4 6 ((f_m_push (q26 32 v4.toNatClampNeg) q26).bind fun q28 => some q28))) else ((f_m_pop (f_m_eats v3) hr).bind fun q30 => (f_m_push (f_m_yields v3) q30).bind fun q32 => some q32))))))))
theorem T_m_check_69 {hc : xI} {g : xJ} {xs : Nat → Int32} {L c z : Nat} (v1 : Int32) (v2 : Int32) (v3 : Int32) (v4 : Int32) (hr : xI) (r : xI) (H : f_m_check_69 v1 v2 v3 v4 hr = some r) : Ex 3 124 (69, [some (.ref 27), some (.int v1), some (.int v2), some (.int v3), some (.int v4), none], [], xSt xG0 hc hr xs g L c z) (.inl none, xSt xG0 hc r xs g L c z) := by
  unfold f_m_check_69 at H
  refine Ex.many (f' := (71, [some (.ref 27), some (.int v1), some (.int v2), some (.int v3), some (.int v4), none], [.int (5 : Int32), .int v3], xSt xG0 hc hr xs g L c z)) ?_ 2 (by rfl)
  refine Ex.ite (ls := [some (.ref 27), some (.int v1), some (.int v2), some (.int v3), some (.int v4), none]) (st := []) (S := xSt xG0 hc hr xs g L c z) (by rfl) (fun q1 => ?_) (fun q1 => ?_)
  · replace H := (if_pos q1).symm.trans H
    refine Ex.many (f' := (76, [some (.ref 27), none, some (.int v2), none, none, none], [.int v2, .ref 27], xSt xG0 hc hr xs g L c z)) ?_ 2 (by rfl)
    obtain ⟨q2, hq2, H⟩ := xbd H
    refine Ex.call (mk := 126) (vs := [.ref 27, .int v2]) (rest := []) (by rfl) (by rfl) (Ex.up (T_m_checkElse v2 hr q2 hq2) (by decide)) (xbb c z) ?_
    show Ex _ _ (79, [some (.ref 27), none, some (.int v2), none, none, none], [], xSt xG0 hc q2 xs g L c z) _
    refine Ex.many (f' := (265, [none, none, none, none, none, none], [], xSt xG0 hc q2 xs g L c z)) ?_ 1 (by rfl)
    replace H := Option.some.inj H
    subst H
    exact Ex.done (by rfl)
  · replace H := (if_neg q1).symm.trans H
    refine Ex.many (f' := (85, [some (.ref 27), some (.int v1), some (.int v2), some (.int v3), some (.int v4), none], [.int (11 : Int32), .int v3], xSt xG0 hc hr xs g L c z)) ?_ 2 (by rfl)
    refine Ex.ite (ls := [some (.ref 27), some (.int v1), some (.int v2), some (.int v3), some (.int v4), none]) (st := []) (S := xSt xG0 hc hr xs g L c z) (by rfl) (fun q3 => ?_) (fun q3 => ?_)
    · replace H := (if_pos q3).symm.trans H
      refine Ex.many (f' := (91, [some (.ref 27), some (.int v1), some (.int v2), none, none, none], [.int v2, .int v1, .ref 27], xSt xG0 hc hr xs g L c z)) ?_ 3 (by rfl)
      obtain ⟨q4, hq4, H⟩ := xbd H
      refine Ex.call (mk := 127) (vs := [.ref 27, .int v1, .int v2]) (rest := []) (by rfl) (by rfl) (Ex.up (T_m_checkEnd v1 v2 hr q4 hq4) (by decide)) (xbb c z) ?_
      show Ex _ _ (94, [some (.ref 27), some (.int v1), some (.int v2), none, none, none], [], xSt xG0 hc q4 xs g L c z) _
      refine Ex.many (f' := (265, [none, none, none, none, none, none], [], xSt xG0 hc q4 xs g L c z)) ?_ 1 (by rfl)
      replace H := Option.some.inj H
      subst H
      exact Ex.done (by rfl)
    · replace H := (if_neg q3).symm.trans H
      refine Ex.many (f' := (100, [some (.ref 27), some (.int v1), some (.int v2), some (.int v3), some (.int v4), none], [.int (12 : Int32), .int v3], xSt xG0 hc hr xs g L c z)) ?_ 2 (by rfl)
      refine Ex.ite (ls := [some (.ref 27), some (.int v1), some (.int v2), some (.int v3), some (.int v4), none]) (st := []) (S := xSt xG0 hc hr xs g L c z) (by rfl) (fun q5 => ?_) (fun q5 => ?_)
      · replace H := (if_pos q5).symm.trans H
        refine Ex.many (f' := (112, [some (.ref 27), none, none, none, some (.int v4), none], [.int v4, .int (hr 27 22), .ref 27, .ref 27, .ref 27], xSt xG0 hc hr xs g L c z)) ?_ 6 (by rfl)
        obtain ⟨q6, hq6, H⟩ := xbd H
        refine Ex.call (mk := 129) (vs := [.ref 27, .int (hr 27 22), .int v4]) (rest := [.ref 27, .ref 27]) (by rfl) (by rfl) (Ex.up (T_m_outer (hr 27 22) v4 hr q6 hq6) (by decide)) (xbb c z) ?_
        show Ex _ _ (115, [some (.ref 27), none, none, none, some (.int v4), none], [.int q6, .ref 27, .ref 27], xSt xG0 hc hr xs g L c z) _
        obtain ⟨q7, hq7, H⟩ := xbd H
        refine Ex.call (mk := 130) (vs := [.ref 27, .int q6]) (rest := [.ref 27]) (by rfl) (by rfl) (Ex.up (T_m_takes q6 hr q7 hq7) (by decide)) (xbb c z) ?_
        show Ex _ _ (118, [some (.ref 27), none, none, none, none, none], [.int q7, .ref 27], xSt xG0 hc hr xs g L c z) _
        obtain ⟨q8, hq8, H⟩ := xbd H
        refine Ex.call (mk := 125) (vs := [.ref 27, .int q7]) (rest := []) (by rfl) (by rfl) (Ex.up (T_m_pop q7 hr q8 hq8) (by decide)) (xbb c z) ?_
        show Ex _ _ (121, [some (.ref 27), none, none, none, none, none], [], xSt xG0 hc q8 xs g L c z) _
        refine Ex.many (f' := (122, [some (.ref 27), none, none, none, none, none], [.ref 27], xSt xG0 hc q8 xs g L c z)) ?_ 1 (by rfl)
        obtain ⟨q9, hq9, H⟩ := xbd H
        refine Ex.call (mk := 131) (vs := [.ref 27]) (rest := []) (by rfl) (by rfl) (Ex.up (T_m_leave q8 q9 hq9) (by decide)) (xbb c z) ?_
        show Ex _ _ (125, [some (.ref 27), none, none, none, none, none], [], xSt xG0 hc q9 xs g L c z) _
        refine Ex.many (f' := (265, [none, none, none, none, none, none], [], xSt xG0 hc q9 xs g L c z)) ?_ 1 (by rfl)
        replace H := Option.some.inj H
        subst H
        exact Ex.done (by rfl)
      · replace H := (if_neg q5).symm.trans H
        refine Ex.many (f' := (131, [some (.ref 27), some (.int v1), some (.int v2), some (.int v3), some (.int v4), none], [.int (13 : Int32), .int v3], xSt xG0 hc hr xs g L c z)) ?_ 2 (by rfl)
        refine Ex.ite (ls := [some (.ref 27), some (.int v1), some (.int v2), some (.int v3), some (.int v4), none]) (st := []) (S := xSt xG0 hc hr xs g L c z) (by rfl) (fun q10 => ?_) (fun q10 => ?_)
        · replace H := (if_pos q10).symm.trans H
          refine Ex.many (f' := (142, [some (.ref 27), none, none, none, some (.int v4), none], [.int v4, .int (hr 27 22), .ref 27, .ref 27], xSt xG0 hc hr xs g L c z)) ?_ 5 (by rfl)
          obtain ⟨q11, hq11, H⟩ := xbd H
          refine Ex.call (mk := 129) (vs := [.ref 27, .int (hr 27 22), .int v4]) (rest := [.ref 27]) (by rfl) (by rfl) (Ex.up (T_m_outer (hr 27 22) v4 hr q11 hq11) (by decide)) (xbb c z) ?_
          show Ex _ _ (145, [some (.ref 27), none, none, none, some (.int v4), none], [.int q11, .ref 27], xSt xG0 hc hr xs g L c z) _
          obtain ⟨q12, hq12, H⟩ := xbd H
          refine Ex.call (mk := 130) (vs := [.ref 27, .int q11]) (rest := []) (by rfl) (by rfl) (Ex.up (T_m_takes q11 hr q12 hq12) (by decide)) (xbb c z) ?_
          show Ex _ _ (148, [some (.ref 27), none, none, none, none, none], [.int q12], xSt xG0 hc hr xs g L c z) _
          refine Ex.many (f' := (152, [some (.ref 27), none, none, none, none, some (.int q12)], [.int (1 : Int32), .ref 27], xSt xG0 hc hr xs g L c z)) ?_ 3 (by rfl)
          obtain ⟨q13, hq13, H⟩ := xbd H
          refine Ex.call (mk := 125) (vs := [.ref 27, .int (1 : Int32)]) (rest := []) (by rfl) (by rfl) (Ex.up (T_m_pop (1 : Int32) hr q13 hq13) (by decide)) (xbb c z) ?_
          show Ex _ _ (155, [some (.ref 27), none, none, none, none, some (.int q12)], [], xSt xG0 hc q13 xs g L c z) _
          refine Ex.many (f' := (158, [some (.ref 27), none, none, none, none, some (.int q12)], [.int q12, .ref 27], xSt xG0 hc q13 xs g L c z)) ?_ 2 (by rfl)
          obtain ⟨q14, hq14, H⟩ := xbd H
          refine Ex.call (mk := 125) (vs := [.ref 27, .int q12]) (rest := []) (by rfl) (by rfl) (Ex.up (T_m_pop q12 q13 q14 hq14) (by decide)) (xbb c z) ?_
          show Ex _ _ (161, [some (.ref 27), none, none, none, none, some (.int q12)], [], xSt xG0 hc q14 xs g L c z) _
          refine Ex.many (f' := (164, [some (.ref 27), none, none, none, none, some (.int q12)], [.int q12, .ref 27], xSt xG0 hc q14 xs g L c z)) ?_ 2 (by rfl)
          obtain ⟨q15, hq15, H⟩ := xbd H
          refine Ex.call (mk := 128) (vs := [.ref 27, .int q12]) (rest := []) (by rfl) (by rfl) (Ex.up (T_m_push q12 q14 q15 hq15) (by decide)) (xbb c z) ?_
          show Ex _ _ (167, [some (.ref 27), none, none, none, none, some (.int q12)], [], xSt xG0 hc q15 xs g L c z) _
          refine Ex.many (f' := (265, [none, none, none, none, none, none], [], xSt xG0 hc q15 xs g L c z)) ?_ 1 (by rfl)
          replace H := Option.some.inj H
          subst H
          exact Ex.done (by rfl)
        · replace H := (if_neg q10).symm.trans H
          refine Ex.many (f' := (173, [some (.ref 27), some (.int v1), some (.int v2), some (.int v3), some (.int v4), none], [.int (14 : Int32), .int v3], xSt xG0 hc hr xs g L c z)) ?_ 2 (by rfl)
          refine Ex.ite (ls := [some (.ref 27), some (.int v1), some (.int v2), some (.int v3), some (.int v4), none]) (st := []) (S := xSt xG0 hc hr xs g L c z) (by rfl) (fun q16 => ?_) (fun q16 => ?_)
          · replace H := (if_pos q16).symm.trans H
            refine Ex.many (f' := (178, [some (.ref 27), none, some (.int v2), none, none, none], [.int v2, .ref 27], xSt xG0 hc hr xs g L c z)) ?_ 2 (by rfl)
            obtain ⟨q17, hq17, H⟩ := xbd H
            refine Ex.call (mk := 132) (vs := [.ref 27, .int v2]) (rest := []) (by rfl) (by rfl) (Ex.up (T_m_checkTable v2 hr q17 hq17) (by decide)) (xbb c z) ?_
            show Ex _ _ (181, [some (.ref 27), none, some (.int v2), none, none, none], [], xSt xG0 hc q17 xs g L c z) _
            refine Ex.many (f' := (265, [none, none, none, none, none, none], [], xSt xG0 hc q17 xs g L c z)) ?_ 1 (by rfl)
            replace H := Option.some.inj H
            subst H
            exact Ex.done (by rfl)
          · replace H := (if_neg q16).symm.trans H
            refine Ex.many (f' := (187, [some (.ref 27), some (.int v1), none, some (.int v3), some (.int v4), none], [.int (15 : Int32), .int v3], xSt xG0 hc hr xs g L c z)) ?_ 2 (by rfl)
            refine Ex.ite (ls := [some (.ref 27), some (.int v1), none, some (.int v3), some (.int v4), none]) (st := []) (S := xSt xG0 hc hr xs g L c z) (by rfl) (fun q18 => ?_) (fun q18 => ?_)
            · replace H := (if_pos q18).symm.trans H
              refine Ex.many (f' := (196, [some (.ref 27), some (.int v1), none, none, none, none], [.int v1, .ref 32, .ref 27], xSt xG0 hc hr xs g L c z)) ?_ 4 (by rfl)
              obtain ⟨g19, H⟩ := xgd_some H
              refine Ex.guard (f' := (197, [some (.ref 27), some (.int v1), none, none, none, none], [.int (hr 32 v1.toNatClampNeg), .ref 27], xSt xG0 hc hr xs g L c z)) (by rfl) g19 ?_
              obtain ⟨q20, hq20, H⟩ := xbd H
              refine Ex.call (mk := 125) (vs := [.ref 27, .int (hr 32 v1.toNatClampNeg)]) (rest := []) (by rfl) (by rfl) (Ex.up (T_m_pop (hr 32 v1.toNatClampNeg) hr q20 hq20) (by decide)) (xbb c z) ?_
              show Ex _ _ (200, [some (.ref 27), some (.int v1), none, none, none, none], [], xSt xG0 hc q20 xs g L c z) _
              refine Ex.many (f' := (201, [some (.ref 27), none, none, none, none, none], [.ref 27], xSt xG0 hc q20 xs g L c z)) ?_ 1 (by rfl)
              obtain ⟨q21, hq21, H⟩ := xbd H
              refine Ex.call (mk := 131) (vs := [.ref 27]) (rest := []) (by rfl) (by rfl) (Ex.up (T_m_leave q20 q21 hq21) (by decide)) (xbb c z) ?_
              show Ex _ _ (204, [some (.ref 27), none, none, none, none, none], [], xSt xG0 hc q21 xs g L c z) _
              refine Ex.many (f' := (265, [none, none, none, none, none, none], [], xSt xG0 hc q21 xs g L c z)) ?_ 1 (by rfl)
              replace H := Option.some.inj H
              subst H
              exact Ex.done (by rfl)
            · replace H := (if_neg q18).symm.trans H
              refine Ex.many (f' := (208, [some (.ref 27), none, none, some (.int v3), some (.int v4), none], [.int v3], xSt xG0 hc hr xs g L c z)) ?_ 1 (by rfl)
              refine Ex.ite (ls := [some (.ref 27), none, none, some (.int v3), some (.int v4), none]) (st := []) (S := xSt xG0 hc hr xs g L c z) (by rfl) (fun q22 => ?_) (fun q22 => ?_)
              · replace H := (if_pos q22).symm.trans H
                refine Ex.many (f' := (212, [some (.ref 27), none, none, none, none, none], [.ref 27], xSt xG0 hc hr xs g L c z)) ?_ 1 (by rfl)
                obtain ⟨q23, hq23, H⟩ := xbd H
                refine Ex.call (mk := 131) (vs := [.ref 27]) (rest := []) (by rfl) (by rfl) (Ex.up (T_m_leave hr q23 hq23) (by decide)) (xbb c z) ?_
                show Ex _ _ (215, [some (.ref 27), none, none, none, none, none], [], xSt xG0 hc q23 xs g L c z) _
                refine Ex.many (f' := (265, [none, none, none, none, none, none], [], xSt xG0 hc q23 xs g L c z)) ?_ 1 (by rfl)
                replace H := Option.some.inj H
                subst H
                exact Ex.done (by rfl)
              · replace H := (if_neg q22).symm.trans H
                refine Ex.many (f' := (221, [some (.ref 27), none, none, some (.int v3), some (.int v4), none], [.int (16 : Int32), .int v3], xSt xG0 hc hr xs g L c z)) ?_ 2 (by rfl)
                refine Ex.ite (ls := [some (.ref 27), none, none, some (.int v3), some (.int v4), none]) (st := []) (S := xSt xG0 hc hr xs g L c z) (by rfl) (fun q24 => ?_) (fun q24 => ?_)
                · replace H := (if_pos q24).symm.trans H
                  refine Ex.many (f' := (231, [some (.ref 27), none, none, none, some (.int v4), none], [.int v4, .ref 30, .ref 27], xSt xG0 hc hr xs g L c z)) ?_ 4 (by rfl)
                  obtain ⟨g25, H⟩ := xgd_some H
                  refine Ex.guard (f' := (232, [some (.ref 27), none, none, none, some (.int v4), none], [.int (hr 30 v4.toNatClampNeg), .ref 27], xSt xG0 hc hr xs g L c z)) (by rfl) g25 ?_
                  obtain ⟨q26, hq26, H⟩ := xbd H
                  refine Ex.call (mk := 125) (vs := [.ref 27, .int (hr 30 v4.toNatClampNeg)]) (rest := []) (by rfl) (by rfl) (Ex.up (T_m_pop (hr 30 v4.toNatClampNeg) hr q26 hq26) (by decide)) (xbb c z) ?_
                  show Ex _ _ (235, [some (.ref 27), none, none, none, some (.int v4), none], [], xSt xG0 hc q26 xs g L c z) _
                  refine Ex.many (f' := (242, [some (.ref 27), none, none, none, some (.int v4), none], [.int v4, .ref 32, .ref 27], xSt xG0 hc q26 xs g L c z)) ?_ 4 (by rfl)
                  obtain ⟨g27, H⟩ := xgd_some H
                  refine Ex.guard (f' := (243, [some (.ref 27), none, none, none, some (.int v4), none], [.int (q26 32 v4.toNatClampNeg), .ref 27], xSt xG0 hc q26 xs g L c z)) (by rfl) g27 ?_
                  obtain ⟨q28, hq28, H⟩ := xbd H
                  refine Ex.call (mk := 128) (vs := [.ref 27, .int (q26 32 v4.toNatClampNeg)]) (rest := []) (by rfl) (by rfl) (Ex.up (T_m_push (q26 32 v4.toNatClampNeg) q26 q28 hq28) (by decide)) (xbb c z) ?_
                  show Ex _ _ (246, [some (.ref 27), none, none, none, some (.int v4), none], [], xSt xG0 hc q28 xs g L c z) _
                  refine Ex.many (f' := (265, [none, none, none, none, none, none], [], xSt xG0 hc q28 xs g L c z)) ?_ 1 (by rfl)
                  replace H := Option.some.inj H
                  subst H
                  exact Ex.done (by rfl)
                · replace H := (if_neg q24).symm.trans H
                  refine Ex.many (f' := (251, [some (.ref 27), none, none, some (.int v3), none, none], [.int v3, .ref 27], xSt xG0 hc hr xs g L c z)) ?_ 2 (by rfl)
                  refine Ex.call (mk := 133) (vs := [.int v3]) (rest := [.ref 27]) (by rfl) (by rfl) (Ex.up (T_m_eats v3 _ rfl) (by decide)) (xbb c z) ?_
                  show Ex _ _ (254, [some (.ref 27), none, none, some (.int v3), none, none], [.int (f_m_eats v3), .ref 27], xSt xG0 hc hr xs g L c z) _
                  obtain ⟨q30, hq30, H⟩ := xbd H
                  refine Ex.call (mk := 125) (vs := [.ref 27, .int (f_m_eats v3)]) (rest := []) (by rfl) (by rfl) (Ex.up (T_m_pop (f_m_eats v3) hr q30 hq30) (by decide)) (xbb c z) ?_
                  show Ex _ _ (257, [some (.ref 27), none, none, some (.int v3), none, none], [], xSt xG0 hc q30 xs g L c z) _
                  refine Ex.many (f' := (259, [some (.ref 27), none, none, some (.int v3), none, none], [.int v3, .ref 27], xSt xG0 hc q30 xs g L c z)) ?_ 2 (by rfl)
                  refine Ex.call (mk := 134) (vs := [.int v3]) (rest := [.ref 27]) (by rfl) (by rfl) (Ex.up (T_m_yields v3 _ rfl) (by decide)) (xbb c z) ?_
                  show Ex _ _ (262, [some (.ref 27), none, none, some (.int v3), none, none], [.int (f_m_yields v3), .ref 27], xSt xG0 hc q30 xs g L c z) _
                  obtain ⟨q32, hq32, H⟩ := xbd H
                  refine Ex.call (mk := 128) (vs := [.ref 27, .int (f_m_yields v3)]) (rest := []) (by rfl) (by rfl) (Ex.up (T_m_push (f_m_yields v3) q30 q32 hq32) (by decide)) (xbb c z) ?_
                  show Ex _ _ (265, [none, none, none, none, none, none], [], xSt xG0 hc q32 xs g L c z) _
                  replace H := Option.some.inj H
                  subst H
                  exact Ex.done (by rfl)
def f_m_check_48 (v1 : Int32) (v2 : Int32) (v3 : Int32) (v4 : Int32) (hr : xI) : Option xI :=
  if v3 < (2 : Int32) then (f_m_check_69 v1 v2 v3 v4 hr) else (if (4 : Int32) < v3 then (f_m_check_69 v1 v2 v3 v4 hr) else ((f_m_open v3 v4 v2 hr).bind fun q3 => some q3))
theorem T_m_check_48 {hc : xI} {g : xJ} {xs : Nat → Int32} {L c z : Nat} (v1 : Int32) (v2 : Int32) (v3 : Int32) (v4 : Int32) (hr : xI) (r : xI) (H : f_m_check_48 v1 v2 v3 v4 hr = some r) : Ex 3 124 (48, [some (.ref 27), some (.int v1), some (.int v2), some (.int v3), some (.int v4), none], [], xSt xG0 hc hr xs g L c z) (.inl none, xSt xG0 hc r xs g L c z) := by
  unfold f_m_check_48 at H
  refine Ex.many (f' := (50, [some (.ref 27), some (.int v1), some (.int v2), some (.int v3), some (.int v4), none], [.int (2 : Int32), .int v3], xSt xG0 hc hr xs g L c z)) ?_ 2 (by rfl)
  refine Ex.ite (ls := [some (.ref 27), some (.int v1), some (.int v2), some (.int v3), some (.int v4), none]) (st := []) (S := xSt xG0 hc hr xs g L c z) (by rfl) (fun q1 => ?_) (fun q1 => ?_)
  · replace H := (if_pos q1).symm.trans H
    exact T_m_check_69 v1 v2 v3 v4 hr r H
  · replace H := (if_neg q1).symm.trans H
    refine Ex.many (f' := (55, [some (.ref 27), some (.int v1), some (.int v2), some (.int v3), some (.int v4), none], [.int (4 : Int32), .int v3], xSt xG0 hc hr xs g L c z)) ?_ 2 (by rfl)
    refine Ex.ite (ls := [some (.ref 27), some (.int v1), some (.int v2), some (.int v3), some (.int v4), none]) (st := []) (S := xSt xG0 hc hr xs g L c z) (by rfl) (fun q2 => ?_) (fun q2 => ?_)
    · replace H := (if_pos q2).symm.trans H
      exact T_m_check_69 v1 v2 v3 v4 hr r H
    · replace H := (if_neg q2).symm.trans H
      refine Ex.many (f' := (63, [some (.ref 27), none, some (.int v2), some (.int v3), some (.int v4), none], [.int v2, .int v4, .int v3, .ref 27], xSt xG0 hc hr xs g L c z)) ?_ 4 (by rfl)
      obtain ⟨q3, hq3, H⟩ := xbd H
      refine Ex.call (mk := 117) (vs := [.ref 27, .int v3, .int v4, .int v2]) (rest := []) (by rfl) (by rfl) (Ex.up (T_m_open v3 v4 v2 hr q3 hq3) (by decide)) (xbb c z) ?_
      show Ex _ _ (66, [some (.ref 27), none, some (.int v2), some (.int v3), some (.int v4), none], [], xSt xG0 hc q3 xs g L c z) _
      refine Ex.many (f' := (265, [none, none, none, none, none, none], [], xSt xG0 hc q3 xs g L c z)) ?_ 1 (by rfl)
      replace H := Option.some.inj H
      subst H
      exact Ex.done (by rfl)
def f_m_check_26 (v1 : Int32) (v2 : Int32) (v3 : Int32) (s0 : Int32) (hr : xI) : Option xI :=
  xgd v2 240 (if v3 = (4 : Int32) then ((f_m_pop (1 : Int32) (xput hr 41 v2.toNatClampNeg (hr 27 22))).bind fun q3 => f_m_check_48 v1 v2 v3 s0 q3) else (f_m_check_48 v1 v2 v3 s0 (xput hr 41 v2.toNatClampNeg (hr 27 22))))
theorem T_m_check_26 {hc : xI} {g : xJ} {xs : Nat → Int32} {L c z : Nat} (v1 : Int32) (v2 : Int32) (v3 : Int32) (s0 : Int32) (hr : xI) (r : xI) (H : f_m_check_26 v1 v2 v3 s0 hr = some r) : Ex 3 124 (26, [some (.ref 27), some (.int v1), some (.int v2), some (.int v3), none, none], [.int s0], xSt xG0 hc hr xs g L c z) (.inl none, xSt xG0 hc r xs g L c z) := by
  unfold f_m_check_26 at H
  refine Ex.many (f' := (37, [some (.ref 27), some (.int v1), some (.int v2), some (.int v3), some (.int s0), none], [.int (hr 27 22), .int v2, .ref 41], xSt xG0 hc hr xs g L c z)) ?_ 6 (by rfl)
  obtain ⟨g1, H⟩ := xgd_some H
  refine Ex.gputR (pc := 38) (k := 41) (n := 240) (i := v2) (v := (hr 27 22)) (ls := [some (.ref 27), some (.int v1), some (.int v2), some (.int v3), some (.int s0), none]) (st := []) (hr := hr) ?_ (by rfl) g1 (by rfl)
  refine Ex.many (f' := (40, [some (.ref 27), some (.int v1), some (.int v2), some (.int v3), some (.int s0), none], [.int (4 : Int32), .int v3], xSt xG0 hc (xput hr 41 v2.toNatClampNeg (hr 27 22)) xs g L c z)) ?_ 2 (by rfl)
  refine Ex.ite (ls := [some (.ref 27), some (.int v1), some (.int v2), some (.int v3), some (.int s0), none]) (st := []) (S := xSt xG0 hc (xput hr 41 v2.toNatClampNeg (hr 27 22)) xs g L c z) (by rfl) (fun q2 => ?_) (fun q2 => ?_)
  · replace H := (if_pos q2).symm.trans H
    refine Ex.many (f' := (45, [some (.ref 27), some (.int v1), some (.int v2), some (.int v3), some (.int s0), none], [.int (1 : Int32), .ref 27], xSt xG0 hc (xput hr 41 v2.toNatClampNeg (hr 27 22)) xs g L c z)) ?_ 2 (by rfl)
    obtain ⟨q3, hq3, H⟩ := xbd H
    refine Ex.call (mk := 125) (vs := [.ref 27, .int (1 : Int32)]) (rest := []) (by rfl) (by rfl) (Ex.up (T_m_pop (1 : Int32) (xput hr 41 v2.toNatClampNeg (hr 27 22)) q3 hq3) (by decide)) (xbb c z) ?_
    show Ex _ _ (48, [some (.ref 27), some (.int v1), some (.int v2), some (.int v3), some (.int s0), none], [], xSt xG0 hc q3 xs g L c z) _
    exact T_m_check_48 v1 v2 v3 s0 q3 r H
  · replace H := (if_neg q2).symm.trans H
    exact T_m_check_48 v1 v2 v3 s0 (xput hr 41 v2.toNatClampNeg (hr 27 22)) r H
def f_m_check (a1 : Int32) (a2 : Int32) (hr : xI) : Option xI :=
  xgd a2 240 (if (f_m_immediates (hr 28 a2.toNatClampNeg)) ≤ 0 then (f_m_check_26 a1 a2 (hr 28 a2.toNatClampNeg) (0 : Int32) hr) else (xgd (a2 + (1 : Int32)) 240 (f_m_check_26 a1 a2 (hr 28 a2.toNatClampNeg) (hr 28 (a2 + (1 : Int32)).toNatClampNeg) hr)))
theorem T_m_check {hc : xI} {g : xJ} {xs : Nat → Int32} {L c z : Nat} (a1 : Int32) (a2 : Int32) (hr : xI) (r : xI) (H : f_m_check a1 a2 hr = some r) : Ex 3 124 (0, [some (.ref 27), some (.int a1), some (.int a2), none, none, none], [], xSt xG0 hc hr xs g L c z) (.inl none, xSt xG0 hc r xs g L c z) := by
  unfold f_m_check at H
  refine Ex.many (f' := (5, [some (.ref 27), some (.int a1), some (.int a2), none, none, none], [.int a2, .ref 28], xSt xG0 hc hr xs g L c z)) ?_ 3 (by rfl)
  obtain ⟨g1, H⟩ := xgd_some H
  refine Ex.guard (f' := (6, [some (.ref 27), some (.int a1), some (.int a2), none, none, none], [.int (hr 28 a2.toNatClampNeg)], xSt xG0 hc hr xs g L c z)) (by rfl) g1 ?_
  refine Ex.many (f' := (8, [some (.ref 27), some (.int a1), some (.int a2), some (.int (hr 28 a2.toNatClampNeg)), none, none], [.int (hr 28 a2.toNatClampNeg)], xSt xG0 hc hr xs g L c z)) ?_ 2 (by rfl)
  refine Ex.call (mk := 121) (vs := [.int (hr 28 a2.toNatClampNeg)]) (rest := []) (by rfl) (by rfl) (Ex.up (T_m_immediates (hr 28 a2.toNatClampNeg) _ rfl) (by decide)) (xbb c z) ?_
  show Ex _ _ (11, [some (.ref 27), some (.int a1), some (.int a2), some (.int (hr 28 a2.toNatClampNeg)), none, none], [.int (f_m_immediates (hr 28 a2.toNatClampNeg))], xSt xG0 hc hr xs g L c z) _
  refine Ex.ite (ls := [some (.ref 27), some (.int a1), some (.int a2), some (.int (hr 28 a2.toNatClampNeg)), none, none]) (st := []) (S := xSt xG0 hc hr xs g L c z) (by rfl) (fun q3 => ?_) (fun q3 => ?_)
  · replace H := (if_pos q3).symm.trans H
    refine Ex.many (f' := (26, [some (.ref 27), some (.int a1), some (.int a2), some (.int (hr 28 a2.toNatClampNeg)), none, none], [.int (0 : Int32)], xSt xG0 hc hr xs g L c z)) ?_ 1 (by rfl)
    exact T_m_check_26 a1 a2 (hr 28 a2.toNatClampNeg) (0 : Int32) hr r H
  · replace H := (if_neg q3).symm.trans H
    refine Ex.many (f' := (21, [some (.ref 27), some (.int a1), some (.int a2), some (.int (hr 28 a2.toNatClampNeg)), none, none], [.int (a2 + (1 : Int32)), .ref 28], xSt xG0 hc hr xs g L c z)) ?_ 5 (by rfl)
    obtain ⟨g4, H⟩ := xgd_some H
    refine Ex.guard (f' := (22, [some (.ref 27), some (.int a1), some (.int a2), some (.int (hr 28 a2.toNatClampNeg)), none, none], [.int (hr 28 (a2 + (1 : Int32)).toNatClampNeg)], xSt xG0 hc hr xs g L c z)) (by rfl) g4 ?_
    refine Ex.many (f' := (26, [some (.ref 27), some (.int a1), some (.int a2), some (.int (hr 28 a2.toNatClampNeg)), none, none], [.int (hr 28 (a2 + (1 : Int32)).toNatClampNeg)], xSt xG0 hc hr xs g L c z)) ?_ 1 (by rfl)
    exact T_m_check_26 a1 a2 (hr 28 a2.toNatClampNeg) (hr 28 (a2 + (1 : Int32)).toNatClampNeg) hr r H
def f_m_length (a1 : Int32) (hr : xI) : Option Int32 :=
  xgd a1 240 (if (hr 28 a1.toNatClampNeg) = (14 : Int32) then (xgd (a1 + (1 : Int32)) 240 (some ((3 : Int32) + (hr 28 (a1 + (1 : Int32)).toNatClampNeg)))) else (xgd a1 240 (some ((1 : Int32) + (f_m_immediates (hr 28 a1.toNatClampNeg))))))
theorem T_m_length {hc : xI} {g : xJ} {xs : Nat → Int32} {L c z : Nat} (a1 : Int32) (hr : xI) (r : Int32) (H : f_m_length a1 hr = some r) : Ex 1 135 (0, [some (.ref 27), some (.int a1)], [], xSt xG0 hc hr xs g L c z) (.inl (some (.int r)), xSt xG0 hc hr xs g L c z) := by
  unfold f_m_length at H
  refine Ex.many (f' := (5, [some (.ref 27), some (.int a1)], [.int a1, .ref 28], xSt xG0 hc hr xs g L c z)) ?_ 3 (by rfl)
  obtain ⟨g1, H⟩ := xgd_some H
  refine Ex.guard (f' := (6, [some (.ref 27), some (.int a1)], [.int (hr 28 a1.toNatClampNeg)], xSt xG0 hc hr xs g L c z)) (by rfl) g1 ?_
  refine Ex.many (f' := (8, [some (.ref 27), some (.int a1)], [.int (14 : Int32), .int (hr 28 a1.toNatClampNeg)], xSt xG0 hc hr xs g L c z)) ?_ 1 (by rfl)
  refine Ex.ite (ls := [some (.ref 27), some (.int a1)]) (st := []) (S := xSt xG0 hc hr xs g L c z) (by rfl) (fun q2 => ?_) (fun q2 => ?_)
  · replace H := (if_pos q2).symm.trans H
    refine Ex.many (f' := (19, [some (.ref 27), some (.int a1)], [.int (a1 + (1 : Int32)), .ref 28, .int (3 : Int32)], xSt xG0 hc hr xs g L c z)) ?_ 6 (by rfl)
    obtain ⟨g3, H⟩ := xgd_some H
    refine Ex.guard (f' := (20, [some (.ref 27), some (.int a1)], [.int (hr 28 (a1 + (1 : Int32)).toNatClampNeg), .int (3 : Int32)], xSt xG0 hc hr xs g L c z)) (by rfl) g3 ?_
    refine Ex.many (f' := (35, [some (.ref 27), some (.int a1)], [.int ((3 : Int32) + (hr 28 (a1 + (1 : Int32)).toNatClampNeg))], xSt xG0 hc hr xs g L c z)) ?_ 2 (by rfl)
    replace H := Option.some.inj H
    subst H
    exact Ex.done (by rfl)
  · replace H := (if_neg q2).symm.trans H
    refine Ex.many (f' := (30, [some (.ref 27), some (.int a1)], [.int a1, .ref 28, .int (1 : Int32)], xSt xG0 hc hr xs g L c z)) ?_ 4 (by rfl)
    obtain ⟨g4, H⟩ := xgd_some H
    refine Ex.guard (f' := (31, [some (.ref 27), some (.int a1)], [.int (hr 28 a1.toNatClampNeg), .int (1 : Int32)], xSt xG0 hc hr xs g L c z)) (by rfl) g4 ?_
    refine Ex.call (mk := 121) (vs := [.int (hr 28 a1.toNatClampNeg)]) (rest := [.int (1 : Int32)]) (by rfl) (by rfl) (Ex.up (T_m_immediates (hr 28 a1.toNatClampNeg) _ rfl) (by decide)) (xbb c z) ?_
    show Ex _ _ (34, [some (.ref 27), some (.int a1)], [.int (f_m_immediates (hr 28 a1.toNatClampNeg)), .int (1 : Int32)], xSt xG0 hc hr xs g L c z) _
    refine Ex.many (f' := (35, [none, none], [.int ((1 : Int32) + (f_m_immediates (hr 28 a1.toNatClampNeg)))], xSt xG0 hc hr xs g L c z)) ?_ 1 (by rfl)
    replace H := Option.some.inj H
    subst H
    exact Ex.done (by rfl)
def f_m_checkFunction_98 (v3 : Int32) (hr : xI) : Option (Int32 × xI) :=
  if (hr 27 23) ≤ 0 then (some ((-1 : Int32), hr)) else ((f_m_fail (1 : Int32) hr).bind fun q2 => some (v3, q2))
theorem T_m_checkFunction_98 {hc : xI} {g : xJ} {xs : Nat → Int32} {L c z : Nat} (v3 : Int32) (hr : xI) (r : (Int32 × xI)) (H : f_m_checkFunction_98 v3 hr = some r) : Ex 4 116 (98, [some (.ref 27), none, none, some (.int v3)], [], xSt xG0 hc hr xs g L c z) (.inl (some (.int r.1)), xSt xG0 hc r.2 xs g L c z) := by
  unfold f_m_checkFunction_98 at H
  refine Ex.many (f' := (102, [some (.ref 27), none, none, some (.int v3)], [.int (hr 27 23)], xSt xG0 hc hr xs g L c z)) ?_ 2 (by rfl)
  refine Ex.ite (ls := [some (.ref 27), none, none, some (.int v3)]) (st := []) (S := xSt xG0 hc hr xs g L c z) (by rfl) (fun q1 => ?_) (fun q1 => ?_)
  · replace H := (if_pos q1).symm.trans H
    refine Ex.many (f' := (113, [none, none, none, none], [.int (-1 : Int32)], xSt xG0 hc hr xs g L c z)) ?_ 1 (by rfl)
    replace H := Option.some.inj H
    subst H
    exact Ex.done (by rfl)
  · replace H := (if_neg q1).symm.trans H
    refine Ex.many (f' := (107, [some (.ref 27), none, none, some (.int v3)], [.int (1 : Int32), .ref 27], xSt xG0 hc hr xs g L c z)) ?_ 2 (by rfl)
    obtain ⟨q2, hq2, H⟩ := xbd H
    refine Ex.call (mk := 118) (vs := [.ref 27, .int (1 : Int32)]) (rest := []) (by rfl) (by rfl) (Ex.up (T_m_fail (1 : Int32) hr q2 hq2) (by decide)) (xbb c z) ?_
    show Ex _ _ (110, [some (.ref 27), none, none, some (.int v3)], [], xSt xG0 hc q2 xs g L c z) _
    refine Ex.many (f' := (111, [none, none, none, some (.int v3)], [.int v3], xSt xG0 hc q2 xs g L c z)) ?_ 1 (by rfl)
    replace H := Option.some.inj H
    subst H
    exact Ex.done (by rfl)
def f_m_checkFunction_78 (k : Int32 → Int32 → xI → Option (Int32 × xI)) (v1 : Int32) (v3 : Int32) (hr : xI) : Option (Int32 × xI) :=
  if (hr 27 25) ≤ 0 then ((f_m_length v3 hr).bind fun q2 => k v1 (v3 + q2) hr) else (some (v3, hr))
theorem T_m_checkFunction_78 {hc : xI} {g : xJ} {xs : Nat → Int32} {L c z : Nat} (k : Int32 → Int32 → xI → Option (Int32 × xI)) (hk : ∀ (v1 : Int32) (v3 : Int32) (hr : xI) (r : (Int32 × xI)), k v1 v3 hr = some r → Ex 4 116 (36, [some (.ref 27), some (.int v1), none, some (.int v3)], [], xSt xG0 hc hr xs g L c z) (.inl (some (.int r.1)), xSt xG0 hc r.2 xs g L c z)) (v1 : Int32) (v3 : Int32) (hr : xI) (r : (Int32 × xI)) (H : f_m_checkFunction_78 k v1 v3 hr = some r) : Ex 4 116 (78, [some (.ref 27), some (.int v1), none, some (.int v3)], [], xSt xG0 hc hr xs g L c z) (.inl (some (.int r.1)), xSt xG0 hc r.2 xs g L c z) := by
  unfold f_m_checkFunction_78 at H
  refine Ex.many (f' := (82, [some (.ref 27), some (.int v1), none, some (.int v3)], [.int (hr 27 25)], xSt xG0 hc hr xs g L c z)) ?_ 2 (by rfl)
  refine Ex.ite (ls := [some (.ref 27), some (.int v1), none, some (.int v3)]) (st := []) (S := xSt xG0 hc hr xs g L c z) (by rfl) (fun q1 => ?_) (fun q1 => ?_)
  · replace H := (if_pos q1).symm.trans H
    refine Ex.many (f' := (90, [some (.ref 27), some (.int v1), none, some (.int v3)], [.int v3, .ref 27, .int v3], xSt xG0 hc hr xs g L c z)) ?_ 3 (by rfl)
    obtain ⟨q2, hq2, H⟩ := xbd H
    refine Ex.call (mk := 135) (vs := [.ref 27, .int v3]) (rest := [.int v3]) (by rfl) (by rfl) (Ex.up (T_m_length v3 hr q2 hq2) (by decide)) (xbb c z) ?_
    show Ex _ _ (93, [some (.ref 27), some (.int v1), none, some (.int v3)], [.int q2, .int v3], xSt xG0 hc hr xs g L c z) _
    refine Ex.many (f' := (36, [some (.ref 27), some (.int v1), none, some (.int (v3 + q2))], [], xSt xG0 hc hr xs g L c z)) ?_ 3 (by rfl)
    exact hk v1 (v3 + q2) hr r H
  · replace H := (if_neg q1).symm.trans H
    refine Ex.many (f' := (86, [none, none, none, some (.int v3)], [.int v3], xSt xG0 hc hr xs g L c z)) ?_ 1 (by rfl)
    replace H := Option.some.inj H
    subst H
    exact Ex.done (by rfl)
def f_m_checkFunction_36 : Nat → Int32 → Int32 → xI → Option (Int32 × xI)
  | 0, _, _, _ => none
  | n + 1, v1, v3, hr => xgd (v1 + (1 : Int32)) 7 (if (hr 29 (v1 + (1 : Int32)).toNatClampNeg) ≤ v3 then (f_m_checkFunction_98 v3 hr) else (if (hr 27 23) ≤ 0 then (f_m_checkFunction_98 v3 hr) else ((f_m_flaw v1 v3 hr).bind fun q4 => (f_m_fail q4 hr).bind fun q5 => if (q5 27 25) = 0 then ((f_m_check v1 v3 q5).bind fun q7 => f_m_checkFunction_78 (f_m_checkFunction_36 n) v1 v3 q7) else (f_m_checkFunction_78 (f_m_checkFunction_36 n) v1 v3 q5))))
theorem T_m_checkFunction_36 {hc : xI} {g : xJ} {xs : Nat → Int32} {L c z : Nat} (n : Nat) : ∀ (v1 : Int32) (v3 : Int32) (hr : xI) (r : (Int32 × xI)), f_m_checkFunction_36 n v1 v3 hr = some r → Ex 4 116 (36, [some (.ref 27), some (.int v1), none, some (.int v3)], [], xSt xG0 hc hr xs g L c z) (.inl (some (.int r.1)), xSt xG0 hc r.2 xs g L c z) := by
  induction n with
  | zero =>
    intro v1 v3 hr r H
    unfold f_m_checkFunction_36 at H
    cases H
  | succ n ih =>
    intro v1 v3 hr r H
    unfold f_m_checkFunction_36 at H
    refine Ex.many (f' := (44, [some (.ref 27), some (.int v1), none, some (.int v3)], [.int (v1 + (1 : Int32)), .ref 29, .int v3], xSt xG0 hc hr xs g L c z)) ?_ 6 (by rfl)
    obtain ⟨g1, H⟩ := xgd_some H
    refine Ex.guard (f' := (45, [some (.ref 27), some (.int v1), none, some (.int v3)], [.int (hr 29 (v1 + (1 : Int32)).toNatClampNeg), .int v3], xSt xG0 hc hr xs g L c z)) (by rfl) g1 ?_
    refine Ex.ite (ls := [some (.ref 27), some (.int v1), none, some (.int v3)]) (st := []) (S := xSt xG0 hc hr xs g L c z) (by rfl) (fun q2 => ?_) (fun q2 => ?_)
    · replace H := (if_pos q2).symm.trans H
      refine Ex.kill (ls' := [some (.ref 27), none, none, some (.int v3)]) (by rfl) ?_
      exact T_m_checkFunction_98 v3 hr r H
    · replace H := (if_neg q2).symm.trans H
      refine Ex.many (f' := (52, [some (.ref 27), some (.int v1), none, some (.int v3)], [.int (hr 27 23)], xSt xG0 hc hr xs g L c z)) ?_ 2 (by rfl)
      refine Ex.ite (ls := [some (.ref 27), some (.int v1), none, some (.int v3)]) (st := []) (S := xSt xG0 hc hr xs g L c z) (by rfl) (fun q3 => ?_) (fun q3 => ?_)
      · replace H := (if_pos q3).symm.trans H
        refine Ex.kill (ls' := [some (.ref 27), none, none, some (.int v3)]) (by rfl) ?_
        exact T_m_checkFunction_98 v3 hr r H
      · replace H := (if_neg q3).symm.trans H
        refine Ex.many (f' := (59, [some (.ref 27), some (.int v1), none, some (.int v3)], [.int v3, .int v1, .ref 27, .ref 27], xSt xG0 hc hr xs g L c z)) ?_ 4 (by rfl)
        obtain ⟨q4, hq4, H⟩ := xbd H
        refine Ex.call (mk := 119) (vs := [.ref 27, .int v1, .int v3]) (rest := [.ref 27]) (by rfl) (by rfl) (Ex.up (T_m_flaw v1 v3 hr q4 hq4) (by decide)) (xbb c z) ?_
        show Ex _ _ (62, [some (.ref 27), some (.int v1), none, some (.int v3)], [.int q4, .ref 27], xSt xG0 hc hr xs g L c z) _
        obtain ⟨q5, hq5, H⟩ := xbd H
        refine Ex.call (mk := 118) (vs := [.ref 27, .int q4]) (rest := []) (by rfl) (by rfl) (Ex.up (T_m_fail q4 hr q5 hq5) (by decide)) (xbb c z) ?_
        show Ex _ _ (65, [some (.ref 27), some (.int v1), none, some (.int v3)], [], xSt xG0 hc q5 xs g L c z) _
        refine Ex.many (f' := (69, [some (.ref 27), some (.int v1), none, some (.int v3)], [.int (q5 27 25)], xSt xG0 hc q5 xs g L c z)) ?_ 2 (by rfl)
        refine Ex.ite (ls := [some (.ref 27), some (.int v1), none, some (.int v3)]) (st := []) (S := xSt xG0 hc q5 xs g L c z) (by rfl) (fun q6 => ?_) (fun q6 => ?_)
        · replace H := (if_pos q6).symm.trans H
          refine Ex.many (f' := (75, [some (.ref 27), some (.int v1), none, some (.int v3)], [.int v3, .int v1, .ref 27], xSt xG0 hc q5 xs g L c z)) ?_ 3 (by rfl)
          obtain ⟨q7, hq7, H⟩ := xbd H
          refine Ex.call (mk := 124) (vs := [.ref 27, .int v1, .int v3]) (rest := []) (by rfl) (by rfl) (Ex.up (T_m_check v1 v3 q5 q7 hq7) (by decide)) (xbb c z) ?_
          show Ex _ _ (78, [some (.ref 27), some (.int v1), none, some (.int v3)], [], xSt xG0 hc q7 xs g L c z) _
          exact T_m_checkFunction_78 (f_m_checkFunction_36 n) ih v1 v3 q7 r H
        · replace H := (if_neg q6).symm.trans H
          exact T_m_checkFunction_78 (f_m_checkFunction_36 n) ih v1 v3 q5 r H
def f_m_checkFunction (a1 : Int32) (hr : xI) : Option (Int32 × xI) :=
  xgd a1 7 (xgd a1 6 ((f_m_open (0 : Int32) (hr 32 a1.toNatClampNeg) (hr 29 a1.toNatClampNeg) (xput (xput (xput hr 27 24 (0 : Int32)) 27 23 (0 : Int32)) 27 22 (-1 : Int32))).bind fun q3 => f_m_checkFunction_36 1000 a1 (hr 29 a1.toNatClampNeg) q3))
theorem T_m_checkFunction {hc : xI} {g : xJ} {xs : Nat → Int32} {L c z : Nat} (a1 : Int32) (hr : xI) (r : (Int32 × xI)) (H : f_m_checkFunction a1 hr = some r) : Ex 4 116 (0, [some (.ref 27), some (.int a1), none, none], [], xSt xG0 hc hr xs g L c z) (.inl (some (.int r.1)), xSt xG0 hc r.2 xs g L c z) := by
  unfold f_m_checkFunction at H
  refine Ex.many (f' := (2, [some (.ref 27), some (.int a1), none, none], [.int (0 : Int32), .ref 27], xSt xG0 hc hr xs g L c z)) ?_ 2 (by rfl)
  refine Ex.putR (pc := 5) (k := 27) (j := 24) (v := (0 : Int32)) (ls := [some (.ref 27), some (.int a1), none, none]) (st := []) (hr := hr) ?_ (by rfl) (by rfl)
  refine Ex.many (f' := (7, [some (.ref 27), some (.int a1), none, none], [.int (0 : Int32), .ref 27], xSt xG0 hc (xput hr 27 24 (0 : Int32)) xs g L c z)) ?_ 2 (by rfl)
  refine Ex.putR (pc := 10) (k := 27) (j := 23) (v := (0 : Int32)) (ls := [some (.ref 27), some (.int a1), none, none]) (st := []) (hr := (xput hr 27 24 (0 : Int32))) ?_ (by rfl) (by rfl)
  refine Ex.many (f' := (12, [some (.ref 27), some (.int a1), none, none], [.int (-1 : Int32), .ref 27], xSt xG0 hc (xput (xput hr 27 24 (0 : Int32)) 27 23 (0 : Int32)) xs g L c z)) ?_ 2 (by rfl)
  refine Ex.putR (pc := 15) (k := 27) (j := 22) (v := (-1 : Int32)) (ls := [some (.ref 27), some (.int a1), none, none]) (st := []) (hr := (xput (xput hr 27 24 (0 : Int32)) 27 23 (0 : Int32))) ?_ (by rfl) (by rfl)
  refine Ex.many (f' := (20, [some (.ref 27), some (.int a1), none, none], [.int a1, .ref 29], xSt xG0 hc (xput (xput (xput hr 27 24 (0 : Int32)) 27 23 (0 : Int32)) 27 22 (-1 : Int32)) xs g L c z)) ?_ 3 (by rfl)
  obtain ⟨g1, H⟩ := xgd_some H
  refine Ex.guard (f' := (21, [some (.ref 27), some (.int a1), none, none], [.int (hr 29 a1.toNatClampNeg)], xSt xG0 hc (xput (xput (xput hr 27 24 (0 : Int32)) 27 23 (0 : Int32)) 27 22 (-1 : Int32)) xs g L c z)) (by rfl) g1 ?_
  refine Ex.many (f' := (29, [some (.ref 27), some (.int a1), some (.int (hr 29 a1.toNatClampNeg)), none], [.int a1, .ref 32, .int (0 : Int32), .ref 27], xSt xG0 hc (xput (xput (xput hr 27 24 (0 : Int32)) 27 23 (0 : Int32)) 27 22 (-1 : Int32)) xs g L c z)) ?_ 6 (by rfl)
  obtain ⟨g2, H⟩ := xgd_some H
  refine Ex.guard (f' := (30, [some (.ref 27), some (.int a1), some (.int (hr 29 a1.toNatClampNeg)), none], [.int (hr 32 a1.toNatClampNeg), .int (0 : Int32), .ref 27], xSt xG0 hc (xput (xput (xput hr 27 24 (0 : Int32)) 27 23 (0 : Int32)) 27 22 (-1 : Int32)) xs g L c z)) (by rfl) g2 ?_
  refine Ex.many (f' := (31, [some (.ref 27), some (.int a1), some (.int (hr 29 a1.toNatClampNeg)), none], [.int (hr 29 a1.toNatClampNeg), .int (hr 32 a1.toNatClampNeg), .int (0 : Int32), .ref 27], xSt xG0 hc (xput (xput (xput hr 27 24 (0 : Int32)) 27 23 (0 : Int32)) 27 22 (-1 : Int32)) xs g L c z)) ?_ 1 (by rfl)
  obtain ⟨q3, hq3, H⟩ := xbd H
  refine Ex.call (mk := 117) (vs := [.ref 27, .int (0 : Int32), .int (hr 32 a1.toNatClampNeg), .int (hr 29 a1.toNatClampNeg)]) (rest := []) (by rfl) (by rfl) (Ex.up (T_m_open (0 : Int32) (hr 32 a1.toNatClampNeg) (hr 29 a1.toNatClampNeg) (xput (xput (xput hr 27 24 (0 : Int32)) 27 23 (0 : Int32)) 27 22 (-1 : Int32)) q3 hq3) (by decide)) (xbb c z) ?_
  show Ex _ _ (34, [some (.ref 27), some (.int a1), some (.int (hr 29 a1.toNatClampNeg)), none], [], xSt xG0 hc q3 xs g L c z) _
  refine Ex.many (f' := (36, [some (.ref 27), some (.int a1), some (.int (hr 29 a1.toNatClampNeg)), some (.int (hr 29 a1.toNatClampNeg))], [], xSt xG0 hc q3 xs g L c z)) ?_ 2 (by rfl)
  refine Ex.kill (ls' := [some (.ref 27), some (.int a1), none, some (.int (hr 29 a1.toNatClampNeg))]) (by rfl) ?_
  exact T_m_checkFunction_36 1000 a1 (hr 29 a1.toNatClampNeg) q3 r H
def f_m_validate_60 : Nat → Int32 → xI → Option (Int32 × xI)
  | 0, _, _ => none
  | n + 1, v1, hr => if (hr 27 4) ≤ v1 then (some ((0 : Int32), (xput hr 27 1 (1 : Int32)))) else ((f_m_checkFunction v1 hr).bind fun q2 => if q2.1 < 0 then (f_m_validate_60 n (v1 + (1 : Int32)) q2.2) else (some ((q2.2 27 25), (xput (xput q2.2 27 9 v1) 27 10 q2.1))))
theorem T_m_validate_60 {hc : xI} {g : xJ} {xs : Nat → Int32} {L c z : Nat} (n : Nat) : ∀ (v1 : Int32) (hr : xI) (r : (Int32 × xI)), f_m_validate_60 n v1 hr = some r → Ex 5 115 (60, [some (.ref 27), some (.int v1), none], [], xSt xG0 hc hr xs g L c z) (.inl (some (.int r.1)), xSt xG0 hc r.2 xs g L c z) := by
  induction n with
  | zero =>
    intro v1 hr r H
    unfold f_m_validate_60 at H
    cases H
  | succ n ih =>
    intro v1 hr r H
    unfold f_m_validate_60 at H
    refine Ex.many (f' := (65, [some (.ref 27), some (.int v1), none], [.int (hr 27 4), .int v1], xSt xG0 hc hr xs g L c z)) ?_ 3 (by rfl)
    refine Ex.ite (ls := [some (.ref 27), some (.int v1), none]) (st := []) (S := xSt xG0 hc hr xs g L c z) (by rfl) (fun q1 => ?_) (fun q1 => ?_)
    · replace H := (if_pos q1).symm.trans H
      refine Ex.many (f' := (101, [some (.ref 27), none, none], [.int (1 : Int32), .ref 27], xSt xG0 hc hr xs g L c z)) ?_ 2 (by rfl)
      refine Ex.putR (pc := 104) (k := 27) (j := 1) (v := (1 : Int32)) (ls := [some (.ref 27), none, none]) (st := []) (hr := hr) ?_ (by rfl) (by rfl)
      refine Ex.many (f' := (105, [some (.ref 27), none, none], [.int (0 : Int32)], xSt xG0 hc (xput hr 27 1 (1 : Int32)) xs g L c z)) ?_ 1 (by rfl)
      replace H := Option.some.inj H
      subst H
      exact Ex.done (by rfl)
    · replace H := (if_neg q1).symm.trans H
      refine Ex.many (f' := (70, [some (.ref 27), some (.int v1), none], [.int v1, .ref 27], xSt xG0 hc hr xs g L c z)) ?_ 2 (by rfl)
      obtain ⟨q2, hq2, H⟩ := xbd H
      refine Ex.call (mk := 116) (vs := [.ref 27, .int v1]) (rest := []) (by rfl) (by rfl) (Ex.up (T_m_checkFunction v1 hr q2 hq2) (by decide)) (xbb c z) ?_
      show Ex _ _ (73, [some (.ref 27), some (.int v1), none], [.int q2.1], xSt xG0 hc q2.2 xs g L c z) _
      refine Ex.many (f' := (75, [some (.ref 27), some (.int v1), some (.int q2.1)], [.int q2.1], xSt xG0 hc q2.2 xs g L c z)) ?_ 2 (by rfl)
      refine Ex.ite (ls := [some (.ref 27), some (.int v1), some (.int q2.1)]) (st := []) (S := xSt xG0 hc q2.2 xs g L c z) (by rfl) (fun q3 => ?_) (fun q3 => ?_)
      · replace H := (if_pos q3).symm.trans H
        refine Ex.many (f' := (60, [some (.ref 27), some (.int (v1 + (1 : Int32))), none], [], xSt xG0 hc q2.2 xs g L c z)) ?_ 2 (by rfl)
        exact ih (v1 + (1 : Int32)) q2.2 r H
      · replace H := (if_neg q3).symm.trans H
        refine Ex.many (f' := (80, [some (.ref 27), some (.int v1), some (.int q2.1)], [.int v1, .ref 27], xSt xG0 hc q2.2 xs g L c z)) ?_ 2 (by rfl)
        refine Ex.putR (pc := 83) (k := 27) (j := 9) (v := v1) (ls := [some (.ref 27), some (.int v1), some (.int q2.1)]) (st := []) (hr := q2.2) ?_ (by rfl) (by rfl)
        refine Ex.many (f' := (85, [some (.ref 27), some (.int v1), some (.int q2.1)], [.int q2.1, .ref 27], xSt xG0 hc (xput q2.2 27 9 v1) xs g L c z)) ?_ 2 (by rfl)
        refine Ex.putR (pc := 88) (k := 27) (j := 10) (v := q2.1) (ls := [some (.ref 27), some (.int v1), some (.int q2.1)]) (st := []) (hr := (xput q2.2 27 9 v1)) ?_ (by rfl) (by rfl)
        refine Ex.many (f' := (92, [some (.ref 27), some (.int v1), some (.int q2.1)], [.int (q2.2 27 25)], xSt xG0 hc (xput (xput q2.2 27 9 v1) 27 10 q2.1) xs g L c z)) ?_ 2 (by rfl)
        replace H := Option.some.inj H
        subst H
        exact Ex.done (by rfl)
def f_m_validate_36 (s1 : Int32) (hr : xI) : Option (Int32 × xI) :=
  if s1 ≤ 0 then (f_m_validate_60 1000 (0 : Int32) (xput (xput (xput hr 27 0 s1) 27 11 (0 : Int32)) 27 25 (0 : Int32))) else (some ((0 : Int32), (xput hr 27 0 s1)))
theorem T_m_validate_36 {hc : xI} {g : xJ} {xs : Nat → Int32} {L c z : Nat} (s1 : Int32) (hr : xI) (r : (Int32 × xI)) (H : f_m_validate_36 s1 hr = some r) : Ex 5 115 (36, [some (.ref 27), none, none], [.int s1, .ref 27], xSt xG0 hc hr xs g L c z) (.inl (some (.int r.1)), xSt xG0 hc r.2 xs g L c z) := by
  unfold f_m_validate_36 at H
  refine Ex.putR (pc := 39) (k := 27) (j := 0) (v := s1) (ls := [some (.ref 27), none, none]) (st := []) (hr := hr) ?_ (by rfl) (by rfl)
  refine Ex.many (f' := (43, [some (.ref 27), none, none], [.int s1], xSt xG0 hc (xput hr 27 0 s1) xs g L c z)) ?_ 2 (by rfl)
  refine Ex.ite (ls := [some (.ref 27), none, none]) (st := []) (S := xSt xG0 hc (xput hr 27 0 s1) xs g L c z) (by rfl) (fun q1 => ?_) (fun q1 => ?_)
  · replace H := (if_pos q1).symm.trans H
    refine Ex.many (f' := (50, [some (.ref 27), none, none], [.int (0 : Int32), .ref 27], xSt xG0 hc (xput hr 27 0 s1) xs g L c z)) ?_ 2 (by rfl)
    refine Ex.putR (pc := 53) (k := 27) (j := 11) (v := (0 : Int32)) (ls := [some (.ref 27), none, none]) (st := []) (hr := (xput hr 27 0 s1)) ?_ (by rfl) (by rfl)
    refine Ex.many (f' := (55, [some (.ref 27), none, none], [.int (0 : Int32), .ref 27], xSt xG0 hc (xput (xput hr 27 0 s1) 27 11 (0 : Int32)) xs g L c z)) ?_ 2 (by rfl)
    refine Ex.putR (pc := 58) (k := 27) (j := 25) (v := (0 : Int32)) (ls := [some (.ref 27), none, none]) (st := []) (hr := (xput (xput hr 27 0 s1) 27 11 (0 : Int32))) ?_ (by rfl) (by rfl)
    refine Ex.many (f' := (60, [some (.ref 27), some (.int (0 : Int32)), none], [], xSt xG0 hc (xput (xput (xput hr 27 0 s1) 27 11 (0 : Int32)) 27 25 (0 : Int32)) xs g L c z)) ?_ 2 (by rfl)
    exact T_m_validate_60 1000 (0 : Int32) (xput (xput (xput hr 27 0 s1) 27 11 (0 : Int32)) 27 25 (0 : Int32)) r H
  · replace H := (if_neg q1).symm.trans H
    refine Ex.many (f' := (47, [none, none, none], [.int (0 : Int32)], xSt xG0 hc (xput hr 27 0 s1) xs g L c z)) ?_ 1 (by rfl)
    replace H := Option.some.inj H
    subst H
    exact Ex.done (by rfl)
def f_m_validate_31 (hr : xI) : Option (Int32 × xI) :=
  f_m_validate_36 (1 : Int32) hr
theorem T_m_validate_31 {hc : xI} {g : xJ} {xs : Nat → Int32} {L c z : Nat} (hr : xI) (r : (Int32 × xI)) (H : f_m_validate_31 hr = some r) : Ex 5 115 (31, [some (.ref 27), none, none], [.ref 27], xSt xG0 hc hr xs g L c z) (.inl (some (.int r.1)), xSt xG0 hc r.2 xs g L c z) := by
  unfold f_m_validate_31 at H
  refine Ex.many (f' := (36, [some (.ref 27), none, none], [.int (1 : Int32), .ref 27], xSt xG0 hc hr xs g L c z)) ?_ 2 (by rfl)
  exact T_m_validate_36 (1 : Int32) hr r H
def f_m_validate (hr : xI) : Option (Int32 × xI) :=
  if (hr 27 1) = 0 then (if (hr 27 4) = 0 then (f_m_validate_31 hr) else (xgd (hr 27 4) 7 (if (hr 27 2) ≤ (hr 29 (hr 27 4).toNatClampNeg) then (f_m_validate_36 (0 : Int32) hr) else (f_m_validate_31 hr)))) else (f_m_validate_31 hr)
theorem T_m_validate {hc : xI} {g : xJ} {xs : Nat → Int32} {L c z : Nat} (hr : xI) (r : (Int32 × xI)) (H : f_m_validate hr = some r) : Ex 5 115 (0, [some (.ref 27), none, none], [], xSt xG0 hc hr xs g L c z) (.inl (some (.int r.1)), xSt xG0 hc r.2 xs g L c z) := by
  unfold f_m_validate at H
  refine Ex.many (f' := (5, [some (.ref 27), none, none], [.int (hr 27 1), .ref 27], xSt xG0 hc hr xs g L c z)) ?_ 3 (by rfl)
  refine Ex.ite (ls := [some (.ref 27), none, none]) (st := [.ref 27]) (S := xSt xG0 hc hr xs g L c z) (by rfl) (fun q1 => ?_) (fun q1 => ?_)
  · replace H := (if_pos q1).symm.trans H
    refine Ex.many (f' := (12, [some (.ref 27), none, none], [.int (hr 27 4), .ref 27], xSt xG0 hc hr xs g L c z)) ?_ 2 (by rfl)
    refine Ex.ite (ls := [some (.ref 27), none, none]) (st := [.ref 27]) (S := xSt xG0 hc hr xs g L c z) (by rfl) (fun q2 => ?_) (fun q2 => ?_)
    · replace H := (if_pos q2).symm.trans H
      exact T_m_validate_31 hr r H
    · replace H := (if_neg q2).symm.trans H
      refine Ex.many (f' := (23, [some (.ref 27), none, none], [.int (hr 27 4), .ref 29, .ref 27], xSt xG0 hc hr xs g L c z)) ?_ 4 (by rfl)
      obtain ⟨g3, H⟩ := xgd_some H
      refine Ex.guard (f' := (24, [some (.ref 27), none, none], [.int (hr 29 (hr 27 4).toNatClampNeg), .ref 27], xSt xG0 hc hr xs g L c z)) (by rfl) g3 ?_
      refine Ex.many (f' := (28, [some (.ref 27), none, none], [.int (hr 27 2), .int (hr 29 (hr 27 4).toNatClampNeg), .ref 27], xSt xG0 hc hr xs g L c z)) ?_ 2 (by rfl)
      refine Ex.ite (ls := [some (.ref 27), none, none]) (st := [.ref 27]) (S := xSt xG0 hc hr xs g L c z) (by rfl) (fun q4 => ?_) (fun q4 => ?_)
      · replace H := (if_pos q4).symm.trans H
        refine Ex.many (f' := (36, [some (.ref 27), none, none], [.int (0 : Int32), .ref 27], xSt xG0 hc hr xs g L c z)) ?_ 1 (by rfl)
        exact T_m_validate_36 (0 : Int32) hr r H
      · replace H := (if_neg q4).symm.trans H
        exact T_m_validate_31 hr r H
  · replace H := (if_neg q1).symm.trans H
    exact T_m_validate_31 hr r H
def f_m_fault (a1 : Int32) (hr : xI) : Option (Int32 × xI) :=
  if a1 = 0 then (some ((hr 27 9), (xput hr 27 0 (0 : Int32)))) else (if a1 = (1 : Int32) then (some ((hr 27 10), (xput hr 27 0 (0 : Int32)))) else (some ((-1 : Int32), (xput hr 27 0 (0 : Int32)))))
theorem T_m_fault {hc : xI} {g : xJ} {xs : Nat → Int32} {L c z : Nat} (a1 : Int32) (hr : xI) (r : (Int32 × xI)) (H : f_m_fault a1 hr = some r) : Ex 0 136 (0, [some (.ref 27), some (.int a1)], [], xSt xG0 hc hr xs g L c z) (.inl (some (.int r.1)), xSt xG0 hc r.2 xs g L c z) := by
  unfold f_m_fault at H
  refine Ex.many (f' := (2, [some (.ref 27), some (.int a1)], [.int (0 : Int32), .ref 27], xSt xG0 hc hr xs g L c z)) ?_ 2 (by rfl)
  refine Ex.putR (pc := 5) (k := 27) (j := 0) (v := (0 : Int32)) (ls := [some (.ref 27), some (.int a1)]) (st := []) (hr := hr) ?_ (by rfl) (by rfl)
  refine Ex.many (f' := (6, [some (.ref 27), some (.int a1)], [.int a1], xSt xG0 hc (xput hr 27 0 (0 : Int32)) xs g L c z)) ?_ 1 (by rfl)
  refine Ex.ite (ls := [some (.ref 27), some (.int a1)]) (st := []) (S := xSt xG0 hc (xput hr 27 0 (0 : Int32)) xs g L c z) (by rfl) (fun q1 => ?_) (fun q1 => ?_)
  · replace H := (if_pos q1).symm.trans H
    refine Ex.many (f' := (29, [some (.ref 27), none], [.int (hr 27 9)], xSt xG0 hc (xput hr 27 0 (0 : Int32)) xs g L c z)) ?_ 3 (by rfl)
    replace H := Option.some.inj H
    subst H
    exact Ex.done (by rfl)
  · replace H := (if_neg q1).symm.trans H
    refine Ex.many (f' := (18, [some (.ref 27), some (.int a1)], [.int (1 : Int32), .int a1], xSt xG0 hc (xput hr 27 0 (0 : Int32)) xs g L c z)) ?_ 2 (by rfl)
    refine Ex.ite (ls := [some (.ref 27), some (.int a1)]) (st := []) (S := xSt xG0 hc (xput hr 27 0 (0 : Int32)) xs g L c z) (by rfl) (fun q2 => ?_) (fun q2 => ?_)
    · replace H := (if_pos q2).symm.trans H
      refine Ex.many (f' := (29, [some (.ref 27), none], [.int (hr 27 10)], xSt xG0 hc (xput hr 27 0 (0 : Int32)) xs g L c z)) ?_ 3 (by rfl)
      replace H := Option.some.inj H
      subst H
      exact Ex.done (by rfl)
    · replace H := (if_neg q2).symm.trans H
      refine Ex.many (f' := (29, [none, none], [.int (-1 : Int32)], xSt xG0 hc (xput hr 27 0 (0 : Int32)) xs g L c z)) ?_ 1 (by rfl)
      replace H := Option.some.inj H
      subst H
      exact Ex.done (by rfl)
def f_m_argument (a1 : Int32) (hr : xI) : Option (Int32 × xI) :=
  if (hr 27 29) = (4 : Int32) then (some ((-1 : Int32), (xput hr 27 0 (0 : Int32)))) else (xgd (hr 27 29) 4 (some (((hr 27 29) + (1 : Int32)), (xput (xput (xput hr 27 0 (0 : Int32)) 45 (hr 27 29).toNatClampNeg a1) 27 29 ((hr 27 29) + (1 : Int32))))))
theorem T_m_argument {hc : xI} {g : xJ} {xs : Nat → Int32} {L c z : Nat} (a1 : Int32) (hr : xI) (r : (Int32 × xI)) (H : f_m_argument a1 hr = some r) : Ex 0 137 (0, [some (.ref 27), some (.int a1)], [], xSt xG0 hc hr xs g L c z) (.inl (some (.int r.1)), xSt xG0 hc r.2 xs g L c z) := by
  unfold f_m_argument at H
  refine Ex.many (f' := (2, [some (.ref 27), some (.int a1)], [.int (0 : Int32), .ref 27], xSt xG0 hc hr xs g L c z)) ?_ 2 (by rfl)
  refine Ex.putR (pc := 5) (k := 27) (j := 0) (v := (0 : Int32)) (ls := [some (.ref 27), some (.int a1)]) (st := []) (hr := hr) ?_ (by rfl) (by rfl)
  refine Ex.many (f' := (10, [some (.ref 27), some (.int a1)], [.int (4 : Int32), .int (hr 27 29)], xSt xG0 hc (xput hr 27 0 (0 : Int32)) xs g L c z)) ?_ 3 (by rfl)
  refine Ex.ite (ls := [some (.ref 27), some (.int a1)]) (st := []) (S := xSt xG0 hc (xput hr 27 0 (0 : Int32)) xs g L c z) (by rfl) (fun q1 => ?_) (fun q1 => ?_)
  · replace H := (if_pos q1).symm.trans H
    refine Ex.many (f' := (14, [none, none], [.int (-1 : Int32)], xSt xG0 hc (xput hr 27 0 (0 : Int32)) xs g L c z)) ?_ 1 (by rfl)
    replace H := Option.some.inj H
    subst H
    exact Ex.done (by rfl)
  · replace H := (if_neg q1).symm.trans H
    refine Ex.many (f' := (24, [some (.ref 27), some (.int a1)], [.int a1, .int (hr 27 29), .ref 45], xSt xG0 hc (xput hr 27 0 (0 : Int32)) xs g L c z)) ?_ 5 (by rfl)
    obtain ⟨g2, H⟩ := xgd_some H
    refine Ex.gputR (pc := 25) (k := 45) (n := 4) (i := (hr 27 29)) (v := a1) (ls := [some (.ref 27), some (.int a1)]) (st := []) (hr := (xput hr 27 0 (0 : Int32))) ?_ (by rfl) g2 (by rfl)
    refine Ex.many (f' := (32, [some (.ref 27), some (.int a1)], [.int ((hr 27 29) + (1 : Int32)), .ref 27], xSt xG0 hc (xput (xput hr 27 0 (0 : Int32)) 45 (hr 27 29).toNatClampNeg a1) xs g L c z)) ?_ 5 (by rfl)
    refine Ex.putR (pc := 35) (k := 27) (j := 29) (v := ((hr 27 29) + (1 : Int32))) (ls := [some (.ref 27), some (.int a1)]) (st := []) (hr := (xput (xput hr 27 0 (0 : Int32)) 45 (hr 27 29).toNatClampNeg a1)) ?_ (by rfl) (by rfl)
    refine Ex.many (f' := (39, [some (.ref 27), some (.int a1)], [.int ((hr 27 29) + (1 : Int32))], xSt xG0 hc (xput (xput (xput hr 27 0 (0 : Int32)) 45 (hr 27 29).toNatClampNeg a1) 27 29 ((hr 27 29) + (1 : Int32))) xs g L c z)) ?_ 2 (by rfl)
    replace H := Option.some.inj H
    subst H
    exact Ex.done (by rfl)
def f_m_enter_92 (k : Int32 → Int32 → Int32 → xI → Option xI) (v1 : Int32) (v3 : Int32) (v4 : Int32) (s2 : Int32) (s1 : Int32) (hr : xI) : Option xI :=
  xgd s1 48 (k v1 v3 (v4 + (1 : Int32)) (xput hr 50 s1.toNatClampNeg s2))
theorem T_m_enter_92 {hc : xI} {g : xJ} {xs : Nat → Int32} {L c z : Nat} (k : Int32 → Int32 → Int32 → xI → Option xI) (hk : ∀ (v1 : Int32) (v3 : Int32) (v4 : Int32) (hr : xI) (r : xI), k v1 v3 v4 hr = some r → Ex 0 139 (47, [some (.ref 27), some (.int v1), none, some (.int v3), some (.int v4)], [], xSt xG0 hc hr xs g L c z) (.inl none, xSt xG0 hc r xs g L c z)) (v1 : Int32) (v3 : Int32) (v4 : Int32) (s2 : Int32) (s1 : Int32) (hr : xI) (r : xI) (H : f_m_enter_92 k v1 v3 v4 s2 s1 hr = some r) : Ex 0 139 (92, [some (.ref 27), some (.int v1), none, some (.int v3), some (.int v4)], [.int s2, .int s1, .ref 50], xSt xG0 hc hr xs g L c z) (.inl none, xSt xG0 hc r xs g L c z) := by
  unfold f_m_enter_92 at H
  obtain ⟨g1, H⟩ := xgd_some H
  refine Ex.gputR (pc := 93) (k := 50) (n := 48) (i := s1) (v := s2) (ls := [some (.ref 27), some (.int v1), none, some (.int v3), some (.int v4)]) (st := []) (hr := hr) ?_ (by rfl) g1 (by rfl)
  refine Ex.many (f' := (47, [some (.ref 27), some (.int v1), none, some (.int v3), some (.int (v4 + (1 : Int32)))], [], xSt xG0 hc (xput hr 50 s1.toNatClampNeg s2) xs g L c z)) ?_ 2 (by rfl)
  exact hk v1 v3 (v4 + (1 : Int32)) (xput hr 50 s1.toNatClampNeg s2) r H
def f_m_enter_47 : Nat → Int32 → Int32 → Int32 → xI → Option xI
  | 0, _, _, _, _ => none
  | n + 1, v1, v3, v4, hr => if (8 : Int32) ≤ v4 then (xgd v3 6 (xgd v1 7 (some (xput (xput hr 49 v3.toNatClampNeg (hr 27 33)) 27 32 (hr 29 v1.toNatClampNeg))))) else (xgd v1 6 (if (hr 30 v1.toNatClampNeg) ≤ v4 then (f_m_enter_92 (f_m_enter_47 n) v1 v3 v4 (0 : Int32) (((8 : Int32) * v3) + v4) hr) else (xgd ((hr 27 33) + v4) 101 (f_m_enter_92 (f_m_enter_47 n) v1 v3 v4 (hr 46 ((hr 27 33) + v4).toNatClampNeg) (((8 : Int32) * v3) + v4) hr))))
theorem T_m_enter_47 {hc : xI} {g : xJ} {xs : Nat → Int32} {L c z : Nat} (n : Nat) : ∀ (v1 : Int32) (v3 : Int32) (v4 : Int32) (hr : xI) (r : xI), f_m_enter_47 n v1 v3 v4 hr = some r → Ex 0 139 (47, [some (.ref 27), some (.int v1), none, some (.int v3), some (.int v4)], [], xSt xG0 hc hr xs g L c z) (.inl none, xSt xG0 hc r xs g L c z) := by
  induction n with
  | zero =>
    intro v1 v3 v4 hr r H
    unfold f_m_enter_47 at H
    cases H
  | succ n ih =>
    intro v1 v3 v4 hr r H
    unfold f_m_enter_47 at H
    refine Ex.many (f' := (51, [some (.ref 27), some (.int v1), none, some (.int v3), some (.int v4)], [.int (8 : Int32), .int v4], xSt xG0 hc hr xs g L c z)) ?_ 2 (by rfl)
    refine Ex.ite (ls := [some (.ref 27), some (.int v1), none, some (.int v3), some (.int v4)]) (st := []) (S := xSt xG0 hc hr xs g L c z) (by rfl) (fun q1 => ?_) (fun q1 => ?_)
    · replace H := (if_pos q1).symm.trans H
      refine Ex.many (f' := (108, [some (.ref 27), some (.int v1), none, some (.int v3), none], [.int (hr 27 33), .int v3, .ref 49], xSt xG0 hc hr xs g L c z)) ?_ 5 (by rfl)
      obtain ⟨g2, H⟩ := xgd_some H
      refine Ex.gputR (pc := 109) (k := 49) (n := 6) (i := v3) (v := (hr 27 33)) (ls := [some (.ref 27), some (.int v1), none, some (.int v3), none]) (st := []) (hr := hr) ?_ (by rfl) g2 (by rfl)
      refine Ex.many (f' := (115, [some (.ref 27), some (.int v1), none, some (.int v3), none], [.int v1, .ref 29, .ref 27], xSt xG0 hc (xput hr 49 v3.toNatClampNeg (hr 27 33)) xs g L c z)) ?_ 4 (by rfl)
      obtain ⟨g3, H⟩ := xgd_some H
      refine Ex.guard (f' := (116, [some (.ref 27), some (.int v1), none, some (.int v3), none], [.int (hr 29 v1.toNatClampNeg), .ref 27], xSt xG0 hc (xput hr 49 v3.toNatClampNeg (hr 27 33)) xs g L c z)) (by rfl) g3 ?_
      refine Ex.putR (pc := 119) (k := 27) (j := 32) (v := (hr 29 v1.toNatClampNeg)) (ls := [some (.ref 27), some (.int v1), none, some (.int v3), none]) (st := []) (hr := (xput hr 49 v3.toNatClampNeg (hr 27 33))) ?_ (by rfl) (by rfl)
      replace H := Option.some.inj H
      subst H
      exact Ex.done (by rfl)
    · replace H := (if_neg q1).symm.trans H
      refine Ex.many (f' := (72, [some (.ref 27), some (.int v1), none, some (.int v3), some (.int v4)], [.int v1, .ref 30, .int v4, .int (((8 : Int32) * v3) + v4), .ref 50], xSt xG0 hc hr xs g L c z)) ?_ 11 (by rfl)
      obtain ⟨g4, H⟩ := xgd_some H
      refine Ex.guard (f' := (73, [some (.ref 27), some (.int v1), none, some (.int v3), some (.int v4)], [.int (hr 30 v1.toNatClampNeg), .int v4, .int (((8 : Int32) * v3) + v4), .ref 50], xSt xG0 hc hr xs g L c z)) (by rfl) g4 ?_
      refine Ex.ite (ls := [some (.ref 27), some (.int v1), none, some (.int v3), some (.int v4)]) (st := [.int (((8 : Int32) * v3) + v4), .ref 50]) (S := xSt xG0 hc hr xs g L c z) (by rfl) (fun q5 => ?_) (fun q5 => ?_)
      · replace H := (if_pos q5).symm.trans H
        refine Ex.many (f' := (92, [some (.ref 27), some (.int v1), none, some (.int v3), some (.int v4)], [.int (0 : Int32), .int (((8 : Int32) * v3) + v4), .ref 50], xSt xG0 hc hr xs g L c z)) ?_ 1 (by rfl)
        exact T_m_enter_92 (f_m_enter_47 n) ih v1 v3 v4 (0 : Int32) (((8 : Int32) * v3) + v4) hr r H
      · replace H := (if_neg q5).symm.trans H
        refine Ex.many (f' := (87, [some (.ref 27), some (.int v1), none, some (.int v3), some (.int v4)], [.int ((hr 27 33) + v4), .ref 46, .int (((8 : Int32) * v3) + v4), .ref 50], xSt xG0 hc hr xs g L c z)) ?_ 6 (by rfl)
        obtain ⟨g6, H⟩ := xgd_some H
        refine Ex.guard (f' := (88, [some (.ref 27), some (.int v1), none, some (.int v3), some (.int v4)], [.int (hr 46 ((hr 27 33) + v4).toNatClampNeg), .int (((8 : Int32) * v3) + v4), .ref 50], xSt xG0 hc hr xs g L c z)) (by rfl) g6 ?_
        refine Ex.many (f' := (92, [some (.ref 27), some (.int v1), none, some (.int v3), some (.int v4)], [.int (hr 46 ((hr 27 33) + v4).toNatClampNeg), .int (((8 : Int32) * v3) + v4), .ref 50], xSt xG0 hc hr xs g L c z)) ?_ 1 (by rfl)
        exact T_m_enter_92 (f_m_enter_47 n) ih v1 v3 v4 (hr 46 ((hr 27 33) + v4).toNatClampNeg) (((8 : Int32) * v3) + v4) hr r H
def f_m_enter (a1 : Int32) (a2 : Int32) (hr : xI) : Option xI :=
  xgd (hr 27 35) 6 (xgd (hr 27 35) 6 (xgd a1 6 (f_m_enter_47 1000 a1 (hr 27 35) (0 : Int32) (xput (xput (xput (xput hr 27 35 ((hr 27 35) + (1 : Int32))) 47 (hr 27 35).toNatClampNeg a1) 48 (hr 27 35).toNatClampNeg a2) 27 33 ((hr 27 33) - (hr 30 a1.toNatClampNeg))))))
theorem T_m_enter {hc : xI} {g : xJ} {xs : Nat → Int32} {L c z : Nat} (a1 : Int32) (a2 : Int32) (hr : xI) (r : xI) (H : f_m_enter a1 a2 hr = some r) : Ex 0 139 (0, [some (.ref 27), some (.int a1), some (.int a2), none, none], [], xSt xG0 hc hr xs g L c z) (.inl none, xSt xG0 hc r xs g L c z) := by
  unfold f_m_enter at H
  refine Ex.many (f' := (12, [some (.ref 27), some (.int a1), some (.int a2), some (.int (hr 27 35)), none], [.int ((hr 27 35) + (1 : Int32)), .ref 27], xSt xG0 hc hr xs g L c z)) ?_ 8 (by rfl)
  refine Ex.putR (pc := 15) (k := 27) (j := 35) (v := ((hr 27 35) + (1 : Int32))) (ls := [some (.ref 27), some (.int a1), some (.int a2), some (.int (hr 27 35)), none]) (st := []) (hr := hr) ?_ (by rfl) (by rfl)
  refine Ex.many (f' := (21, [some (.ref 27), some (.int a1), some (.int a2), some (.int (hr 27 35)), none], [.int a1, .int (hr 27 35), .ref 47], xSt xG0 hc (xput hr 27 35 ((hr 27 35) + (1 : Int32))) xs g L c z)) ?_ 4 (by rfl)
  obtain ⟨g1, H⟩ := xgd_some H
  refine Ex.gputR (pc := 22) (k := 47) (n := 6) (i := (hr 27 35)) (v := a1) (ls := [some (.ref 27), some (.int a1), some (.int a2), some (.int (hr 27 35)), none]) (st := []) (hr := (xput hr 27 35 ((hr 27 35) + (1 : Int32)))) ?_ (by rfl) g1 (by rfl)
  refine Ex.many (f' := (28, [some (.ref 27), some (.int a1), some (.int a2), some (.int (hr 27 35)), none], [.int a2, .int (hr 27 35), .ref 48], xSt xG0 hc (xput (xput hr 27 35 ((hr 27 35) + (1 : Int32))) 47 (hr 27 35).toNatClampNeg a1) xs g L c z)) ?_ 4 (by rfl)
  obtain ⟨g2, H⟩ := xgd_some H
  refine Ex.gputR (pc := 29) (k := 48) (n := 6) (i := (hr 27 35)) (v := a2) (ls := [some (.ref 27), some (.int a1), some (.int a2), some (.int (hr 27 35)), none]) (st := []) (hr := (xput (xput hr 27 35 ((hr 27 35) + (1 : Int32))) 47 (hr 27 35).toNatClampNeg a1)) ?_ (by rfl) g2 (by rfl)
  refine Ex.many (f' := (39, [some (.ref 27), some (.int a1), some (.int a2), some (.int (hr 27 35)), none], [.int a1, .ref 30, .int (hr 27 33), .ref 27], xSt xG0 hc (xput (xput (xput hr 27 35 ((hr 27 35) + (1 : Int32))) 47 (hr 27 35).toNatClampNeg a1) 48 (hr 27 35).toNatClampNeg a2) xs g L c z)) ?_ 6 (by rfl)
  obtain ⟨g3, H⟩ := xgd_some H
  refine Ex.guard (f' := (40, [some (.ref 27), some (.int a1), some (.int a2), some (.int (hr 27 35)), none], [.int (hr 30 a1.toNatClampNeg), .int (hr 27 33), .ref 27], xSt xG0 hc (xput (xput (xput hr 27 35 ((hr 27 35) + (1 : Int32))) 47 (hr 27 35).toNatClampNeg a1) 48 (hr 27 35).toNatClampNeg a2) xs g L c z)) (by rfl) g3 ?_
  refine Ex.many (f' := (41, [some (.ref 27), some (.int a1), some (.int a2), some (.int (hr 27 35)), none], [.int ((hr 27 33) - (hr 30 a1.toNatClampNeg)), .ref 27], xSt xG0 hc (xput (xput (xput hr 27 35 ((hr 27 35) + (1 : Int32))) 47 (hr 27 35).toNatClampNeg a1) 48 (hr 27 35).toNatClampNeg a2) xs g L c z)) ?_ 1 (by rfl)
  refine Ex.putR (pc := 44) (k := 27) (j := 33) (v := ((hr 27 33) - (hr 30 a1.toNatClampNeg))) (ls := [some (.ref 27), some (.int a1), some (.int a2), some (.int (hr 27 35)), none]) (st := []) (hr := (xput (xput (xput hr 27 35 ((hr 27 35) + (1 : Int32))) 47 (hr 27 35).toNatClampNeg a1) 48 (hr 27 35).toNatClampNeg a2)) ?_ (by rfl) (by rfl)
  refine Ex.many (f' := (47, [some (.ref 27), some (.int a1), some (.int a2), some (.int (hr 27 35)), some (.int (0 : Int32))], [], xSt xG0 hc (xput (xput (xput (xput hr 27 35 ((hr 27 35) + (1 : Int32))) 47 (hr 27 35).toNatClampNeg a1) 48 (hr 27 35).toNatClampNeg a2) 27 33 ((hr 27 33) - (hr 30 a1.toNatClampNeg))) xs g L c z)) ?_ 2 (by rfl)
  refine Ex.kill (ls' := [some (.ref 27), some (.int a1), none, some (.int (hr 27 35)), some (.int (0 : Int32))]) (by rfl) ?_
  exact T_m_enter_47 1000 a1 (hr 27 35) (0 : Int32) (xput (xput (xput (xput hr 27 35 ((hr 27 35) + (1 : Int32))) 47 (hr 27 35).toNatClampNeg a1) 48 (hr 27 35).toNatClampNeg a2) 27 33 ((hr 27 33) - (hr 30 a1.toNatClampNeg))) r H
def f_m_invoke_92 : Nat → Int32 → Int32 → xI → Option xI
  | 0, _, _, _ => none
  | n + 1, v1, v2, hr => if (hr 27 29) ≤ v2 then ((f_m_enter v1 (-1 : Int32) (xput hr 27 29 (0 : Int32))).bind fun q2 => some q2) else (xgd v2 4 (xgd v2 101 (f_m_invoke_92 n v1 (v2 + (1 : Int32)) (xput hr 46 v2.toNatClampNeg (hr 45 v2.toNatClampNeg)))))
theorem T_m_invoke_92 {hc : xI} {g : xJ} {xs : Nat → Int32} {L c z : Nat} (n : Nat) : ∀ (v1 : Int32) (v2 : Int32) (hr : xI) (r : xI), f_m_invoke_92 n v1 v2 hr = some r → Ex 1 138 (92, [some (.ref 27), some (.int v1), some (.int v2)], [], xSt xG0 hc hr xs g L c z) (.inl none, xSt xG0 hc r xs g L c z) := by
  induction n with
  | zero =>
    intro v1 v2 hr r H
    unfold f_m_invoke_92 at H
    cases H
  | succ n ih =>
    intro v1 v2 hr r H
    unfold f_m_invoke_92 at H
    refine Ex.many (f' := (97, [some (.ref 27), some (.int v1), some (.int v2)], [.int (hr 27 29), .int v2], xSt xG0 hc hr xs g L c z)) ?_ 3 (by rfl)
    refine Ex.ite (ls := [some (.ref 27), some (.int v1), some (.int v2)]) (st := []) (S := xSt xG0 hc hr xs g L c z) (by rfl) (fun q1 => ?_) (fun q1 => ?_)
    · replace H := (if_pos q1).symm.trans H
      refine Ex.many (f' := (120, [some (.ref 27), some (.int v1), none], [.int (0 : Int32), .ref 27], xSt xG0 hc hr xs g L c z)) ?_ 2 (by rfl)
      refine Ex.putR (pc := 123) (k := 27) (j := 29) (v := (0 : Int32)) (ls := [some (.ref 27), some (.int v1), none]) (st := []) (hr := hr) ?_ (by rfl) (by rfl)
      refine Ex.many (f' := (126, [some (.ref 27), some (.int v1), none], [.int (-1 : Int32), .int v1, .ref 27], xSt xG0 hc (xput hr 27 29 (0 : Int32)) xs g L c z)) ?_ 3 (by rfl)
      obtain ⟨q2, hq2, H⟩ := xbd H
      refine Ex.call (mk := 139) (vs := [.ref 27, .int v1, .int (-1 : Int32)]) (rest := []) (by rfl) (by rfl) (Ex.up (T_m_enter v1 (-1 : Int32) (xput hr 27 29 (0 : Int32)) q2 hq2) (by decide)) (xbb c z) ?_
      show Ex _ _ (129, [some (.ref 27), some (.int v1), none], [], xSt xG0 hc q2 xs g L c z) _
      replace H := Option.some.inj H
      subst H
      exact Ex.done (by rfl)
    · replace H := (if_neg q1).symm.trans H
      refine Ex.many (f' := (110, [some (.ref 27), some (.int v1), some (.int v2)], [.int v2, .ref 45, .int v2, .ref 46], xSt xG0 hc hr xs g L c z)) ?_ 6 (by rfl)
      obtain ⟨g3, H⟩ := xgd_some H
      refine Ex.guard (f' := (111, [some (.ref 27), some (.int v1), some (.int v2)], [.int (hr 45 v2.toNatClampNeg), .int v2, .ref 46], xSt xG0 hc hr xs g L c z)) (by rfl) g3 ?_
      obtain ⟨g4, H⟩ := xgd_some H
      refine Ex.gputR (pc := 112) (k := 46) (n := 101) (i := v2) (v := (hr 45 v2.toNatClampNeg)) (ls := [some (.ref 27), some (.int v1), some (.int v2)]) (st := []) (hr := hr) ?_ (by rfl) g4 (by rfl)
      refine Ex.many (f' := (92, [some (.ref 27), some (.int v1), some (.int (v2 + (1 : Int32)))], [], xSt xG0 hc (xput hr 46 v2.toNatClampNeg (hr 45 v2.toNatClampNeg)) xs g L c z)) ?_ 2 (by rfl)
      exact ih v1 (v2 + (1 : Int32)) (xput hr 46 v2.toNatClampNeg (hr 45 v2.toNatClampNeg)) r H
def f_m_invoke_37 (v1 : Int32) (s1 : Int32) (hr : xI) : Option xI :=
  if s1 ≤ 0 then (xgd v1 6 (if (hr 27 29) = (hr 30 v1.toNatClampNeg) then (f_m_invoke_92 1000 v1 (0 : Int32) (xput (xput (xput (xput (xput hr 27 0 s1) 27 1 (2 : Int32)) 27 31 (0 : Int32)) 27 35 (0 : Int32)) 27 33 (hr 27 29))) else (some (xput (xput hr 27 0 s1) 27 0 (3 : Int32))))) else (some (xput hr 27 0 s1))
theorem T_m_invoke_37 {hc : xI} {g : xJ} {xs : Nat → Int32} {L c z : Nat} (v1 : Int32) (s1 : Int32) (hr : xI) (r : xI) (H : f_m_invoke_37 v1 s1 hr = some r) : Ex 1 138 (37, [some (.ref 27), some (.int v1), none], [.int s1, .ref 27], xSt xG0 hc hr xs g L c z) (.inl none, xSt xG0 hc r xs g L c z) := by
  unfold f_m_invoke_37 at H
  refine Ex.putR (pc := 40) (k := 27) (j := 0) (v := s1) (ls := [some (.ref 27), some (.int v1), none]) (st := []) (hr := hr) ?_ (by rfl) (by rfl)
  refine Ex.many (f' := (44, [some (.ref 27), some (.int v1), none], [.int s1], xSt xG0 hc (xput hr 27 0 s1) xs g L c z)) ?_ 2 (by rfl)
  refine Ex.ite (ls := [some (.ref 27), some (.int v1), none]) (st := []) (S := xSt xG0 hc (xput hr 27 0 s1) xs g L c z) (by rfl) (fun q1 => ?_) (fun q1 => ?_)
  · replace H := (if_pos q1).symm.trans H
    refine Ex.many (f' := (57, [some (.ref 27), some (.int v1), none], [.int v1, .ref 30, .int (hr 27 29)], xSt xG0 hc (xput hr 27 0 s1) xs g L c z)) ?_ 5 (by rfl)
    obtain ⟨g2, H⟩ := xgd_some H
    refine Ex.guard (f' := (58, [some (.ref 27), some (.int v1), none], [.int (hr 30 v1.toNatClampNeg), .int (hr 27 29)], xSt xG0 hc (xput hr 27 0 s1) xs g L c z)) (by rfl) g2 ?_
    refine Ex.ite (ls := [some (.ref 27), some (.int v1), none]) (st := []) (S := xSt xG0 hc (xput hr 27 0 s1) xs g L c z) (by rfl) (fun q3 => ?_) (fun q3 => ?_)
    · replace H := (if_pos q3).symm.trans H
      refine Ex.many (f' := (69, [some (.ref 27), some (.int v1), none], [.int (2 : Int32), .ref 27], xSt xG0 hc (xput hr 27 0 s1) xs g L c z)) ?_ 2 (by rfl)
      refine Ex.putR (pc := 72) (k := 27) (j := 1) (v := (2 : Int32)) (ls := [some (.ref 27), some (.int v1), none]) (st := []) (hr := (xput hr 27 0 s1)) ?_ (by rfl) (by rfl)
      refine Ex.many (f' := (74, [some (.ref 27), some (.int v1), none], [.int (0 : Int32), .ref 27], xSt xG0 hc (xput (xput hr 27 0 s1) 27 1 (2 : Int32)) xs g L c z)) ?_ 2 (by rfl)
      refine Ex.putR (pc := 77) (k := 27) (j := 31) (v := (0 : Int32)) (ls := [some (.ref 27), some (.int v1), none]) (st := []) (hr := (xput (xput hr 27 0 s1) 27 1 (2 : Int32))) ?_ (by rfl) (by rfl)
      refine Ex.many (f' := (79, [some (.ref 27), some (.int v1), none], [.int (0 : Int32), .ref 27], xSt xG0 hc (xput (xput (xput hr 27 0 s1) 27 1 (2 : Int32)) 27 31 (0 : Int32)) xs g L c z)) ?_ 2 (by rfl)
      refine Ex.putR (pc := 82) (k := 27) (j := 35) (v := (0 : Int32)) (ls := [some (.ref 27), some (.int v1), none]) (st := []) (hr := (xput (xput (xput hr 27 0 s1) 27 1 (2 : Int32)) 27 31 (0 : Int32))) ?_ (by rfl) (by rfl)
      refine Ex.many (f' := (87, [some (.ref 27), some (.int v1), none], [.int (hr 27 29), .ref 27], xSt xG0 hc (xput (xput (xput (xput hr 27 0 s1) 27 1 (2 : Int32)) 27 31 (0 : Int32)) 27 35 (0 : Int32)) xs g L c z)) ?_ 3 (by rfl)
      refine Ex.putR (pc := 90) (k := 27) (j := 33) (v := (hr 27 29)) (ls := [some (.ref 27), some (.int v1), none]) (st := []) (hr := (xput (xput (xput (xput hr 27 0 s1) 27 1 (2 : Int32)) 27 31 (0 : Int32)) 27 35 (0 : Int32))) ?_ (by rfl) (by rfl)
      refine Ex.many (f' := (92, [some (.ref 27), some (.int v1), some (.int (0 : Int32))], [], xSt xG0 hc (xput (xput (xput (xput (xput hr 27 0 s1) 27 1 (2 : Int32)) 27 31 (0 : Int32)) 27 35 (0 : Int32)) 27 33 (hr 27 29)) xs g L c z)) ?_ 2 (by rfl)
      exact T_m_invoke_92 1000 v1 (0 : Int32) (xput (xput (xput (xput (xput hr 27 0 s1) 27 1 (2 : Int32)) 27 31 (0 : Int32)) 27 35 (0 : Int32)) 27 33 (hr 27 29)) r H
    · replace H := (if_neg q3).symm.trans H
      refine Ex.many (f' := (63, [some (.ref 27), none, none], [.int (3 : Int32), .ref 27], xSt xG0 hc (xput hr 27 0 s1) xs g L c z)) ?_ 2 (by rfl)
      refine Ex.putR (pc := 66) (k := 27) (j := 0) (v := (3 : Int32)) (ls := [some (.ref 27), none, none]) (st := []) (hr := (xput hr 27 0 s1)) ?_ (by rfl) (by rfl)
      replace H := Option.some.inj H
      subst H
      exact Ex.done (by rfl)
  · replace H := (if_neg q1).symm.trans H
    replace H := Option.some.inj H
    subst H
    exact Ex.done (by rfl)
def f_m_invoke_16 (v1 : Int32) (hr : xI) : Option xI :=
  f_m_invoke_37 v1 (1 : Int32) hr
theorem T_m_invoke_16 {hc : xI} {g : xJ} {xs : Nat → Int32} {L c z : Nat} (v1 : Int32) (hr : xI) (r : xI) (H : f_m_invoke_16 v1 hr = some r) : Ex 1 138 (16, [some (.ref 27), some (.int v1), none], [.ref 27], xSt xG0 hc hr xs g L c z) (.inl none, xSt xG0 hc r xs g L c z) := by
  unfold f_m_invoke_16 at H
  refine Ex.many (f' := (37, [some (.ref 27), some (.int v1), none], [.int (1 : Int32), .ref 27], xSt xG0 hc hr xs g L c z)) ?_ 2 (by rfl)
  exact T_m_invoke_37 v1 (1 : Int32) hr r H
def f_m_invoke_32 (v1 : Int32) (hr : xI) : Option xI :=
  f_m_invoke_37 v1 (2 : Int32) hr
theorem T_m_invoke_32 {hc : xI} {g : xJ} {xs : Nat → Int32} {L c z : Nat} (v1 : Int32) (hr : xI) (r : xI) (H : f_m_invoke_32 v1 hr = some r) : Ex 1 138 (32, [some (.ref 27), some (.int v1), none], [.ref 27], xSt xG0 hc hr xs g L c z) (.inl none, xSt xG0 hc r xs g L c z) := by
  unfold f_m_invoke_32 at H
  refine Ex.many (f' := (37, [some (.ref 27), some (.int v1), none], [.int (2 : Int32), .ref 27], xSt xG0 hc hr xs g L c z)) ?_ 2 (by rfl)
  exact T_m_invoke_37 v1 (2 : Int32) hr r H
def f_m_invoke (a1 : Int32) (hr : xI) : Option xI :=
  if (hr 27 1) = 0 then (f_m_invoke_16 a1 hr) else (if (hr 27 1) = (2 : Int32) then (f_m_invoke_16 a1 hr) else (if a1 < 0 then (f_m_invoke_32 a1 hr) else (if a1 < (hr 27 4) then (f_m_invoke_37 a1 (0 : Int32) hr) else (f_m_invoke_32 a1 hr))))
theorem T_m_invoke {hc : xI} {g : xJ} {xs : Nat → Int32} {L c z : Nat} (a1 : Int32) (hr : xI) (r : xI) (H : f_m_invoke a1 hr = some r) : Ex 1 138 (0, [some (.ref 27), some (.int a1), none], [], xSt xG0 hc hr xs g L c z) (.inl none, xSt xG0 hc r xs g L c z) := by
  unfold f_m_invoke at H
  refine Ex.many (f' := (5, [some (.ref 27), some (.int a1), none], [.int (hr 27 1), .ref 27], xSt xG0 hc hr xs g L c z)) ?_ 3 (by rfl)
  refine Ex.ite (ls := [some (.ref 27), some (.int a1), none]) (st := [.ref 27]) (S := xSt xG0 hc hr xs g L c z) (by rfl) (fun q1 => ?_) (fun q1 => ?_)
  · replace H := (if_pos q1).symm.trans H
    exact T_m_invoke_16 a1 hr r H
  · replace H := (if_neg q1).symm.trans H
    refine Ex.many (f' := (13, [some (.ref 27), some (.int a1), none], [.int (2 : Int32), .int (hr 27 1), .ref 27], xSt xG0 hc hr xs g L c z)) ?_ 3 (by rfl)
    refine Ex.ite (ls := [some (.ref 27), some (.int a1), none]) (st := [.ref 27]) (S := xSt xG0 hc hr xs g L c z) (by rfl) (fun q2 => ?_) (fun q2 => ?_)
    · replace H := (if_pos q2).symm.trans H
      exact T_m_invoke_16 a1 hr r H
    · replace H := (if_neg q2).symm.trans H
      refine Ex.many (f' := (21, [some (.ref 27), some (.int a1), none], [.int a1, .ref 27], xSt xG0 hc hr xs g L c z)) ?_ 1 (by rfl)
      refine Ex.ite (ls := [some (.ref 27), some (.int a1), none]) (st := [.ref 27]) (S := xSt xG0 hc hr xs g L c z) (by rfl) (fun q3 => ?_) (fun q3 => ?_)
      · replace H := (if_pos q3).symm.trans H
        exact T_m_invoke_32 a1 hr r H
      · replace H := (if_neg q3).symm.trans H
        refine Ex.many (f' := (29, [some (.ref 27), some (.int a1), none], [.int (hr 27 4), .int a1, .ref 27], xSt xG0 hc hr xs g L c z)) ?_ 3 (by rfl)
        refine Ex.ite (ls := [some (.ref 27), some (.int a1), none]) (st := [.ref 27]) (S := xSt xG0 hc hr xs g L c z) (by rfl) (fun q4 => ?_) (fun q4 => ?_)
        · replace H := (if_pos q4).symm.trans H
          refine Ex.many (f' := (37, [some (.ref 27), some (.int a1), none], [.int (0 : Int32), .ref 27], xSt xG0 hc hr xs g L c z)) ?_ 1 (by rfl)
          exact T_m_invoke_37 a1 (0 : Int32) hr r H
        · replace H := (if_neg q4).symm.trans H
          exact T_m_invoke_32 a1 hr r H
def f_m_isLoad (a0 : Int32) : Int32 :=
  if a0 = (40 : Int32) then (1 : Int32) else (if a0 < (44 : Int32) then (0 : Int32) else (if (47 : Int32) < a0 then (0 : Int32) else (1 : Int32)))
theorem T_m_isLoad {hc : xI} {hr : xI} {g : xJ} {xs : Nat → Int32} {L c z : Nat} (a0 : Int32) (r : Int32) (H : f_m_isLoad a0 = r) : Ex 0 143 (0, [some (.int a0)], [], xSt xG0 hc hr xs g L c z) (.inl (some (.int r)), xSt xG0 hc hr xs g L c z) := by
  unfold f_m_isLoad at H
  refine Ex.many (f' := (3, [some (.int a0)], [.int (40 : Int32), .int a0], xSt xG0 hc hr xs g L c z)) ?_ 2 (by rfl)
  refine Ex.ite (ls := [some (.int a0)]) (st := []) (S := xSt xG0 hc hr xs g L c z) (by rfl) (fun q1 => ?_) (fun q1 => ?_)
  · replace H := (if_pos q1).symm.trans H
    refine Ex.many (f' := (23, [none], [.int (1 : Int32)], xSt xG0 hc hr xs g L c z)) ?_ 2 (by rfl)
    skip
    subst H
    exact Ex.done (by rfl)
  · replace H := (if_neg q1).symm.trans H
    refine Ex.many (f' := (9, [some (.int a0)], [.int (44 : Int32), .int a0], xSt xG0 hc hr xs g L c z)) ?_ 2 (by rfl)
    refine Ex.ite (ls := [some (.int a0)]) (st := []) (S := xSt xG0 hc hr xs g L c z) (by rfl) (fun q2 => ?_) (fun q2 => ?_)
    · replace H := (if_pos q2).symm.trans H
      refine Ex.many (f' := (23, [none], [.int (0 : Int32)], xSt xG0 hc hr xs g L c z)) ?_ 1 (by rfl)
      skip
      subst H
      exact Ex.done (by rfl)
    · replace H := (if_neg q2).symm.trans H
      refine Ex.many (f' := (15, [some (.int a0)], [.int (47 : Int32), .int a0], xSt xG0 hc hr xs g L c z)) ?_ 2 (by rfl)
      refine Ex.ite (ls := [some (.int a0)]) (st := []) (S := xSt xG0 hc hr xs g L c z) (by rfl) (fun q3 => ?_) (fun q3 => ?_)
      · replace H := (if_pos q3).symm.trans H
        refine Ex.many (f' := (23, [none], [.int (0 : Int32)], xSt xG0 hc hr xs g L c z)) ?_ 1 (by rfl)
        skip
        subst H
        exact Ex.done (by rfl)
      · replace H := (if_neg q3).symm.trans H
        refine Ex.many (f' := (23, [none], [.int (1 : Int32)], xSt xG0 hc hr xs g L c z)) ?_ 2 (by rfl)
        skip
        subst H
        exact Ex.done (by rfl)
