/-! Methods as functions. -/
def f_m_suits_122 (v3 : Int32) (hr : xI) : Option Int32 :=
  if v3 < 0 then (some (0 : Int32)) else (if (4 : Int32) ≤ v3 then (some (0 : Int32)) else (some (1 : Int32)))
theorem T_m_suits_122 {hc : xI} {g : xJ} {xs : Nat → Int32} {L c z : Nat} (v3 : Int32) (hr : xI) (r : Int32) (H : f_m_suits_122 v3 hr = some r) : Ex 0 122 (122, [none, none, none, some (.int v3)], [], xSt xG0 hc hr xs g L c z) (.inl (some (.int r)), xSt xG0 hc hr xs g L c z) := by
  unfold f_m_suits_122 at H
  refine Ex.many (f' := (123, [none, none, none, some (.int v3)], [.int v3], xSt xG0 hc hr xs g L c z)) ?_ 1 (by rfl)
  refine Ex.ite (ls := [none, none, none, some (.int v3)]) (st := []) (S := xSt xG0 hc hr xs g L c z) (by rfl) (fun q1 => ?_) (fun q1 => ?_)
  · replace H := (if_pos q1).symm.trans H
    refine Ex.many (f' := (136, [none, none, none, none], [.int (0 : Int32)], xSt xG0 hc hr xs g L c z)) ?_ 1 (by rfl)
    replace H := Option.some.inj H
    subst H
    exact Ex.done (by rfl)
  · replace H := (if_neg q1).symm.trans H
    refine Ex.many (f' := (128, [none, none, none, some (.int v3)], [.int (4 : Int32), .int v3], xSt xG0 hc hr xs g L c z)) ?_ 2 (by rfl)
    refine Ex.ite (ls := [none, none, none, some (.int v3)]) (st := []) (S := xSt xG0 hc hr xs g L c z) (by rfl) (fun q2 => ?_) (fun q2 => ?_)
    · replace H := (if_pos q2).symm.trans H
      refine Ex.many (f' := (136, [none, none, none, none], [.int (0 : Int32)], xSt xG0 hc hr xs g L c z)) ?_ 1 (by rfl)
      replace H := Option.some.inj H
      subst H
      exact Ex.done (by rfl)
    · replace H := (if_neg q2).symm.trans H
      refine Ex.many (f' := (136, [none, none, none, none], [.int (1 : Int32)], xSt xG0 hc hr xs g L c z)) ?_ 2 (by rfl)
      replace H := Option.some.inj H
      subst H
      exact Ex.done (by rfl)
def f_m_suits_110 (v2 : Int32) (v3 : Int32) (hr : xI) : Option Int32 :=
  if v2 = (35 : Int32) then (f_m_suits_122 v3 hr) else (if v2 = (36 : Int32) then (f_m_suits_122 v3 hr) else (if v2 < (40 : Int32) then (some (1 : Int32)) else (if (59 : Int32) < v2 then (some (1 : Int32)) else (if v3 < 0 then (some (0 : Int32)) else (some (1 : Int32))))))
theorem T_m_suits_110 {hc : xI} {g : xJ} {xs : Nat → Int32} {L c z : Nat} (v2 : Int32) (v3 : Int32) (hr : xI) (r : Int32) (H : f_m_suits_110 v2 v3 hr = some r) : Ex 0 122 (110, [none, none, some (.int v2), some (.int v3)], [], xSt xG0 hc hr xs g L c z) (.inl (some (.int r)), xSt xG0 hc hr xs g L c z) := by
  unfold f_m_suits_110 at H
  refine Ex.many (f' := (113, [none, none, some (.int v2), some (.int v3)], [.int (35 : Int32), .int v2], xSt xG0 hc hr xs g L c z)) ?_ 2 (by rfl)
  refine Ex.ite (ls := [none, none, some (.int v2), some (.int v3)]) (st := []) (S := xSt xG0 hc hr xs g L c z) (by rfl) (fun q1 => ?_) (fun q1 => ?_)
  · replace H := (if_pos q1).symm.trans H
    refine Ex.kill (ls' := [none, none, none, some (.int v3)]) (by rfl) ?_
    exact T_m_suits_122 v3 hr r H
  · replace H := (if_neg q1).symm.trans H
    refine Ex.many (f' := (119, [none, none, some (.int v2), some (.int v3)], [.int (36 : Int32), .int v2], xSt xG0 hc hr xs g L c z)) ?_ 2 (by rfl)
    refine Ex.ite (ls := [none, none, some (.int v2), some (.int v3)]) (st := []) (S := xSt xG0 hc hr xs g L c z) (by rfl) (fun q2 => ?_) (fun q2 => ?_)
    · replace H := (if_pos q2).symm.trans H
      refine Ex.kill (ls' := [none, none, none, some (.int v3)]) (by rfl) ?_
      exact T_m_suits_122 v3 hr r H
    · replace H := (if_neg q2).symm.trans H
      refine Ex.many (f' := (140, [none, none, some (.int v2), some (.int v3)], [.int (40 : Int32), .int v2], xSt xG0 hc hr xs g L c z)) ?_ 2 (by rfl)
      refine Ex.ite (ls := [none, none, some (.int v2), some (.int v3)]) (st := []) (S := xSt xG0 hc hr xs g L c z) (by rfl) (fun q3 => ?_) (fun q3 => ?_)
      · replace H := (if_pos q3).symm.trans H
        refine Ex.many (f' := (158, [none, none, none, none], [.int (1 : Int32)], xSt xG0 hc hr xs g L c z)) ?_ 2 (by rfl)
        replace H := Option.some.inj H
        subst H
        exact Ex.done (by rfl)
      · replace H := (if_neg q3).symm.trans H
        refine Ex.many (f' := (146, [none, none, some (.int v2), some (.int v3)], [.int (59 : Int32), .int v2], xSt xG0 hc hr xs g L c z)) ?_ 2 (by rfl)
        refine Ex.ite (ls := [none, none, some (.int v2), some (.int v3)]) (st := []) (S := xSt xG0 hc hr xs g L c z) (by rfl) (fun q4 => ?_) (fun q4 => ?_)
        · replace H := (if_pos q4).symm.trans H
          refine Ex.many (f' := (158, [none, none, none, none], [.int (1 : Int32)], xSt xG0 hc hr xs g L c z)) ?_ 2 (by rfl)
          replace H := Option.some.inj H
          subst H
          exact Ex.done (by rfl)
        · replace H := (if_neg q4).symm.trans H
          refine Ex.many (f' := (150, [none, none, none, some (.int v3)], [.int v3], xSt xG0 hc hr xs g L c z)) ?_ 1 (by rfl)
          refine Ex.ite (ls := [none, none, none, some (.int v3)]) (st := []) (S := xSt xG0 hc hr xs g L c z) (by rfl) (fun q5 => ?_) (fun q5 => ?_)
          · replace H := (if_pos q5).symm.trans H
            refine Ex.many (f' := (158, [none, none, none, none], [.int (0 : Int32)], xSt xG0 hc hr xs g L c z)) ?_ 1 (by rfl)
            replace H := Option.some.inj H
            subst H
            exact Ex.done (by rfl)
          · replace H := (if_neg q5).symm.trans H
            refine Ex.many (f' := (158, [none, none, none, none], [.int (1 : Int32)], xSt xG0 hc hr xs g L c z)) ?_ 2 (by rfl)
            replace H := Option.some.inj H
            subst H
            exact Ex.done (by rfl)
def f_m_suits_25 (v1 : Int32) (v2 : Int32) (v3 : Int32) (hr : xI) : Option Int32 :=
  if v2 = (14 : Int32) then (if v3 < 0 then (some (0 : Int32)) else (if (8 : Int32) < v3 then (some (0 : Int32)) else (some (1 : Int32)))) else (if v2 = (16 : Int32) then (if v3 < 0 then (some (0 : Int32)) else (if (hr 27 4) ≤ v3 then (some (0 : Int32)) else (some (1 : Int32)))) else (if v2 < (32 : Int32) then (f_m_suits_110 v2 v3 hr) else (if (34 : Int32) < v2 then (f_m_suits_110 v2 v3 hr) else (if v3 < 0 then (some (0 : Int32)) else (xgd v1 6 (xgd v1 6 (if ((hr 30 v1.toNatClampNeg) + (hr 31 v1.toNatClampNeg)) ≤ v3 then (some (0 : Int32)) else (some (1 : Int32)))))))))
theorem T_m_suits_25 {hc : xI} {g : xJ} {xs : Nat → Int32} {L c z : Nat} (v1 : Int32) (v2 : Int32) (v3 : Int32) (hr : xI) (r : Int32) (H : f_m_suits_25 v1 v2 v3 hr = some r) : Ex 0 122 (25, [some (.ref 27), some (.int v1), some (.int v2), some (.int v3)], [], xSt xG0 hc hr xs g L c z) (.inl (some (.int r)), xSt xG0 hc hr xs g L c z) := by
  unfold f_m_suits_25 at H
  refine Ex.many (f' := (28, [some (.ref 27), some (.int v1), some (.int v2), some (.int v3)], [.int (14 : Int32), .int v2], xSt xG0 hc hr xs g L c z)) ?_ 2 (by rfl)
  refine Ex.ite (ls := [some (.ref 27), some (.int v1), some (.int v2), some (.int v3)]) (st := []) (S := xSt xG0 hc hr xs g L c z) (by rfl) (fun q1 => ?_) (fun q1 => ?_)
  · replace H := (if_pos q1).symm.trans H
    refine Ex.many (f' := (32, [none, none, none, some (.int v3)], [.int v3], xSt xG0 hc hr xs g L c z)) ?_ 1 (by rfl)
    refine Ex.ite (ls := [none, none, none, some (.int v3)]) (st := []) (S := xSt xG0 hc hr xs g L c z) (by rfl) (fun q2 => ?_) (fun q2 => ?_)
    · replace H := (if_pos q2).symm.trans H
      refine Ex.many (f' := (46, [none, none, none, none], [.int (0 : Int32)], xSt xG0 hc hr xs g L c z)) ?_ 1 (by rfl)
      replace H := Option.some.inj H
      subst H
      exact Ex.done (by rfl)
    · replace H := (if_neg q2).symm.trans H
      refine Ex.many (f' := (38, [none, none, none, some (.int v3)], [.int (8 : Int32), .int v3], xSt xG0 hc hr xs g L c z)) ?_ 2 (by rfl)
      refine Ex.ite (ls := [none, none, none, some (.int v3)]) (st := []) (S := xSt xG0 hc hr xs g L c z) (by rfl) (fun q3 => ?_) (fun q3 => ?_)
      · replace H := (if_pos q3).symm.trans H
        refine Ex.many (f' := (46, [none, none, none, none], [.int (0 : Int32)], xSt xG0 hc hr xs g L c z)) ?_ 1 (by rfl)
        replace H := Option.some.inj H
        subst H
        exact Ex.done (by rfl)
      · replace H := (if_neg q3).symm.trans H
        refine Ex.many (f' := (46, [none, none, none, none], [.int (1 : Int32)], xSt xG0 hc hr xs g L c z)) ?_ 2 (by rfl)
        replace H := Option.some.inj H
        subst H
        exact Ex.done (by rfl)
  · replace H := (if_neg q1).symm.trans H
    refine Ex.many (f' := (50, [some (.ref 27), some (.int v1), some (.int v2), some (.int v3)], [.int (16 : Int32), .int v2], xSt xG0 hc hr xs g L c z)) ?_ 2 (by rfl)
    refine Ex.ite (ls := [some (.ref 27), some (.int v1), some (.int v2), some (.int v3)]) (st := []) (S := xSt xG0 hc hr xs g L c z) (by rfl) (fun q4 => ?_) (fun q4 => ?_)
    · replace H := (if_pos q4).symm.trans H
      refine Ex.many (f' := (54, [some (.ref 27), none, none, some (.int v3)], [.int v3], xSt xG0 hc hr xs g L c z)) ?_ 1 (by rfl)
      refine Ex.ite (ls := [some (.ref 27), none, none, some (.int v3)]) (st := []) (S := xSt xG0 hc hr xs g L c z) (by rfl) (fun q5 => ?_) (fun q5 => ?_)
      · replace H := (if_pos q5).symm.trans H
        refine Ex.many (f' := (70, [none, none, none, none], [.int (0 : Int32)], xSt xG0 hc hr xs g L c z)) ?_ 1 (by rfl)
        replace H := Option.some.inj H
        subst H
        exact Ex.done (by rfl)
      · replace H := (if_neg q5).symm.trans H
        refine Ex.many (f' := (62, [some (.ref 27), none, none, some (.int v3)], [.int (hr 27 4), .int v3], xSt xG0 hc hr xs g L c z)) ?_ 3 (by rfl)
        refine Ex.ite (ls := [some (.ref 27), none, none, some (.int v3)]) (st := []) (S := xSt xG0 hc hr xs g L c z) (by rfl) (fun q6 => ?_) (fun q6 => ?_)
        · replace H := (if_pos q6).symm.trans H
          refine Ex.many (f' := (70, [none, none, none, none], [.int (0 : Int32)], xSt xG0 hc hr xs g L c z)) ?_ 1 (by rfl)
          replace H := Option.some.inj H
          subst H
          exact Ex.done (by rfl)
        · replace H := (if_neg q6).symm.trans H
          refine Ex.many (f' := (70, [none, none, none, none], [.int (1 : Int32)], xSt xG0 hc hr xs g L c z)) ?_ 2 (by rfl)
          replace H := Option.some.inj H
          subst H
          exact Ex.done (by rfl)
    · replace H := (if_neg q4).symm.trans H
      refine Ex.many (f' := (74, [some (.ref 27), some (.int v1), some (.int v2), some (.int v3)], [.int (32 : Int32), .int v2], xSt xG0 hc hr xs g L c z)) ?_ 2 (by rfl)
      refine Ex.ite (ls := [some (.ref 27), some (.int v1), some (.int v2), some (.int v3)]) (st := []) (S := xSt xG0 hc hr xs g L c z) (by rfl) (fun q7 => ?_) (fun q7 => ?_)
      · replace H := (if_pos q7).symm.trans H
        refine Ex.kill (ls' := [none, none, some (.int v2), some (.int v3)]) (by rfl) ?_
        exact T_m_suits_110 v2 v3 hr r H
      · replace H := (if_neg q7).symm.trans H
        refine Ex.many (f' := (80, [some (.ref 27), some (.int v1), some (.int v2), some (.int v3)], [.int (34 : Int32), .int v2], xSt xG0 hc hr xs g L c z)) ?_ 2 (by rfl)
        refine Ex.ite (ls := [some (.ref 27), some (.int v1), some (.int v2), some (.int v3)]) (st := []) (S := xSt xG0 hc hr xs g L c z) (by rfl) (fun q8 => ?_) (fun q8 => ?_)
        · replace H := (if_pos q8).symm.trans H
          refine Ex.kill (ls' := [none, none, some (.int v2), some (.int v3)]) (by rfl) ?_
          exact T_m_suits_110 v2 v3 hr r H
        · replace H := (if_neg q8).symm.trans H
          refine Ex.many (f' := (84, [some (.ref 27), some (.int v1), none, some (.int v3)], [.int v3], xSt xG0 hc hr xs g L c z)) ?_ 1 (by rfl)
          refine Ex.ite (ls := [some (.ref 27), some (.int v1), none, some (.int v3)]) (st := []) (S := xSt xG0 hc hr xs g L c z) (by rfl) (fun q9 => ?_) (fun q9 => ?_)
          · replace H := (if_pos q9).symm.trans H
            refine Ex.many (f' := (109, [none, none, none, none], [.int (0 : Int32)], xSt xG0 hc hr xs g L c z)) ?_ 1 (by rfl)
            replace H := Option.some.inj H
            subst H
            exact Ex.done (by rfl)
          · replace H := (if_neg q9).symm.trans H
            refine Ex.many (f' := (93, [some (.ref 27), some (.int v1), none, some (.int v3)], [.int v1, .ref 30, .int v3], xSt xG0 hc hr xs g L c z)) ?_ 4 (by rfl)
            obtain ⟨g10, H⟩ := xgd_some H
            refine Ex.guard (f' := (94, [some (.ref 27), some (.int v1), none, some (.int v3)], [.int (hr 30 v1.toNatClampNeg), .int v3], xSt xG0 hc hr xs g L c z)) (by rfl) g10 ?_
            refine Ex.many (f' := (99, [some (.ref 27), some (.int v1), none, some (.int v3)], [.int v1, .ref 31, .int (hr 30 v1.toNatClampNeg), .int v3], xSt xG0 hc hr xs g L c z)) ?_ 3 (by rfl)
            obtain ⟨g11, H⟩ := xgd_some H
            refine Ex.guard (f' := (100, [some (.ref 27), some (.int v1), none, some (.int v3)], [.int (hr 31 v1.toNatClampNeg), .int (hr 30 v1.toNatClampNeg), .int v3], xSt xG0 hc hr xs g L c z)) (by rfl) g11 ?_
            refine Ex.many (f' := (101, [some (.ref 27), some (.int v1), none, some (.int v3)], [.int ((hr 30 v1.toNatClampNeg) + (hr 31 v1.toNatClampNeg)), .int v3], xSt xG0 hc hr xs g L c z)) ?_ 1 (by rfl)
            refine Ex.ite (ls := [some (.ref 27), some (.int v1), none, some (.int v3)]) (st := []) (S := xSt xG0 hc hr xs g L c z) (by rfl) (fun q12 => ?_) (fun q12 => ?_)
            · replace H := (if_pos q12).symm.trans H
              refine Ex.many (f' := (109, [none, none, none, none], [.int (0 : Int32)], xSt xG0 hc hr xs g L c z)) ?_ 1 (by rfl)
              replace H := Option.some.inj H
              subst H
              exact Ex.done (by rfl)
            · replace H := (if_neg q12).symm.trans H
              refine Ex.many (f' := (109, [none, none, none, none], [.int (1 : Int32)], xSt xG0 hc hr xs g L c z)) ?_ 2 (by rfl)
              replace H := Option.some.inj H
              subst H
              exact Ex.done (by rfl)
def f_m_suits (a1 : Int32) (a2 : Int32) (a3 : Int32) (hr : xI) : Option Int32 :=
  if a2 < (2 : Int32) then (f_m_suits_25 a1 a2 a3 hr) else (if (4 : Int32) < a2 then (f_m_suits_25 a1 a2 a3 hr) else (if a3 = 0 then (some (1 : Int32)) else (if a3 = (1 : Int32) then (some (1 : Int32)) else (some (0 : Int32)))))
theorem T_m_suits {hc : xI} {g : xJ} {xs : Nat → Int32} {L c z : Nat} (a1 : Int32) (a2 : Int32) (a3 : Int32) (hr : xI) (r : Int32) (H : f_m_suits a1 a2 a3 hr = some r) : Ex 0 122 (0, [some (.ref 27), some (.int a1), some (.int a2), some (.int a3)], [], xSt xG0 hc hr xs g L c z) (.inl (some (.int r)), xSt xG0 hc hr xs g L c z) := by
  unfold f_m_suits at H
  refine Ex.many (f' := (2, [some (.ref 27), some (.int a1), some (.int a2), some (.int a3)], [.int (2 : Int32), .int a2], xSt xG0 hc hr xs g L c z)) ?_ 2 (by rfl)
  refine Ex.ite (ls := [some (.ref 27), some (.int a1), some (.int a2), some (.int a3)]) (st := []) (S := xSt xG0 hc hr xs g L c z) (by rfl) (fun q1 => ?_) (fun q1 => ?_)
  · replace H := (if_pos q1).symm.trans H
    exact T_m_suits_25 a1 a2 a3 hr r H
  · replace H := (if_neg q1).symm.trans H
    refine Ex.many (f' := (7, [some (.ref 27), some (.int a1), some (.int a2), some (.int a3)], [.int (4 : Int32), .int a2], xSt xG0 hc hr xs g L c z)) ?_ 2 (by rfl)
    refine Ex.ite (ls := [some (.ref 27), some (.int a1), some (.int a2), some (.int a3)]) (st := []) (S := xSt xG0 hc hr xs g L c z) (by rfl) (fun q2 => ?_) (fun q2 => ?_)
    · replace H := (if_pos q2).symm.trans H
      exact T_m_suits_25 a1 a2 a3 hr r H
    · replace H := (if_neg q2).symm.trans H
      refine Ex.many (f' := (11, [none, none, none, some (.int a3)], [.int a3], xSt xG0 hc hr xs g L c z)) ?_ 1 (by rfl)
      refine Ex.ite (ls := [none, none, none, some (.int a3)]) (st := []) (S := xSt xG0 hc hr xs g L c z) (by rfl) (fun q3 => ?_) (fun q3 => ?_)
      · replace H := (if_pos q3).symm.trans H
        refine Ex.many (f' := (24, [none, none, none, none], [.int (1 : Int32)], xSt xG0 hc hr xs g L c z)) ?_ 2 (by rfl)
        replace H := Option.some.inj H
        subst H
        exact Ex.done (by rfl)
      · replace H := (if_neg q3).symm.trans H
        refine Ex.many (f' := (16, [none, none, none, some (.int a3)], [.int (1 : Int32), .int a3], xSt xG0 hc hr xs g L c z)) ?_ 2 (by rfl)
        refine Ex.ite (ls := [none, none, none, some (.int a3)]) (st := []) (S := xSt xG0 hc hr xs g L c z) (by rfl) (fun q4 => ?_) (fun q4 => ?_)
        · replace H := (if_pos q4).symm.trans H
          refine Ex.many (f' := (24, [none, none, none, none], [.int (1 : Int32)], xSt xG0 hc hr xs g L c z)) ?_ 2 (by rfl)
          replace H := Option.some.inj H
          subst H
          exact Ex.done (by rfl)
        · replace H := (if_neg q4).symm.trans H
          refine Ex.many (f' := (24, [none, none, none, none], [.int (0 : Int32)], xSt xG0 hc hr xs g L c z)) ?_ 1 (by rfl)
          replace H := Option.some.inj H
          subst H
          exact Ex.done (by rfl)
def f_m_isLabel (a1 : Int32) (hr : xI) : Int32 :=
  if a1 < 0 then (0 : Int32) else (if (hr 27 23) ≤ a1 then (0 : Int32) else (1 : Int32))
theorem T_m_isLabel {hc : xI} {g : xJ} {xs : Nat → Int32} {L c z : Nat} (a1 : Int32) (hr : xI) (r : Int32) (H : f_m_isLabel a1 hr = r) : Ex 0 123 (0, [some (.ref 27), some (.int a1)], [], xSt xG0 hc hr xs g L c z) (.inl (some (.int r)), xSt xG0 hc hr xs g L c z) := by
  unfold f_m_isLabel at H
  refine Ex.many (f' := (1, [some (.ref 27), some (.int a1)], [.int a1], xSt xG0 hc hr xs g L c z)) ?_ 1 (by rfl)
  refine Ex.ite (ls := [some (.ref 27), some (.int a1)]) (st := []) (S := xSt xG0 hc hr xs g L c z) (by rfl) (fun q1 => ?_) (fun q1 => ?_)
  · replace H := (if_pos q1).symm.trans H
    refine Ex.many (f' := (17, [none, none], [.int (0 : Int32)], xSt xG0 hc hr xs g L c z)) ?_ 1 (by rfl)
    skip
    subst H
    exact Ex.done (by rfl)
  · replace H := (if_neg q1).symm.trans H
    refine Ex.many (f' := (9, [some (.ref 27), some (.int a1)], [.int (hr 27 23), .int a1], xSt xG0 hc hr xs g L c z)) ?_ 3 (by rfl)
    refine Ex.ite (ls := [some (.ref 27), some (.int a1)]) (st := []) (S := xSt xG0 hc hr xs g L c z) (by rfl) (fun q2 => ?_) (fun q2 => ?_)
    · replace H := (if_pos q2).symm.trans H
      refine Ex.many (f' := (17, [none, none], [.int (0 : Int32)], xSt xG0 hc hr xs g L c z)) ?_ 1 (by rfl)
      skip
      subst H
      exact Ex.done (by rfl)
    · replace H := (if_neg q2).symm.trans H
      refine Ex.many (f' := (17, [none, none], [.int (1 : Int32)], xSt xG0 hc hr xs g L c z)) ?_ 2 (by rfl)
      skip
      subst H
      exact Ex.done (by rfl)
def f_m_flaw_145 (v5 : Int32) (hr : xI) : Option Int32 :=
  if (f_m_isLabel v5 hr) = 0 then (some (4 : Int32)) else (some (0 : Int32))
theorem T_m_flaw_145 {hc : xI} {g : xJ} {xs : Nat → Int32} {L c z : Nat} (v5 : Int32) (hr : xI) (r : Int32) (H : f_m_flaw_145 v5 hr = some r) : Ex 1 119 (145, [some (.ref 27), none, none, none, none, some (.int v5), none], [], xSt xG0 hc hr xs g L c z) (.inl (some (.int r)), xSt xG0 hc hr xs g L c z) := by
  unfold f_m_flaw_145 at H
  refine Ex.many (f' := (148, [some (.ref 27), none, none, none, none, some (.int v5), none], [.int v5, .ref 27], xSt xG0 hc hr xs g L c z)) ?_ 2 (by rfl)
  refine Ex.call (mk := 123) (vs := [.ref 27, .int v5]) (rest := []) (by rfl) (by rfl) (Ex.up (T_m_isLabel v5 hr _ rfl) (by decide)) (xbb c z) ?_
  show Ex _ _ (151, [some (.ref 27), none, none, none, none, some (.int v5), none], [.int (f_m_isLabel v5 hr)], xSt xG0 hc hr xs g L c z) _
  refine Ex.ite (ls := [none, none, none, none, none, none, none]) (st := []) (S := xSt xG0 hc hr xs g L c z) (by rfl) (fun q2 => ?_) (fun q2 => ?_)
  · replace H := (if_pos q2).symm.trans H
    refine Ex.many (f' := (159, [none, none, none, none, none, none, none], [.int (4 : Int32)], xSt xG0 hc hr xs g L c z)) ?_ 2 (by rfl)
    replace H := Option.some.inj H
    subst H
    exact Ex.done (by rfl)
  · replace H := (if_neg q2).symm.trans H
    refine Ex.many (f' := (159, [none, none, none, none, none, none, none], [.int (0 : Int32)], xSt xG0 hc hr xs g L c z)) ?_ 1 (by rfl)
    replace H := Option.some.inj H
    subst H
    exact Ex.done (by rfl)
def f_m_flaw_131 (v4 : Int32) (v5 : Int32) (hr : xI) : Option Int32 :=
  if v4 = (12 : Int32) then (f_m_flaw_145 v5 hr) else (if v4 = (13 : Int32) then (f_m_flaw_145 v5 hr) else (some (0 : Int32)))
theorem T_m_flaw_131 {hc : xI} {g : xJ} {xs : Nat → Int32} {L c z : Nat} (v4 : Int32) (v5 : Int32) (hr : xI) (r : Int32) (H : f_m_flaw_131 v4 v5 hr = some r) : Ex 1 119 (131, [some (.ref 27), none, none, none, some (.int v4), some (.int v5), none], [], xSt xG0 hc hr xs g L c z) (.inl (some (.int r)), xSt xG0 hc hr xs g L c z) := by
  unfold f_m_flaw_131 at H
  refine Ex.many (f' := (135, [some (.ref 27), none, none, none, some (.int v4), some (.int v5), none], [.int (12 : Int32), .int v4], xSt xG0 hc hr xs g L c z)) ?_ 2 (by rfl)
  refine Ex.ite (ls := [some (.ref 27), none, none, none, some (.int v4), some (.int v5), none]) (st := []) (S := xSt xG0 hc hr xs g L c z) (by rfl) (fun q1 => ?_) (fun q1 => ?_)
  · replace H := (if_pos q1).symm.trans H
    refine Ex.kill (ls' := [some (.ref 27), none, none, none, none, some (.int v5), none]) (by rfl) ?_
    exact T_m_flaw_145 v5 hr r H
  · replace H := (if_neg q1).symm.trans H
    refine Ex.many (f' := (142, [some (.ref 27), none, none, none, some (.int v4), some (.int v5), none], [.int (13 : Int32), .int v4], xSt xG0 hc hr xs g L c z)) ?_ 2 (by rfl)
    refine Ex.ite (ls := [some (.ref 27), none, none, none, some (.int v4), some (.int v5), none]) (st := []) (S := xSt xG0 hc hr xs g L c z) (by rfl) (fun q2 => ?_) (fun q2 => ?_)
    · replace H := (if_pos q2).symm.trans H
      refine Ex.kill (ls' := [some (.ref 27), none, none, none, none, some (.int v5), none]) (by rfl) ?_
      exact T_m_flaw_145 v5 hr r H
    · replace H := (if_neg q2).symm.trans H
      refine Ex.many (f' := (159, [none, none, none, none, none, none, none], [.int (0 : Int32)], xSt xG0 hc hr xs g L c z)) ?_ 1 (by rfl)
      replace H := Option.some.inj H
      subst H
      exact Ex.done (by rfl)
def f_m_flaw_98 : Nat → Int32 → Int32 → Int32 → Int32 → xI → Option Int32
  | 0, _, _, _, _, _ => none
  | n + 1, v2, v4, v5, v6, hr => if v5 < v6 then (f_m_flaw_131 v4 v5 hr) else (xgd ((v2 + (2 : Int32)) + v6) 240 (if (f_m_isLabel (hr 28 ((v2 + (2 : Int32)) + v6).toNatClampNeg) hr) = 0 then (some (4 : Int32)) else (f_m_flaw_98 n v2 v4 v5 (v6 + (1 : Int32)) hr)))
theorem T_m_flaw_98 {hc : xI} {g : xJ} {xs : Nat → Int32} {L c z : Nat} (n : Nat) : ∀ (v2 : Int32) (v4 : Int32) (v5 : Int32) (v6 : Int32) (hr : xI) (r : Int32), f_m_flaw_98 n v2 v4 v5 v6 hr = some r → Ex 1 119 (98, [some (.ref 27), none, some (.int v2), none, some (.int v4), some (.int v5), some (.int v6)], [], xSt xG0 hc hr xs g L c z) (.inl (some (.int r)), xSt xG0 hc hr xs g L c z) := by
  induction n with
  | zero =>
    intro v2 v4 v5 v6 hr r H
    unfold f_m_flaw_98 at H
    cases H
  | succ n ih =>
    intro v2 v4 v5 v6 hr r H
    unfold f_m_flaw_98 at H
    refine Ex.many (f' := (102, [some (.ref 27), none, some (.int v2), none, some (.int v4), some (.int v5), some (.int v6)], [.int v5, .int v6], xSt xG0 hc hr xs g L c z)) ?_ 2 (by rfl)
    refine Ex.ite (ls := [some (.ref 27), none, some (.int v2), none, some (.int v4), some (.int v5), some (.int v6)]) (st := []) (S := xSt xG0 hc hr xs g L c z) (by rfl) (fun q1 => ?_) (fun q1 => ?_)
    · replace H := (if_pos q1).symm.trans H
      refine Ex.kill (ls' := [some (.ref 27), none, none, none, some (.int v4), some (.int v5), none]) (by rfl) ?_
      exact T_m_flaw_131 v4 v5 hr r H
    · replace H := (if_neg q1).symm.trans H
      refine Ex.many (f' := (116, [some (.ref 27), none, some (.int v2), none, some (.int v4), some (.int v5), some (.int v6)], [.int ((v2 + (2 : Int32)) + v6), .ref 28, .ref 27], xSt xG0 hc hr xs g L c z)) ?_ 8 (by rfl)
      obtain ⟨g2, H⟩ := xgd_some H
      refine Ex.guard (f' := (117, [some (.ref 27), none, some (.int v2), none, some (.int v4), some (.int v5), some (.int v6)], [.int (hr 28 ((v2 + (2 : Int32)) + v6).toNatClampNeg), .ref 27], xSt xG0 hc hr xs g L c z)) (by rfl) g2 ?_
      refine Ex.call (mk := 123) (vs := [.ref 27, .int (hr 28 ((v2 + (2 : Int32)) + v6).toNatClampNeg)]) (rest := []) (by rfl) (by rfl) (Ex.up (T_m_isLabel (hr 28 ((v2 + (2 : Int32)) + v6).toNatClampNeg) hr _ rfl) (by decide)) (xbb c z) ?_
      show Ex _ _ (120, [some (.ref 27), none, some (.int v2), none, some (.int v4), some (.int v5), some (.int v6)], [.int (f_m_isLabel (hr 28 ((v2 + (2 : Int32)) + v6).toNatClampNeg) hr)], xSt xG0 hc hr xs g L c z) _
      refine Ex.ite (ls := [some (.ref 27), none, some (.int v2), none, some (.int v4), some (.int v5), some (.int v6)]) (st := []) (S := xSt xG0 hc hr xs g L c z) (by rfl) (fun q4 => ?_) (fun q4 => ?_)
      · replace H := (if_pos q4).symm.trans H
        refine Ex.many (f' := (124, [none, none, none, none, none, none, none], [.int (4 : Int32)], xSt xG0 hc hr xs g L c z)) ?_ 1 (by rfl)
        replace H := Option.some.inj H
        subst H
        exact Ex.done (by rfl)
      · replace H := (if_neg q4).symm.trans H
        refine Ex.many (f' := (98, [some (.ref 27), none, some (.int v2), none, some (.int v4), some (.int v5), some (.int (v6 + (1 : Int32)))], [], xSt xG0 hc hr xs g L c z)) ?_ 2 (by rfl)
        exact ih v2 v4 v5 (v6 + (1 : Int32)) hr r H
def f_m_flaw_60 (v1 : Int32) (v2 : Int32) (v3 : Int32) (v4 : Int32) (s0 : Int32) (hr : xI) : Option Int32 :=
  (f_m_suits v1 v4 s0 hr).bind fun q1 => if q1 = 0 then (some (5 : Int32)) else (if v4 = (14 : Int32) then (if ((v2 + (3 : Int32)) + s0) ≤ v3 then (f_m_flaw_98 1000 v2 v4 s0 (0 : Int32) hr) else (some (1 : Int32))) else (f_m_flaw_131 v4 s0 hr))
theorem T_m_flaw_60 {hc : xI} {g : xJ} {xs : Nat → Int32} {L c z : Nat} (v1 : Int32) (v2 : Int32) (v3 : Int32) (v4 : Int32) (s0 : Int32) (hr : xI) (r : Int32) (H : f_m_flaw_60 v1 v2 v3 v4 s0 hr = some r) : Ex 1 119 (60, [some (.ref 27), some (.int v1), some (.int v2), some (.int v3), some (.int v4), none, none], [.int s0], xSt xG0 hc hr xs g L c z) (.inl (some (.int r)), xSt xG0 hc hr xs g L c z) := by
  unfold f_m_flaw_60 at H
  refine Ex.many (f' := (68, [some (.ref 27), some (.int v1), some (.int v2), some (.int v3), some (.int v4), some (.int s0), none], [.int s0, .int v4, .int v1, .ref 27], xSt xG0 hc hr xs g L c z)) ?_ 5 (by rfl)
  obtain ⟨q1, hq1, H⟩ := xbd H
  refine Ex.call (mk := 122) (vs := [.ref 27, .int v1, .int v4, .int s0]) (rest := []) (by rfl) (by rfl) (Ex.up (T_m_suits v1 v4 s0 hr q1 hq1) (by decide)) (xbb c z) ?_
  show Ex _ _ (71, [some (.ref 27), some (.int v1), some (.int v2), some (.int v3), some (.int v4), some (.int s0), none], [.int q1], xSt xG0 hc hr xs g L c z) _
  refine Ex.ite (ls := [some (.ref 27), none, some (.int v2), some (.int v3), some (.int v4), some (.int s0), none]) (st := []) (S := xSt xG0 hc hr xs g L c z) (by rfl) (fun q2 => ?_) (fun q2 => ?_)
  · replace H := (if_pos q2).symm.trans H
    refine Ex.many (f' := (75, [none, none, none, none, none, none, none], [.int (5 : Int32)], xSt xG0 hc hr xs g L c z)) ?_ 1 (by rfl)
    replace H := Option.some.inj H
    subst H
    exact Ex.done (by rfl)
  · replace H := (if_neg q2).symm.trans H
    refine Ex.many (f' := (80, [some (.ref 27), none, some (.int v2), some (.int v3), some (.int v4), some (.int s0), none], [.int (14 : Int32), .int v4], xSt xG0 hc hr xs g L c z)) ?_ 2 (by rfl)
    refine Ex.ite (ls := [some (.ref 27), none, some (.int v2), some (.int v3), some (.int v4), some (.int s0), none]) (st := []) (S := xSt xG0 hc hr xs g L c z) (by rfl) (fun q3 => ?_) (fun q3 => ?_)
    · replace H := (if_pos q3).symm.trans H
      refine Ex.many (f' := (90, [some (.ref 27), none, some (.int v2), some (.int v3), some (.int v4), some (.int s0), none], [.int v3, .int ((v2 + (3 : Int32)) + s0)], xSt xG0 hc hr xs g L c z)) ?_ 6 (by rfl)
      refine Ex.ite (ls := [some (.ref 27), none, some (.int v2), some (.int v3), some (.int v4), some (.int s0), none]) (st := []) (S := xSt xG0 hc hr xs g L c z) (by rfl) (fun q4 => ?_) (fun q4 => ?_)
      · replace H := (if_pos q4).symm.trans H
        refine Ex.many (f' := (98, [some (.ref 27), none, some (.int v2), none, some (.int v4), some (.int s0), some (.int (0 : Int32))], [], xSt xG0 hc hr xs g L c z)) ?_ 2 (by rfl)
        exact T_m_flaw_98 1000 v2 v4 s0 (0 : Int32) hr r H
      · replace H := (if_neg q4).symm.trans H
        refine Ex.many (f' := (94, [none, none, none, none, none, none, none], [.int (1 : Int32)], xSt xG0 hc hr xs g L c z)) ?_ 1 (by rfl)
        replace H := Option.some.inj H
        subst H
        exact Ex.done (by rfl)
    · replace H := (if_neg q3).symm.trans H
      refine Ex.kill (ls' := [some (.ref 27), none, none, none, some (.int v4), some (.int s0), none]) (by rfl) ?_
      exact T_m_flaw_131 v4 s0 hr r H
def f_m_flaw (a1 : Int32) (a2 : Int32) (hr : xI) : Option Int32 :=
  xgd (a1 + (1 : Int32)) 7 (xgd a2 240 (if (f_m_isKnown (hr 28 a2.toNatClampNeg)) = 0 then (some (1 : Int32)) else (if ((a2 + (1 : Int32)) + (f_m_immediates (hr 28 a2.toNatClampNeg))) ≤ (hr 29 (a1 + (1 : Int32)).toNatClampNeg) then (if (f_m_immediates (hr 28 a2.toNatClampNeg)) ≤ 0 then (f_m_flaw_60 a1 a2 (hr 29 (a1 + (1 : Int32)).toNatClampNeg) (hr 28 a2.toNatClampNeg) (0 : Int32) hr) else (xgd (a2 + (1 : Int32)) 240 (f_m_flaw_60 a1 a2 (hr 29 (a1 + (1 : Int32)).toNatClampNeg) (hr 28 a2.toNatClampNeg) (hr 28 (a2 + (1 : Int32)).toNatClampNeg) hr))) else (some (1 : Int32)))))
theorem T_m_flaw {hc : xI} {g : xJ} {xs : Nat → Int32} {L c z : Nat} (a1 : Int32) (a2 : Int32) (hr : xI) (r : Int32) (H : f_m_flaw a1 a2 hr = some r) : Ex 1 119 (0, [some (.ref 27), some (.int a1), some (.int a2), none, none, none, none], [], xSt xG0 hc hr xs g L c z) (.inl (some (.int r)), xSt xG0 hc hr xs g L c z) := by
  unfold f_m_flaw at H
  refine Ex.many (f' := (7, [some (.ref 27), some (.int a1), some (.int a2), none, none, none, none], [.int (a1 + (1 : Int32)), .ref 29], xSt xG0 hc hr xs g L c z)) ?_ 5 (by rfl)
  obtain ⟨g1, H⟩ := xgd_some H
  refine Ex.guard (f' := (8, [some (.ref 27), some (.int a1), some (.int a2), none, none, none, none], [.int (hr 29 (a1 + (1 : Int32)).toNatClampNeg)], xSt xG0 hc hr xs g L c z)) (by rfl) g1 ?_
  refine Ex.many (f' := (14, [some (.ref 27), some (.int a1), some (.int a2), some (.int (hr 29 (a1 + (1 : Int32)).toNatClampNeg)), none, none, none], [.int a2, .ref 28], xSt xG0 hc hr xs g L c z)) ?_ 4 (by rfl)
  obtain ⟨g2, H⟩ := xgd_some H
  refine Ex.guard (f' := (15, [some (.ref 27), some (.int a1), some (.int a2), some (.int (hr 29 (a1 + (1 : Int32)).toNatClampNeg)), none, none, none], [.int (hr 28 a2.toNatClampNeg)], xSt xG0 hc hr xs g L c z)) (by rfl) g2 ?_
  refine Ex.many (f' := (19, [some (.ref 27), some (.int a1), some (.int a2), some (.int (hr 29 (a1 + (1 : Int32)).toNatClampNeg)), some (.int (hr 28 a2.toNatClampNeg)), none, none], [.int (hr 28 a2.toNatClampNeg)], xSt xG0 hc hr xs g L c z)) ?_ 2 (by rfl)
  refine Ex.call (mk := 120) (vs := [.int (hr 28 a2.toNatClampNeg)]) (rest := []) (by rfl) (by rfl) (Ex.up (T_m_isKnown (hr 28 a2.toNatClampNeg) _ rfl) (by decide)) (xbb c z) ?_
  show Ex _ _ (22, [some (.ref 27), some (.int a1), some (.int a2), some (.int (hr 29 (a1 + (1 : Int32)).toNatClampNeg)), some (.int (hr 28 a2.toNatClampNeg)), none, none], [.int (f_m_isKnown (hr 28 a2.toNatClampNeg))], xSt xG0 hc hr xs g L c z) _
  refine Ex.ite (ls := [some (.ref 27), some (.int a1), some (.int a2), some (.int (hr 29 (a1 + (1 : Int32)).toNatClampNeg)), some (.int (hr 28 a2.toNatClampNeg)), none, none]) (st := []) (S := xSt xG0 hc hr xs g L c z) (by rfl) (fun q4 => ?_) (fun q4 => ?_)
  · replace H := (if_pos q4).symm.trans H
    refine Ex.many (f' := (39, [none, none, none, none, none, none, none], [.int (1 : Int32)], xSt xG0 hc hr xs g L c z)) ?_ 1 (by rfl)
    replace H := Option.some.inj H
    subst H
    exact Ex.done (by rfl)
  · replace H := (if_neg q4).symm.trans H
    refine Ex.many (f' := (30, [some (.ref 27), some (.int a1), some (.int a2), some (.int (hr 29 (a1 + (1 : Int32)).toNatClampNeg)), some (.int (hr 28 a2.toNatClampNeg)), none, none], [.int (hr 28 a2.toNatClampNeg), .int (a2 + (1 : Int32))], xSt xG0 hc hr xs g L c z)) ?_ 4 (by rfl)
    refine Ex.call (mk := 121) (vs := [.int (hr 28 a2.toNatClampNeg)]) (rest := [.int (a2 + (1 : Int32))]) (by rfl) (by rfl) (Ex.up (T_m_immediates (hr 28 a2.toNatClampNeg) _ rfl) (by decide)) (xbb c z) ?_
    show Ex _ _ (33, [some (.ref 27), some (.int a1), some (.int a2), some (.int (hr 29 (a1 + (1 : Int32)).toNatClampNeg)), some (.int (hr 28 a2.toNatClampNeg)), none, none], [.int (f_m_immediates (hr 28 a2.toNatClampNeg)), .int (a2 + (1 : Int32))], xSt xG0 hc hr xs g L c z) _
    refine Ex.many (f' := (35, [some (.ref 27), some (.int a1), some (.int a2), some (.int (hr 29 (a1 + (1 : Int32)).toNatClampNeg)), some (.int (hr 28 a2.toNatClampNeg)), none, none], [.int (hr 29 (a1 + (1 : Int32)).toNatClampNeg), .int ((a2 + (1 : Int32)) + (f_m_immediates (hr 28 a2.toNatClampNeg)))], xSt xG0 hc hr xs g L c z)) ?_ 2 (by rfl)
    refine Ex.ite (ls := [some (.ref 27), some (.int a1), some (.int a2), some (.int (hr 29 (a1 + (1 : Int32)).toNatClampNeg)), some (.int (hr 28 a2.toNatClampNeg)), none, none]) (st := []) (S := xSt xG0 hc hr xs g L c z) (by rfl) (fun q6 => ?_) (fun q6 => ?_)
    · replace H := (if_pos q6).symm.trans H
      refine Ex.many (f' := (42, [some (.ref 27), some (.int a1), some (.int a2), some (.int (hr 29 (a1 + (1 : Int32)).toNatClampNeg)), some (.int (hr 28 a2.toNatClampNeg)), none, none], [.int (hr 28 a2.toNatClampNeg)], xSt xG0 hc hr xs g L c z)) ?_ 1 (by rfl)
      refine Ex.call (mk := 121) (vs := [.int (hr 28 a2.toNatClampNeg)]) (rest := []) (by rfl) (by rfl) (Ex.up (T_m_immediates (hr 28 a2.toNatClampNeg) _ rfl) (by decide)) (xbb c z) ?_
      show Ex _ _ (45, [some (.ref 27), some (.int a1), some (.int a2), some (.int (hr 29 (a1 + (1 : Int32)).toNatClampNeg)), some (.int (hr 28 a2.toNatClampNeg)), none, none], [.int (f_m_immediates (hr 28 a2.toNatClampNeg))], xSt xG0 hc hr xs g L c z) _
      refine Ex.ite (ls := [some (.ref 27), some (.int a1), some (.int a2), some (.int (hr 29 (a1 + (1 : Int32)).toNatClampNeg)), some (.int (hr 28 a2.toNatClampNeg)), none, none]) (st := []) (S := xSt xG0 hc hr xs g L c z) (by rfl) (fun q8 => ?_) (fun q8 => ?_)
      · replace H := (if_pos q8).symm.trans H
        refine Ex.many (f' := (60, [some (.ref 27), some (.int a1), some (.int a2), some (.int (hr 29 (a1 + (1 : Int32)).toNatClampNeg)), some (.int (hr 28 a2.toNatClampNeg)), none, none], [.int (0 : Int32)], xSt xG0 hc hr xs g L c z)) ?_ 1 (by rfl)
        exact T_m_flaw_60 a1 a2 (hr 29 (a1 + (1 : Int32)).toNatClampNeg) (hr 28 a2.toNatClampNeg) (0 : Int32) hr r H
      · replace H := (if_neg q8).symm.trans H
        refine Ex.many (f' := (55, [some (.ref 27), some (.int a1), some (.int a2), some (.int (hr 29 (a1 + (1 : Int32)).toNatClampNeg)), some (.int (hr 28 a2.toNatClampNeg)), none, none], [.int (a2 + (1 : Int32)), .ref 28], xSt xG0 hc hr xs g L c z)) ?_ 5 (by rfl)
        obtain ⟨g9, H⟩ := xgd_some H
        refine Ex.guard (f' := (56, [some (.ref 27), some (.int a1), some (.int a2), some (.int (hr 29 (a1 + (1 : Int32)).toNatClampNeg)), some (.int (hr 28 a2.toNatClampNeg)), none, none], [.int (hr 28 (a2 + (1 : Int32)).toNatClampNeg)], xSt xG0 hc hr xs g L c z)) (by rfl) g9 ?_
        refine Ex.many (f' := (60, [some (.ref 27), some (.int a1), some (.int a2), some (.int (hr 29 (a1 + (1 : Int32)).toNatClampNeg)), some (.int (hr 28 a2.toNatClampNeg)), none, none], [.int (hr 28 (a2 + (1 : Int32)).toNatClampNeg)], xSt xG0 hc hr xs g L c z)) ?_ 1 (by rfl)
        exact T_m_flaw_60 a1 a2 (hr 29 (a1 + (1 : Int32)).toNatClampNeg) (hr 28 a2.toNatClampNeg) (hr 28 (a2 + (1 : Int32)).toNatClampNeg) hr r H
    · replace H := (if_neg q6).symm.trans H
      refine Ex.many (f' := (39, [none, none, none, none, none, none, none], [.int (1 : Int32)], xSt xG0 hc hr xs g L c z)) ?_ 1 (by rfl)
      replace H := Option.some.inj H
      subst H
      exact Ex.done (by rfl)
def f_m_pop_53 (k : Int32 → Int32 → xI → Option xI) (v1 : Int32) (v2 : Int32) (hr : xI) : Option xI :=
  k v1 (v2 + (1 : Int32)) hr
theorem T_m_pop_53 {hc : xI} {g : xJ} {xs : Nat → Int32} {L c z : Nat} (k : Int32 → Int32 → xI → Option xI) (hk : ∀ (v1 : Int32) (v2 : Int32) (hr : xI) (r : xI), k v1 v2 hr = some r → Ex 1 125 (2, [some (.ref 27), some (.int v1), some (.int v2)], [], xSt xG0 hc hr xs g L c z) (.inl none, xSt xG0 hc r xs g L c z)) (v1 : Int32) (v2 : Int32) (hr : xI) (r : xI) (H : f_m_pop_53 k v1 v2 hr = some r) : Ex 1 125 (53, [some (.ref 27), some (.int v1), some (.int v2)], [], xSt xG0 hc hr xs g L c z) (.inl none, xSt xG0 hc r xs g L c z) := by
  unfold f_m_pop_53 at H
  refine Ex.many (f' := (2, [some (.ref 27), some (.int v1), some (.int (v2 + (1 : Int32)))], [], xSt xG0 hc hr xs g L c z)) ?_ 2 (by rfl)
  exact hk v1 (v2 + (1 : Int32)) hr r H
def f_m_pop_2 : Nat → Int32 → Int32 → xI → Option xI
  | 0, _, _, _ => none
  | n + 1, v1, v2, hr => if v1 ≤ v2 then (some hr) else (xgd (hr 27 22) 250 (if (hr 27 24) ≤ (hr 35 (hr 27 22).toNatClampNeg) then (xgd (hr 27 22) 250 (if (hr 40 (hr 27 22).toNatClampNeg) = 0 then (f_m_pop_53 (f_m_pop_2 n) v1 v2 hr) else ((f_m_fail (2 : Int32) hr).bind fun q6 => f_m_pop_53 (f_m_pop_2 n) v1 v2 q6))) else (f_m_pop_53 (f_m_pop_2 n) v1 v2 (xput hr 27 24 ((hr 27 24) - (1 : Int32))))))
theorem T_m_pop_2 {hc : xI} {g : xJ} {xs : Nat → Int32} {L c z : Nat} (n : Nat) : ∀ (v1 : Int32) (v2 : Int32) (hr : xI) (r : xI), f_m_pop_2 n v1 v2 hr = some r → Ex 1 125 (2, [some (.ref 27), some (.int v1), some (.int v2)], [], xSt xG0 hc hr xs g L c z) (.inl none, xSt xG0 hc r xs g L c z) := by
  induction n with
  | zero =>
    intro v1 v2 hr r H
    unfold f_m_pop_2 at H
    cases H
  | succ n ih =>
    intro v1 v2 hr r H
    unfold f_m_pop_2 at H
    refine Ex.many (f' := (4, [some (.ref 27), some (.int v1), some (.int v2)], [.int v1, .int v2], xSt xG0 hc hr xs g L c z)) ?_ 2 (by rfl)
    refine Ex.ite (ls := [some (.ref 27), some (.int v1), some (.int v2)]) (st := []) (S := xSt xG0 hc hr xs g L c z) (by rfl) (fun q1 => ?_) (fun q1 => ?_)
    · replace H := (if_pos q1).symm.trans H
      replace H := Option.some.inj H
      subst H
      exact Ex.done (by rfl)
    · replace H := (if_neg q1).symm.trans H
      refine Ex.many (f' := (19, [some (.ref 27), some (.int v1), some (.int v2)], [.int (hr 27 22), .ref 35, .int (hr 27 24)], xSt xG0 hc hr xs g L c z)) ?_ 6 (by rfl)
      obtain ⟨g2, H⟩ := xgd_some H
      refine Ex.guard (f' := (20, [some (.ref 27), some (.int v1), some (.int v2)], [.int (hr 35 (hr 27 22).toNatClampNeg), .int (hr 27 24)], xSt xG0 hc hr xs g L c z)) (by rfl) g2 ?_
      refine Ex.ite (ls := [some (.ref 27), some (.int v1), some (.int v2)]) (st := []) (S := xSt xG0 hc hr xs g L c z) (by rfl) (fun q3 => ?_) (fun q3 => ?_)
      · replace H := (if_pos q3).symm.trans H
        refine Ex.many (f' := (44, [some (.ref 27), some (.int v1), some (.int v2)], [.int (hr 27 22), .ref 40], xSt xG0 hc hr xs g L c z)) ?_ 4 (by rfl)
        obtain ⟨g4, H⟩ := xgd_some H
        refine Ex.guard (f' := (45, [some (.ref 27), some (.int v1), some (.int v2)], [.int (hr 40 (hr 27 22).toNatClampNeg)], xSt xG0 hc hr xs g L c z)) (by rfl) g4 ?_
        refine Ex.ite (ls := [some (.ref 27), some (.int v1), some (.int v2)]) (st := []) (S := xSt xG0 hc hr xs g L c z) (by rfl) (fun q5 => ?_) (fun q5 => ?_)
        · replace H := (if_pos q5).symm.trans H
          exact T_m_pop_53 (f_m_pop_2 n) ih v1 v2 hr r H
        · replace H := (if_neg q5).symm.trans H
          refine Ex.many (f' := (50, [some (.ref 27), some (.int v1), some (.int v2)], [.int (2 : Int32), .ref 27], xSt xG0 hc hr xs g L c z)) ?_ 2 (by rfl)
          obtain ⟨q6, hq6, H⟩ := xbd H
          refine Ex.call (mk := 118) (vs := [.ref 27, .int (2 : Int32)]) (rest := []) (by rfl) (by rfl) (Ex.up (T_m_fail (2 : Int32) hr q6 hq6) (by decide)) (xbb c z) ?_
          show Ex _ _ (53, [some (.ref 27), some (.int v1), some (.int v2)], [], xSt xG0 hc q6 xs g L c z) _
          exact T_m_pop_53 (f_m_pop_2 n) ih v1 v2 q6 r H
      · replace H := (if_neg q3).symm.trans H
        refine Ex.many (f' := (30, [some (.ref 27), some (.int v1), some (.int v2)], [.int ((hr 27 24) - (1 : Int32)), .ref 27], xSt xG0 hc hr xs g L c z)) ?_ 5 (by rfl)
        refine Ex.putR (pc := 33) (k := 27) (j := 24) (v := ((hr 27 24) - (1 : Int32))) (ls := [some (.ref 27), some (.int v1), some (.int v2)]) (st := []) (hr := hr) ?_ (by rfl) (by rfl)
        refine Ex.many (f' := (53, [some (.ref 27), some (.int v1), some (.int v2)], [], xSt xG0 hc (xput hr 27 24 ((hr 27 24) - (1 : Int32))) xs g L c z)) ?_ 1 (by rfl)
        exact T_m_pop_53 (f_m_pop_2 n) ih v1 v2 (xput hr 27 24 ((hr 27 24) - (1 : Int32))) r H
def f_m_pop (a1 : Int32) (hr : xI) : Option xI :=
  f_m_pop_2 1000 a1 (0 : Int32) hr
theorem T_m_pop {hc : xI} {g : xJ} {xs : Nat → Int32} {L c z : Nat} (a1 : Int32) (hr : xI) (r : xI) (H : f_m_pop a1 hr = some r) : Ex 1 125 (0, [some (.ref 27), some (.int a1), none], [], xSt xG0 hc hr xs g L c z) (.inl none, xSt xG0 hc r xs g L c z) := by
  unfold f_m_pop at H
  refine Ex.many (f' := (2, [some (.ref 27), some (.int a1), some (.int (0 : Int32))], [], xSt xG0 hc hr xs g L c z)) ?_ 2 (by rfl)
  exact T_m_pop_2 1000 a1 (0 : Int32) hr r H
def f_m_checkElse_53 (v1 : Int32) (hr : xI) : Option xI :=
  xgd (hr 27 22) 250 (xgd (hr 27 22) 250 (xgd (hr 27 22) 250 (some (xput (xput (xput hr 33 (hr 27 22).toNatClampNeg (5 : Int32)) 38 (hr 27 22).toNatClampNeg v1) 40 (hr 27 22).toNatClampNeg (vp_nar .boolean (1 : Int32))))))
theorem T_m_checkElse_53 {hc : xI} {g : xJ} {xs : Nat → Int32} {L c z : Nat} (v1 : Int32) (hr : xI) (r : xI) (H : f_m_checkElse_53 v1 hr = some r) : Ex 2 126 (53, [some (.ref 27), some (.int v1)], [], xSt xG0 hc hr xs g L c z) (.inl none, xSt xG0 hc r xs g L c z) := by
  unfold f_m_checkElse_53 at H
  refine Ex.many (f' := (62, [some (.ref 27), some (.int v1)], [.int (5 : Int32), .int (hr 27 22), .ref 33], xSt xG0 hc hr xs g L c z)) ?_ 5 (by rfl)
  obtain ⟨g1, H⟩ := xgd_some H
  refine Ex.gputR (pc := 63) (k := 33) (n := 250) (i := (hr 27 22)) (v := (5 : Int32)) (ls := [some (.ref 27), some (.int v1)]) (st := []) (hr := hr) ?_ (by rfl) g1 (by rfl)
  refine Ex.many (f' := (72, [some (.ref 27), some (.int v1)], [.int v1, .int (hr 27 22), .ref 38], xSt xG0 hc (xput hr 33 (hr 27 22).toNatClampNeg (5 : Int32)) xs g L c z)) ?_ 5 (by rfl)
  obtain ⟨g2, H⟩ := xgd_some H
  refine Ex.gputR (pc := 73) (k := 38) (n := 250) (i := (hr 27 22)) (v := v1) (ls := [some (.ref 27), some (.int v1)]) (st := []) (hr := (xput hr 33 (hr 27 22).toNatClampNeg (5 : Int32))) ?_ (by rfl) g2 (by rfl)
  refine Ex.many (f' := (82, [some (.ref 27), some (.int v1)], [.int (1 : Int32), .int (hr 27 22), .ref 40], xSt xG0 hc (xput (xput hr 33 (hr 27 22).toNatClampNeg (5 : Int32)) 38 (hr 27 22).toNatClampNeg v1) xs g L c z)) ?_ 5 (by rfl)
  obtain ⟨g3, H⟩ := xgd_some H
  refine Ex.gputR (pc := 83) (k := 40) (n := 250) (i := (hr 27 22)) (v := (vp_nar .boolean (1 : Int32))) (ls := [some (.ref 27), some (.int v1)]) (st := []) (hr := (xput (xput hr 33 (hr 27 22).toNatClampNeg (5 : Int32)) 38 (hr 27 22).toNatClampNeg v1)) ?_ (by rfl) g3 (by rfl)
  replace H := Option.some.inj H
  subst H
  exact Ex.done (by rfl)
def f_m_checkElse (a1 : Int32) (hr : xI) : Option xI :=
  xgd (hr 27 22) 250 (if (hr 33 (hr 27 22).toNatClampNeg) = (4 : Int32) then (xgd (hr 27 22) 250 ((f_m_pop (hr 34 (hr 27 22).toNatClampNeg) hr).bind fun q4 => xgd (q4 27 22) 250 (if (q4 27 24) = (q4 35 (q4 27 22).toNatClampNeg) then (f_m_checkElse_53 a1 q4) else ((f_m_fail (3 : Int32) q4).bind fun q7 => f_m_checkElse_53 a1 q7)))) else ((f_m_fail (3 : Int32) hr).bind fun q8 => some q8))
theorem T_m_checkElse {hc : xI} {g : xJ} {xs : Nat → Int32} {L c z : Nat} (a1 : Int32) (hr : xI) (r : xI) (H : f_m_checkElse a1 hr = some r) : Ex 2 126 (0, [some (.ref 27), some (.int a1)], [], xSt xG0 hc hr xs g L c z) (.inl none, xSt xG0 hc r xs g L c z) := by
  unfold f_m_checkElse at H
  refine Ex.many (f' := (8, [some (.ref 27), some (.int a1)], [.int (hr 27 22), .ref 33], xSt xG0 hc hr xs g L c z)) ?_ 4 (by rfl)
  obtain ⟨g1, H⟩ := xgd_some H
  refine Ex.guard (f' := (9, [some (.ref 27), some (.int a1)], [.int (hr 33 (hr 27 22).toNatClampNeg)], xSt xG0 hc hr xs g L c z)) (by rfl) g1 ?_
  refine Ex.many (f' := (10, [some (.ref 27), some (.int a1)], [.int (4 : Int32), .int (hr 33 (hr 27 22).toNatClampNeg)], xSt xG0 hc hr xs g L c z)) ?_ 1 (by rfl)
  refine Ex.ite (ls := [some (.ref 27), some (.int a1)]) (st := []) (S := xSt xG0 hc hr xs g L c z) (by rfl) (fun q2 => ?_) (fun q2 => ?_)
  · replace H := (if_pos q2).symm.trans H
    refine Ex.many (f' := (28, [some (.ref 27), some (.int a1)], [.int (hr 27 22), .ref 34, .ref 27], xSt xG0 hc hr xs g L c z)) ?_ 5 (by rfl)
    obtain ⟨g3, H⟩ := xgd_some H
    refine Ex.guard (f' := (29, [some (.ref 27), some (.int a1)], [.int (hr 34 (hr 27 22).toNatClampNeg), .ref 27], xSt xG0 hc hr xs g L c z)) (by rfl) g3 ?_
    obtain ⟨q4, hq4, H⟩ := xbd H
    refine Ex.call (mk := 125) (vs := [.ref 27, .int (hr 34 (hr 27 22).toNatClampNeg)]) (rest := []) (by rfl) (by rfl) (Ex.up (T_m_pop (hr 34 (hr 27 22).toNatClampNeg) hr q4 hq4) (by decide)) (xbb c z) ?_
    show Ex _ _ (32, [some (.ref 27), some (.int a1)], [], xSt xG0 hc q4 xs g L c z) _
    refine Ex.many (f' := (44, [some (.ref 27), some (.int a1)], [.int (q4 27 22), .ref 35, .int (q4 27 24)], xSt xG0 hc q4 xs g L c z)) ?_ 6 (by rfl)
    obtain ⟨g5, H⟩ := xgd_some H
    refine Ex.guard (f' := (45, [some (.ref 27), some (.int a1)], [.int (q4 35 (q4 27 22).toNatClampNeg), .int (q4 27 24)], xSt xG0 hc q4 xs g L c z)) (by rfl) g5 ?_
    refine Ex.ite (ls := [some (.ref 27), some (.int a1)]) (st := []) (S := xSt xG0 hc q4 xs g L c z) (by rfl) (fun q6 => ?_) (fun q6 => ?_)
    · replace H := (if_pos q6).symm.trans H
      exact T_m_checkElse_53 a1 q4 r H
    · replace H := (if_neg q6).symm.trans H
      refine Ex.many (f' := (50, [some (.ref 27), some (.int a1)], [.int (3 : Int32), .ref 27], xSt xG0 hc q4 xs g L c z)) ?_ 2 (by rfl)
      obtain ⟨q7, hq7, H⟩ := xbd H
      refine Ex.call (mk := 118) (vs := [.ref 27, .int (3 : Int32)]) (rest := []) (by rfl) (by rfl) (Ex.up (T_m_fail (3 : Int32) q4 q7 hq7) (by decide)) (xbb c z) ?_
      show Ex _ _ (53, [some (.ref 27), some (.int a1)], [], xSt xG0 hc q7 xs g L c z) _
      exact T_m_checkElse_53 a1 q7 r H
  · replace H := (if_neg q2).symm.trans H
    refine Ex.many (f' := (15, [some (.ref 27), none], [.int (3 : Int32), .ref 27], xSt xG0 hc hr xs g L c z)) ?_ 2 (by rfl)
    obtain ⟨q8, hq8, H⟩ := xbd H
    refine Ex.call (mk := 118) (vs := [.ref 27, .int (3 : Int32)]) (rest := []) (by rfl) (by rfl) (Ex.up (T_m_fail (3 : Int32) hr q8 hq8) (by decide)) (xbb c z) ?_
    show Ex _ _ (18, [some (.ref 27), none], [], xSt xG0 hc q8 xs g L c z) _
    replace H := Option.some.inj H
    subst H
    exact Ex.done (by rfl)
def f_m_push (a1 : Int32) (hr : xI) : Option xI :=
  if ((hr 27 24) + a1) ≤ (20 : Int32) then (some (xput hr 27 24 ((hr 27 24) + a1))) else ((f_m_fail (6 : Int32) (xput hr 27 24 ((hr 27 24) + a1))).bind fun q2 => some q2)
theorem T_m_push {hc : xI} {g : xJ} {xs : Nat → Int32} {L c z : Nat} (a1 : Int32) (hr : xI) (r : xI) (H : f_m_push a1 hr = some r) : Ex 1 128 (0, [some (.ref 27), some (.int a1)], [], xSt xG0 hc hr xs g L c z) (.inl none, xSt xG0 hc r xs g L c z) := by
  unfold f_m_push at H
  refine Ex.many (f' := (7, [some (.ref 27), some (.int a1)], [.int ((hr 27 24) + a1), .ref 27], xSt xG0 hc hr xs g L c z)) ?_ 5 (by rfl)
  refine Ex.putR (pc := 10) (k := 27) (j := 24) (v := ((hr 27 24) + a1)) (ls := [some (.ref 27), some (.int a1)]) (st := []) (hr := hr) ?_ (by rfl) (by rfl)
  refine Ex.many (f' := (16, [some (.ref 27), some (.int a1)], [.int (20 : Int32), .int ((hr 27 24) + a1)], xSt xG0 hc (xput hr 27 24 ((hr 27 24) + a1)) xs g L c z)) ?_ 3 (by rfl)
  refine Ex.ite (ls := [some (.ref 27), some (.int a1)]) (st := []) (S := xSt xG0 hc (xput hr 27 24 ((hr 27 24) + a1)) xs g L c z) (by rfl) (fun q1 => ?_) (fun q1 => ?_)
  · replace H := (if_pos q1).symm.trans H
    replace H := Option.some.inj H
    subst H
    exact Ex.done (by rfl)
  · replace H := (if_neg q1).symm.trans H
    refine Ex.many (f' := (22, [some (.ref 27), none], [.int (6 : Int32), .ref 27], xSt xG0 hc (xput hr 27 24 ((hr 27 24) + a1)) xs g L c z)) ?_ 2 (by rfl)
    obtain ⟨q2, hq2, H⟩ := xbd H
    refine Ex.call (mk := 118) (vs := [.ref 27, .int (6 : Int32)]) (rest := []) (by rfl) (by rfl) (Ex.up (T_m_fail (6 : Int32) (xput hr 27 24 ((hr 27 24) + a1)) q2 hq2) (by decide)) (xbb c z) ?_
    show Ex _ _ (25, [some (.ref 27), none], [], xSt xG0 hc q2 xs g L c z) _
    replace H := Option.some.inj H
    subst H
    exact Ex.done (by rfl)
def f_m_checkEnd_52 (v1 : Int32) (v2 : Int32) (v3 : Int32) (hr : xI) : Option xI :=
  xgd v3 250 (xgd v3 250 (if ((hr 27 23) - (1 : Int32)) ≤ 0 then (xgd (v1 + (1 : Int32)) 7 (if (hr 29 (v1 + (1 : Int32)).toNatClampNeg) ≤ (v2 + (1 : Int32)) then (some (xput (xput (xput hr 39 v3.toNatClampNeg v2) 27 23 ((hr 27 23) - (1 : Int32))) 27 22 (hr 36 v3.toNatClampNeg))) else ((f_m_fail (7 : Int32) (xput (xput (xput hr 39 v3.toNatClampNeg v2) 27 23 ((hr 27 23) - (1 : Int32))) 27 22 (hr 36 v3.toNatClampNeg))).bind fun q6 => some q6))) else (xgd v3 250 ((f_m_push (hr 34 v3.toNatClampNeg) (xput (xput (xput hr 39 v3.toNatClampNeg v2) 27 23 ((hr 27 23) - (1 : Int32))) 27 22 (hr 36 v3.toNatClampNeg))).bind fun q8 => some q8))))
theorem T_m_checkEnd_52 {hc : xI} {g : xJ} {xs : Nat → Int32} {L c z : Nat} (v1 : Int32) (v2 : Int32) (v3 : Int32) (hr : xI) (r : xI) (H : f_m_checkEnd_52 v1 v2 v3 hr = some r) : Ex 2 127 (52, [some (.ref 27), some (.int v1), some (.int v2), some (.int v3)], [], xSt xG0 hc hr xs g L c z) (.inl none, xSt xG0 hc r xs g L c z) := by
  unfold f_m_checkEnd_52 at H
  refine Ex.many (f' := (58, [some (.ref 27), some (.int v1), some (.int v2), some (.int v3)], [.int v2, .int v3, .ref 39], xSt xG0 hc hr xs g L c z)) ?_ 4 (by rfl)
  obtain ⟨g1, H⟩ := xgd_some H
  refine Ex.gputR (pc := 59) (k := 39) (n := 250) (i := v3) (v := v2) (ls := [some (.ref 27), some (.int v1), some (.int v2), some (.int v3)]) (st := []) (hr := hr) ?_ (by rfl) g1 (by rfl)
  refine Ex.many (f' := (66, [some (.ref 27), some (.int v1), some (.int v2), some (.int v3)], [.int ((hr 27 23) - (1 : Int32)), .ref 27], xSt xG0 hc (xput hr 39 v3.toNatClampNeg v2) xs g L c z)) ?_ 5 (by rfl)
  refine Ex.putR (pc := 69) (k := 27) (j := 23) (v := ((hr 27 23) - (1 : Int32))) (ls := [some (.ref 27), some (.int v1), some (.int v2), some (.int v3)]) (st := []) (hr := (xput hr 39 v3.toNatClampNeg v2)) ?_ (by rfl) (by rfl)
  refine Ex.many (f' := (75, [some (.ref 27), some (.int v1), some (.int v2), some (.int v3)], [.int v3, .ref 36, .ref 27], xSt xG0 hc (xput (xput hr 39 v3.toNatClampNeg v2) 27 23 ((hr 27 23) - (1 : Int32))) xs g L c z)) ?_ 4 (by rfl)
  obtain ⟨g2, H⟩ := xgd_some H
  refine Ex.guard (f' := (76, [some (.ref 27), some (.int v1), some (.int v2), some (.int v3)], [.int (hr 36 v3.toNatClampNeg), .ref 27], xSt xG0 hc (xput (xput hr 39 v3.toNatClampNeg v2) 27 23 ((hr 27 23) - (1 : Int32))) xs g L c z)) (by rfl) g2 ?_
  refine Ex.putR (pc := 79) (k := 27) (j := 22) (v := (hr 36 v3.toNatClampNeg)) (ls := [some (.ref 27), some (.int v1), some (.int v2), some (.int v3)]) (st := []) (hr := (xput (xput hr 39 v3.toNatClampNeg v2) 27 23 ((hr 27 23) - (1 : Int32)))) ?_ (by rfl) (by rfl)
  refine Ex.many (f' := (83, [some (.ref 27), some (.int v1), some (.int v2), some (.int v3)], [.int ((hr 27 23) - (1 : Int32))], xSt xG0 hc (xput (xput (xput hr 39 v3.toNatClampNeg v2) 27 23 ((hr 27 23) - (1 : Int32))) 27 22 (hr 36 v3.toNatClampNeg)) xs g L c z)) ?_ 2 (by rfl)
  refine Ex.ite (ls := [some (.ref 27), some (.int v1), some (.int v2), some (.int v3)]) (st := []) (S := xSt xG0 hc (xput (xput (xput hr 39 v3.toNatClampNeg v2) 27 23 ((hr 27 23) - (1 : Int32))) 27 22 (hr 36 v3.toNatClampNeg)) xs g L c z) (by rfl) (fun q3 => ?_) (fun q3 => ?_)
  · replace H := (if_pos q3).symm.trans H
    refine Ex.many (f' := (109, [some (.ref 27), some (.int v1), some (.int v2), none], [.int (v1 + (1 : Int32)), .ref 29, .int (v2 + (1 : Int32))], xSt xG0 hc (xput (xput (xput hr 39 v3.toNatClampNeg v2) 27 23 ((hr 27 23) - (1 : Int32))) 27 22 (hr 36 v3.toNatClampNeg)) xs g L c z)) ?_ 8 (by rfl)
    obtain ⟨g4, H⟩ := xgd_some H
    refine Ex.guard (f' := (110, [some (.ref 27), some (.int v1), some (.int v2), none], [.int (hr 29 (v1 + (1 : Int32)).toNatClampNeg), .int (v2 + (1 : Int32))], xSt xG0 hc (xput (xput (xput hr 39 v3.toNatClampNeg v2) 27 23 ((hr 27 23) - (1 : Int32))) 27 22 (hr 36 v3.toNatClampNeg)) xs g L c z)) (by rfl) g4 ?_
    refine Ex.ite (ls := [some (.ref 27), some (.int v1), some (.int v2), none]) (st := []) (S := xSt xG0 hc (xput (xput (xput hr 39 v3.toNatClampNeg v2) 27 23 ((hr 27 23) - (1 : Int32))) 27 22 (hr 36 v3.toNatClampNeg)) xs g L c z) (by rfl) (fun q5 => ?_) (fun q5 => ?_)
    · replace H := (if_pos q5).symm.trans H
      replace H := Option.some.inj H
      subst H
      exact Ex.done (by rfl)
    · replace H := (if_neg q5).symm.trans H
      refine Ex.many (f' := (116, [some (.ref 27), none, none, none], [.int (7 : Int32), .ref 27], xSt xG0 hc (xput (xput (xput hr 39 v3.toNatClampNeg v2) 27 23 ((hr 27 23) - (1 : Int32))) 27 22 (hr 36 v3.toNatClampNeg)) xs g L c z)) ?_ 2 (by rfl)
      obtain ⟨q6, hq6, H⟩ := xbd H
      refine Ex.call (mk := 118) (vs := [.ref 27, .int (7 : Int32)]) (rest := []) (by rfl) (by rfl) (Ex.up (T_m_fail (7 : Int32) (xput (xput (xput hr 39 v3.toNatClampNeg v2) 27 23 ((hr 27 23) - (1 : Int32))) 27 22 (hr 36 v3.toNatClampNeg)) q6 hq6) (by decide)) (xbb c z) ?_
      show Ex _ _ (119, [some (.ref 27), none, none, none], [], xSt xG0 hc q6 xs g L c z) _
      replace H := Option.some.inj H
      subst H
      exact Ex.done (by rfl)
  · replace H := (if_neg q3).symm.trans H
    refine Ex.many (f' := (92, [some (.ref 27), none, none, some (.int v3)], [.int v3, .ref 34, .ref 27], xSt xG0 hc (xput (xput (xput hr 39 v3.toNatClampNeg v2) 27 23 ((hr 27 23) - (1 : Int32))) 27 22 (hr 36 v3.toNatClampNeg)) xs g L c z)) ?_ 4 (by rfl)
    obtain ⟨g7, H⟩ := xgd_some H
    refine Ex.guard (f' := (93, [some (.ref 27), none, none, some (.int v3)], [.int (hr 34 v3.toNatClampNeg), .ref 27], xSt xG0 hc (xput (xput (xput hr 39 v3.toNatClampNeg v2) 27 23 ((hr 27 23) - (1 : Int32))) 27 22 (hr 36 v3.toNatClampNeg)) xs g L c z)) (by rfl) g7 ?_
    obtain ⟨q8, hq8, H⟩ := xbd H
    refine Ex.call (mk := 128) (vs := [.ref 27, .int (hr 34 v3.toNatClampNeg)]) (rest := []) (by rfl) (by rfl) (Ex.up (T_m_push (hr 34 v3.toNatClampNeg) (xput (xput (xput hr 39 v3.toNatClampNeg v2) 27 23 ((hr 27 23) - (1 : Int32))) 27 22 (hr 36 v3.toNatClampNeg)) q8 hq8) (by decide)) (xbb c z) ?_
    show Ex _ _ (96, [some (.ref 27), none, none, some (.int v3)], [], xSt xG0 hc q8 xs g L c z) _
    refine Ex.many (f' := (119, [none, none, none, none], [], xSt xG0 hc q8 xs g L c z)) ?_ 1 (by rfl)
    replace H := Option.some.inj H
    subst H
    exact Ex.done (by rfl)
def f_m_checkEnd_47 (v1 : Int32) (v2 : Int32) (v3 : Int32) (hr : xI) : Option xI :=
  (f_m_fail (3 : Int32) hr).bind fun q1 => f_m_checkEnd_52 v1 v2 v3 q1
theorem T_m_checkEnd_47 {hc : xI} {g : xJ} {xs : Nat → Int32} {L c z : Nat} (v1 : Int32) (v2 : Int32) (v3 : Int32) (hr : xI) (r : xI) (H : f_m_checkEnd_47 v1 v2 v3 hr = some r) : Ex 2 127 (47, [some (.ref 27), some (.int v1), some (.int v2), some (.int v3)], [], xSt xG0 hc hr xs g L c z) (.inl none, xSt xG0 hc r xs g L c z) := by
  unfold f_m_checkEnd_47 at H
  refine Ex.many (f' := (49, [some (.ref 27), some (.int v1), some (.int v2), some (.int v3)], [.int (3 : Int32), .ref 27], xSt xG0 hc hr xs g L c z)) ?_ 2 (by rfl)
  obtain ⟨q1, hq1, H⟩ := xbd H
  refine Ex.call (mk := 118) (vs := [.ref 27, .int (3 : Int32)]) (rest := []) (by rfl) (by rfl) (Ex.up (T_m_fail (3 : Int32) hr q1 hq1) (by decide)) (xbb c z) ?_
  show Ex _ _ (52, [some (.ref 27), some (.int v1), some (.int v2), some (.int v3)], [], xSt xG0 hc q1 xs g L c z) _
  exact T_m_checkEnd_52 v1 v2 v3 q1 r H
def f_m_checkEnd (a1 : Int32) (a2 : Int32) (hr : xI) : Option xI :=
  xgd (hr 27 22) 250 ((f_m_pop (hr 34 (hr 27 22).toNatClampNeg) hr).bind fun q2 => xgd (hr 27 22) 250 (if (q2 27 24) = (q2 35 (hr 27 22).toNatClampNeg) then (xgd (hr 27 22) 250 (if (q2 33 (hr 27 22).toNatClampNeg) = (4 : Int32) then (xgd (hr 27 22) 250 (if (q2 34 (hr 27 22).toNatClampNeg) ≤ 0 then (f_m_checkEnd_52 a1 a2 (hr 27 22) q2) else (f_m_checkEnd_47 a1 a2 (hr 27 22) q2))) else (f_m_checkEnd_52 a1 a2 (hr 27 22) q2))) else (f_m_checkEnd_47 a1 a2 (hr 27 22) q2)))
theorem T_m_checkEnd {hc : xI} {g : xJ} {xs : Nat → Int32} {L c z : Nat} (a1 : Int32) (a2 : Int32) (hr : xI) (r : xI) (H : f_m_checkEnd a1 a2 hr = some r) : Ex 2 127 (0, [some (.ref 27), some (.int a1), some (.int a2), none], [], xSt xG0 hc hr xs g L c z) (.inl none, xSt xG0 hc r xs g L c z) := by
  unfold f_m_checkEnd at H
  refine Ex.many (f' := (11, [some (.ref 27), some (.int a1), some (.int a2), some (.int (hr 27 22))], [.int (hr 27 22), .ref 34, .ref 27], xSt xG0 hc hr xs g L c z)) ?_ 7 (by rfl)
  obtain ⟨g1, H⟩ := xgd_some H
  refine Ex.guard (f' := (12, [some (.ref 27), some (.int a1), some (.int a2), some (.int (hr 27 22))], [.int (hr 34 (hr 27 22).toNatClampNeg), .ref 27], xSt xG0 hc hr xs g L c z)) (by rfl) g1 ?_
  obtain ⟨q2, hq2, H⟩ := xbd H
  refine Ex.call (mk := 125) (vs := [.ref 27, .int (hr 34 (hr 27 22).toNatClampNeg)]) (rest := []) (by rfl) (by rfl) (Ex.up (T_m_pop (hr 34 (hr 27 22).toNatClampNeg) hr q2 hq2) (by decide)) (xbb c z) ?_
  show Ex _ _ (15, [some (.ref 27), some (.int a1), some (.int a2), some (.int (hr 27 22))], [], xSt xG0 hc q2 xs g L c z) _
  refine Ex.many (f' := (24, [some (.ref 27), some (.int a1), some (.int a2), some (.int (hr 27 22))], [.int (hr 27 22), .ref 35, .int (q2 27 24)], xSt xG0 hc q2 xs g L c z)) ?_ 5 (by rfl)
  obtain ⟨g3, H⟩ := xgd_some H
  refine Ex.guard (f' := (25, [some (.ref 27), some (.int a1), some (.int a2), some (.int (hr 27 22))], [.int (q2 35 (hr 27 22).toNatClampNeg), .int (q2 27 24)], xSt xG0 hc q2 xs g L c z)) (by rfl) g3 ?_
  refine Ex.ite (ls := [some (.ref 27), some (.int a1), some (.int a2), some (.int (hr 27 22))]) (st := []) (S := xSt xG0 hc q2 xs g L c z) (by rfl) (fun q4 => ?_) (fun q4 => ?_)
  · replace H := (if_pos q4).symm.trans H
    refine Ex.many (f' := (33, [some (.ref 27), some (.int a1), some (.int a2), some (.int (hr 27 22))], [.int (hr 27 22), .ref 33], xSt xG0 hc q2 xs g L c z)) ?_ 3 (by rfl)
    obtain ⟨g5, H⟩ := xgd_some H
    refine Ex.guard (f' := (34, [some (.ref 27), some (.int a1), some (.int a2), some (.int (hr 27 22))], [.int (q2 33 (hr 27 22).toNatClampNeg)], xSt xG0 hc q2 xs g L c z)) (by rfl) g5 ?_
    refine Ex.many (f' := (35, [some (.ref 27), some (.int a1), some (.int a2), some (.int (hr 27 22))], [.int (4 : Int32), .int (q2 33 (hr 27 22).toNatClampNeg)], xSt xG0 hc q2 xs g L c z)) ?_ 1 (by rfl)
    refine Ex.ite (ls := [some (.ref 27), some (.int a1), some (.int a2), some (.int (hr 27 22))]) (st := []) (S := xSt xG0 hc q2 xs g L c z) (by rfl) (fun q6 => ?_) (fun q6 => ?_)
    · replace H := (if_pos q6).symm.trans H
      refine Ex.many (f' := (43, [some (.ref 27), some (.int a1), some (.int a2), some (.int (hr 27 22))], [.int (hr 27 22), .ref 34], xSt xG0 hc q2 xs g L c z)) ?_ 3 (by rfl)
      obtain ⟨g7, H⟩ := xgd_some H
      refine Ex.guard (f' := (44, [some (.ref 27), some (.int a1), some (.int a2), some (.int (hr 27 22))], [.int (q2 34 (hr 27 22).toNatClampNeg)], xSt xG0 hc q2 xs g L c z)) (by rfl) g7 ?_
      refine Ex.ite (ls := [some (.ref 27), some (.int a1), some (.int a2), some (.int (hr 27 22))]) (st := []) (S := xSt xG0 hc q2 xs g L c z) (by rfl) (fun q8 => ?_) (fun q8 => ?_)
      · replace H := (if_pos q8).symm.trans H
        exact T_m_checkEnd_52 a1 a2 (hr 27 22) q2 r H
      · replace H := (if_neg q8).symm.trans H
        exact T_m_checkEnd_47 a1 a2 (hr 27 22) q2 r H
    · replace H := (if_neg q6).symm.trans H
      exact T_m_checkEnd_52 a1 a2 (hr 27 22) q2 r H
  · replace H := (if_neg q4).symm.trans H
    exact T_m_checkEnd_47 a1 a2 (hr 27 22) q2 r H
def f_m_outer_5 : Nat → Int32 → Int32 → Int32 → xI → Option Int32
  | 0, _, _, _, _ => none
  | n + 1, v2, v3, v4, hr => if v2 ≤ v4 then (some v3) else (if (10 : Int32) ≤ v4 then (some v3) else (xgd v3 250 (f_m_outer_5 n v2 (hr 36 v3.toNatClampNeg) (v4 + (1 : Int32)) hr)))
theorem T_m_outer_5 {hc : xI} {g : xJ} {xs : Nat → Int32} {L c z : Nat} (n : Nat) : ∀ (v2 : Int32) (v3 : Int32) (v4 : Int32) (hr : xI) (r : Int32), f_m_outer_5 n v2 v3 v4 hr = some r → Ex 0 129 (5, [some (.ref 27), none, some (.int v2), some (.int v3), some (.int v4)], [], xSt xG0 hc hr xs g L c z) (.inl (some (.int r)), xSt xG0 hc hr xs g L c z) := by
  induction n with
  | zero =>
    intro v2 v3 v4 hr r H
    unfold f_m_outer_5 at H
    cases H
  | succ n ih =>
    intro v2 v3 v4 hr r H
    unfold f_m_outer_5 at H
    refine Ex.many (f' := (8, [some (.ref 27), none, some (.int v2), some (.int v3), some (.int v4)], [.int v2, .int v4], xSt xG0 hc hr xs g L c z)) ?_ 2 (by rfl)
    refine Ex.ite (ls := [some (.ref 27), none, some (.int v2), some (.int v3), some (.int v4)]) (st := []) (S := xSt xG0 hc hr xs g L c z) (by rfl) (fun q1 => ?_) (fun q1 => ?_)
    · replace H := (if_pos q1).symm.trans H
      refine Ex.many (f' := (32, [none, none, none, some (.int v3), none], [.int v3], xSt xG0 hc hr xs g L c z)) ?_ 1 (by rfl)
      replace H := Option.some.inj H
      subst H
      exact Ex.done (by rfl)
    · replace H := (if_neg q1).symm.trans H
      refine Ex.many (f' := (15, [some (.ref 27), none, some (.int v2), some (.int v3), some (.int v4)], [.int (10 : Int32), .int v4], xSt xG0 hc hr xs g L c z)) ?_ 2 (by rfl)
      refine Ex.ite (ls := [some (.ref 27), none, some (.int v2), some (.int v3), some (.int v4)]) (st := []) (S := xSt xG0 hc hr xs g L c z) (by rfl) (fun q2 => ?_) (fun q2 => ?_)
      · replace H := (if_pos q2).symm.trans H
        refine Ex.many (f' := (32, [none, none, none, some (.int v3), none], [.int v3], xSt xG0 hc hr xs g L c z)) ?_ 1 (by rfl)
        replace H := Option.some.inj H
        subst H
        exact Ex.done (by rfl)
      · replace H := (if_neg q2).symm.trans H
        refine Ex.many (f' := (23, [some (.ref 27), none, some (.int v2), some (.int v3), some (.int v4)], [.int v3, .ref 36], xSt xG0 hc hr xs g L c z)) ?_ 3 (by rfl)
        obtain ⟨g3, H⟩ := xgd_some H
        refine Ex.guard (f' := (24, [some (.ref 27), none, some (.int v2), some (.int v3), some (.int v4)], [.int (hr 36 v3.toNatClampNeg)], xSt xG0 hc hr xs g L c z)) (by rfl) g3 ?_
        refine Ex.many (f' := (5, [some (.ref 27), none, some (.int v2), some (.int (hr 36 v3.toNatClampNeg)), some (.int (v4 + (1 : Int32)))], [], xSt xG0 hc hr xs g L c z)) ?_ 3 (by rfl)
        exact ih v2 (hr 36 v3.toNatClampNeg) (v4 + (1 : Int32)) hr r H
def f_m_outer (a1 : Int32) (a2 : Int32) (hr : xI) : Option Int32 :=
  f_m_outer_5 1000 a2 a1 (0 : Int32) hr
theorem T_m_outer {hc : xI} {g : xJ} {xs : Nat → Int32} {L c z : Nat} (a1 : Int32) (a2 : Int32) (hr : xI) (r : Int32) (H : f_m_outer a1 a2 hr = some r) : Ex 0 129 (0, [some (.ref 27), some (.int a1), some (.int a2), none, none], [], xSt xG0 hc hr xs g L c z) (.inl (some (.int r)), xSt xG0 hc hr xs g L c z) := by
  unfold f_m_outer at H
  refine Ex.many (f' := (5, [some (.ref 27), some (.int a1), some (.int a2), some (.int a1), some (.int (0 : Int32))], [], xSt xG0 hc hr xs g L c z)) ?_ 4 (by rfl)
  refine Ex.kill (ls' := [some (.ref 27), none, some (.int a2), some (.int a1), some (.int (0 : Int32))]) (by rfl) ?_
  exact T_m_outer_5 1000 a2 a1 (0 : Int32) hr r H
def f_m_takes (a1 : Int32) (hr : xI) : Option Int32 :=
  xgd a1 250 (if (hr 33 a1.toNatClampNeg) = (3 : Int32) then (some (0 : Int32)) else (xgd a1 250 (some (hr 34 a1.toNatClampNeg))))
theorem T_m_takes {hc : xI} {g : xJ} {xs : Nat → Int32} {L c z : Nat} (a1 : Int32) (hr : xI) (r : Int32) (H : f_m_takes a1 hr = some r) : Ex 0 130 (0, [some (.ref 27), some (.int a1)], [], xSt xG0 hc hr xs g L c z) (.inl (some (.int r)), xSt xG0 hc hr xs g L c z) := by
  unfold f_m_takes at H
  refine Ex.many (f' := (5, [some (.ref 27), some (.int a1)], [.int a1, .ref 33], xSt xG0 hc hr xs g L c z)) ?_ 3 (by rfl)
  obtain ⟨g1, H⟩ := xgd_some H
  refine Ex.guard (f' := (6, [some (.ref 27), some (.int a1)], [.int (hr 33 a1.toNatClampNeg)], xSt xG0 hc hr xs g L c z)) (by rfl) g1 ?_
  refine Ex.many (f' := (7, [some (.ref 27), some (.int a1)], [.int (3 : Int32), .int (hr 33 a1.toNatClampNeg)], xSt xG0 hc hr xs g L c z)) ?_ 1 (by rfl)
  refine Ex.ite (ls := [some (.ref 27), some (.int a1)]) (st := []) (S := xSt xG0 hc hr xs g L c z) (by rfl) (fun q2 => ?_) (fun q2 => ?_)
  · replace H := (if_pos q2).symm.trans H
    refine Ex.many (f' := (20, [none, none], [.int (0 : Int32)], xSt xG0 hc hr xs g L c z)) ?_ 2 (by rfl)
    replace H := Option.some.inj H
    subst H
    exact Ex.done (by rfl)
  · replace H := (if_neg q2).symm.trans H
    refine Ex.many (f' := (19, [some (.ref 27), some (.int a1)], [.int a1, .ref 34], xSt xG0 hc hr xs g L c z)) ?_ 3 (by rfl)
    obtain ⟨g3, H⟩ := xgd_some H
    refine Ex.guard (f' := (20, [some (.ref 27), some (.int a1)], [.int (hr 34 a1.toNatClampNeg)], xSt xG0 hc hr xs g L c z)) (by rfl) g3 ?_
    replace H := Option.some.inj H
    subst H
    exact Ex.done (by rfl)
def f_m_leave (hr : xI) : Option xI :=
  xgd (hr 27 22) 250 (xgd (hr 27 22) 250 (some (xput (xput hr 27 24 (hr 35 (hr 27 22).toNatClampNeg)) 40 (hr 27 22).toNatClampNeg (vp_nar .boolean (0 : Int32)))))
theorem T_m_leave {hc : xI} {g : xJ} {xs : Nat → Int32} {L c z : Nat} (hr : xI) (r : xI) (H : f_m_leave hr = some r) : Ex 0 131 (0, [some (.ref 27)], [], xSt xG0 hc hr xs g L c z) (.inl none, xSt xG0 hc r xs g L c z) := by
  unfold f_m_leave at H
  refine Ex.many (f' := (9, [some (.ref 27)], [.int (hr 27 22), .ref 35, .ref 27], xSt xG0 hc hr xs g L c z)) ?_ 5 (by rfl)
  obtain ⟨g1, H⟩ := xgd_some H
  refine Ex.guard (f' := (10, [some (.ref 27)], [.int (hr 35 (hr 27 22).toNatClampNeg), .ref 27], xSt xG0 hc hr xs g L c z)) (by rfl) g1 ?_
  refine Ex.putR (pc := 13) (k := 27) (j := 24) (v := (hr 35 (hr 27 22).toNatClampNeg)) (ls := [some (.ref 27)]) (st := []) (hr := hr) ?_ (by rfl) (by rfl)
  refine Ex.many (f' := (22, [some (.ref 27)], [.int (0 : Int32), .int (hr 27 22), .ref 40], xSt xG0 hc (xput hr 27 24 (hr 35 (hr 27 22).toNatClampNeg)) xs g L c z)) ?_ 5 (by rfl)
  obtain ⟨g2, H⟩ := xgd_some H
  refine Ex.gputR (pc := 23) (k := 40) (n := 250) (i := (hr 27 22)) (v := (vp_nar .boolean (0 : Int32))) (ls := [some (.ref 27)]) (st := []) (hr := (xput hr 27 24 (hr 35 (hr 27 22).toNatClampNeg))) ?_ (by rfl) g2 (by rfl)
  replace H := Option.some.inj H
  subst H
  exact Ex.done (by rfl)
def f_m_checkTable_71 (k : Int32 → Int32 → Int32 → Int32 → xI → Option xI) (v1 : Int32) (v2 : Int32) (v3 : Int32) (v4 : Int32) (hr : xI) : Option xI :=
  k v1 v2 v3 (v4 + (1 : Int32)) hr
theorem T_m_checkTable_71 {hc : xI} {g : xJ} {xs : Nat → Int32} {L c z : Nat} (k : Int32 → Int32 → Int32 → Int32 → xI → Option xI) (hk : ∀ (v1 : Int32) (v2 : Int32) (v3 : Int32) (v4 : Int32) (hr : xI) (r : xI), k v1 v2 v3 v4 hr = some r → Ex 2 132 (33, [some (.ref 27), some (.int v1), some (.int v2), some (.int v3), some (.int v4)], [], xSt xG0 hc hr xs g L c z) (.inl none, xSt xG0 hc r xs g L c z)) (v1 : Int32) (v2 : Int32) (v3 : Int32) (v4 : Int32) (hr : xI) (r : xI) (H : f_m_checkTable_71 k v1 v2 v3 v4 hr = some r) : Ex 2 132 (71, [some (.ref 27), some (.int v1), some (.int v2), some (.int v3), some (.int v4)], [], xSt xG0 hc hr xs g L c z) (.inl none, xSt xG0 hc r xs g L c z) := by
  unfold f_m_checkTable_71 at H
  refine Ex.many (f' := (33, [some (.ref 27), some (.int v1), some (.int v2), some (.int v3), some (.int (v4 + (1 : Int32)))], [], xSt xG0 hc hr xs g L c z)) ?_ 2 (by rfl)
  exact hk v1 v2 v3 (v4 + (1 : Int32)) hr r H
def f_m_checkTable_33 : Nat → Int32 → Int32 → Int32 → Int32 → xI → Option xI
  | 0, _, _, _, _, _ => none
  | n + 1, v1, v2, v3, v4, hr => if v2 < v4 then ((f_m_pop (1 : Int32) hr).bind fun q2 => (f_m_pop v3 q2).bind fun q3 => (f_m_leave q3).bind fun q4 => some q4) else (xgd ((v1 + (2 : Int32)) + v4) 240 ((f_m_outer (hr 27 22) (hr 28 ((v1 + (2 : Int32)) + v4).toNatClampNeg) hr).bind fun q6 => (f_m_takes q6 hr).bind fun q7 => if q7 = v3 then (f_m_checkTable_71 (f_m_checkTable_33 n) v1 v2 v3 v4 hr) else ((f_m_fail (3 : Int32) hr).bind fun q9 => f_m_checkTable_71 (f_m_checkTable_33 n) v1 v2 v3 v4 q9)))
theorem T_m_checkTable_33 {hc : xI} {g : xJ} {xs : Nat → Int32} {L c z : Nat} (n : Nat) : ∀ (v1 : Int32) (v2 : Int32) (v3 : Int32) (v4 : Int32) (hr : xI) (r : xI), f_m_checkTable_33 n v1 v2 v3 v4 hr = some r → Ex 2 132 (33, [some (.ref 27), some (.int v1), some (.int v2), some (.int v3), some (.int v4)], [], xSt xG0 hc hr xs g L c z) (.inl none, xSt xG0 hc r xs g L c z) := by
  induction n with
  | zero =>
    intro v1 v2 v3 v4 hr r H
    unfold f_m_checkTable_33 at H
    cases H
  | succ n ih =>
    intro v1 v2 v3 v4 hr r H
    unfold f_m_checkTable_33 at H
    refine Ex.many (f' := (36, [some (.ref 27), some (.int v1), some (.int v2), some (.int v3), some (.int v4)], [.int v2, .int v4], xSt xG0 hc hr xs g L c z)) ?_ 2 (by rfl)
    refine Ex.ite (ls := [some (.ref 27), some (.int v1), some (.int v2), some (.int v3), some (.int v4)]) (st := []) (S := xSt xG0 hc hr xs g L c z) (by rfl) (fun q1 => ?_) (fun q1 => ?_)
    · replace H := (if_pos q1).symm.trans H
      refine Ex.many (f' := (79, [some (.ref 27), none, none, some (.int v3), none], [.int (1 : Int32), .ref 27], xSt xG0 hc hr xs g L c z)) ?_ 2 (by rfl)
      obtain ⟨q2, hq2, H⟩ := xbd H
      refine Ex.call (mk := 125) (vs := [.ref 27, .int (1 : Int32)]) (rest := []) (by rfl) (by rfl) (Ex.up (T_m_pop (1 : Int32) hr q2 hq2) (by decide)) (xbb c z) ?_
      show Ex _ _ (82, [some (.ref 27), none, none, some (.int v3), none], [], xSt xG0 hc q2 xs g L c z) _
      refine Ex.many (f' := (84, [some (.ref 27), none, none, some (.int v3), none], [.int v3, .ref 27], xSt xG0 hc q2 xs g L c z)) ?_ 2 (by rfl)
      obtain ⟨q3, hq3, H⟩ := xbd H
      refine Ex.call (mk := 125) (vs := [.ref 27, .int v3]) (rest := []) (by rfl) (by rfl) (Ex.up (T_m_pop v3 q2 q3 hq3) (by decide)) (xbb c z) ?_
      show Ex _ _ (87, [some (.ref 27), none, none, some (.int v3), none], [], xSt xG0 hc q3 xs g L c z) _
      refine Ex.many (f' := (88, [some (.ref 27), none, none, none, none], [.ref 27], xSt xG0 hc q3 xs g L c z)) ?_ 1 (by rfl)
      obtain ⟨q4, hq4, H⟩ := xbd H
      refine Ex.call (mk := 131) (vs := [.ref 27]) (rest := []) (by rfl) (by rfl) (Ex.up (T_m_leave q3 q4 hq4) (by decide)) (xbb c z) ?_
      show Ex _ _ (91, [some (.ref 27), none, none, none, none], [], xSt xG0 hc q4 xs g L c z) _
      replace H := Option.some.inj H
      subst H
      exact Ex.done (by rfl)
    · replace H := (if_neg q1).symm.trans H
      refine Ex.many (f' := (55, [some (.ref 27), some (.int v1), some (.int v2), some (.int v3), some (.int v4)], [.int ((v1 + (2 : Int32)) + v4), .ref 28, .int (hr 27 22), .ref 27, .ref 27], xSt xG0 hc hr xs g L c z)) ?_ 11 (by rfl)
      obtain ⟨g5, H⟩ := xgd_some H
      refine Ex.guard (f' := (56, [some (.ref 27), some (.int v1), some (.int v2), some (.int v3), some (.int v4)], [.int (hr 28 ((v1 + (2 : Int32)) + v4).toNatClampNeg), .int (hr 27 22), .ref 27, .ref 27], xSt xG0 hc hr xs g L c z)) (by rfl) g5 ?_
      obtain ⟨q6, hq6, H⟩ := xbd H
      refine Ex.call (mk := 129) (vs := [.ref 27, .int (hr 27 22), .int (hr 28 ((v1 + (2 : Int32)) + v4).toNatClampNeg)]) (rest := [.ref 27]) (by rfl) (by rfl) (Ex.up (T_m_outer (hr 27 22) (hr 28 ((v1 + (2 : Int32)) + v4).toNatClampNeg) hr q6 hq6) (by decide)) (xbb c z) ?_
      show Ex _ _ (59, [some (.ref 27), some (.int v1), some (.int v2), some (.int v3), some (.int v4)], [.int q6, .ref 27], xSt xG0 hc hr xs g L c z) _
      obtain ⟨q7, hq7, H⟩ := xbd H
      refine Ex.call (mk := 130) (vs := [.ref 27, .int q6]) (rest := []) (by rfl) (by rfl) (Ex.up (T_m_takes q6 hr q7 hq7) (by decide)) (xbb c z) ?_
      show Ex _ _ (62, [some (.ref 27), some (.int v1), some (.int v2), some (.int v3), some (.int v4)], [.int q7], xSt xG0 hc hr xs g L c z) _
      refine Ex.many (f' := (63, [some (.ref 27), some (.int v1), some (.int v2), some (.int v3), some (.int v4)], [.int v3, .int q7], xSt xG0 hc hr xs g L c z)) ?_ 1 (by rfl)
      refine Ex.ite (ls := [some (.ref 27), some (.int v1), some (.int v2), some (.int v3), some (.int v4)]) (st := []) (S := xSt xG0 hc hr xs g L c z) (by rfl) (fun q8 => ?_) (fun q8 => ?_)
      · replace H := (if_pos q8).symm.trans H
        exact T_m_checkTable_71 (f_m_checkTable_33 n) ih v1 v2 v3 v4 hr r H
      · replace H := (if_neg q8).symm.trans H
        refine Ex.many (f' := (68, [some (.ref 27), some (.int v1), some (.int v2), some (.int v3), some (.int v4)], [.int (3 : Int32), .ref 27], xSt xG0 hc hr xs g L c z)) ?_ 2 (by rfl)
        obtain ⟨q9, hq9, H⟩ := xbd H
        refine Ex.call (mk := 118) (vs := [.ref 27, .int (3 : Int32)]) (rest := []) (by rfl) (by rfl) (Ex.up (T_m_fail (3 : Int32) hr q9 hq9) (by decide)) (xbb c z) ?_
        show Ex _ _ (71, [some (.ref 27), some (.int v1), some (.int v2), some (.int v3), some (.int v4)], [], xSt xG0 hc q9 xs g L c z) _
        exact T_m_checkTable_71 (f_m_checkTable_33 n) ih v1 v2 v3 v4 q9 r H
def f_m_checkTable (a1 : Int32) (hr : xI) : Option xI :=
  xgd (a1 + (1 : Int32)) 240 (xgd (a1 + (2 : Int32)) 240 ((f_m_outer (hr 27 22) (hr 28 (a1 + (2 : Int32)).toNatClampNeg) hr).bind fun q3 => (f_m_takes q3 hr).bind fun q4 => f_m_checkTable_33 1000 a1 (hr 28 (a1 + (1 : Int32)).toNatClampNeg) q4 (1 : Int32) hr))
theorem T_m_checkTable {hc : xI} {g : xJ} {xs : Nat → Int32} {L c z : Nat} (a1 : Int32) (hr : xI) (r : xI) (H : f_m_checkTable a1 hr = some r) : Ex 2 132 (0, [some (.ref 27), some (.int a1), none, none, none], [], xSt xG0 hc hr xs g L c z) (.inl none, xSt xG0 hc r xs g L c z) := by
  unfold f_m_checkTable at H
  refine Ex.many (f' := (7, [some (.ref 27), some (.int a1), none, none, none], [.int (a1 + (1 : Int32)), .ref 28], xSt xG0 hc hr xs g L c z)) ?_ 5 (by rfl)
  obtain ⟨g1, H⟩ := xgd_some H
  refine Ex.guard (f' := (8, [some (.ref 27), some (.int a1), none, none, none], [.int (hr 28 (a1 + (1 : Int32)).toNatClampNeg)], xSt xG0 hc hr xs g L c z)) (by rfl) g1 ?_
  refine Ex.many (f' := (22, [some (.ref 27), some (.int a1), some (.int (hr 28 (a1 + (1 : Int32)).toNatClampNeg)), none, none], [.int (a1 + (2 : Int32)), .ref 28, .int (hr 27 22), .ref 27, .ref 27], xSt xG0 hc hr xs g L c z)) ?_ 10 (by rfl)
  obtain ⟨g2, H⟩ := xgd_some H
  refine Ex.guard (f' := (23, [some (.ref 27), some (.int a1), some (.int (hr 28 (a1 + (1 : Int32)).toNatClampNeg)), none, none], [.int (hr 28 (a1 + (2 : Int32)).toNatClampNeg), .int (hr 27 22), .ref 27, .ref 27], xSt xG0 hc hr xs g L c z)) (by rfl) g2 ?_
  obtain ⟨q3, hq3, H⟩ := xbd H
  refine Ex.call (mk := 129) (vs := [.ref 27, .int (hr 27 22), .int (hr 28 (a1 + (2 : Int32)).toNatClampNeg)]) (rest := [.ref 27]) (by rfl) (by rfl) (Ex.up (T_m_outer (hr 27 22) (hr 28 (a1 + (2 : Int32)).toNatClampNeg) hr q3 hq3) (by decide)) (xbb c z) ?_
  show Ex _ _ (26, [some (.ref 27), some (.int a1), some (.int (hr 28 (a1 + (1 : Int32)).toNatClampNeg)), none, none], [.int q3, .ref 27], xSt xG0 hc hr xs g L c z) _
  obtain ⟨q4, hq4, H⟩ := xbd H
  refine Ex.call (mk := 130) (vs := [.ref 27, .int q3]) (rest := []) (by rfl) (by rfl) (Ex.up (T_m_takes q3 hr q4 hq4) (by decide)) (xbb c z) ?_
  show Ex _ _ (29, [some (.ref 27), some (.int a1), some (.int (hr 28 (a1 + (1 : Int32)).toNatClampNeg)), none, none], [.int q4], xSt xG0 hc hr xs g L c z) _
  refine Ex.many (f' := (33, [some (.ref 27), some (.int a1), some (.int (hr 28 (a1 + (1 : Int32)).toNatClampNeg)), some (.int q4), some (.int (1 : Int32))], [], xSt xG0 hc hr xs g L c z)) ?_ 3 (by rfl)
  exact T_m_checkTable_33 1000 a1 (hr 28 (a1 + (1 : Int32)).toNatClampNeg) q4 (1 : Int32) hr r H
def f_m_eats_40 (v0 : Int32) : Int32 :=
  if v0 < (106 : Int32) then (if v0 = (1 : Int32) then (0 : Int32) else (if v0 = (32 : Int32) then (0 : Int32) else (if v0 = (35 : Int32) then (0 : Int32) else (if v0 = (63 : Int32) then (0 : Int32) else (if v0 = (65 : Int32) then (0 : Int32) else (1 : Int32)))))) else (2 : Int32)
theorem T_m_eats_40 {hc : xI} {hr : xI} {g : xJ} {xs : Nat → Int32} {L c z : Nat} (v0 : Int32) (r : Int32) (H : f_m_eats_40 v0 = r) : Ex 0 133 (40, [some (.int v0)], [], xSt xG0 hc hr xs g L c z) (.inl (some (.int r)), xSt xG0 hc hr xs g L c z) := by
  unfold f_m_eats_40 at H
  refine Ex.many (f' := (43, [some (.int v0)], [.int (106 : Int32), .int v0], xSt xG0 hc hr xs g L c z)) ?_ 2 (by rfl)
  refine Ex.ite (ls := [some (.int v0)]) (st := []) (S := xSt xG0 hc hr xs g L c z) (by rfl) (fun q1 => ?_) (fun q1 => ?_)
  · replace H := (if_pos q1).symm.trans H
    refine Ex.many (f' := (52, [some (.int v0)], [.int (1 : Int32), .int v0], xSt xG0 hc hr xs g L c z)) ?_ 2 (by rfl)
    refine Ex.ite (ls := [some (.int v0)]) (st := []) (S := xSt xG0 hc hr xs g L c z) (by rfl) (fun q2 => ?_) (fun q2 => ?_)
    · replace H := (if_pos q2).symm.trans H
      refine Ex.many (f' := (84, [none], [.int (0 : Int32)], xSt xG0 hc hr xs g L c z)) ?_ 2 (by rfl)
      skip
      subst H
      exact Ex.done (by rfl)
    · replace H := (if_neg q2).symm.trans H
      refine Ex.many (f' := (58, [some (.int v0)], [.int (32 : Int32), .int v0], xSt xG0 hc hr xs g L c z)) ?_ 2 (by rfl)
      refine Ex.ite (ls := [some (.int v0)]) (st := []) (S := xSt xG0 hc hr xs g L c z) (by rfl) (fun q3 => ?_) (fun q3 => ?_)
      · replace H := (if_pos q3).symm.trans H
        refine Ex.many (f' := (84, [none], [.int (0 : Int32)], xSt xG0 hc hr xs g L c z)) ?_ 2 (by rfl)
        skip
        subst H
        exact Ex.done (by rfl)
      · replace H := (if_neg q3).symm.trans H
        refine Ex.many (f' := (64, [some (.int v0)], [.int (35 : Int32), .int v0], xSt xG0 hc hr xs g L c z)) ?_ 2 (by rfl)
        refine Ex.ite (ls := [some (.int v0)]) (st := []) (S := xSt xG0 hc hr xs g L c z) (by rfl) (fun q4 => ?_) (fun q4 => ?_)
        · replace H := (if_pos q4).symm.trans H
          refine Ex.many (f' := (84, [none], [.int (0 : Int32)], xSt xG0 hc hr xs g L c z)) ?_ 2 (by rfl)
          skip
          subst H
          exact Ex.done (by rfl)
        · replace H := (if_neg q4).symm.trans H
          refine Ex.many (f' := (70, [some (.int v0)], [.int (63 : Int32), .int v0], xSt xG0 hc hr xs g L c z)) ?_ 2 (by rfl)
          refine Ex.ite (ls := [some (.int v0)]) (st := []) (S := xSt xG0 hc hr xs g L c z) (by rfl) (fun q5 => ?_) (fun q5 => ?_)
          · replace H := (if_pos q5).symm.trans H
            refine Ex.many (f' := (84, [none], [.int (0 : Int32)], xSt xG0 hc hr xs g L c z)) ?_ 2 (by rfl)
            skip
            subst H
            exact Ex.done (by rfl)
          · replace H := (if_neg q5).symm.trans H
            refine Ex.many (f' := (76, [some (.int v0)], [.int (65 : Int32), .int v0], xSt xG0 hc hr xs g L c z)) ?_ 2 (by rfl)
            refine Ex.ite (ls := [some (.int v0)]) (st := []) (S := xSt xG0 hc hr xs g L c z) (by rfl) (fun q6 => ?_) (fun q6 => ?_)
            · replace H := (if_pos q6).symm.trans H
              refine Ex.many (f' := (84, [none], [.int (0 : Int32)], xSt xG0 hc hr xs g L c z)) ?_ 2 (by rfl)
              skip
              subst H
              exact Ex.done (by rfl)
            · replace H := (if_neg q6).symm.trans H
              refine Ex.many (f' := (84, [none], [.int (1 : Int32)], xSt xG0 hc hr xs g L c z)) ?_ 1 (by rfl)
              skip
              subst H
              exact Ex.done (by rfl)
  · replace H := (if_neg q1).symm.trans H
    refine Ex.many (f' := (84, [none], [.int (2 : Int32)], xSt xG0 hc hr xs g L c z)) ?_ 2 (by rfl)
    skip
    subst H
    exact Ex.done (by rfl)
def f_m_eats (a0 : Int32) : Int32 :=
  if a0 = (27 : Int32) then (3 : Int32) else (if a0 = (54 : Int32) then (2 : Int32) else (if a0 = (58 : Int32) then (2 : Int32) else (if a0 = (59 : Int32) then (2 : Int32) else (if a0 < (70 : Int32) then (f_m_eats_40 a0) else (if a0 ≤ (79 : Int32) then (2 : Int32) else (f_m_eats_40 a0))))))
theorem T_m_eats {hc : xI} {hr : xI} {g : xJ} {xs : Nat → Int32} {L c z : Nat} (a0 : Int32) (r : Int32) (H : f_m_eats a0 = r) : Ex 0 133 (0, [some (.int a0)], [], xSt xG0 hc hr xs g L c z) (.inl (some (.int r)), xSt xG0 hc hr xs g L c z) := by
  unfold f_m_eats at H
  refine Ex.many (f' := (3, [some (.int a0)], [.int (27 : Int32), .int a0], xSt xG0 hc hr xs g L c z)) ?_ 2 (by rfl)
  refine Ex.ite (ls := [some (.int a0)]) (st := []) (S := xSt xG0 hc hr xs g L c z) (by rfl) (fun q1 => ?_) (fun q1 => ?_)
  · replace H := (if_pos q1).symm.trans H
    refine Ex.many (f' := (84, [none], [.int (3 : Int32)], xSt xG0 hc hr xs g L c z)) ?_ 2 (by rfl)
    skip
    subst H
    exact Ex.done (by rfl)
  · replace H := (if_neg q1).symm.trans H
    refine Ex.many (f' := (13, [some (.int a0)], [.int (54 : Int32), .int a0], xSt xG0 hc hr xs g L c z)) ?_ 2 (by rfl)
    refine Ex.ite (ls := [some (.int a0)]) (st := []) (S := xSt xG0 hc hr xs g L c z) (by rfl) (fun q2 => ?_) (fun q2 => ?_)
    · replace H := (if_pos q2).symm.trans H
      refine Ex.many (f' := (84, [none], [.int (2 : Int32)], xSt xG0 hc hr xs g L c z)) ?_ 2 (by rfl)
      skip
      subst H
      exact Ex.done (by rfl)
    · replace H := (if_neg q2).symm.trans H
      refine Ex.many (f' := (19, [some (.int a0)], [.int (58 : Int32), .int a0], xSt xG0 hc hr xs g L c z)) ?_ 2 (by rfl)
      refine Ex.ite (ls := [some (.int a0)]) (st := []) (S := xSt xG0 hc hr xs g L c z) (by rfl) (fun q3 => ?_) (fun q3 => ?_)
      · replace H := (if_pos q3).symm.trans H
        refine Ex.many (f' := (84, [none], [.int (2 : Int32)], xSt xG0 hc hr xs g L c z)) ?_ 2 (by rfl)
        skip
        subst H
        exact Ex.done (by rfl)
      · replace H := (if_neg q3).symm.trans H
        refine Ex.many (f' := (25, [some (.int a0)], [.int (59 : Int32), .int a0], xSt xG0 hc hr xs g L c z)) ?_ 2 (by rfl)
        refine Ex.ite (ls := [some (.int a0)]) (st := []) (S := xSt xG0 hc hr xs g L c z) (by rfl) (fun q4 => ?_) (fun q4 => ?_)
        · replace H := (if_pos q4).symm.trans H
          refine Ex.many (f' := (84, [none], [.int (2 : Int32)], xSt xG0 hc hr xs g L c z)) ?_ 2 (by rfl)
          skip
          subst H
          exact Ex.done (by rfl)
        · replace H := (if_neg q4).symm.trans H
          refine Ex.many (f' := (31, [some (.int a0)], [.int (70 : Int32), .int a0], xSt xG0 hc hr xs g L c z)) ?_ 2 (by rfl)
          refine Ex.ite (ls := [some (.int a0)]) (st := []) (S := xSt xG0 hc hr xs g L c z) (by rfl) (fun q5 => ?_) (fun q5 => ?_)
          · replace H := (if_pos q5).symm.trans H
            exact T_m_eats_40 a0 r H
          · replace H := (if_neg q5).symm.trans H
            refine Ex.many (f' := (37, [some (.int a0)], [.int (79 : Int32), .int a0], xSt xG0 hc hr xs g L c z)) ?_ 2 (by rfl)
            refine Ex.ite (ls := [some (.int a0)]) (st := []) (S := xSt xG0 hc hr xs g L c z) (by rfl) (fun q6 => ?_) (fun q6 => ?_)
            · replace H := (if_pos q6).symm.trans H
              refine Ex.many (f' := (84, [none], [.int (2 : Int32)], xSt xG0 hc hr xs g L c z)) ?_ 2 (by rfl)
              skip
              subst H
              exact Ex.done (by rfl)
            · replace H := (if_neg q6).symm.trans H
              exact T_m_eats_40 a0 r H
