/-! Methods as functions. -/
def f_m_isStore (a0 : Int32) : Int32 :=
  if a0 = (54 : Int32) then (1 : Int32) else (if a0 = (58 : Int32) then (1 : Int32) else (if a0 = (59 : Int32) then (1 : Int32) else (0 : Int32)))
theorem T_m_isStore {hc : xI} {hr : xI} {g : xJ} {xs : Nat → Int32} {L c z : Nat} (a0 : Int32) (r : Int32) (H : f_m_isStore a0 = r) : Ex 0 144 (0, [some (.int a0)], [], xSt xG0 hc hr xs g L c z) (.inl (some (.int r)), xSt xG0 hc hr xs g L c z) := by
  unfold f_m_isStore at H
  refine Ex.many (f' := (3, [some (.int a0)], [.int (54 : Int32), .int a0], xSt xG0 hc hr xs g L c z)) ?_ 2 (by rfl)
  refine Ex.ite (ls := [some (.int a0)]) (st := []) (S := xSt xG0 hc hr xs g L c z) (by rfl) (fun q1 => ?_) (fun q1 => ?_)
  · replace H := (if_pos q1).symm.trans H
    refine Ex.many (f' := (23, [none], [.int (1 : Int32)], xSt xG0 hc hr xs g L c z)) ?_ 2 (by rfl)
    skip
    subst H
    exact Ex.done (by rfl)
  · replace H := (if_neg q1).symm.trans H
    refine Ex.many (f' := (9, [some (.int a0)], [.int (58 : Int32), .int a0], xSt xG0 hc hr xs g L c z)) ?_ 2 (by rfl)
    refine Ex.ite (ls := [some (.int a0)]) (st := []) (S := xSt xG0 hc hr xs g L c z) (by rfl) (fun q2 => ?_) (fun q2 => ?_)
    · replace H := (if_pos q2).symm.trans H
      refine Ex.many (f' := (23, [none], [.int (1 : Int32)], xSt xG0 hc hr xs g L c z)) ?_ 2 (by rfl)
      skip
      subst H
      exact Ex.done (by rfl)
    · replace H := (if_neg q2).symm.trans H
      refine Ex.many (f' := (15, [some (.int a0)], [.int (59 : Int32), .int a0], xSt xG0 hc hr xs g L c z)) ?_ 2 (by rfl)
      refine Ex.ite (ls := [some (.int a0)]) (st := []) (S := xSt xG0 hc hr xs g L c z) (by rfl) (fun q3 => ?_) (fun q3 => ?_)
      · replace H := (if_pos q3).symm.trans H
        refine Ex.many (f' := (23, [none], [.int (1 : Int32)], xSt xG0 hc hr xs g L c z)) ?_ 2 (by rfl)
        skip
        subst H
        exact Ex.done (by rfl)
      · replace H := (if_neg q3).symm.trans H
        refine Ex.many (f' := (23, [none], [.int (0 : Int32)], xSt xG0 hc hr xs g L c z)) ?_ 1 (by rfl)
        skip
        subst H
        exact Ex.done (by rfl)
def f_m_bytesOf (a0 : Int32) : Int32 :=
  if a0 = (40 : Int32) then (4 : Int32) else (if a0 = (54 : Int32) then (4 : Int32) else (if a0 = (46 : Int32) then (2 : Int32) else (if a0 = (47 : Int32) then (2 : Int32) else (if a0 = (59 : Int32) then (2 : Int32) else (1 : Int32)))))
theorem T_m_bytesOf {hc : xI} {hr : xI} {g : xJ} {xs : Nat → Int32} {L c z : Nat} (a0 : Int32) (r : Int32) (H : f_m_bytesOf a0 = r) : Ex 0 146 (0, [some (.int a0)], [], xSt xG0 hc hr xs g L c z) (.inl (some (.int r)), xSt xG0 hc hr xs g L c z) := by
  unfold f_m_bytesOf at H
  refine Ex.many (f' := (3, [some (.int a0)], [.int (40 : Int32), .int a0], xSt xG0 hc hr xs g L c z)) ?_ 2 (by rfl)
  refine Ex.ite (ls := [some (.int a0)]) (st := []) (S := xSt xG0 hc hr xs g L c z) (by rfl) (fun q1 => ?_) (fun q1 => ?_)
  · replace H := (if_pos q1).symm.trans H
    refine Ex.many (f' := (39, [none], [.int (4 : Int32)], xSt xG0 hc hr xs g L c z)) ?_ 2 (by rfl)
    skip
    subst H
    exact Ex.done (by rfl)
  · replace H := (if_neg q1).symm.trans H
    refine Ex.many (f' := (9, [some (.int a0)], [.int (54 : Int32), .int a0], xSt xG0 hc hr xs g L c z)) ?_ 2 (by rfl)
    refine Ex.ite (ls := [some (.int a0)]) (st := []) (S := xSt xG0 hc hr xs g L c z) (by rfl) (fun q2 => ?_) (fun q2 => ?_)
    · replace H := (if_pos q2).symm.trans H
      refine Ex.many (f' := (39, [none], [.int (4 : Int32)], xSt xG0 hc hr xs g L c z)) ?_ 2 (by rfl)
      skip
      subst H
      exact Ex.done (by rfl)
    · replace H := (if_neg q2).symm.trans H
      refine Ex.many (f' := (19, [some (.int a0)], [.int (46 : Int32), .int a0], xSt xG0 hc hr xs g L c z)) ?_ 2 (by rfl)
      refine Ex.ite (ls := [some (.int a0)]) (st := []) (S := xSt xG0 hc hr xs g L c z) (by rfl) (fun q3 => ?_) (fun q3 => ?_)
      · replace H := (if_pos q3).symm.trans H
        refine Ex.many (f' := (39, [none], [.int (2 : Int32)], xSt xG0 hc hr xs g L c z)) ?_ 2 (by rfl)
        skip
        subst H
        exact Ex.done (by rfl)
      · replace H := (if_neg q3).symm.trans H
        refine Ex.many (f' := (25, [some (.int a0)], [.int (47 : Int32), .int a0], xSt xG0 hc hr xs g L c z)) ?_ 2 (by rfl)
        refine Ex.ite (ls := [some (.int a0)]) (st := []) (S := xSt xG0 hc hr xs g L c z) (by rfl) (fun q4 => ?_) (fun q4 => ?_)
        · replace H := (if_pos q4).symm.trans H
          refine Ex.many (f' := (39, [none], [.int (2 : Int32)], xSt xG0 hc hr xs g L c z)) ?_ 2 (by rfl)
          skip
          subst H
          exact Ex.done (by rfl)
        · replace H := (if_neg q4).symm.trans H
          refine Ex.many (f' := (31, [some (.int a0)], [.int (59 : Int32), .int a0], xSt xG0 hc hr xs g L c z)) ?_ 2 (by rfl)
          refine Ex.ite (ls := [some (.int a0)]) (st := []) (S := xSt xG0 hc hr xs g L c z) (by rfl) (fun q5 => ?_) (fun q5 => ?_)
          · replace H := (if_pos q5).symm.trans H
            refine Ex.many (f' := (39, [none], [.int (2 : Int32)], xSt xG0 hc hr xs g L c z)) ?_ 2 (by rfl)
            skip
            subst H
            exact Ex.done (by rfl)
          · replace H := (if_neg q5).symm.trans H
            refine Ex.many (f' := (39, [none], [.int (1 : Int32)], xSt xG0 hc hr xs g L c z)) ?_ 1 (by rfl)
            skip
            subst H
            exact Ex.done (by rfl)
def f_m_place (a1 : Int32) (a2 : Int32) (hr : xI) : Option Int32 :=
  xgd ((hr 27 32) + (1 : Int32)) 240 (if (lg_cmp (((a1.toInt64 &&& (4294967295 : Int64)) + (hr 28 ((hr 27 32) + (1 : Int32)).toNatClampNeg).toInt64) + (f_m_bytesOf a2).toInt64) (((64 : Int32) * (hr 27 27)).toInt64)) ≤ 0 then (some (((a1.toInt64 &&& (4294967295 : Int64)) + (hr 28 ((hr 27 32) + (1 : Int32)).toNatClampNeg).toInt64).toInt32)) else (some (-1 : Int32)))
theorem T_m_place {hc : xI} {g : xJ} {xs : Nat → Int32} {L c z : Nat} (a1 : Int32) (a2 : Int32) (hr : xI) (r : Int32) (H : f_m_place a1 a2 hr = some r) : Ex 1 145 (0, [some (.ref 27), some (.int a1), some (.int a2), none, none], [], xSt xG0 hc hr xs g L c z) (.inl (some (.int r)), xSt xG0 hc hr xs g L c z) := by
  unfold f_m_place at H
  refine Ex.many (f' := (16, [some (.ref 27), some (.int a1), some (.int a2), none, none], [.int ((hr 27 32) + (1 : Int32)), .ref 28, .long (a1.toInt64 &&& (4294967295 : Int64))], xSt xG0 hc hr xs g L c z)) ?_ 10 (by rfl)
  obtain ⟨g1, H⟩ := xgd_some H
  refine Ex.guard (f' := (17, [some (.ref 27), some (.int a1), some (.int a2), none, none], [.int (hr 28 ((hr 27 32) + (1 : Int32)).toNatClampNeg), .long (a1.toInt64 &&& (4294967295 : Int64))], xSt xG0 hc hr xs g L c z)) (by rfl) g1 ?_
  refine Ex.many (f' := (22, [some (.ref 27), some (.int a1), some (.int a2), some (.long ((a1.toInt64 &&& (4294967295 : Int64)) + (hr 28 ((hr 27 32) + (1 : Int32)).toNatClampNeg).toInt64)), none], [.int a2, .long ((a1.toInt64 &&& (4294967295 : Int64)) + (hr 28 ((hr 27 32) + (1 : Int32)).toNatClampNeg).toInt64)], xSt xG0 hc hr xs g L c z)) ?_ 5 (by rfl)
  refine Ex.call (mk := 146) (vs := [.int a2]) (rest := [.long ((a1.toInt64 &&& (4294967295 : Int64)) + (hr 28 ((hr 27 32) + (1 : Int32)).toNatClampNeg).toInt64)]) (by rfl) (by rfl) (Ex.up (T_m_bytesOf a2 _ rfl) (by decide)) (xbb c z) ?_
  show Ex _ _ (25, [some (.ref 27), some (.int a1), some (.int a2), some (.long ((a1.toInt64 &&& (4294967295 : Int64)) + (hr 28 ((hr 27 32) + (1 : Int32)).toNatClampNeg).toInt64)), none], [.int (f_m_bytesOf a2), .long ((a1.toInt64 &&& (4294967295 : Int64)) + (hr 28 ((hr 27 32) + (1 : Int32)).toNatClampNeg).toInt64)], xSt xG0 hc hr xs g L c z) _
  refine Ex.many (f' := (36, [some (.ref 27), none, none, some (.long ((a1.toInt64 &&& (4294967295 : Int64)) + (hr 28 ((hr 27 32) + (1 : Int32)).toNatClampNeg).toInt64)), none], [.int (lg_cmp (((a1.toInt64 &&& (4294967295 : Int64)) + (hr 28 ((hr 27 32) + (1 : Int32)).toNatClampNeg).toInt64) + (f_m_bytesOf a2).toInt64) (((64 : Int32) * (hr 27 27)).toInt64))], xSt xG0 hc hr xs g L c z)) ?_ 8 (by rfl)
  refine Ex.ite (ls := [some (.ref 27), none, none, some (.long ((a1.toInt64 &&& (4294967295 : Int64)) + (hr 28 ((hr 27 32) + (1 : Int32)).toNatClampNeg).toInt64)), none]) (st := []) (S := xSt xG0 hc hr xs g L c z) (by rfl) (fun q3 => ?_) (fun q3 => ?_)
  · replace H := (if_pos q3).symm.trans H
    refine Ex.many (f' := (45, [none, none, none, some (.long ((a1.toInt64 &&& (4294967295 : Int64)) + (hr 28 ((hr 27 32) + (1 : Int32)).toNatClampNeg).toInt64)), none], [.int ((a1.toInt64 &&& (4294967295 : Int64)) + (hr 28 ((hr 27 32) + (1 : Int32)).toNatClampNeg).toInt64).toInt32], xSt xG0 hc hr xs g L c z)) ?_ 2 (by rfl)
    replace H := Option.some.inj H
    subst H
    exact Ex.done (by rfl)
  · replace H := (if_neg q3).symm.trans H
    refine Ex.many (f' := (45, [none, none, none, none, none], [.int (-1 : Int32)], xSt xG0 hc hr xs g L c z)) ?_ 2 (by rfl)
    replace H := Option.some.inj H
    subst H
    exact Ex.done (by rfl)
def f_m_trapOf_185 (v1 : Int32) (hr : xI) : Option Int32 :=
  if v1 = (16 : Int32) then (if (hr 27 35) = (6 : Int32) then (some (6 : Int32)) else (some (0 : Int32))) else (some (0 : Int32))
theorem T_m_trapOf_185 {hc : xI} {g : xJ} {xs : Nat → Int32} {L c z : Nat} (v1 : Int32) (hr : xI) (r : Int32) (H : f_m_trapOf_185 v1 hr = some r) : Ex 2 142 (185, [some (.ref 27), some (.int v1), none, none, none], [], xSt xG0 hc hr xs g L c z) (.inl (some (.int r)), xSt xG0 hc hr xs g L c z) := by
  unfold f_m_trapOf_185 at H
  refine Ex.many (f' := (188, [some (.ref 27), some (.int v1), none, none, none], [.int (16 : Int32), .int v1], xSt xG0 hc hr xs g L c z)) ?_ 2 (by rfl)
  refine Ex.ite (ls := [some (.ref 27), some (.int v1), none, none, none]) (st := []) (S := xSt xG0 hc hr xs g L c z) (by rfl) (fun q1 => ?_) (fun q1 => ?_)
  · replace H := (if_pos q1).symm.trans H
    refine Ex.many (f' := (197, [some (.ref 27), none, none, none, none], [.int (6 : Int32), .int (hr 27 35)], xSt xG0 hc hr xs g L c z)) ?_ 3 (by rfl)
    refine Ex.ite (ls := [some (.ref 27), none, none, none, none]) (st := []) (S := xSt xG0 hc hr xs g L c z) (by rfl) (fun q2 => ?_) (fun q2 => ?_)
    · replace H := (if_pos q2).symm.trans H
      refine Ex.many (f' := (206, [none, none, none, none, none], [.int (6 : Int32)], xSt xG0 hc hr xs g L c z)) ?_ 2 (by rfl)
      replace H := Option.some.inj H
      subst H
      exact Ex.done (by rfl)
    · replace H := (if_neg q2).symm.trans H
      refine Ex.many (f' := (206, [none, none, none, none, none], [.int (0 : Int32)], xSt xG0 hc hr xs g L c z)) ?_ 1 (by rfl)
      replace H := Option.some.inj H
      subst H
      exact Ex.done (by rfl)
  · replace H := (if_neg q1).symm.trans H
    refine Ex.many (f' := (206, [none, none, none, none, none], [.int (0 : Int32)], xSt xG0 hc hr xs g L c z)) ?_ 1 (by rfl)
    replace H := Option.some.inj H
    subst H
    exact Ex.done (by rfl)
def f_m_trapOf_165 (v1 : Int32) (s0 : Int32) (hr : xI) : Option Int32 :=
  if s0 = 0 then (f_m_trapOf_185 v1 hr) else (if (hr 27 33) = (100 : Int32) then (some (5 : Int32)) else (f_m_trapOf_185 v1 hr))
theorem T_m_trapOf_165 {hc : xI} {g : xJ} {xs : Nat → Int32} {L c z : Nat} (v1 : Int32) (s0 : Int32) (hr : xI) (r : Int32) (H : f_m_trapOf_165 v1 s0 hr = some r) : Ex 2 142 (165, [some (.ref 27), some (.int v1), none, none, none], [.int s0], xSt xG0 hc hr xs g L c z) (.inl (some (.int r)), xSt xG0 hc hr xs g L c z) := by
  unfold f_m_trapOf_165 at H
  refine Ex.many (f' := (169, [some (.ref 27), some (.int v1), none, none, some (.int s0)], [.int s0], xSt xG0 hc hr xs g L c z)) ?_ 2 (by rfl)
  refine Ex.ite (ls := [some (.ref 27), some (.int v1), none, none, some (.int s0)]) (st := []) (S := xSt xG0 hc hr xs g L c z) (by rfl) (fun q1 => ?_) (fun q1 => ?_)
  · replace H := (if_pos q1).symm.trans H
    refine Ex.kill (ls' := [some (.ref 27), some (.int v1), none, none, none]) (by rfl) ?_
    exact T_m_trapOf_185 v1 hr r H
  · replace H := (if_neg q1).symm.trans H
    refine Ex.many (f' := (178, [some (.ref 27), some (.int v1), none, none, none], [.int (100 : Int32), .int (hr 27 33)], xSt xG0 hc hr xs g L c z)) ?_ 3 (by rfl)
    refine Ex.ite (ls := [some (.ref 27), some (.int v1), none, none, none]) (st := []) (S := xSt xG0 hc hr xs g L c z) (by rfl) (fun q2 => ?_) (fun q2 => ?_)
    · replace H := (if_pos q2).symm.trans H
      refine Ex.many (f' := (206, [none, none, none, none, none], [.int (5 : Int32)], xSt xG0 hc hr xs g L c z)) ?_ 2 (by rfl)
      replace H := Option.some.inj H
      subst H
      exact Ex.done (by rfl)
    · replace H := (if_neg q2).symm.trans H
      exact T_m_trapOf_185 v1 hr r H
def f_m_trapOf_160 (v1 : Int32) (hr : xI) : Option Int32 :=
  f_m_trapOf_165 v1 (1 : Int32) hr
theorem T_m_trapOf_160 {hc : xI} {g : xJ} {xs : Nat → Int32} {L c z : Nat} (v1 : Int32) (hr : xI) (r : Int32) (H : f_m_trapOf_160 v1 hr = some r) : Ex 2 142 (160, [some (.ref 27), some (.int v1), none, none, none], [], xSt xG0 hc hr xs g L c z) (.inl (some (.int r)), xSt xG0 hc hr xs g L c z) := by
  unfold f_m_trapOf_160 at H
  refine Ex.many (f' := (165, [some (.ref 27), some (.int v1), none, none, none], [.int (1 : Int32)], xSt xG0 hc hr xs g L c z)) ?_ 2 (by rfl)
  exact T_m_trapOf_165 v1 (1 : Int32) hr r H
def f_m_trapOf_123 (v1 : Int32) (s1 : Int32) (hr : xI) : Option Int32 :=
  (f_m_place s1 v1 hr).bind fun q1 => if 0 ≤ q1 then (some (0 : Int32)) else (some (4 : Int32))
theorem T_m_trapOf_123 {hc : xI} {g : xJ} {xs : Nat → Int32} {L c z : Nat} (v1 : Int32) (s1 : Int32) (hr : xI) (r : Int32) (H : f_m_trapOf_123 v1 s1 hr = some r) : Ex 2 142 (123, [none, some (.int v1), none, none, none], [.int s1, .ref 27], xSt xG0 hc hr xs g L c z) (.inl (some (.int r)), xSt xG0 hc hr xs g L c z) := by
  unfold f_m_trapOf_123 at H
  refine Ex.many (f' := (124, [none, some (.int v1), none, none, none], [.int v1, .int s1, .ref 27], xSt xG0 hc hr xs g L c z)) ?_ 1 (by rfl)
  obtain ⟨q1, hq1, H⟩ := xbd H
  refine Ex.call (mk := 145) (vs := [.ref 27, .int s1, .int v1]) (rest := []) (by rfl) (by rfl) (Ex.up (T_m_place s1 v1 hr q1 hq1) (by decide)) (xbb c z) ?_
  show Ex _ _ (127, [none, some (.int v1), none, none, none], [.int q1], xSt xG0 hc hr xs g L c z) _
  refine Ex.ite (ls := [none, none, none, none, none]) (st := []) (S := xSt xG0 hc hr xs g L c z) (by rfl) (fun q2 => ?_) (fun q2 => ?_)
  · replace H := (if_pos q2).symm.trans H
    refine Ex.many (f' := (135, [none, none, none, none, none], [.int (0 : Int32)], xSt xG0 hc hr xs g L c z)) ?_ 1 (by rfl)
    replace H := Option.some.inj H
    subst H
    exact Ex.done (by rfl)
  · replace H := (if_neg q2).symm.trans H
    refine Ex.many (f' := (135, [none, none, none, none, none], [.int (4 : Int32)], xSt xG0 hc hr xs g L c z)) ?_ 2 (by rfl)
    replace H := Option.some.inj H
    subst H
    exact Ex.done (by rfl)
def f_m_trapOf_110 (v1 : Int32) (v2 : Int32) (v3 : Int32) (hr : xI) : Option Int32 :=
  if (f_m_isLoad v1) = 0 then (f_m_trapOf_123 v1 v3 hr) else (f_m_trapOf_123 v1 v2 hr)
theorem T_m_trapOf_110 {hc : xI} {g : xJ} {xs : Nat → Int32} {L c z : Nat} (v1 : Int32) (v2 : Int32) (v3 : Int32) (hr : xI) (r : Int32) (H : f_m_trapOf_110 v1 v2 v3 hr = some r) : Ex 2 142 (110, [some (.ref 27), some (.int v1), some (.int v2), some (.int v3), none], [], xSt xG0 hc hr xs g L c z) (.inl (some (.int r)), xSt xG0 hc hr xs g L c z) := by
  unfold f_m_trapOf_110 at H
  refine Ex.many (f' := (112, [some (.ref 27), some (.int v1), some (.int v2), some (.int v3), none], [.int v1, .ref 27], xSt xG0 hc hr xs g L c z)) ?_ 2 (by rfl)
  refine Ex.call (mk := 143) (vs := [.int v1]) (rest := [.ref 27]) (by rfl) (by rfl) (Ex.up (T_m_isLoad v1 _ rfl) (by decide)) (xbb c z) ?_
  show Ex _ _ (115, [some (.ref 27), some (.int v1), some (.int v2), some (.int v3), none], [.int (f_m_isLoad v1), .ref 27], xSt xG0 hc hr xs g L c z) _
  refine Ex.ite (ls := [none, some (.int v1), some (.int v2), some (.int v3), none]) (st := [.ref 27]) (S := xSt xG0 hc hr xs g L c z) (by rfl) (fun q2 => ?_) (fun q2 => ?_)
  · replace H := (if_pos q2).symm.trans H
    refine Ex.many (f' := (123, [none, some (.int v1), none, some (.int v3), none], [.int v3, .ref 27], xSt xG0 hc hr xs g L c z)) ?_ 1 (by rfl)
    refine Ex.kill (ls' := [none, some (.int v1), none, none, none]) (by rfl) ?_
    exact T_m_trapOf_123 v1 v3 hr r H
  · replace H := (if_neg q2).symm.trans H
    refine Ex.many (f' := (123, [none, some (.int v1), some (.int v2), none, none], [.int v2, .ref 27], xSt xG0 hc hr xs g L c z)) ?_ 2 (by rfl)
    refine Ex.kill (ls' := [none, some (.int v1), none, none, none]) (by rfl) ?_
    exact T_m_trapOf_123 v1 v2 hr r H
def f_m_trapOf_96 (v1 : Int32) (v2 : Int32) (v3 : Int32) (hr : xI) : Option Int32 :=
  if (f_m_isLoad v1) = 0 then (if (f_m_isStore v1) = 0 then (if v1 = (32 : Int32) then (f_m_trapOf_160 v1 hr) else (if v1 = (35 : Int32) then (f_m_trapOf_160 v1 hr) else (if v1 = (63 : Int32) then (f_m_trapOf_160 v1 hr) else (if v1 = (65 : Int32) then (f_m_trapOf_160 v1 hr) else (f_m_trapOf_165 v1 (0 : Int32) hr))))) else (f_m_trapOf_110 v1 v2 v3 hr)) else (f_m_trapOf_110 v1 v2 v3 hr)
theorem T_m_trapOf_96 {hc : xI} {g : xJ} {xs : Nat → Int32} {L c z : Nat} (v1 : Int32) (v2 : Int32) (v3 : Int32) (hr : xI) (r : Int32) (H : f_m_trapOf_96 v1 v2 v3 hr = some r) : Ex 2 142 (96, [some (.ref 27), some (.int v1), some (.int v2), some (.int v3), none], [], xSt xG0 hc hr xs g L c z) (.inl (some (.int r)), xSt xG0 hc hr xs g L c z) := by
  unfold f_m_trapOf_96 at H
  refine Ex.many (f' := (97, [some (.ref 27), some (.int v1), some (.int v2), some (.int v3), none], [.int v1], xSt xG0 hc hr xs g L c z)) ?_ 1 (by rfl)
  refine Ex.call (mk := 143) (vs := [.int v1]) (rest := []) (by rfl) (by rfl) (Ex.up (T_m_isLoad v1 _ rfl) (by decide)) (xbb c z) ?_
  show Ex _ _ (100, [some (.ref 27), some (.int v1), some (.int v2), some (.int v3), none], [.int (f_m_isLoad v1)], xSt xG0 hc hr xs g L c z) _
  refine Ex.ite (ls := [some (.ref 27), some (.int v1), some (.int v2), some (.int v3), none]) (st := []) (S := xSt xG0 hc hr xs g L c z) (by rfl) (fun q2 => ?_) (fun q2 => ?_)
  · replace H := (if_pos q2).symm.trans H
    refine Ex.many (f' := (104, [some (.ref 27), some (.int v1), some (.int v2), some (.int v3), none], [.int v1], xSt xG0 hc hr xs g L c z)) ?_ 1 (by rfl)
    refine Ex.call (mk := 144) (vs := [.int v1]) (rest := []) (by rfl) (by rfl) (Ex.up (T_m_isStore v1 _ rfl) (by decide)) (xbb c z) ?_
    show Ex _ _ (107, [some (.ref 27), some (.int v1), some (.int v2), some (.int v3), none], [.int (f_m_isStore v1)], xSt xG0 hc hr xs g L c z) _
    refine Ex.ite (ls := [some (.ref 27), some (.int v1), some (.int v2), some (.int v3), none]) (st := []) (S := xSt xG0 hc hr xs g L c z) (by rfl) (fun q4 => ?_) (fun q4 => ?_)
    · replace H := (if_pos q4).symm.trans H
      refine Ex.many (f' := (139, [some (.ref 27), some (.int v1), none, none, none], [.int (32 : Int32), .int v1], xSt xG0 hc hr xs g L c z)) ?_ 2 (by rfl)
      refine Ex.ite (ls := [some (.ref 27), some (.int v1), none, none, none]) (st := []) (S := xSt xG0 hc hr xs g L c z) (by rfl) (fun q5 => ?_) (fun q5 => ?_)
      · replace H := (if_pos q5).symm.trans H
        exact T_m_trapOf_160 v1 hr r H
      · replace H := (if_neg q5).symm.trans H
        refine Ex.many (f' := (145, [some (.ref 27), some (.int v1), none, none, none], [.int (35 : Int32), .int v1], xSt xG0 hc hr xs g L c z)) ?_ 2 (by rfl)
        refine Ex.ite (ls := [some (.ref 27), some (.int v1), none, none, none]) (st := []) (S := xSt xG0 hc hr xs g L c z) (by rfl) (fun q6 => ?_) (fun q6 => ?_)
        · replace H := (if_pos q6).symm.trans H
          exact T_m_trapOf_160 v1 hr r H
        · replace H := (if_neg q6).symm.trans H
          refine Ex.many (f' := (151, [some (.ref 27), some (.int v1), none, none, none], [.int (63 : Int32), .int v1], xSt xG0 hc hr xs g L c z)) ?_ 2 (by rfl)
          refine Ex.ite (ls := [some (.ref 27), some (.int v1), none, none, none]) (st := []) (S := xSt xG0 hc hr xs g L c z) (by rfl) (fun q7 => ?_) (fun q7 => ?_)
          · replace H := (if_pos q7).symm.trans H
            exact T_m_trapOf_160 v1 hr r H
          · replace H := (if_neg q7).symm.trans H
            refine Ex.many (f' := (157, [some (.ref 27), some (.int v1), none, none, none], [.int (65 : Int32), .int v1], xSt xG0 hc hr xs g L c z)) ?_ 2 (by rfl)
            refine Ex.ite (ls := [some (.ref 27), some (.int v1), none, none, none]) (st := []) (S := xSt xG0 hc hr xs g L c z) (by rfl) (fun q8 => ?_) (fun q8 => ?_)
            · replace H := (if_pos q8).symm.trans H
              exact T_m_trapOf_160 v1 hr r H
            · replace H := (if_neg q8).symm.trans H
              refine Ex.many (f' := (165, [some (.ref 27), some (.int v1), none, none, none], [.int (0 : Int32)], xSt xG0 hc hr xs g L c z)) ?_ 1 (by rfl)
              exact T_m_trapOf_165 v1 (0 : Int32) hr r H
    · replace H := (if_neg q4).symm.trans H
      exact T_m_trapOf_110 v1 v2 v3 hr r H
  · replace H := (if_neg q2).symm.trans H
    exact T_m_trapOf_110 v1 v2 v3 hr r H
def f_m_trapOf_46 (v1 : Int32) (v2 : Int32) (s0 : Int32) (hr : xI) : Option Int32 :=
  if v1 = 0 then (some (1 : Int32)) else (if v1 < (109 : Int32) then (f_m_trapOf_96 v1 v2 s0 hr) else (if (112 : Int32) < v1 then (f_m_trapOf_96 v1 v2 s0 hr) else (if v2 = 0 then (some (2 : Int32)) else (if v1 = (109 : Int32) then (if v2 = (-1 : Int32) then (if s0 = (-2147483648 : Int32) then (some (3 : Int32)) else (some (0 : Int32))) else (some (0 : Int32))) else (some (0 : Int32))))))
theorem T_m_trapOf_46 {hc : xI} {g : xJ} {xs : Nat → Int32} {L c z : Nat} (v1 : Int32) (v2 : Int32) (s0 : Int32) (hr : xI) (r : Int32) (H : f_m_trapOf_46 v1 v2 s0 hr = some r) : Ex 2 142 (46, [some (.ref 27), some (.int v1), some (.int v2), none, none], [.int s0], xSt xG0 hc hr xs g L c z) (.inl (some (.int r)), xSt xG0 hc hr xs g L c z) := by
  unfold f_m_trapOf_46 at H
  refine Ex.many (f' := (48, [some (.ref 27), some (.int v1), some (.int v2), some (.int s0), none], [.int v1], xSt xG0 hc hr xs g L c z)) ?_ 2 (by rfl)
  refine Ex.ite (ls := [some (.ref 27), some (.int v1), some (.int v2), some (.int s0), none]) (st := []) (S := xSt xG0 hc hr xs g L c z) (by rfl) (fun q1 => ?_) (fun q1 => ?_)
  · replace H := (if_pos q1).symm.trans H
    refine Ex.many (f' := (52, [none, none, none, none, none], [.int (1 : Int32)], xSt xG0 hc hr xs g L c z)) ?_ 1 (by rfl)
    replace H := Option.some.inj H
    subst H
    exact Ex.done (by rfl)
  · replace H := (if_neg q1).symm.trans H
    refine Ex.many (f' := (56, [some (.ref 27), some (.int v1), some (.int v2), some (.int s0), none], [.int (109 : Int32), .int v1], xSt xG0 hc hr xs g L c z)) ?_ 2 (by rfl)
    refine Ex.ite (ls := [some (.ref 27), some (.int v1), some (.int v2), some (.int s0), none]) (st := []) (S := xSt xG0 hc hr xs g L c z) (by rfl) (fun q2 => ?_) (fun q2 => ?_)
    · replace H := (if_pos q2).symm.trans H
      exact T_m_trapOf_96 v1 v2 s0 hr r H
    · replace H := (if_neg q2).symm.trans H
      refine Ex.many (f' := (62, [some (.ref 27), some (.int v1), some (.int v2), some (.int s0), none], [.int (112 : Int32), .int v1], xSt xG0 hc hr xs g L c z)) ?_ 2 (by rfl)
      refine Ex.ite (ls := [some (.ref 27), some (.int v1), some (.int v2), some (.int s0), none]) (st := []) (S := xSt xG0 hc hr xs g L c z) (by rfl) (fun q3 => ?_) (fun q3 => ?_)
      · replace H := (if_pos q3).symm.trans H
        exact T_m_trapOf_96 v1 v2 s0 hr r H
      · replace H := (if_neg q3).symm.trans H
        refine Ex.many (f' := (66, [none, some (.int v1), some (.int v2), some (.int s0), none], [.int v2], xSt xG0 hc hr xs g L c z)) ?_ 1 (by rfl)
        refine Ex.ite (ls := [none, some (.int v1), some (.int v2), some (.int s0), none]) (st := []) (S := xSt xG0 hc hr xs g L c z) (by rfl) (fun q4 => ?_) (fun q4 => ?_)
        · replace H := (if_pos q4).symm.trans H
          refine Ex.many (f' := (95, [none, none, none, none, none], [.int (2 : Int32)], xSt xG0 hc hr xs g L c z)) ?_ 2 (by rfl)
          replace H := Option.some.inj H
          subst H
          exact Ex.done (by rfl)
        · replace H := (if_neg q4).symm.trans H
          refine Ex.many (f' := (76, [none, some (.int v1), some (.int v2), some (.int s0), none], [.int (109 : Int32), .int v1], xSt xG0 hc hr xs g L c z)) ?_ 2 (by rfl)
          refine Ex.ite (ls := [none, some (.int v1), some (.int v2), some (.int s0), none]) (st := []) (S := xSt xG0 hc hr xs g L c z) (by rfl) (fun q5 => ?_) (fun q5 => ?_)
          · replace H := (if_pos q5).symm.trans H
            refine Ex.many (f' := (81, [none, none, some (.int v2), some (.int s0), none], [.int (-1 : Int32), .int v2], xSt xG0 hc hr xs g L c z)) ?_ 2 (by rfl)
            refine Ex.ite (ls := [none, none, some (.int v2), some (.int s0), none]) (st := []) (S := xSt xG0 hc hr xs g L c z) (by rfl) (fun q6 => ?_) (fun q6 => ?_)
            · replace H := (if_pos q6).symm.trans H
              refine Ex.many (f' := (87, [none, none, none, some (.int s0), none], [.int (-2147483648 : Int32), .int s0], xSt xG0 hc hr xs g L c z)) ?_ 2 (by rfl)
              refine Ex.ite (ls := [none, none, none, some (.int s0), none]) (st := []) (S := xSt xG0 hc hr xs g L c z) (by rfl) (fun q7 => ?_) (fun q7 => ?_)
              · replace H := (if_pos q7).symm.trans H
                refine Ex.many (f' := (95, [none, none, none, none, none], [.int (3 : Int32)], xSt xG0 hc hr xs g L c z)) ?_ 2 (by rfl)
                replace H := Option.some.inj H
                subst H
                exact Ex.done (by rfl)
              · replace H := (if_neg q7).symm.trans H
                refine Ex.many (f' := (95, [none, none, none, none, none], [.int (0 : Int32)], xSt xG0 hc hr xs g L c z)) ?_ 1 (by rfl)
                replace H := Option.some.inj H
                subst H
                exact Ex.done (by rfl)
            · replace H := (if_neg q6).symm.trans H
              refine Ex.many (f' := (95, [none, none, none, none, none], [.int (0 : Int32)], xSt xG0 hc hr xs g L c z)) ?_ 1 (by rfl)
              replace H := Option.some.inj H
              subst H
              exact Ex.done (by rfl)
          · replace H := (if_neg q5).symm.trans H
            refine Ex.many (f' := (95, [none, none, none, none, none], [.int (0 : Int32)], xSt xG0 hc hr xs g L c z)) ?_ 1 (by rfl)
            replace H := Option.some.inj H
            subst H
            exact Ex.done (by rfl)
def f_m_trapOf_22 (v1 : Int32) (s0 : Int32) (hr : xI) : Option Int32 :=
  if (hr 27 33) ≤ (1 : Int32) then (f_m_trapOf_46 v1 s0 (0 : Int32) hr) else (xgd ((hr 27 33) - (2 : Int32)) 101 (f_m_trapOf_46 v1 s0 (hr 46 ((hr 27 33) - (2 : Int32)).toNatClampNeg) hr))
theorem T_m_trapOf_22 {hc : xI} {g : xJ} {xs : Nat → Int32} {L c z : Nat} (v1 : Int32) (s0 : Int32) (hr : xI) (r : Int32) (H : f_m_trapOf_22 v1 s0 hr = some r) : Ex 2 142 (22, [some (.ref 27), some (.int v1), none, none, none], [.int s0], xSt xG0 hc hr xs g L c z) (.inl (some (.int r)), xSt xG0 hc hr xs g L c z) := by
  unfold f_m_trapOf_22 at H
  refine Ex.many (f' := (28, [some (.ref 27), some (.int v1), some (.int s0), none, none], [.int (1 : Int32), .int (hr 27 33)], xSt xG0 hc hr xs g L c z)) ?_ 4 (by rfl)
  refine Ex.ite (ls := [some (.ref 27), some (.int v1), some (.int s0), none, none]) (st := []) (S := xSt xG0 hc hr xs g L c z) (by rfl) (fun q1 => ?_) (fun q1 => ?_)
  · replace H := (if_pos q1).symm.trans H
    refine Ex.many (f' := (46, [some (.ref 27), some (.int v1), some (.int s0), none, none], [.int (0 : Int32)], xSt xG0 hc hr xs g L c z)) ?_ 1 (by rfl)
    exact T_m_trapOf_46 v1 s0 (0 : Int32) hr r H
  · replace H := (if_neg q1).symm.trans H
    refine Ex.many (f' := (41, [some (.ref 27), some (.int v1), some (.int s0), none, none], [.int ((hr 27 33) - (2 : Int32)), .ref 46], xSt xG0 hc hr xs g L c z)) ?_ 6 (by rfl)
    obtain ⟨g2, H⟩ := xgd_some H
    refine Ex.guard (f' := (42, [some (.ref 27), some (.int v1), some (.int s0), none, none], [.int (hr 46 ((hr 27 33) - (2 : Int32)).toNatClampNeg)], xSt xG0 hc hr xs g L c z)) (by rfl) g2 ?_
    refine Ex.many (f' := (46, [some (.ref 27), some (.int v1), some (.int s0), none, none], [.int (hr 46 ((hr 27 33) - (2 : Int32)).toNatClampNeg)], xSt xG0 hc hr xs g L c z)) ?_ 1 (by rfl)
    exact T_m_trapOf_46 v1 s0 (hr 46 ((hr 27 33) - (2 : Int32)).toNatClampNeg) hr r H
def f_m_trapOf (a1 : Int32) (hr : xI) : Option Int32 :=
  if (hr 27 33) ≤ 0 then (f_m_trapOf_22 a1 (0 : Int32) hr) else (xgd ((hr 27 33) - (1 : Int32)) 101 (f_m_trapOf_22 a1 (hr 46 ((hr 27 33) - (1 : Int32)).toNatClampNeg) hr))
theorem T_m_trapOf {hc : xI} {g : xJ} {xs : Nat → Int32} {L c z : Nat} (a1 : Int32) (hr : xI) (r : Int32) (H : f_m_trapOf a1 hr = some r) : Ex 2 142 (0, [some (.ref 27), some (.int a1), none, none, none], [], xSt xG0 hc hr xs g L c z) (.inl (some (.int r)), xSt xG0 hc hr xs g L c z) := by
  unfold f_m_trapOf at H
  refine Ex.many (f' := (4, [some (.ref 27), some (.int a1), none, none, none], [.int (hr 27 33)], xSt xG0 hc hr xs g L c z)) ?_ 2 (by rfl)
  refine Ex.ite (ls := [some (.ref 27), some (.int a1), none, none, none]) (st := []) (S := xSt xG0 hc hr xs g L c z) (by rfl) (fun q1 => ?_) (fun q1 => ?_)
  · replace H := (if_pos q1).symm.trans H
    refine Ex.many (f' := (22, [some (.ref 27), some (.int a1), none, none, none], [.int (0 : Int32)], xSt xG0 hc hr xs g L c z)) ?_ 1 (by rfl)
    exact T_m_trapOf_22 a1 (0 : Int32) hr r H
  · replace H := (if_neg q1).symm.trans H
    refine Ex.many (f' := (17, [some (.ref 27), some (.int a1), none, none, none], [.int ((hr 27 33) - (1 : Int32)), .ref 46], xSt xG0 hc hr xs g L c z)) ?_ 6 (by rfl)
    obtain ⟨g2, H⟩ := xgd_some H
    refine Ex.guard (f' := (18, [some (.ref 27), some (.int a1), none, none, none], [.int (hr 46 ((hr 27 33) - (1 : Int32)).toNatClampNeg)], xSt xG0 hc hr xs g L c z)) (by rfl) g2 ?_
    refine Ex.many (f' := (22, [some (.ref 27), some (.int a1), none, none, none], [.int (hr 46 ((hr 27 33) - (1 : Int32)).toNatClampNeg)], xSt xG0 hc hr xs g L c z)) ?_ 1 (by rfl)
    exact T_m_trapOf_22 a1 (hr 46 ((hr 27 33) - (1 : Int32)).toNatClampNeg) hr r H
def f_m_reckon (a0 : Int32) (a1 : Int32) (a2 : Int32) : Int32 :=
  if a0 = (106 : Int32) then (a1 + a2) else (if a0 = (107 : Int32) then (a1 - a2) else (if a0 = (108 : Int32) then (a1 * a2) else (if a0 = (113 : Int32) then (a1 &&& a2) else (if a0 = (114 : Int32) then (a1 ||| a2) else (if a0 = (115 : Int32) then (a1 ^^^ a2) else (if a0 = (116 : Int32) then (a1 <<< (a2 &&& 31)) else (if a0 = (117 : Int32) then (a1 >>> (a2 &&& 31)) else (if a0 = (118 : Int32) then (xushr a1 a2) else (if a0 = (119 : Int32) then ((a1 <<< (a2 &&& 31)) ||| (xushr a1 ((32 : Int32) - (a2 &&& (31 : Int32))))) else (((xushr a1 a2) ||| (a1 <<< (((32 : Int32) - (a2 &&& (31 : Int32))) &&& 31)))))))))))))
theorem T_m_reckon {hc : xI} {hr : xI} {g : xJ} {xs : Nat → Int32} {L c z : Nat} (a0 : Int32) (a1 : Int32) (a2 : Int32) (r : Int32) (H : f_m_reckon a0 a1 a2 = r) : Ex 0 157 (0, [some (.int a0), some (.int a1), some (.int a2)], [], xSt xG0 hc hr xs g L c z) (.inl (some (.int r)), xSt xG0 hc hr xs g L c z) := by
  unfold f_m_reckon at H
  refine Ex.many (f' := (1, [some (.int a0), some (.int a1), some (.int a2)], [.int a0], xSt xG0 hc hr xs g L c z)) ?_ 1 (by rfl)
  by_cases q1 : a0 = (106 : Int32)
  · replace H := (if_pos q1).symm.trans H
    refine Ex.sw (t := 72) (ls := [some (.int a0), some (.int a1), some (.int a2)]) (st := []) (S := xSt xG0 hc hr xs g L c z) ?_ (by rfl) (by rw [q1]; rfl)
    refine Ex.many (f' := (75, [none, some (.int a1), some (.int a2)], [.int (a1 + a2)], xSt xG0 hc hr xs g L c z)) ?_ 3 (by rfl)
    skip
    subst H
    exact Ex.done (by rfl)
  · replace H := (if_neg q1).symm.trans H
    by_cases q2 : a0 = (107 : Int32)
    · replace H := (if_pos q2).symm.trans H
      refine Ex.sw (t := 76) (ls := [some (.int a0), some (.int a1), some (.int a2)]) (st := []) (S := xSt xG0 hc hr xs g L c z) ?_ (by rfl) (by rw [q2]; rfl)
      refine Ex.many (f' := (79, [none, some (.int a1), some (.int a2)], [.int (a1 - a2)], xSt xG0 hc hr xs g L c z)) ?_ 3 (by rfl)
      skip
      subst H
      exact Ex.done (by rfl)
    · replace H := (if_neg q2).symm.trans H
      by_cases q3 : a0 = (108 : Int32)
      · replace H := (if_pos q3).symm.trans H
        refine Ex.sw (t := 80) (ls := [some (.int a0), some (.int a1), some (.int a2)]) (st := []) (S := xSt xG0 hc hr xs g L c z) ?_ (by rfl) (by rw [q3]; rfl)
        refine Ex.many (f' := (83, [none, some (.int a1), some (.int a2)], [.int (a1 * a2)], xSt xG0 hc hr xs g L c z)) ?_ 3 (by rfl)
        skip
        subst H
        exact Ex.done (by rfl)
      · replace H := (if_neg q3).symm.trans H
        by_cases q4 : a0 = (113 : Int32)
        · replace H := (if_pos q4).symm.trans H
          refine Ex.sw (t := 84) (ls := [some (.int a0), some (.int a1), some (.int a2)]) (st := []) (S := xSt xG0 hc hr xs g L c z) ?_ (by rfl) (by rw [q4]; rfl)
          refine Ex.many (f' := (87, [none, some (.int a1), some (.int a2)], [.int (a1 &&& a2)], xSt xG0 hc hr xs g L c z)) ?_ 3 (by rfl)
          skip
          subst H
          exact Ex.done (by rfl)
        · replace H := (if_neg q4).symm.trans H
          by_cases q5 : a0 = (114 : Int32)
          · replace H := (if_pos q5).symm.trans H
            refine Ex.sw (t := 88) (ls := [some (.int a0), some (.int a1), some (.int a2)]) (st := []) (S := xSt xG0 hc hr xs g L c z) ?_ (by rfl) (by rw [q5]; rfl)
            refine Ex.many (f' := (91, [none, some (.int a1), some (.int a2)], [.int (a1 ||| a2)], xSt xG0 hc hr xs g L c z)) ?_ 3 (by rfl)
            skip
            subst H
            exact Ex.done (by rfl)
          · replace H := (if_neg q5).symm.trans H
            by_cases q6 : a0 = (115 : Int32)
            · replace H := (if_pos q6).symm.trans H
              refine Ex.sw (t := 92) (ls := [some (.int a0), some (.int a1), some (.int a2)]) (st := []) (S := xSt xG0 hc hr xs g L c z) ?_ (by rfl) (by rw [q6]; rfl)
              refine Ex.many (f' := (95, [none, some (.int a1), some (.int a2)], [.int (a1 ^^^ a2)], xSt xG0 hc hr xs g L c z)) ?_ 3 (by rfl)
              skip
              subst H
              exact Ex.done (by rfl)
            · replace H := (if_neg q6).symm.trans H
              by_cases q7 : a0 = (116 : Int32)
              · replace H := (if_pos q7).symm.trans H
                refine Ex.sw (t := 96) (ls := [some (.int a0), some (.int a1), some (.int a2)]) (st := []) (S := xSt xG0 hc hr xs g L c z) ?_ (by rfl) (by rw [q7]; rfl)
                refine Ex.many (f' := (99, [none, some (.int a1), some (.int a2)], [.int (a1 <<< (a2 &&& 31))], xSt xG0 hc hr xs g L c z)) ?_ 3 (by rfl)
                skip
                subst H
                exact Ex.done (by rfl)
              · replace H := (if_neg q7).symm.trans H
                by_cases q8 : a0 = (117 : Int32)
                · replace H := (if_pos q8).symm.trans H
                  refine Ex.sw (t := 100) (ls := [some (.int a0), some (.int a1), some (.int a2)]) (st := []) (S := xSt xG0 hc hr xs g L c z) ?_ (by rfl) (by rw [q8]; rfl)
                  refine Ex.many (f' := (103, [none, some (.int a1), some (.int a2)], [.int (a1 >>> (a2 &&& 31))], xSt xG0 hc hr xs g L c z)) ?_ 3 (by rfl)
                  skip
                  subst H
                  exact Ex.done (by rfl)
                · replace H := (if_neg q8).symm.trans H
                  by_cases q9 : a0 = (118 : Int32)
                  · replace H := (if_pos q9).symm.trans H
                    refine Ex.sw (t := 104) (ls := [some (.int a0), some (.int a1), some (.int a2)]) (st := []) (S := xSt xG0 hc hr xs g L c z) ?_ (by rfl) (by rw [q9]; rfl)
                    refine Ex.many (f' := (107, [none, some (.int a1), some (.int a2)], [.int (xushr a1 a2)], xSt xG0 hc hr xs g L c z)) ?_ 3 (by rfl)
                    skip
                    subst H
                    exact Ex.done (by rfl)
                  · replace H := (if_neg q9).symm.trans H
                    by_cases q10 : a0 = (119 : Int32)
                    · replace H := (if_pos q10).symm.trans H
                      refine Ex.sw (t := 108) (ls := [some (.int a0), some (.int a1), some (.int a2)]) (st := []) (S := xSt xG0 hc hr xs g L c z) ?_ (by rfl) (by rw [q10]; rfl)
                      refine Ex.many (f' := (121, [none, some (.int a1), some (.int a2)], [.int ((a1 <<< (a2 &&& 31)) ||| (xushr a1 ((32 : Int32) - (a2 &&& (31 : Int32)))))], xSt xG0 hc hr xs g L c z)) ?_ 11 (by rfl)
                      skip
                      subst H
                      exact Ex.done (by rfl)
                    · replace H := (if_neg q10).symm.trans H
                      refine Ex.sw (t := 122) (ls := [some (.int a0), some (.int a1), some (.int a2)]) (st := []) (S := xSt xG0 hc hr xs g L c z) ?_ (by rfl) (xtsw_d [(106 : Int32), (107 : Int32), (108 : Int32), (113 : Int32), (114 : Int32), (115 : Int32), (116 : Int32), (117 : Int32), (118 : Int32), (119 : Int32)] (by decide +kernel) (by decide +kernel) (List.forall_mem_cons.mpr ⟨fun e => q1 e, (List.forall_mem_cons.mpr ⟨fun e => q2 e, (List.forall_mem_cons.mpr ⟨fun e => q3 e, (List.forall_mem_cons.mpr ⟨fun e => q4 e, (List.forall_mem_cons.mpr ⟨fun e => q5 e, (List.forall_mem_cons.mpr ⟨fun e => q6 e, (List.forall_mem_cons.mpr ⟨fun e => q7 e, (List.forall_mem_cons.mpr ⟨fun e => q8 e, (List.forall_mem_cons.mpr ⟨fun e => q9 e, (List.forall_mem_cons.mpr ⟨fun e => q10 e, (fun _ h => absurd h List.not_mem_nil)⟩)⟩)⟩)⟩)⟩)⟩)⟩)⟩)⟩)⟩))
                      refine Ex.many (f' := (135, [none, some (.int a1), some (.int a2)], [.int ((xushr a1 a2) ||| (a1 <<< (((32 : Int32) - (a2 &&& (31 : Int32))) &&& 31)))], xSt xG0 hc hr xs g L c z)) ?_ 11 (by rfl)
                      skip
                      subst H
                      exact Ex.done (by rfl)
def f_m_divide (a0 : Int32) (a1 : Int32) (a2 : Int32) : Option Int32 :=
  if a0 = (109 : Int32) then (xdz a2 (some (a1 / a2))) else (if a0 = (110 : Int32) then (xdzL (a2.toInt64 &&& (4294967295 : Int64)) (some (((a1.toInt64 &&& (4294967295 : Int64)) / (a2.toInt64 &&& (4294967295 : Int64))).toInt32))) else (if a0 = (111 : Int32) then (if a2 = (-1 : Int32) then (some (0 : Int32)) else (xdz a2 (some (a1 - a1 / a2 * a2)))) else (xdzL (a2.toInt64 &&& (4294967295 : Int64)) (some (((a1.toInt64 &&& (4294967295 : Int64)) - (a1.toInt64 &&& (4294967295 : Int64)) / (a2.toInt64 &&& (4294967295 : Int64)) * (a2.toInt64 &&& (4294967295 : Int64))).toInt32)))))
theorem T_m_divide {hc : xI} {hr : xI} {g : xJ} {xs : Nat → Int32} {L c z : Nat} (a0 : Int32) (a1 : Int32) (a2 : Int32) (r : Int32) (H : f_m_divide a0 a1 a2 = some r) : Ex 0 156 (0, [some (.int a0), some (.int a1), some (.int a2), none, none, none, none], [], xSt xG0 hc hr xs g L c z) (.inl (some (.int r)), xSt xG0 hc hr xs g L c z) := by
  unfold f_m_divide at H
  refine Ex.many (f' := (18, [some (.int a0), some (.int a1), some (.int a2), some (.long (a1.toInt64 &&& (4294967295 : Int64))), none, some (.long (a2.toInt64 &&& (4294967295 : Int64))), none], [.int (109 : Int32), .int a0], xSt xG0 hc hr xs g L c z)) ?_ 12 (by rfl)
  refine Ex.ite (ls := [some (.int a0), some (.int a1), some (.int a2), some (.long (a1.toInt64 &&& (4294967295 : Int64))), none, some (.long (a2.toInt64 &&& (4294967295 : Int64))), none]) (st := []) (S := xSt xG0 hc hr xs g L c z) (by rfl) (fun q1 => ?_) (fun q1 => ?_)
  · replace H := (if_pos q1).symm.trans H
    refine Ex.many (f' := (23, [none, some (.int a1), some (.int a2), none, none, none, none], [.int a2, .int a1], xSt xG0 hc hr xs g L c z)) ?_ 2 (by rfl)
    obtain ⟨g2, H⟩ := xdz_some H
    refine Ex.div (f' := (24, [none, some (.int a1), some (.int a2), none, none, none, none], [.int (a1 / a2)], xSt xG0 hc hr xs g L c z)) ?_ g2 (by rfl)
    refine Ex.many (f' := (67, [none, some (.int a1), some (.int a2), none, none, none, none], [.int (a1 / a2)], xSt xG0 hc hr xs g L c z)) ?_ 1 (by rfl)
    replace H := Option.some.inj H
    subst H
    exact Ex.done (by rfl)
  · replace H := (if_neg q1).symm.trans H
    refine Ex.many (f' := (30, [some (.int a0), some (.int a1), some (.int a2), some (.long (a1.toInt64 &&& (4294967295 : Int64))), none, some (.long (a2.toInt64 &&& (4294967295 : Int64))), none], [.int (110 : Int32), .int a0], xSt xG0 hc hr xs g L c z)) ?_ 2 (by rfl)
    refine Ex.ite (ls := [some (.int a0), some (.int a1), some (.int a2), some (.long (a1.toInt64 &&& (4294967295 : Int64))), none, some (.long (a2.toInt64 &&& (4294967295 : Int64))), none]) (st := []) (S := xSt xG0 hc hr xs g L c z) (by rfl) (fun q3 => ?_) (fun q3 => ?_)
    · replace H := (if_pos q3).symm.trans H
      refine Ex.many (f' := (36, [none, none, none, some (.long (a1.toInt64 &&& (4294967295 : Int64))), none, some (.long (a2.toInt64 &&& (4294967295 : Int64))), none], [.long (a2.toInt64 &&& (4294967295 : Int64)), .long (a1.toInt64 &&& (4294967295 : Int64))], xSt xG0 hc hr xs g L c z)) ?_ 2 (by rfl)
      obtain ⟨g4, H⟩ := xdzL_some H
      refine Ex.divL (f' := (37, [none, none, none, some (.long (a1.toInt64 &&& (4294967295 : Int64))), none, some (.long (a2.toInt64 &&& (4294967295 : Int64))), none], [.long ((a1.toInt64 &&& (4294967295 : Int64)) / (a2.toInt64 &&& (4294967295 : Int64)))], xSt xG0 hc hr xs g L c z)) ?_ g4 (by rfl)
      refine Ex.many (f' := (67, [none, none, none, some (.long (a1.toInt64 &&& (4294967295 : Int64))), none, some (.long (a2.toInt64 &&& (4294967295 : Int64))), none], [.int ((a1.toInt64 &&& (4294967295 : Int64)) / (a2.toInt64 &&& (4294967295 : Int64))).toInt32], xSt xG0 hc hr xs g L c z)) ?_ 2 (by rfl)
      replace H := Option.some.inj H
      subst H
      exact Ex.done (by rfl)
    · replace H := (if_neg q3).symm.trans H
      refine Ex.many (f' := (44, [some (.int a0), some (.int a1), some (.int a2), some (.long (a1.toInt64 &&& (4294967295 : Int64))), none, some (.long (a2.toInt64 &&& (4294967295 : Int64))), none], [.int (111 : Int32), .int a0], xSt xG0 hc hr xs g L c z)) ?_ 2 (by rfl)
      refine Ex.ite (ls := [some (.int a0), some (.int a1), some (.int a2), some (.long (a1.toInt64 &&& (4294967295 : Int64))), none, some (.long (a2.toInt64 &&& (4294967295 : Int64))), none]) (st := []) (S := xSt xG0 hc hr xs g L c z) (by rfl) (fun q5 => ?_) (fun q5 => ?_)
      · replace H := (if_pos q5).symm.trans H
        refine Ex.many (f' := (49, [none, some (.int a1), some (.int a2), none, none, none, none], [.int (-1 : Int32), .int a2], xSt xG0 hc hr xs g L c z)) ?_ 2 (by rfl)
        refine Ex.ite (ls := [none, some (.int a1), some (.int a2), none, none, none, none]) (st := []) (S := xSt xG0 hc hr xs g L c z) (by rfl) (fun q6 => ?_) (fun q6 => ?_)
        · replace H := (if_pos q6).symm.trans H
          refine Ex.many (f' := (67, [none, none, none, none, none, none, none], [.int (0 : Int32)], xSt xG0 hc hr xs g L c z)) ?_ 2 (by rfl)
          replace H := Option.some.inj H
          subst H
          exact Ex.done (by rfl)
        · replace H := (if_neg q6).symm.trans H
          refine Ex.many (f' := (58, [none, some (.int a1), some (.int a2), none, none, none, none], [.int a2, .int a1], xSt xG0 hc hr xs g L c z)) ?_ 2 (by rfl)
          obtain ⟨g7, H⟩ := xdz_some H
          refine Ex.div (f' := (59, [none, some (.int a1), some (.int a2), none, none, none, none], [.int (a1 - a1 / a2 * a2)], xSt xG0 hc hr xs g L c z)) ?_ g7 (by rfl)
          refine Ex.many (f' := (67, [none, some (.int a1), some (.int a2), none, none, none, none], [.int (a1 - a1 / a2 * a2)], xSt xG0 hc hr xs g L c z)) ?_ 1 (by rfl)
          replace H := Option.some.inj H
          subst H
          exact Ex.done (by rfl)
      · replace H := (if_neg q5).symm.trans H
        refine Ex.many (f' := (65, [none, none, none, some (.long (a1.toInt64 &&& (4294967295 : Int64))), none, some (.long (a2.toInt64 &&& (4294967295 : Int64))), none], [.long (a2.toInt64 &&& (4294967295 : Int64)), .long (a1.toInt64 &&& (4294967295 : Int64))], xSt xG0 hc hr xs g L c z)) ?_ 2 (by rfl)
        obtain ⟨g8, H⟩ := xdzL_some H
        refine Ex.divL (f' := (66, [none, none, none, some (.long (a1.toInt64 &&& (4294967295 : Int64))), none, some (.long (a2.toInt64 &&& (4294967295 : Int64))), none], [.long ((a1.toInt64 &&& (4294967295 : Int64)) - (a1.toInt64 &&& (4294967295 : Int64)) / (a2.toInt64 &&& (4294967295 : Int64)) * (a2.toInt64 &&& (4294967295 : Int64)))], xSt xG0 hc hr xs g L c z)) ?_ g8 (by rfl)
        refine Ex.many (f' := (67, [none, none, none, some (.long (a1.toInt64 &&& (4294967295 : Int64))), none, some (.long (a2.toInt64 &&& (4294967295 : Int64))), none], [.int ((a1.toInt64 &&& (4294967295 : Int64)) - (a1.toInt64 &&& (4294967295 : Int64)) / (a2.toInt64 &&& (4294967295 : Int64)) * (a2.toInt64 &&& (4294967295 : Int64))).toInt32], xSt xG0 hc hr xs g L c z)) ?_ 1 (by rfl)
        replace H := Option.some.inj H
        subst H
        exact Ex.done (by rfl)
def f_m_below (a0 : Int32) (a1 : Int32) : Int32 :=
  if (a1 + (-2147483648 : Int32)) ≤ (a0 + (-2147483648 : Int32)) then (0 : Int32) else (1 : Int32)
theorem T_m_below {hc : xI} {hr : xI} {g : xJ} {xs : Nat → Int32} {L c z : Nat} (a0 : Int32) (a1 : Int32) (r : Int32) (H : f_m_below a0 a1 = r) : Ex 0 155 (0, [some (.int a0), some (.int a1)], [], xSt xG0 hc hr xs g L c z) (.inl (some (.int r)), xSt xG0 hc hr xs g L c z) := by
  unfold f_m_below at H
  refine Ex.many (f' := (8, [some (.int a0), some (.int a1)], [.int (a1 + (-2147483648 : Int32)), .int (a0 + (-2147483648 : Int32))], xSt xG0 hc hr xs g L c z)) ?_ 6 (by rfl)
  refine Ex.ite (ls := [some (.int a0), some (.int a1)]) (st := []) (S := xSt xG0 hc hr xs g L c z) (by rfl) (fun q1 => ?_) (fun q1 => ?_)
  · replace H := (if_pos q1).symm.trans H
    refine Ex.many (f' := (16, [none, none], [.int (0 : Int32)], xSt xG0 hc hr xs g L c z)) ?_ 1 (by rfl)
    skip
    subst H
    exact Ex.done (by rfl)
  · replace H := (if_neg q1).symm.trans H
    refine Ex.many (f' := (16, [none, none], [.int (1 : Int32)], xSt xG0 hc hr xs g L c z)) ?_ 2 (by rfl)
    skip
    subst H
    exact Ex.done (by rfl)
def f_m_compare (a0 : Int32) (a1 : Int32) (a2 : Int32) : Option Int32 :=
  if a0 = (70 : Int32) then (if a1 = a2 then (some (1 : Int32)) else (some (0 : Int32))) else (if a0 = (71 : Int32) then (if a1 = a2 then (some (0 : Int32)) else (some (1 : Int32))) else (if a0 = (72 : Int32) then (if a2 ≤ a1 then (some (0 : Int32)) else (some (1 : Int32))) else (if a0 = (73 : Int32) then (xb01 (f_m_below a1 a2) (some (f_m_below a1 a2))) else (if a0 = (74 : Int32) then (if a1 ≤ a2 then (some (0 : Int32)) else (some (1 : Int32))) else (if a0 = (75 : Int32) then (xb01 (f_m_below a2 a1) (some (f_m_below a2 a1))) else (if a0 = (76 : Int32) then (if a2 < a1 then (some (0 : Int32)) else (some (1 : Int32))) else (if a0 = (77 : Int32) then (if (f_m_below a2 a1) = 0 then (some (1 : Int32)) else (some (0 : Int32))) else (if a0 = (78 : Int32) then (if a1 < a2 then (some (0 : Int32)) else (some (1 : Int32))) else (if (f_m_below a1 a2) = 0 then (some (1 : Int32)) else (some (0 : Int32)))))))))))
theorem T_m_compare {hc : xI} {hr : xI} {g : xJ} {xs : Nat → Int32} {L c z : Nat} (a0 : Int32) (a1 : Int32) (a2 : Int32) (r : Int32) (H : f_m_compare a0 a1 a2 = some r) : Ex 1 154 (0, [some (.int a0), some (.int a1), some (.int a2)], [], xSt xG0 hc hr xs g L c z) (.inl (some (.int r)), xSt xG0 hc hr xs g L c z) := by
  unfold f_m_compare at H
  refine Ex.many (f' := (1, [some (.int a0), some (.int a1), some (.int a2)], [.int a0], xSt xG0 hc hr xs g L c z)) ?_ 1 (by rfl)
  by_cases q1 : a0 = (70 : Int32)
  · replace H := (if_pos q1).symm.trans H
    refine Ex.sw (t := 52) (ls := [some (.int a0), some (.int a1), some (.int a2)]) (st := []) (S := xSt xG0 hc hr xs g L c z) ?_ (by rfl) (by rw [q1]; rfl)
    refine Ex.many (f' := (54, [none, some (.int a1), some (.int a2)], [.int a2, .int a1], xSt xG0 hc hr xs g L c z)) ?_ 2 (by rfl)
    refine Ex.ite (ls := [none, some (.int a1), some (.int a2)]) (st := []) (S := xSt xG0 hc hr xs g L c z) (by rfl) (fun q2 => ?_) (fun q2 => ?_)
    · replace H := (if_pos q2).symm.trans H
      refine Ex.many (f' := (62, [none, none, none], [.int (1 : Int32)], xSt xG0 hc hr xs g L c z)) ?_ 2 (by rfl)
      replace H := Option.some.inj H
      subst H
      exact Ex.done (by rfl)
    · replace H := (if_neg q2).symm.trans H
      refine Ex.many (f' := (62, [none, none, none], [.int (0 : Int32)], xSt xG0 hc hr xs g L c z)) ?_ 1 (by rfl)
      replace H := Option.some.inj H
      subst H
      exact Ex.done (by rfl)
  · replace H := (if_neg q1).symm.trans H
    by_cases q3 : a0 = (71 : Int32)
    · replace H := (if_pos q3).symm.trans H
      refine Ex.sw (t := 63) (ls := [some (.int a0), some (.int a1), some (.int a2)]) (st := []) (S := xSt xG0 hc hr xs g L c z) ?_ (by rfl) (by rw [q3]; rfl)
      refine Ex.many (f' := (65, [none, some (.int a1), some (.int a2)], [.int a2, .int a1], xSt xG0 hc hr xs g L c z)) ?_ 2 (by rfl)
      refine Ex.ite (ls := [none, some (.int a1), some (.int a2)]) (st := []) (S := xSt xG0 hc hr xs g L c z) (by rfl) (fun q4 => ?_) (fun q4 => ?_)
      · replace H := (if_pos q4).symm.trans H
        refine Ex.many (f' := (73, [none, none, none], [.int (0 : Int32)], xSt xG0 hc hr xs g L c z)) ?_ 1 (by rfl)
        replace H := Option.some.inj H
        subst H
        exact Ex.done (by rfl)
      · replace H := (if_neg q4).symm.trans H
        refine Ex.many (f' := (73, [none, none, none], [.int (1 : Int32)], xSt xG0 hc hr xs g L c z)) ?_ 2 (by rfl)
        replace H := Option.some.inj H
        subst H
        exact Ex.done (by rfl)
    · replace H := (if_neg q3).symm.trans H
      by_cases q5 : a0 = (72 : Int32)
      · replace H := (if_pos q5).symm.trans H
        refine Ex.sw (t := 74) (ls := [some (.int a0), some (.int a1), some (.int a2)]) (st := []) (S := xSt xG0 hc hr xs g L c z) ?_ (by rfl) (by rw [q5]; rfl)
        refine Ex.many (f' := (76, [none, some (.int a1), some (.int a2)], [.int a2, .int a1], xSt xG0 hc hr xs g L c z)) ?_ 2 (by rfl)
        refine Ex.ite (ls := [none, some (.int a1), some (.int a2)]) (st := []) (S := xSt xG0 hc hr xs g L c z) (by rfl) (fun q6 => ?_) (fun q6 => ?_)
        · replace H := (if_pos q6).symm.trans H
          refine Ex.many (f' := (84, [none, none, none], [.int (0 : Int32)], xSt xG0 hc hr xs g L c z)) ?_ 1 (by rfl)
          replace H := Option.some.inj H
          subst H
          exact Ex.done (by rfl)
        · replace H := (if_neg q6).symm.trans H
          refine Ex.many (f' := (84, [none, none, none], [.int (1 : Int32)], xSt xG0 hc hr xs g L c z)) ?_ 2 (by rfl)
          replace H := Option.some.inj H
          subst H
          exact Ex.done (by rfl)
      · replace H := (if_neg q5).symm.trans H
        by_cases q7 : a0 = (73 : Int32)
        · replace H := (if_pos q7).symm.trans H
          refine Ex.sw (t := 85) (ls := [some (.int a0), some (.int a1), some (.int a2)]) (st := []) (S := xSt xG0 hc hr xs g L c z) ?_ (by rfl) (by rw [q7]; rfl)
          refine Ex.many (f' := (87, [none, some (.int a1), some (.int a2)], [.int a2, .int a1], xSt xG0 hc hr xs g L c z)) ?_ 2 (by rfl)
          refine Ex.call (mk := 155) (vs := [.int a1, .int a2]) (rest := []) (by rfl) (by rfl) (Ex.up (T_m_below a1 a2 _ rfl) (by decide)) (xbb c z) ?_
          show Ex _ _ (90, [none, some (.int a1), some (.int a2)], [.int (f_m_below a1 a2)], xSt xG0 hc hr xs g L c z) _
          obtain ⟨g9, H⟩ := xb01_some H
          replace H := Option.some.inj H
          subst H
          exact Ex.ret01 (by rfl) g9
        · replace H := (if_neg q7).symm.trans H
          by_cases q10 : a0 = (74 : Int32)
          · replace H := (if_pos q10).symm.trans H
            refine Ex.sw (t := 91) (ls := [some (.int a0), some (.int a1), some (.int a2)]) (st := []) (S := xSt xG0 hc hr xs g L c z) ?_ (by rfl) (by rw [q10]; rfl)
            refine Ex.many (f' := (93, [none, some (.int a1), some (.int a2)], [.int a2, .int a1], xSt xG0 hc hr xs g L c z)) ?_ 2 (by rfl)
            refine Ex.ite (ls := [none, some (.int a1), some (.int a2)]) (st := []) (S := xSt xG0 hc hr xs g L c z) (by rfl) (fun q11 => ?_) (fun q11 => ?_)
            · replace H := (if_pos q11).symm.trans H
              refine Ex.many (f' := (101, [none, none, none], [.int (0 : Int32)], xSt xG0 hc hr xs g L c z)) ?_ 1 (by rfl)
              replace H := Option.some.inj H
              subst H
              exact Ex.done (by rfl)
            · replace H := (if_neg q11).symm.trans H
              refine Ex.many (f' := (101, [none, none, none], [.int (1 : Int32)], xSt xG0 hc hr xs g L c z)) ?_ 2 (by rfl)
              replace H := Option.some.inj H
              subst H
              exact Ex.done (by rfl)
          · replace H := (if_neg q10).symm.trans H
            by_cases q12 : a0 = (75 : Int32)
            · replace H := (if_pos q12).symm.trans H
              refine Ex.sw (t := 102) (ls := [some (.int a0), some (.int a1), some (.int a2)]) (st := []) (S := xSt xG0 hc hr xs g L c z) ?_ (by rfl) (by rw [q12]; rfl)
              refine Ex.many (f' := (104, [none, some (.int a1), some (.int a2)], [.int a1, .int a2], xSt xG0 hc hr xs g L c z)) ?_ 2 (by rfl)
              refine Ex.call (mk := 155) (vs := [.int a2, .int a1]) (rest := []) (by rfl) (by rfl) (Ex.up (T_m_below a2 a1 _ rfl) (by decide)) (xbb c z) ?_
              show Ex _ _ (107, [none, some (.int a1), some (.int a2)], [.int (f_m_below a2 a1)], xSt xG0 hc hr xs g L c z) _
              obtain ⟨g14, H⟩ := xb01_some H
              replace H := Option.some.inj H
              subst H
              exact Ex.ret01 (by rfl) g14
            · replace H := (if_neg q12).symm.trans H
              by_cases q15 : a0 = (76 : Int32)
              · replace H := (if_pos q15).symm.trans H
                refine Ex.sw (t := 108) (ls := [some (.int a0), some (.int a1), some (.int a2)]) (st := []) (S := xSt xG0 hc hr xs g L c z) ?_ (by rfl) (by rw [q15]; rfl)
                refine Ex.many (f' := (110, [none, some (.int a1), some (.int a2)], [.int a2, .int a1], xSt xG0 hc hr xs g L c z)) ?_ 2 (by rfl)
                refine Ex.ite (ls := [none, some (.int a1), some (.int a2)]) (st := []) (S := xSt xG0 hc hr xs g L c z) (by rfl) (fun q16 => ?_) (fun q16 => ?_)
                · replace H := (if_pos q16).symm.trans H
                  refine Ex.many (f' := (118, [none, none, none], [.int (0 : Int32)], xSt xG0 hc hr xs g L c z)) ?_ 1 (by rfl)
                  replace H := Option.some.inj H
                  subst H
                  exact Ex.done (by rfl)
                · replace H := (if_neg q16).symm.trans H
                  refine Ex.many (f' := (118, [none, none, none], [.int (1 : Int32)], xSt xG0 hc hr xs g L c z)) ?_ 2 (by rfl)
                  replace H := Option.some.inj H
                  subst H
                  exact Ex.done (by rfl)
              · replace H := (if_neg q15).symm.trans H
                by_cases q17 : a0 = (77 : Int32)
                · replace H := (if_pos q17).symm.trans H
                  refine Ex.sw (t := 119) (ls := [some (.int a0), some (.int a1), some (.int a2)]) (st := []) (S := xSt xG0 hc hr xs g L c z) ?_ (by rfl) (by rw [q17]; rfl)
                  refine Ex.many (f' := (121, [none, some (.int a1), some (.int a2)], [.int a1, .int a2], xSt xG0 hc hr xs g L c z)) ?_ 2 (by rfl)
                  refine Ex.call (mk := 155) (vs := [.int a2, .int a1]) (rest := []) (by rfl) (by rfl) (Ex.up (T_m_below a2 a1 _ rfl) (by decide)) (xbb c z) ?_
                  show Ex _ _ (124, [none, some (.int a1), some (.int a2)], [.int (f_m_below a2 a1)], xSt xG0 hc hr xs g L c z) _
                  refine Ex.ite (ls := [none, none, none]) (st := []) (S := xSt xG0 hc hr xs g L c z) (by rfl) (fun q19 => ?_) (fun q19 => ?_)
                  · replace H := (if_pos q19).symm.trans H
                    refine Ex.many (f' := (132, [none, none, none], [.int (1 : Int32)], xSt xG0 hc hr xs g L c z)) ?_ 2 (by rfl)
                    replace H := Option.some.inj H
                    subst H
                    exact Ex.done (by rfl)
                  · replace H := (if_neg q19).symm.trans H
                    refine Ex.many (f' := (132, [none, none, none], [.int (0 : Int32)], xSt xG0 hc hr xs g L c z)) ?_ 1 (by rfl)
                    replace H := Option.some.inj H
                    subst H
                    exact Ex.done (by rfl)
                · replace H := (if_neg q17).symm.trans H
                  by_cases q20 : a0 = (78 : Int32)
                  · replace H := (if_pos q20).symm.trans H
                    refine Ex.sw (t := 133) (ls := [some (.int a0), some (.int a1), some (.int a2)]) (st := []) (S := xSt xG0 hc hr xs g L c z) ?_ (by rfl) (by rw [q20]; rfl)
                    refine Ex.many (f' := (135, [none, some (.int a1), some (.int a2)], [.int a2, .int a1], xSt xG0 hc hr xs g L c z)) ?_ 2 (by rfl)
                    refine Ex.ite (ls := [none, some (.int a1), some (.int a2)]) (st := []) (S := xSt xG0 hc hr xs g L c z) (by rfl) (fun q21 => ?_) (fun q21 => ?_)
                    · replace H := (if_pos q21).symm.trans H
                      refine Ex.many (f' := (143, [none, none, none], [.int (0 : Int32)], xSt xG0 hc hr xs g L c z)) ?_ 1 (by rfl)
                      replace H := Option.some.inj H
                      subst H
                      exact Ex.done (by rfl)
                    · replace H := (if_neg q21).symm.trans H
                      refine Ex.many (f' := (143, [none, none, none], [.int (1 : Int32)], xSt xG0 hc hr xs g L c z)) ?_ 2 (by rfl)
                      replace H := Option.some.inj H
                      subst H
                      exact Ex.done (by rfl)
                  · replace H := (if_neg q20).symm.trans H
                    refine Ex.sw (t := 144) (ls := [some (.int a0), some (.int a1), some (.int a2)]) (st := []) (S := xSt xG0 hc hr xs g L c z) ?_ (by rfl) (xtsw_d [(70 : Int32), (71 : Int32), (72 : Int32), (73 : Int32), (74 : Int32), (75 : Int32), (76 : Int32), (77 : Int32), (78 : Int32)] (by decide +kernel) (by decide +kernel) (List.forall_mem_cons.mpr ⟨fun e => q1 e, (List.forall_mem_cons.mpr ⟨fun e => q3 e, (List.forall_mem_cons.mpr ⟨fun e => q5 e, (List.forall_mem_cons.mpr ⟨fun e => q7 e, (List.forall_mem_cons.mpr ⟨fun e => q10 e, (List.forall_mem_cons.mpr ⟨fun e => q12 e, (List.forall_mem_cons.mpr ⟨fun e => q15 e, (List.forall_mem_cons.mpr ⟨fun e => q17 e, (List.forall_mem_cons.mpr ⟨fun e => q20 e, (fun _ h => absurd h List.not_mem_nil)⟩)⟩)⟩)⟩)⟩)⟩)⟩)⟩)⟩))
                    refine Ex.many (f' := (146, [none, some (.int a1), some (.int a2)], [.int a2, .int a1], xSt xG0 hc hr xs g L c z)) ?_ 2 (by rfl)
                    refine Ex.call (mk := 155) (vs := [.int a1, .int a2]) (rest := []) (by rfl) (by rfl) (Ex.up (T_m_below a1 a2 _ rfl) (by decide)) (xbb c z) ?_
                    show Ex _ _ (149, [none, some (.int a1), some (.int a2)], [.int (f_m_below a1 a2)], xSt xG0 hc hr xs g L c z) _
                    refine Ex.ite (ls := [none, none, none]) (st := []) (S := xSt xG0 hc hr xs g L c z) (by rfl) (fun q23 => ?_) (fun q23 => ?_)
                    · replace H := (if_pos q23).symm.trans H
                      refine Ex.many (f' := (157, [none, none, none], [.int (1 : Int32)], xSt xG0 hc hr xs g L c z)) ?_ 2 (by rfl)
                      replace H := Option.some.inj H
                      subst H
                      exact Ex.done (by rfl)
                    · replace H := (if_neg q23).symm.trans H
                      refine Ex.many (f' := (157, [none, none, none], [.int (0 : Int32)], xSt xG0 hc hr xs g L c z)) ?_ 1 (by rfl)
                      replace H := Option.some.inj H
                      subst H
                      exact Ex.done (by rfl)
def f_m_grow (a1 : Int32) (hr : xI) : Option (Int32 × xI) :=
  if a1 < 0 then (some ((-1 : Int32), hr)) else (if a1 ≤ ((4 : Int32) - (hr 27 27)) then (some ((hr 27 27), (xput hr 27 27 ((hr 27 27) + a1)))) else (some ((-1 : Int32), hr)))
theorem T_m_grow {hc : xI} {g : xJ} {xs : Nat → Int32} {L c z : Nat} (a1 : Int32) (hr : xI) (r : (Int32 × xI)) (H : f_m_grow a1 hr = some r) : Ex 0 159 (0, [some (.ref 27), some (.int a1), none], [], xSt xG0 hc hr xs g L c z) (.inl (some (.int r.1)), xSt xG0 hc r.2 xs g L c z) := by
  unfold f_m_grow at H
  refine Ex.many (f' := (6, [some (.ref 27), some (.int a1), some (.int (hr 27 27))], [.int a1], xSt xG0 hc hr xs g L c z)) ?_ 4 (by rfl)
  refine Ex.ite (ls := [some (.ref 27), some (.int a1), some (.int (hr 27 27))]) (st := []) (S := xSt xG0 hc hr xs g L c z) (by rfl) (fun q1 => ?_) (fun q1 => ?_)
  · replace H := (if_pos q1).symm.trans H
    refine Ex.many (f' := (20, [none, none, none], [.int (-1 : Int32)], xSt xG0 hc hr xs g L c z)) ?_ 1 (by rfl)
    replace H := Option.some.inj H
    subst H
    exact Ex.done (by rfl)
  · replace H := (if_neg q1).symm.trans H
    refine Ex.many (f' := (16, [some (.ref 27), some (.int a1), some (.int (hr 27 27))], [.int ((4 : Int32) - (hr 27 27)), .int a1], xSt xG0 hc hr xs g L c z)) ?_ 5 (by rfl)
    refine Ex.ite (ls := [some (.ref 27), some (.int a1), some (.int (hr 27 27))]) (st := []) (S := xSt xG0 hc hr xs g L c z) (by rfl) (fun q2 => ?_) (fun q2 => ?_)
    · replace H := (if_pos q2).symm.trans H
      refine Ex.many (f' := (28, [some (.ref 27), some (.int a1), some (.int (hr 27 27))], [.int ((hr 27 27) + a1), .ref 27], xSt xG0 hc hr xs g L c z)) ?_ 5 (by rfl)
      refine Ex.putR (pc := 31) (k := 27) (j := 27) (v := ((hr 27 27) + a1)) (ls := [some (.ref 27), some (.int a1), some (.int (hr 27 27))]) (st := []) (hr := hr) ?_ (by rfl) (by rfl)
      refine Ex.many (f' := (32, [some (.ref 27), some (.int a1), some (.int (hr 27 27))], [.int (hr 27 27)], xSt xG0 hc (xput hr 27 27 ((hr 27 27) + a1)) xs g L c z)) ?_ 1 (by rfl)
      replace H := Option.some.inj H
      subst H
      exact Ex.done (by rfl)
    · replace H := (if_neg q2).symm.trans H
      refine Ex.many (f' := (20, [none, none, none], [.int (-1 : Int32)], xSt xG0 hc hr xs g L c z)) ?_ 1 (by rfl)
      replace H := Option.some.inj H
      subst H
      exact Ex.done (by rfl)
def f_m_count_81 (k : Int32 → Int32 → Int32 → Int32 → Int32 → Int32 → Option Int32) (v0 : Int32) (v1 : Int32) (v2 : Int32) (v3 : Int32) (v5 : Int32) (s1 : Int32) (s0 : Int32) : Option Int32 :=
  k v0 v1 v2 v3 (s0 + s1) (v5 + (1 : Int32))
theorem T_m_count_81 {hc : xI} {hr : xI} {g : xJ} {xs : Nat → Int32} {L c z : Nat} (k : Int32 → Int32 → Int32 → Int32 → Int32 → Int32 → Option Int32) (hk : ∀ (v0 : Int32) (v1 : Int32) (v2 : Int32) (v3 : Int32) (v4 : Int32) (v5 : Int32) (r : Int32), k v0 v1 v2 v3 v4 v5 = some r → Ex 0 161 (12, [some (.int v0), some (.int v1), some (.int v2), some (.int v3), some (.int v4), some (.int v5), none], [], xSt xG0 hc hr xs g L c z) (.inl (some (.int r)), xSt xG0 hc hr xs g L c z)) (v0 : Int32) (v1 : Int32) (v2 : Int32) (v3 : Int32) (v5 : Int32) (s1 : Int32) (s0 : Int32) (r : Int32) (H : f_m_count_81 k v0 v1 v2 v3 v5 s1 s0 = some r) : Ex 0 161 (81, [some (.int v0), some (.int v1), some (.int v2), some (.int v3), none, some (.int v5), none], [.int s1, .int s0], xSt xG0 hc hr xs g L c z) (.inl (some (.int r)), xSt xG0 hc hr xs g L c z) := by
  unfold f_m_count_81 at H
  refine Ex.many (f' := (12, [some (.int v0), some (.int v1), some (.int v2), some (.int v3), some (.int (s0 + s1)), some (.int (v5 + (1 : Int32))), none], [], xSt xG0 hc hr xs g L c z)) ?_ 4 (by rfl)
  exact hk v0 v1 v2 v3 (s0 + s1) (v5 + (1 : Int32)) r H
def f_m_count_68 (k : Int32 → Int32 → Int32 → Int32 → Int32 → Int32 → Option Int32) (v0 : Int32) (v1 : Int32) (v2 : Int32) (v4 : Int32) (v5 : Int32) (v6 : Int32) (s0 : Int32) : Option Int32 :=
  if v6 = 0 then (f_m_count_81 k v0 v1 v2 s0 v5 (0 : Int32) v4) else (f_m_count_81 k v0 v1 v2 s0 v5 (1 : Int32) v4)
theorem T_m_count_68 {hc : xI} {hr : xI} {g : xJ} {xs : Nat → Int32} {L c z : Nat} (k : Int32 → Int32 → Int32 → Int32 → Int32 → Int32 → Option Int32) (hk : ∀ (v0 : Int32) (v1 : Int32) (v2 : Int32) (v3 : Int32) (v4 : Int32) (v5 : Int32) (r : Int32), k v0 v1 v2 v3 v4 v5 = some r → Ex 0 161 (12, [some (.int v0), some (.int v1), some (.int v2), some (.int v3), some (.int v4), some (.int v5), none], [], xSt xG0 hc hr xs g L c z) (.inl (some (.int r)), xSt xG0 hc hr xs g L c z)) (v0 : Int32) (v1 : Int32) (v2 : Int32) (v4 : Int32) (v5 : Int32) (v6 : Int32) (s0 : Int32) (r : Int32) (H : f_m_count_68 k v0 v1 v2 v4 v5 v6 s0 = some r) : Ex 0 161 (68, [some (.int v0), some (.int v1), some (.int v2), none, some (.int v4), some (.int v5), some (.int v6)], [.int s0], xSt xG0 hc hr xs g L c z) (.inl (some (.int r)), xSt xG0 hc hr xs g L c z) := by
  unfold f_m_count_68 at H
  refine Ex.many (f' := (73, [some (.int v0), some (.int v1), some (.int v2), some (.int s0), some (.int v4), some (.int v5), some (.int v6)], [.int v6, .int v4], xSt xG0 hc hr xs g L c z)) ?_ 3 (by rfl)
  refine Ex.ite (ls := [some (.int v0), some (.int v1), some (.int v2), some (.int s0), some (.int v4), some (.int v5), some (.int v6)]) (st := [.int v4]) (S := xSt xG0 hc hr xs g L c z) (by rfl) (fun q1 => ?_) (fun q1 => ?_)
  · replace H := (if_pos q1).symm.trans H
    refine Ex.many (f' := (81, [some (.int v0), some (.int v1), some (.int v2), some (.int s0), none, some (.int v5), none], [.int (0 : Int32), .int v4], xSt xG0 hc hr xs g L c z)) ?_ 1 (by rfl)
    exact T_m_count_81 k hk v0 v1 v2 s0 v5 (0 : Int32) v4 r H
  · replace H := (if_neg q1).symm.trans H
    refine Ex.many (f' := (81, [some (.int v0), some (.int v1), some (.int v2), some (.int s0), none, some (.int v5), none], [.int (1 : Int32), .int v4], xSt xG0 hc hr xs g L c z)) ?_ 2 (by rfl)
    exact T_m_count_81 k hk v0 v1 v2 s0 v5 (1 : Int32) v4 r H
def f_m_count_67 (k : Int32 → Int32 → Int32 → Int32 → Int32 → Int32 → Option Int32) (v0 : Int32) (v1 : Int32) (v2 : Int32) (v3 : Int32) (v4 : Int32) (v5 : Int32) (v6 : Int32) : Option Int32 :=
  f_m_count_68 k v0 v1 v2 v4 v5 v6 v3
theorem T_m_count_67 {hc : xI} {hr : xI} {g : xJ} {xs : Nat → Int32} {L c z : Nat} (k : Int32 → Int32 → Int32 → Int32 → Int32 → Int32 → Option Int32) (hk : ∀ (v0 : Int32) (v1 : Int32) (v2 : Int32) (v3 : Int32) (v4 : Int32) (v5 : Int32) (r : Int32), k v0 v1 v2 v3 v4 v5 = some r → Ex 0 161 (12, [some (.int v0), some (.int v1), some (.int v2), some (.int v3), some (.int v4), some (.int v5), none], [], xSt xG0 hc hr xs g L c z) (.inl (some (.int r)), xSt xG0 hc hr xs g L c z)) (v0 : Int32) (v1 : Int32) (v2 : Int32) (v3 : Int32) (v4 : Int32) (v5 : Int32) (v6 : Int32) (r : Int32) (H : f_m_count_67 k v0 v1 v2 v3 v4 v5 v6 = some r) : Ex 0 161 (67, [some (.int v0), some (.int v1), some (.int v2), some (.int v3), some (.int v4), some (.int v5), some (.int v6)], [], xSt xG0 hc hr xs g L c z) (.inl (some (.int r)), xSt xG0 hc hr xs g L c z) := by
  unfold f_m_count_67 at H
  refine Ex.many (f' := (68, [some (.int v0), some (.int v1), some (.int v2), some (.int v3), some (.int v4), some (.int v5), some (.int v6)], [.int v3], xSt xG0 hc hr xs g L c z)) ?_ 1 (by rfl)
  refine Ex.kill (ls' := [some (.int v0), some (.int v1), some (.int v2), none, some (.int v4), some (.int v5), some (.int v6)]) (by rfl) ?_
  exact T_m_count_68 k hk v0 v1 v2 v4 v5 v6 v3 r H
def f_m_count_50 (k : Int32 → Int32 → Int32 → Int32 → Int32 → Int32 → Option Int32) (v0 : Int32) (v1 : Int32) (v3 : Int32) (v4 : Int32) (v5 : Int32) (v6 : Int32) (s0 : Int32) : Option Int32 :=
  if v6 = 0 then (f_m_count_67 k v0 v1 s0 v3 v4 v5 v6) else (if v3 = (32 : Int32) then (f_m_count_68 k v0 v1 s0 v4 v5 v6 v5) else (f_m_count_67 k v0 v1 s0 v3 v4 v5 v6))
theorem T_m_count_50 {hc : xI} {hr : xI} {g : xJ} {xs : Nat → Int32} {L c z : Nat} (k : Int32 → Int32 → Int32 → Int32 → Int32 → Int32 → Option Int32) (hk : ∀ (v0 : Int32) (v1 : Int32) (v2 : Int32) (v3 : Int32) (v4 : Int32) (v5 : Int32) (r : Int32), k v0 v1 v2 v3 v4 v5 = some r → Ex 0 161 (12, [some (.int v0), some (.int v1), some (.int v2), some (.int v3), some (.int v4), some (.int v5), none], [], xSt xG0 hc hr xs g L c z) (.inl (some (.int r)), xSt xG0 hc hr xs g L c z)) (v0 : Int32) (v1 : Int32) (v3 : Int32) (v4 : Int32) (v5 : Int32) (v6 : Int32) (s0 : Int32) (r : Int32) (H : f_m_count_50 k v0 v1 v3 v4 v5 v6 s0 = some r) : Ex 0 161 (50, [some (.int v0), some (.int v1), none, some (.int v3), some (.int v4), some (.int v5), some (.int v6)], [.int s0], xSt xG0 hc hr xs g L c z) (.inl (some (.int r)), xSt xG0 hc hr xs g L c z) := by
  unfold f_m_count_50 at H
  refine Ex.many (f' := (53, [some (.int v0), some (.int v1), some (.int s0), some (.int v3), some (.int v4), some (.int v5), some (.int v6)], [.int v6], xSt xG0 hc hr xs g L c z)) ?_ 2 (by rfl)
  refine Ex.ite (ls := [some (.int v0), some (.int v1), some (.int s0), some (.int v3), some (.int v4), some (.int v5), some (.int v6)]) (st := []) (S := xSt xG0 hc hr xs g L c z) (by rfl) (fun q1 => ?_) (fun q1 => ?_)
  · replace H := (if_pos q1).symm.trans H
    exact T_m_count_67 k hk v0 v1 s0 v3 v4 v5 v6 r H
  · replace H := (if_neg q1).symm.trans H
    refine Ex.many (f' := (59, [some (.int v0), some (.int v1), some (.int s0), some (.int v3), some (.int v4), some (.int v5), some (.int v6)], [.int (32 : Int32), .int v3], xSt xG0 hc hr xs g L c z)) ?_ 2 (by rfl)
    refine Ex.ite (ls := [some (.int v0), some (.int v1), some (.int s0), some (.int v3), some (.int v4), some (.int v5), some (.int v6)]) (st := []) (S := xSt xG0 hc hr xs g L c z) (by rfl) (fun q2 => ?_) (fun q2 => ?_)
    · replace H := (if_pos q2).symm.trans H
      refine Ex.many (f' := (68, [some (.int v0), some (.int v1), some (.int s0), none, some (.int v4), some (.int v5), some (.int v6)], [.int v5], xSt xG0 hc hr xs g L c z)) ?_ 2 (by rfl)
      exact T_m_count_68 k hk v0 v1 s0 v4 v5 v6 v5 r H
    · replace H := (if_neg q2).symm.trans H
      exact T_m_count_67 k hk v0 v1 s0 v3 v4 v5 v6 r H
def f_m_count_34 (k : Int32 → Int32 → Int32 → Int32 → Int32 → Int32 → Option Int32) (v0 : Int32) (v1 : Int32) (v2 : Int32) (v3 : Int32) (v4 : Int32) (v5 : Int32) (s0 : Int32) : Option Int32 :=
  if s0 = 0 then (f_m_count_50 k v0 v1 v3 v4 v5 s0 v2) else (f_m_count_50 k v0 v1 v3 v4 v5 s0 ((31 : Int32) - v5))
theorem T_m_count_34 {hc : xI} {hr : xI} {g : xJ} {xs : Nat → Int32} {L c z : Nat} (k : Int32 → Int32 → Int32 → Int32 → Int32 → Int32 → Option Int32) (hk : ∀ (v0 : Int32) (v1 : Int32) (v2 : Int32) (v3 : Int32) (v4 : Int32) (v5 : Int32) (r : Int32), k v0 v1 v2 v3 v4 v5 = some r → Ex 0 161 (12, [some (.int v0), some (.int v1), some (.int v2), some (.int v3), some (.int v4), some (.int v5), none], [], xSt xG0 hc hr xs g L c z) (.inl (some (.int r)), xSt xG0 hc hr xs g L c z)) (v0 : Int32) (v1 : Int32) (v2 : Int32) (v3 : Int32) (v4 : Int32) (v5 : Int32) (s0 : Int32) (r : Int32) (H : f_m_count_34 k v0 v1 v2 v3 v4 v5 s0 = some r) : Ex 0 161 (34, [some (.int v0), some (.int v1), some (.int v2), some (.int v3), some (.int v4), some (.int v5), none], [.int s0], xSt xG0 hc hr xs g L c z) (.inl (some (.int r)), xSt xG0 hc hr xs g L c z) := by
  unfold f_m_count_34 at H
  refine Ex.many (f' := (38, [some (.int v0), some (.int v1), some (.int v2), some (.int v3), some (.int v4), some (.int v5), some (.int s0)], [.int s0], xSt xG0 hc hr xs g L c z)) ?_ 2 (by rfl)
  refine Ex.ite (ls := [some (.int v0), some (.int v1), some (.int v2), some (.int v3), some (.int v4), some (.int v5), some (.int s0)]) (st := []) (S := xSt xG0 hc hr xs g L c z) (by rfl) (fun q1 => ?_) (fun q1 => ?_)
  · replace H := (if_pos q1).symm.trans H
    refine Ex.many (f' := (50, [some (.int v0), some (.int v1), some (.int v2), some (.int v3), some (.int v4), some (.int v5), some (.int s0)], [.int v2], xSt xG0 hc hr xs g L c z)) ?_ 1 (by rfl)
    refine Ex.kill (ls' := [some (.int v0), some (.int v1), none, some (.int v3), some (.int v4), some (.int v5), some (.int s0)]) (by rfl) ?_
    exact T_m_count_50 k hk v0 v1 v3 v4 v5 s0 v2 r H
  · replace H := (if_neg q1).symm.trans H
    refine Ex.many (f' := (50, [some (.int v0), some (.int v1), none, some (.int v3), some (.int v4), some (.int v5), some (.int s0)], [.int ((31 : Int32) - v5)], xSt xG0 hc hr xs g L c z)) ?_ 4 (by rfl)
    exact T_m_count_50 k hk v0 v1 v3 v4 v5 s0 ((31 : Int32) - v5) r H
def f_m_count_12 : Nat → Int32 → Int32 → Int32 → Int32 → Int32 → Int32 → Option Int32
  | 0, _, _, _, _, _, _ => none
  | n + 1, v0, v1, v2, v3, v4, v5 => if (32 : Int32) ≤ v5 then (if v0 = (103 : Int32) then (some v2) else (if v0 = (104 : Int32) then (some v3) else (some v4))) else (if ((v1 >>> (v5 &&& 31)) &&& (1 : Int32)) = (1 : Int32) then (f_m_count_34 (f_m_count_12 n) v0 v1 v2 v3 v4 v5 (1 : Int32)) else (f_m_count_34 (f_m_count_12 n) v0 v1 v2 v3 v4 v5 (0 : Int32)))
theorem T_m_count_12 {hc : xI} {hr : xI} {g : xJ} {xs : Nat → Int32} {L c z : Nat} (n : Nat) : ∀ (v0 : Int32) (v1 : Int32) (v2 : Int32) (v3 : Int32) (v4 : Int32) (v5 : Int32) (r : Int32), f_m_count_12 n v0 v1 v2 v3 v4 v5 = some r → Ex 0 161 (12, [some (.int v0), some (.int v1), some (.int v2), some (.int v3), some (.int v4), some (.int v5), none], [], xSt xG0 hc hr xs g L c z) (.inl (some (.int r)), xSt xG0 hc hr xs g L c z) := by
  induction n with
  | zero =>
    intro v0 v1 v2 v3 v4 v5 r H
    unfold f_m_count_12 at H
    cases H
  | succ n ih =>
    intro v0 v1 v2 v3 v4 v5 r H
    unfold f_m_count_12 at H
    refine Ex.many (f' := (16, [some (.int v0), some (.int v1), some (.int v2), some (.int v3), some (.int v4), some (.int v5), none], [.int (32 : Int32), .int v5], xSt xG0 hc hr xs g L c z)) ?_ 2 (by rfl)
    refine Ex.ite (ls := [some (.int v0), some (.int v1), some (.int v2), some (.int v3), some (.int v4), some (.int v5), none]) (st := []) (S := xSt xG0 hc hr xs g L c z) (by rfl) (fun q1 => ?_) (fun q1 => ?_)
    · replace H := (if_pos q1).symm.trans H
      refine Ex.many (f' := (93, [some (.int v0), none, some (.int v2), some (.int v3), some (.int v4), none, none], [.int (103 : Int32), .int v0], xSt xG0 hc hr xs g L c z)) ?_ 2 (by rfl)
      refine Ex.ite (ls := [some (.int v0), none, some (.int v2), some (.int v3), some (.int v4), none, none]) (st := []) (S := xSt xG0 hc hr xs g L c z) (by rfl) (fun q2 => ?_) (fun q2 => ?_)
      · replace H := (if_pos q2).symm.trans H
        refine Ex.many (f' := (112, [none, none, some (.int v2), none, none, none, none], [.int v2], xSt xG0 hc hr xs g L c z)) ?_ 2 (by rfl)
        replace H := Option.some.inj H
        subst H
        exact Ex.done (by rfl)
      · replace H := (if_neg q2).symm.trans H
        refine Ex.many (f' := (103, [some (.int v0), none, none, some (.int v3), some (.int v4), none, none], [.int (104 : Int32), .int v0], xSt xG0 hc hr xs g L c z)) ?_ 2 (by rfl)
        refine Ex.ite (ls := [some (.int v0), none, none, some (.int v3), some (.int v4), none, none]) (st := []) (S := xSt xG0 hc hr xs g L c z) (by rfl) (fun q3 => ?_) (fun q3 => ?_)
        · replace H := (if_pos q3).symm.trans H
          refine Ex.many (f' := (112, [none, none, none, some (.int v3), none, none, none], [.int v3], xSt xG0 hc hr xs g L c z)) ?_ 2 (by rfl)
          replace H := Option.some.inj H
          subst H
          exact Ex.done (by rfl)
        · replace H := (if_neg q3).symm.trans H
          refine Ex.many (f' := (112, [none, none, none, none, some (.int v4), none, none], [.int v4], xSt xG0 hc hr xs g L c z)) ?_ 1 (by rfl)
          replace H := Option.some.inj H
          subst H
          exact Ex.done (by rfl)
    · replace H := (if_neg q1).symm.trans H
      refine Ex.many (f' := (26, [some (.int v0), some (.int v1), some (.int v2), some (.int v3), some (.int v4), some (.int v5), none], [.int (1 : Int32), .int ((v1 >>> (v5 &&& 31)) &&& (1 : Int32))], xSt xG0 hc hr xs g L c z)) ?_ 6 (by rfl)
      refine Ex.ite (ls := [some (.int v0), some (.int v1), some (.int v2), some (.int v3), some (.int v4), some (.int v5), none]) (st := []) (S := xSt xG0 hc hr xs g L c z) (by rfl) (fun q4 => ?_) (fun q4 => ?_)
      · replace H := (if_pos q4).symm.trans H
        refine Ex.many (f' := (34, [some (.int v0), some (.int v1), some (.int v2), some (.int v3), some (.int v4), some (.int v5), none], [.int (1 : Int32)], xSt xG0 hc hr xs g L c z)) ?_ 2 (by rfl)
        exact T_m_count_34 (f_m_count_12 n) ih v0 v1 v2 v3 v4 v5 (1 : Int32) r H
      · replace H := (if_neg q4).symm.trans H
        refine Ex.many (f' := (34, [some (.int v0), some (.int v1), some (.int v2), some (.int v3), some (.int v4), some (.int v5), none], [.int (0 : Int32)], xSt xG0 hc hr xs g L c z)) ?_ 1 (by rfl)
        exact T_m_count_34 (f_m_count_12 n) ih v0 v1 v2 v3 v4 v5 (0 : Int32) r H
def f_m_count (a0 : Int32) (a1 : Int32) : Option Int32 :=
  f_m_count_12 1000 a0 a1 (32 : Int32) (32 : Int32) (0 : Int32) (0 : Int32)
theorem T_m_count {hc : xI} {hr : xI} {g : xJ} {xs : Nat → Int32} {L c z : Nat} (a0 : Int32) (a1 : Int32) (r : Int32) (H : f_m_count a0 a1 = some r) : Ex 0 161 (0, [some (.int a0), some (.int a1), none, none, none, none, none], [], xSt xG0 hc hr xs g L c z) (.inl (some (.int r)), xSt xG0 hc hr xs g L c z) := by
  unfold f_m_count at H
  refine Ex.many (f' := (12, [some (.int a0), some (.int a1), some (.int (32 : Int32)), some (.int (32 : Int32)), some (.int (0 : Int32)), some (.int (0 : Int32)), none], [], xSt xG0 hc hr xs g L c z)) ?_ 8 (by rfl)
  exact T_m_count_12 1000 a0 a1 (32 : Int32) (32 : Int32) (0 : Int32) (0 : Int32) r H
def f_m_load_35 (k : Int32 → Int32 → Int32 → Int32 → xI → Option Int32) (v1 : Int32) (v2 : Int32) (v4 : Int32) (v5 : Int32) (hr : xI) : Option Int32 :=
  k v1 v2 v4 (v5 + (-1 : Int32)) hr
theorem T_m_load_35 {hc : xI} {g : xJ} {xs : Nat → Int32} {L c z : Nat} (k : Int32 → Int32 → Int32 → Int32 → xI → Option Int32) (hk : ∀ (v1 : Int32) (v2 : Int32) (v4 : Int32) (v5 : Int32) (hr : xI) (r : Int32), k v1 v2 v4 v5 hr = some r → Ex 1 160 (13, [some (.ref 27), some (.int v1), some (.int v2), none, some (.int v4), some (.int v5)], [], xSt xG0 hc hr xs g L c z) (.inl (some (.int r)), xSt xG0 hc hr xs g L c z)) (v1 : Int32) (v2 : Int32) (v4 : Int32) (v5 : Int32) (hr : xI) (r : Int32) (H : f_m_load_35 k v1 v2 v4 v5 hr = some r) : Ex 1 160 (35, [some (.ref 27), some (.int v1), some (.int v2), none, some (.int v4), some (.int v5)], [], xSt xG0 hc hr xs g L c z) (.inl (some (.int r)), xSt xG0 hc hr xs g L c z) := by
  unfold f_m_load_35 at H
  refine Ex.many (f' := (13, [some (.ref 27), some (.int v1), some (.int v2), none, some (.int v4), some (.int (v5 + (-1 : Int32)))], [], xSt xG0 hc hr xs g L c z)) ?_ 2 (by rfl)
  exact hk v1 v2 v4 (v5 + (-1 : Int32)) hr r H
def f_m_load_13 : Nat → Int32 → Int32 → Int32 → Int32 → xI → Option Int32
  | 0, _, _, _, _, _ => none
  | n + 1, v1, v2, v4, v5, hr => if v5 < 0 then (if v1 = (44 : Int32) then (some ((v4 <<< ((24 : Int32) &&& 31)) >>> ((24 : Int32) &&& 31))) else (if v1 = (46 : Int32) then (some ((v4 <<< ((16 : Int32) &&& 31)) >>> ((16 : Int32) &&& 31))) else (some v4))) else (xgd (v2 + v5) 256 (f_m_load_35 (f_m_load_13 n) v1 v2 ((v4 <<< ((8 : Int32) &&& 31)) ||| (hr 43 (v2 + v5).toNatClampNeg)) v5 hr))
theorem T_m_load_13 {hc : xI} {g : xJ} {xs : Nat → Int32} {L c z : Nat} (n : Nat) : ∀ (v1 : Int32) (v2 : Int32) (v4 : Int32) (v5 : Int32) (hr : xI) (r : Int32), f_m_load_13 n v1 v2 v4 v5 hr = some r → Ex 1 160 (13, [some (.ref 27), some (.int v1), some (.int v2), none, some (.int v4), some (.int v5)], [], xSt xG0 hc hr xs g L c z) (.inl (some (.int r)), xSt xG0 hc hr xs g L c z) := by
  induction n with
  | zero =>
    intro v1 v2 v4 v5 hr r H
    unfold f_m_load_13 at H
    cases H
  | succ n ih =>
    intro v1 v2 v4 v5 hr r H
    unfold f_m_load_13 at H
    refine Ex.many (f' := (15, [some (.ref 27), some (.int v1), some (.int v2), none, some (.int v4), some (.int v5)], [.int v5], xSt xG0 hc hr xs g L c z)) ?_ 1 (by rfl)
    refine Ex.ite (ls := [some (.ref 27), some (.int v1), some (.int v2), none, some (.int v4), some (.int v5)]) (st := []) (S := xSt xG0 hc hr xs g L c z) (by rfl) (fun q1 => ?_) (fun q1 => ?_)
    · replace H := (if_pos q1).symm.trans H
      refine Ex.many (f' := (44, [none, some (.int v1), none, none, some (.int v4), none], [.int (44 : Int32), .int v1], xSt xG0 hc hr xs g L c z)) ?_ 2 (by rfl)
      refine Ex.ite (ls := [none, some (.int v1), none, none, some (.int v4), none]) (st := []) (S := xSt xG0 hc hr xs g L c z) (by rfl) (fun q2 => ?_) (fun q2 => ?_)
      · replace H := (if_pos q2).symm.trans H
        refine Ex.many (f' := (77, [none, none, none, none, some (.int v4), none], [.int ((v4 <<< ((24 : Int32) &&& 31)) >>> ((24 : Int32) &&& 31))], xSt xG0 hc hr xs g L c z)) ?_ 6 (by rfl)
        replace H := Option.some.inj H
        subst H
        exact Ex.done (by rfl)
      · replace H := (if_neg q2).symm.trans H
        refine Ex.many (f' := (61, [none, some (.int v1), none, none, some (.int v4), none], [.int (46 : Int32), .int v1], xSt xG0 hc hr xs g L c z)) ?_ 2 (by rfl)
        refine Ex.ite (ls := [none, some (.int v1), none, none, some (.int v4), none]) (st := []) (S := xSt xG0 hc hr xs g L c z) (by rfl) (fun q3 => ?_) (fun q3 => ?_)
        · replace H := (if_pos q3).symm.trans H
          refine Ex.many (f' := (77, [none, none, none, none, some (.int v4), none], [.int ((v4 <<< ((16 : Int32) &&& 31)) >>> ((16 : Int32) &&& 31))], xSt xG0 hc hr xs g L c z)) ?_ 6 (by rfl)
          replace H := Option.some.inj H
          subst H
          exact Ex.done (by rfl)
        · replace H := (if_neg q3).symm.trans H
          refine Ex.many (f' := (77, [none, none, none, none, some (.int v4), none], [.int v4], xSt xG0 hc hr xs g L c z)) ?_ 1 (by rfl)
          replace H := Option.some.inj H
          subst H
          exact Ex.done (by rfl)
    · replace H := (if_neg q1).symm.trans H
      refine Ex.many (f' := (31, [some (.ref 27), some (.int v1), some (.int v2), none, some (.int v4), some (.int v5)], [.int (v2 + v5), .ref 43, .int (v4 <<< ((8 : Int32) &&& 31))], xSt xG0 hc hr xs g L c z)) ?_ 8 (by rfl)
      obtain ⟨g4, H⟩ := xgd_some H
      refine Ex.guard (f' := (32, [some (.ref 27), some (.int v1), some (.int v2), none, some (.int v4), some (.int v5)], [.int (hr 43 (v2 + v5).toNatClampNeg), .int (v4 <<< ((8 : Int32) &&& 31))], xSt xG0 hc hr xs g L c z)) (by rfl) g4 ?_
      refine Ex.many (f' := (35, [some (.ref 27), some (.int v1), some (.int v2), none, some (.int ((v4 <<< ((8 : Int32) &&& 31)) ||| (hr 43 (v2 + v5).toNatClampNeg))), some (.int v5)], [], xSt xG0 hc hr xs g L c z)) ?_ 2 (by rfl)
      exact T_m_load_35 (f_m_load_13 n) ih v1 v2 ((v4 <<< ((8 : Int32) &&& 31)) ||| (hr 43 (v2 + v5).toNatClampNeg)) v5 hr r H
def f_m_load (a1 : Int32) (a2 : Int32) (hr : xI) : Option Int32 :=
  f_m_load_13 1000 a1 a2 (0 : Int32) ((f_m_bytesOf a1) - (1 : Int32)) hr
theorem T_m_load {hc : xI} {g : xJ} {xs : Nat → Int32} {L c z : Nat} (a1 : Int32) (a2 : Int32) (hr : xI) (r : Int32) (H : f_m_load a1 a2 hr = some r) : Ex 1 160 (0, [some (.ref 27), some (.int a1), some (.int a2), none, none, none], [], xSt xG0 hc hr xs g L c z) (.inl (some (.int r)), xSt xG0 hc hr xs g L c z) := by
  unfold f_m_load at H
  refine Ex.many (f' := (1, [some (.ref 27), some (.int a1), some (.int a2), none, none, none], [.int a1], xSt xG0 hc hr xs g L c z)) ?_ 1 (by rfl)
  refine Ex.call (mk := 146) (vs := [.int a1]) (rest := []) (by rfl) (by rfl) (Ex.up (T_m_bytesOf a1 _ rfl) (by decide)) (xbb c z) ?_
  show Ex _ _ (4, [some (.ref 27), some (.int a1), some (.int a2), none, none, none], [.int (f_m_bytesOf a1)], xSt xG0 hc hr xs g L c z) _
  refine Ex.many (f' := (13, [some (.ref 27), some (.int a1), some (.int a2), some (.int (f_m_bytesOf a1)), some (.int (0 : Int32)), some (.int ((f_m_bytesOf a1) - (1 : Int32)))], [], xSt xG0 hc hr xs g L c z)) ?_ 7 (by rfl)
  refine Ex.kill (ls' := [some (.ref 27), some (.int a1), some (.int a2), none, some (.int (0 : Int32)), some (.int ((f_m_bytesOf a1) - (1 : Int32)))]) (by rfl) ?_
  exact T_m_load_13 1000 a1 a2 (0 : Int32) ((f_m_bytesOf a1) - (1 : Int32)) hr r H
def f_m_one_63 (v2 : Int32) (v3 : Int32) (v4 : Int32) (hr : xI) : Option xI :=
  xgd (v4 + v2) 48 (some (xput hr 50 (v4 + v2).toNatClampNeg v3))
theorem T_m_one_63 {hc : xI} {g : xJ} {xs : Nat → Int32} {L c z : Nat} (v2 : Int32) (v3 : Int32) (v4 : Int32) (hr : xI) (r : xI) (H : f_m_one_63 v2 v3 v4 hr = some r) : Ex 2 158 (63, [some (.ref 27), none, some (.int v2), some (.int v3), some (.int v4)], [], xSt xG0 hc hr xs g L c z) (.inl none, xSt xG0 hc r xs g L c z) := by
  unfold f_m_one_63 at H
  refine Ex.many (f' := (72, [some (.ref 27), none, some (.int v2), some (.int v3), some (.int v4)], [.int v3, .int (v4 + v2), .ref 50], xSt xG0 hc hr xs g L c z)) ?_ 6 (by rfl)
  obtain ⟨g1, H⟩ := xgd_some H
  refine Ex.gputR (pc := 73) (k := 50) (n := 48) (i := (v4 + v2)) (v := v3) (ls := [some (.ref 27), none, some (.int v2), some (.int v3), some (.int v4)]) (st := []) (hr := hr) ?_ (by rfl) g1 (by rfl)
  refine Ex.many (f' := (167, [some (.ref 27), none, some (.int v2), some (.int v3), some (.int v4)], [], xSt xG0 hc (xput hr 50 (v4 + v2).toNatClampNeg v3) xs g L c z)) ?_ 1 (by rfl)
  replace H := Option.some.inj H
  subst H
  exact Ex.done (by rfl)
def f_m_one_166 (s2 : Int32) (s1 : Int32) (hr : xI) : Option xI :=
  xgd s1 101 (some (xput hr 46 s1.toNatClampNeg s2))
theorem T_m_one_166 {hc : xI} {g : xJ} {xs : Nat → Int32} {L c z : Nat} (s2 : Int32) (s1 : Int32) (hr : xI) (r : xI) (H : f_m_one_166 s2 s1 hr = some r) : Ex 2 158 (166, [none, none, none, none, none], [.int s2, .int s1, .ref 46], xSt xG0 hc hr xs g L c z) (.inl none, xSt xG0 hc r xs g L c z) := by
  unfold f_m_one_166 at H
  obtain ⟨g1, H⟩ := xgd_some H
  refine Ex.gputR (pc := 167) (k := 46) (n := 101) (i := s1) (v := s2) (ls := [none, none, none, none, none]) (st := []) (hr := hr) ?_ (by rfl) g1 (by rfl)
  replace H := Option.some.inj H
  subst H
  exact Ex.done (by rfl)
def f_m_one_51 (v1 : Int32) (v2 : Int32) (v3 : Int32) (v4 : Int32) (hr : xI) : Option xI :=
  if v1 = (33 : Int32) then (f_m_one_63 v2 v3 v4 hr) else (if v1 = (34 : Int32) then (f_m_one_63 v2 v3 v4 hr) else (if v1 = (36 : Int32) then (xgd v2 4 (some (xput hr 44 v2.toNatClampNeg v3))) else (if v1 = (26 : Int32) then (some hr) else (if v1 = (64 : Int32) then ((f_m_grow v3 hr).bind fun q7 => f_m_one_166 q7.1 ((hr 27 33) - (1 : Int32)) q7.2) else (if v1 = (69 : Int32) then (if v3 = 0 then (f_m_one_166 (1 : Int32) ((hr 27 33) - (1 : Int32)) hr) else (f_m_one_166 (0 : Int32) ((hr 27 33) - (1 : Int32)) hr)) else (if (f_m_isLoad v1) = 0 then ((f_m_count v1 v3).bind fun q12 => f_m_one_166 q12 ((hr 27 33) - (1 : Int32)) hr) else ((f_m_place v3 v1 hr).bind fun q13 => (f_m_load v1 q13 hr).bind fun q14 => f_m_one_166 q14 ((hr 27 33) - (1 : Int32)) hr)))))))
theorem T_m_one_51 {hc : xI} {g : xJ} {xs : Nat → Int32} {L c z : Nat} (v1 : Int32) (v2 : Int32) (v3 : Int32) (v4 : Int32) (hr : xI) (r : xI) (H : f_m_one_51 v1 v2 v3 v4 hr = some r) : Ex 2 158 (51, [some (.ref 27), some (.int v1), some (.int v2), some (.int v3), some (.int v4)], [], xSt xG0 hc hr xs g L c z) (.inl none, xSt xG0 hc r xs g L c z) := by
  unfold f_m_one_51 at H
  refine Ex.many (f' := (54, [some (.ref 27), some (.int v1), some (.int v2), some (.int v3), some (.int v4)], [.int (33 : Int32), .int v1], xSt xG0 hc hr xs g L c z)) ?_ 2 (by rfl)
  refine Ex.ite (ls := [some (.ref 27), some (.int v1), some (.int v2), some (.int v3), some (.int v4)]) (st := []) (S := xSt xG0 hc hr xs g L c z) (by rfl) (fun q1 => ?_) (fun q1 => ?_)
  · replace H := (if_pos q1).symm.trans H
    refine Ex.kill (ls' := [some (.ref 27), none, some (.int v2), some (.int v3), some (.int v4)]) (by rfl) ?_
    exact T_m_one_63 v2 v3 v4 hr r H
  · replace H := (if_neg q1).symm.trans H
    refine Ex.many (f' := (60, [some (.ref 27), some (.int v1), some (.int v2), some (.int v3), some (.int v4)], [.int (34 : Int32), .int v1], xSt xG0 hc hr xs g L c z)) ?_ 2 (by rfl)
    refine Ex.ite (ls := [some (.ref 27), some (.int v1), some (.int v2), some (.int v3), some (.int v4)]) (st := []) (S := xSt xG0 hc hr xs g L c z) (by rfl) (fun q2 => ?_) (fun q2 => ?_)
    · replace H := (if_pos q2).symm.trans H
      refine Ex.kill (ls' := [some (.ref 27), none, some (.int v2), some (.int v3), some (.int v4)]) (by rfl) ?_
      exact T_m_one_63 v2 v3 v4 hr r H
    · replace H := (if_neg q2).symm.trans H
      refine Ex.many (f' := (79, [some (.ref 27), some (.int v1), some (.int v2), some (.int v3), none], [.int (36 : Int32), .int v1], xSt xG0 hc hr xs g L c z)) ?_ 2 (by rfl)
      refine Ex.ite (ls := [some (.ref 27), some (.int v1), some (.int v2), some (.int v3), none]) (st := []) (S := xSt xG0 hc hr xs g L c z) (by rfl) (fun q3 => ?_) (fun q3 => ?_)
      · replace H := (if_pos q3).symm.trans H
        refine Ex.many (f' := (88, [some (.ref 27), none, some (.int v2), some (.int v3), none], [.int v3, .int v2, .ref 44], xSt xG0 hc hr xs g L c z)) ?_ 4 (by rfl)
        obtain ⟨g4, H⟩ := xgd_some H
        refine Ex.gputR (pc := 89) (k := 44) (n := 4) (i := v2) (v := v3) (ls := [some (.ref 27), none, some (.int v2), some (.int v3), none]) (st := []) (hr := hr) ?_ (by rfl) g4 (by rfl)
        refine Ex.many (f' := (167, [some (.ref 27), none, some (.int v2), some (.int v3), none], [], xSt xG0 hc (xput hr 44 v2.toNatClampNeg v3) xs g L c z)) ?_ 1 (by rfl)
        replace H := Option.some.inj H
        subst H
        exact Ex.done (by rfl)
      · replace H := (if_neg q3).symm.trans H
        refine Ex.many (f' := (95, [some (.ref 27), some (.int v1), none, some (.int v3), none], [.int (26 : Int32), .int v1], xSt xG0 hc hr xs g L c z)) ?_ 2 (by rfl)
        refine Ex.ite (ls := [some (.ref 27), some (.int v1), none, some (.int v3), none]) (st := []) (S := xSt xG0 hc hr xs g L c z) (by rfl) (fun q5 => ?_) (fun q5 => ?_)
        · replace H := (if_pos q5).symm.trans H
          replace H := Option.some.inj H
          subst H
          exact Ex.done (by rfl)
        · replace H := (if_neg q5).symm.trans H
          refine Ex.many (f' := (111, [some (.ref 27), some (.int v1), none, some (.int v3), none], [.int (64 : Int32), .int v1, .int ((hr 27 33) - (1 : Int32)), .ref 46], xSt xG0 hc hr xs g L c z)) ?_ 8 (by rfl)
          refine Ex.ite (ls := [some (.ref 27), some (.int v1), none, some (.int v3), none]) (st := [.int ((hr 27 33) - (1 : Int32)), .ref 46]) (S := xSt xG0 hc hr xs g L c z) (by rfl) (fun q6 => ?_) (fun q6 => ?_)
          · replace H := (if_pos q6).symm.trans H
            refine Ex.many (f' := (116, [some (.ref 27), none, none, some (.int v3), none], [.int v3, .ref 27, .int ((hr 27 33) - (1 : Int32)), .ref 46], xSt xG0 hc hr xs g L c z)) ?_ 2 (by rfl)
            obtain ⟨q7, hq7, H⟩ := xbd H
            refine Ex.call (mk := 159) (vs := [.ref 27, .int v3]) (rest := [.int ((hr 27 33) - (1 : Int32)), .ref 46]) (by rfl) (by rfl) (Ex.up (T_m_grow v3 hr q7 hq7) (by decide)) (xbb c z) ?_
            show Ex _ _ (119, [some (.ref 27), none, none, some (.int v3), none], [.int q7.1, .int ((hr 27 33) - (1 : Int32)), .ref 46], xSt xG0 hc q7.2 xs g L c z) _
            refine Ex.many (f' := (166, [none, none, none, none, none], [.int q7.1, .int ((hr 27 33) - (1 : Int32)), .ref 46], xSt xG0 hc q7.2 xs g L c z)) ?_ 1 (by rfl)
            exact T_m_one_166 q7.1 ((hr 27 33) - (1 : Int32)) q7.2 r H
          · replace H := (if_neg q6).symm.trans H
            refine Ex.many (f' := (125, [some (.ref 27), some (.int v1), none, some (.int v3), none], [.int (69 : Int32), .int v1, .int ((hr 27 33) - (1 : Int32)), .ref 46], xSt xG0 hc hr xs g L c z)) ?_ 2 (by rfl)
            refine Ex.ite (ls := [some (.ref 27), some (.int v1), none, some (.int v3), none]) (st := [.int ((hr 27 33) - (1 : Int32)), .ref 46]) (S := xSt xG0 hc hr xs g L c z) (by rfl) (fun q8 => ?_) (fun q8 => ?_)
            · replace H := (if_pos q8).symm.trans H
              refine Ex.many (f' := (129, [none, none, none, some (.int v3), none], [.int v3, .int ((hr 27 33) - (1 : Int32)), .ref 46], xSt xG0 hc hr xs g L c z)) ?_ 1 (by rfl)
              refine Ex.ite (ls := [none, none, none, some (.int v3), none]) (st := [.int ((hr 27 33) - (1 : Int32)), .ref 46]) (S := xSt xG0 hc hr xs g L c z) (by rfl) (fun q9 => ?_) (fun q9 => ?_)
              · replace H := (if_pos q9).symm.trans H
                refine Ex.many (f' := (166, [none, none, none, none, none], [.int (1 : Int32), .int ((hr 27 33) - (1 : Int32)), .ref 46], xSt xG0 hc hr xs g L c z)) ?_ 2 (by rfl)
                exact T_m_one_166 (1 : Int32) ((hr 27 33) - (1 : Int32)) hr r H
              · replace H := (if_neg q9).symm.trans H
                refine Ex.many (f' := (166, [none, none, none, none, none], [.int (0 : Int32), .int ((hr 27 33) - (1 : Int32)), .ref 46], xSt xG0 hc hr xs g L c z)) ?_ 2 (by rfl)
                exact T_m_one_166 (0 : Int32) ((hr 27 33) - (1 : Int32)) hr r H
            · replace H := (if_neg q8).symm.trans H
              refine Ex.many (f' := (141, [some (.ref 27), some (.int v1), none, some (.int v3), none], [.int v1, .int ((hr 27 33) - (1 : Int32)), .ref 46], xSt xG0 hc hr xs g L c z)) ?_ 1 (by rfl)
              refine Ex.call (mk := 143) (vs := [.int v1]) (rest := [.int ((hr 27 33) - (1 : Int32)), .ref 46]) (by rfl) (by rfl) (Ex.up (T_m_isLoad v1 _ rfl) (by decide)) (xbb c z) ?_
              show Ex _ _ (144, [some (.ref 27), some (.int v1), none, some (.int v3), none], [.int (f_m_isLoad v1), .int ((hr 27 33) - (1 : Int32)), .ref 46], xSt xG0 hc hr xs g L c z) _
              refine Ex.ite (ls := [some (.ref 27), some (.int v1), none, some (.int v3), none]) (st := [.int ((hr 27 33) - (1 : Int32)), .ref 46]) (S := xSt xG0 hc hr xs g L c z) (by rfl) (fun q11 => ?_) (fun q11 => ?_)
              · replace H := (if_pos q11).symm.trans H
                refine Ex.many (f' := (163, [none, some (.int v1), none, some (.int v3), none], [.int v3, .int v1, .int ((hr 27 33) - (1 : Int32)), .ref 46], xSt xG0 hc hr xs g L c z)) ?_ 2 (by rfl)
                obtain ⟨q12, hq12, H⟩ := xbd H
                refine Ex.call (mk := 161) (vs := [.int v1, .int v3]) (rest := [.int ((hr 27 33) - (1 : Int32)), .ref 46]) (by rfl) (by rfl) (Ex.up (T_m_count v1 v3 q12 hq12) (by decide)) (xbb c z) ?_
                show Ex _ _ (166, [none, some (.int v1), none, some (.int v3), none], [.int q12, .int ((hr 27 33) - (1 : Int32)), .ref 46], xSt xG0 hc hr xs g L c z) _
                refine Ex.kill (ls' := [none, none, none, none, none]) (by rfl) ?_
                exact T_m_one_166 q12 ((hr 27 33) - (1 : Int32)) hr r H
              · replace H := (if_neg q11).symm.trans H
                refine Ex.many (f' := (152, [some (.ref 27), some (.int v1), none, some (.int v3), none], [.int v1, .int v3, .ref 27, .int v1, .ref 27, .int ((hr 27 33) - (1 : Int32)), .ref 46], xSt xG0 hc hr xs g L c z)) ?_ 5 (by rfl)
                obtain ⟨q13, hq13, H⟩ := xbd H
                refine Ex.call (mk := 145) (vs := [.ref 27, .int v3, .int v1]) (rest := [.int v1, .ref 27, .int ((hr 27 33) - (1 : Int32)), .ref 46]) (by rfl) (by rfl) (Ex.up (T_m_place v3 v1 hr q13 hq13) (by decide)) (xbb c z) ?_
                show Ex _ _ (155, [some (.ref 27), some (.int v1), none, some (.int v3), none], [.int q13, .int v1, .ref 27, .int ((hr 27 33) - (1 : Int32)), .ref 46], xSt xG0 hc hr xs g L c z) _
                obtain ⟨q14, hq14, H⟩ := xbd H
                refine Ex.call (mk := 160) (vs := [.ref 27, .int v1, .int q13]) (rest := [.int ((hr 27 33) - (1 : Int32)), .ref 46]) (by rfl) (by rfl) (Ex.up (T_m_load v1 q13 hr q14 hq14) (by decide)) (xbb c z) ?_
                show Ex _ _ (158, [none, none, none, none, none], [.int q14, .int ((hr 27 33) - (1 : Int32)), .ref 46], xSt xG0 hc hr xs g L c z) _
                refine Ex.many (f' := (166, [none, none, none, none, none], [.int q14, .int ((hr 27 33) - (1 : Int32)), .ref 46], xSt xG0 hc hr xs g L c z)) ?_ 1 (by rfl)
                exact T_m_one_166 q14 ((hr 27 33) - (1 : Int32)) hr r H
def f_m_one_41 (v1 : Int32) (v2 : Int32) (v3 : Int32) (v4 : Int32) (hr : xI) : Option xI :=
  f_m_one_51 v1 v2 v3 v4 (xput hr 27 33 ((hr 27 33) - (1 : Int32)))
theorem T_m_one_41 {hc : xI} {g : xJ} {xs : Nat → Int32} {L c z : Nat} (v1 : Int32) (v2 : Int32) (v3 : Int32) (v4 : Int32) (hr : xI) (r : xI) (H : f_m_one_41 v1 v2 v3 v4 hr = some r) : Ex 2 158 (41, [some (.ref 27), some (.int v1), some (.int v2), some (.int v3), some (.int v4)], [], xSt xG0 hc hr xs g L c z) (.inl none, xSt xG0 hc r xs g L c z) := by
  unfold f_m_one_41 at H
  refine Ex.many (f' := (48, [some (.ref 27), some (.int v1), some (.int v2), some (.int v3), some (.int v4)], [.int ((hr 27 33) - (1 : Int32)), .ref 27], xSt xG0 hc hr xs g L c z)) ?_ 5 (by rfl)
  refine Ex.putR (pc := 51) (k := 27) (j := 33) (v := ((hr 27 33) - (1 : Int32))) (ls := [some (.ref 27), some (.int v1), some (.int v2), some (.int v3), some (.int v4)]) (st := []) (hr := hr) ?_ (by rfl) (by rfl)
  exact T_m_one_51 v1 v2 v3 v4 (xput hr 27 33 ((hr 27 33) - (1 : Int32))) r H
def f_m_one (a1 : Int32) (a2 : Int32) (hr : xI) : Option xI :=
  xgd ((hr 27 33) - (1 : Int32)) 101 (if a1 = (26 : Int32) then (f_m_one_41 a1 a2 (hr 46 ((hr 27 33) - (1 : Int32)).toNatClampNeg) ((8 : Int32) * ((hr 27 35) - (1 : Int32))) hr) else (if a1 = (33 : Int32) then (f_m_one_41 a1 a2 (hr 46 ((hr 27 33) - (1 : Int32)).toNatClampNeg) ((8 : Int32) * ((hr 27 35) - (1 : Int32))) hr) else (if a1 = (36 : Int32) then (f_m_one_41 a1 a2 (hr 46 ((hr 27 33) - (1 : Int32)).toNatClampNeg) ((8 : Int32) * ((hr 27 35) - (1 : Int32))) hr) else (f_m_one_51 a1 a2 (hr 46 ((hr 27 33) - (1 : Int32)).toNatClampNeg) ((8 : Int32) * ((hr 27 35) - (1 : Int32))) hr))))
theorem T_m_one {hc : xI} {g : xJ} {xs : Nat → Int32} {L c z : Nat} (a1 : Int32) (a2 : Int32) (hr : xI) (r : xI) (H : f_m_one a1 a2 hr = some r) : Ex 2 158 (0, [some (.ref 27), some (.int a1), some (.int a2), none, none], [], xSt xG0 hc hr xs g L c z) (.inl none, xSt xG0 hc r xs g L c z) := by
  unfold f_m_one at H
  refine Ex.many (f' := (10, [some (.ref 27), some (.int a1), some (.int a2), none, none], [.int ((hr 27 33) - (1 : Int32)), .ref 46], xSt xG0 hc hr xs g L c z)) ?_ 6 (by rfl)
  obtain ⟨g1, H⟩ := xgd_some H
  refine Ex.guard (f' := (11, [some (.ref 27), some (.int a1), some (.int a2), none, none], [.int (hr 46 ((hr 27 33) - (1 : Int32)).toNatClampNeg)], xSt xG0 hc hr xs g L c z)) (by rfl) g1 ?_
  refine Ex.many (f' := (26, [some (.ref 27), some (.int a1), some (.int a2), some (.int (hr 46 ((hr 27 33) - (1 : Int32)).toNatClampNeg)), some (.int ((8 : Int32) * ((hr 27 35) - (1 : Int32))))], [.int (26 : Int32), .int a1], xSt xG0 hc hr xs g L c z)) ?_ 10 (by rfl)
  refine Ex.ite (ls := [some (.ref 27), some (.int a1), some (.int a2), some (.int (hr 46 ((hr 27 33) - (1 : Int32)).toNatClampNeg)), some (.int ((8 : Int32) * ((hr 27 35) - (1 : Int32))))]) (st := []) (S := xSt xG0 hc hr xs g L c z) (by rfl) (fun q2 => ?_) (fun q2 => ?_)
  · replace H := (if_pos q2).symm.trans H
    exact T_m_one_41 a1 a2 (hr 46 ((hr 27 33) - (1 : Int32)).toNatClampNeg) ((8 : Int32) * ((hr 27 35) - (1 : Int32))) hr r H
  · replace H := (if_neg q2).symm.trans H
    refine Ex.many (f' := (32, [some (.ref 27), some (.int a1), some (.int a2), some (.int (hr 46 ((hr 27 33) - (1 : Int32)).toNatClampNeg)), some (.int ((8 : Int32) * ((hr 27 35) - (1 : Int32))))], [.int (33 : Int32), .int a1], xSt xG0 hc hr xs g L c z)) ?_ 2 (by rfl)
    refine Ex.ite (ls := [some (.ref 27), some (.int a1), some (.int a2), some (.int (hr 46 ((hr 27 33) - (1 : Int32)).toNatClampNeg)), some (.int ((8 : Int32) * ((hr 27 35) - (1 : Int32))))]) (st := []) (S := xSt xG0 hc hr xs g L c z) (by rfl) (fun q3 => ?_) (fun q3 => ?_)
    · replace H := (if_pos q3).symm.trans H
      exact T_m_one_41 a1 a2 (hr 46 ((hr 27 33) - (1 : Int32)).toNatClampNeg) ((8 : Int32) * ((hr 27 35) - (1 : Int32))) hr r H
    · replace H := (if_neg q3).symm.trans H
      refine Ex.many (f' := (38, [some (.ref 27), some (.int a1), some (.int a2), some (.int (hr 46 ((hr 27 33) - (1 : Int32)).toNatClampNeg)), some (.int ((8 : Int32) * ((hr 27 35) - (1 : Int32))))], [.int (36 : Int32), .int a1], xSt xG0 hc hr xs g L c z)) ?_ 2 (by rfl)
      refine Ex.ite (ls := [some (.ref 27), some (.int a1), some (.int a2), some (.int (hr 46 ((hr 27 33) - (1 : Int32)).toNatClampNeg)), some (.int ((8 : Int32) * ((hr 27 35) - (1 : Int32))))]) (st := []) (S := xSt xG0 hc hr xs g L c z) (by rfl) (fun q4 => ?_) (fun q4 => ?_)
      · replace H := (if_pos q4).symm.trans H
        exact T_m_one_41 a1 a2 (hr 46 ((hr 27 33) - (1 : Int32)).toNatClampNeg) ((8 : Int32) * ((hr 27 35) - (1 : Int32))) hr r H
      · replace H := (if_neg q4).symm.trans H
        exact T_m_one_51 a1 a2 (hr 46 ((hr 27 33) - (1 : Int32)).toNatClampNeg) ((8 : Int32) * ((hr 27 35) - (1 : Int32))) hr r H
