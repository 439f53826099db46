/-! Methods as functions. -/
def f_m_step_75 (v1 : Int32) (v2 : Int32) (hr : xI) : Option xI :=
  (f_m_plain v1 v2 hr).bind fun q1 => some q1
theorem T_m_step_75 {hc : xI} {g : xJ} {xs : Nat → Int32} {L c z : Nat} (v1 : Int32) (v2 : Int32) (hr : xI) (r : xI) (H : f_m_step_75 v1 v2 hr = some r) : Ex 5 141 (75, [some (.ref 27), some (.int v1), some (.int v2)], [], xSt xG0 hc hr xs g L c z) (.inl none, xSt xG0 hc r xs g L c z) := by
  unfold f_m_step_75 at H
  refine Ex.many (f' := (78, [some (.ref 27), some (.int v1), some (.int v2)], [.int v2, .int v1, .ref 27], xSt xG0 hc hr xs g L c z)) ?_ 3 (by rfl)
  obtain ⟨q1, hq1, H⟩ := xbd H
  refine Ex.call (mk := 152) (vs := [.ref 27, .int v1, .int v2]) (rest := []) (by rfl) (by rfl) (Ex.up (T_m_plain v1 v2 hr q1 hq1) (by decide)) (xbb c z) ?_
  show Ex _ _ (81, [some (.ref 27), some (.int v1), some (.int v2)], [], xSt xG0 hc q1 xs g L c z) _
  replace H := Option.some.inj H
  subst H
  exact Ex.done (by rfl)
def f_m_step_54 (v1 : Int32) (s0 : Int32) (hr : xI) : Option xI :=
  if v1 ≤ (1 : Int32) then (f_m_step_75 v1 s0 hr) else (if (17 : Int32) ≤ v1 then (f_m_step_75 v1 s0 hr) else ((f_m_goes v1 s0 hr).bind fun q3 => some q3))
theorem T_m_step_54 {hc : xI} {g : xJ} {xs : Nat → Int32} {L c z : Nat} (v1 : Int32) (s0 : Int32) (hr : xI) (r : xI) (H : f_m_step_54 v1 s0 hr = some r) : Ex 5 141 (54, [some (.ref 27), some (.int v1), none], [.int s0], xSt xG0 hc hr xs g L c z) (.inl none, xSt xG0 hc r xs g L c z) := by
  unfold f_m_step_54 at H
  refine Ex.many (f' := (57, [some (.ref 27), some (.int v1), some (.int s0)], [.int (1 : Int32), .int v1], xSt xG0 hc hr xs g L c z)) ?_ 3 (by rfl)
  refine Ex.ite (ls := [some (.ref 27), some (.int v1), some (.int s0)]) (st := []) (S := xSt xG0 hc hr xs g L c z) (by rfl) (fun q1 => ?_) (fun q1 => ?_)
  · replace H := (if_pos q1).symm.trans H
    exact T_m_step_75 v1 s0 hr r H
  · replace H := (if_neg q1).symm.trans H
    refine Ex.many (f' := (63, [some (.ref 27), some (.int v1), some (.int s0)], [.int (17 : Int32), .int v1], xSt xG0 hc hr xs g L c z)) ?_ 2 (by rfl)
    refine Ex.ite (ls := [some (.ref 27), some (.int v1), some (.int s0)]) (st := []) (S := xSt xG0 hc hr xs g L c z) (by rfl) (fun q2 => ?_) (fun q2 => ?_)
    · replace H := (if_pos q2).symm.trans H
      exact T_m_step_75 v1 s0 hr r H
    · replace H := (if_neg q2).symm.trans H
      refine Ex.many (f' := (69, [some (.ref 27), some (.int v1), some (.int s0)], [.int s0, .int v1, .ref 27], xSt xG0 hc hr xs g L c z)) ?_ 3 (by rfl)
      obtain ⟨q3, hq3, H⟩ := xbd H
      refine Ex.call (mk := 147) (vs := [.ref 27, .int v1, .int s0]) (rest := []) (by rfl) (by rfl) (Ex.up (T_m_goes v1 s0 hr q3 hq3) (by decide)) (xbb c z) ?_
      show Ex _ _ (72, [some (.ref 27), some (.int v1), some (.int s0)], [], xSt xG0 hc q3 xs g L c z) _
      refine Ex.many (f' := (81, [none, none, none], [], xSt xG0 hc q3 xs g L c z)) ?_ 1 (by rfl)
      replace H := Option.some.inj H
      subst H
      exact Ex.done (by rfl)
def f_m_step (hr : xI) : Option xI :=
  xgd (hr 27 32) 240 ((f_m_trapOf (hr 28 (hr 27 32).toNatClampNeg) hr).bind fun q2 => if q2 ≤ 0 then (if (f_m_immediates (hr 28 (hr 27 32).toNatClampNeg)) ≤ 0 then (f_m_step_54 (hr 28 (hr 27 32).toNatClampNeg) (0 : Int32) (xput hr 27 31 q2)) else (xgd ((hr 27 32) + (1 : Int32)) 240 (f_m_step_54 (hr 28 (hr 27 32).toNatClampNeg) (hr 28 ((hr 27 32) + (1 : Int32)).toNatClampNeg) (xput hr 27 31 q2)))) else (some (xput (xput hr 27 31 q2) 27 1 (4 : Int32))))
theorem T_m_step {hc : xI} {g : xJ} {xs : Nat → Int32} {L c z : Nat} (hr : xI) (r : xI) (H : f_m_step hr = some r) : Ex 5 141 (0, [some (.ref 27), none, none], [], xSt xG0 hc hr xs g L c z) (.inl none, xSt xG0 hc r xs g L c z) := by
  unfold f_m_step at H
  refine Ex.many (f' := (8, [some (.ref 27), none, none], [.int (hr 27 32), .ref 28], xSt xG0 hc hr xs g L c z)) ?_ 4 (by rfl)
  obtain ⟨g1, H⟩ := xgd_some H
  refine Ex.guard (f' := (9, [some (.ref 27), none, none], [.int (hr 28 (hr 27 32).toNatClampNeg)], xSt xG0 hc hr xs g L c z)) (by rfl) g1 ?_
  refine Ex.many (f' := (13, [some (.ref 27), some (.int (hr 28 (hr 27 32).toNatClampNeg)), none], [.int (hr 28 (hr 27 32).toNatClampNeg), .ref 27, .ref 27], xSt xG0 hc hr xs g L c z)) ?_ 4 (by rfl)
  obtain ⟨q2, hq2, H⟩ := xbd H
  refine Ex.call (mk := 142) (vs := [.ref 27, .int (hr 28 (hr 27 32).toNatClampNeg)]) (rest := [.ref 27]) (by rfl) (by rfl) (Ex.up (T_m_trapOf (hr 28 (hr 27 32).toNatClampNeg) hr q2 hq2) (by decide)) (xbb c z) ?_
  show Ex _ _ (16, [some (.ref 27), some (.int (hr 28 (hr 27 32).toNatClampNeg)), none], [.int q2, .ref 27], xSt xG0 hc hr xs g L c z) _
  refine Ex.putR (pc := 19) (k := 27) (j := 31) (v := q2) (ls := [some (.ref 27), some (.int (hr 28 (hr 27 32).toNatClampNeg)), none]) (st := []) (hr := hr) ?_ (by rfl) (by rfl)
  refine Ex.many (f' := (23, [some (.ref 27), some (.int (hr 28 (hr 27 32).toNatClampNeg)), none], [.int q2], xSt xG0 hc (xput hr 27 31 q2) xs g L c z)) ?_ 2 (by rfl)
  refine Ex.ite (ls := [some (.ref 27), some (.int (hr 28 (hr 27 32).toNatClampNeg)), none]) (st := []) (S := xSt xG0 hc (xput hr 27 31 q2) xs g L c z) (by rfl) (fun q3 => ?_) (fun q3 => ?_)
  · replace H := (if_pos q3).symm.trans H
    refine Ex.many (f' := (33, [some (.ref 27), some (.int (hr 28 (hr 27 32).toNatClampNeg)), none], [.int (hr 28 (hr 27 32).toNatClampNeg)], xSt xG0 hc (xput hr 27 31 q2) xs g L c z)) ?_ 1 (by rfl)
    refine Ex.call (mk := 121) (vs := [.int (hr 28 (hr 27 32).toNatClampNeg)]) (rest := []) (by rfl) (by rfl) (Ex.up (T_m_immediates (hr 28 (hr 27 32).toNatClampNeg) _ rfl) (by decide)) (xbb c z) ?_
    show Ex _ _ (36, [some (.ref 27), some (.int (hr 28 (hr 27 32).toNatClampNeg)), none], [.int (f_m_immediates (hr 28 (hr 27 32).toNatClampNeg))], xSt xG0 hc (xput hr 27 31 q2) xs g L c z) _
    refine Ex.ite (ls := [some (.ref 27), some (.int (hr 28 (hr 27 32).toNatClampNeg)), none]) (st := []) (S := xSt xG0 hc (xput hr 27 31 q2) xs g L c z) (by rfl) (fun q5 => ?_) (fun q5 => ?_)
    · replace H := (if_pos q5).symm.trans H
      refine Ex.many (f' := (54, [some (.ref 27), some (.int (hr 28 (hr 27 32).toNatClampNeg)), none], [.int (0 : Int32)], xSt xG0 hc (xput hr 27 31 q2) xs g L c z)) ?_ 1 (by rfl)
      exact T_m_step_54 (hr 28 (hr 27 32).toNatClampNeg) (0 : Int32) (xput hr 27 31 q2) r H
    · replace H := (if_neg q5).symm.trans H
      refine Ex.many (f' := (49, [some (.ref 27), some (.int (hr 28 (hr 27 32).toNatClampNeg)), none], [.int ((hr 27 32) + (1 : Int32)), .ref 28], xSt xG0 hc (xput hr 27 31 q2) xs g L c z)) ?_ 6 (by rfl)
      obtain ⟨g6, H⟩ := xgd_some H
      refine Ex.guard (f' := (50, [some (.ref 27), some (.int (hr 28 (hr 27 32).toNatClampNeg)), none], [.int (hr 28 ((hr 27 32) + (1 : Int32)).toNatClampNeg)], xSt xG0 hc (xput hr 27 31 q2) xs g L c z)) (by rfl) g6 ?_
      refine Ex.many (f' := (54, [some (.ref 27), some (.int (hr 28 (hr 27 32).toNatClampNeg)), none], [.int (hr 28 ((hr 27 32) + (1 : Int32)).toNatClampNeg)], xSt xG0 hc (xput hr 27 31 q2) xs g L c z)) ?_ 1 (by rfl)
      exact T_m_step_54 (hr 28 (hr 27 32).toNatClampNeg) (hr 28 ((hr 27 32) + (1 : Int32)).toNatClampNeg) (xput hr 27 31 q2) r H
  · replace H := (if_neg q3).symm.trans H
    refine Ex.many (f' := (28, [some (.ref 27), none, none], [.int (4 : Int32), .ref 27], xSt xG0 hc (xput hr 27 31 q2) xs g L c z)) ?_ 2 (by rfl)
    refine Ex.putR (pc := 31) (k := 27) (j := 1) (v := (4 : Int32)) (ls := [some (.ref 27), none, none]) (st := []) (hr := (xput hr 27 31 q2)) ?_ (by rfl) (by rfl)
    replace H := Option.some.inj H
    subst H
    exact Ex.done (by rfl)
def f_m_run_20 : Nat → Int32 → Int32 → xI → Option (Int32 × xI)
  | 0, _, _, _ => none
  | n + 1, v1, v2, hr => if v1 ≤ v2 then (some (v2, hr)) else (if (hr 27 1) = (2 : Int32) then ((f_m_step hr).bind fun q3 => f_m_run_20 n v1 (v2 + (1 : Int32)) q3) else (some (v2, hr)))
theorem T_m_run_20 {hc : xI} {g : xJ} {xs : Nat → Int32} {L c z : Nat} (n : Nat) : ∀ (v1 : Int32) (v2 : Int32) (hr : xI) (r : (Int32 × xI)), f_m_run_20 n v1 v2 hr = some r → Ex 6 140 (20, [some (.ref 27), some (.int v1), some (.int v2)], [], xSt xG0 hc hr xs g L c z) (.inl (some (.int r.1)), xSt xG0 hc r.2 xs g L c z) := by
  induction n with
  | zero =>
    intro v1 v2 hr r H
    unfold f_m_run_20 at H
    cases H
  | succ n ih =>
    intro v1 v2 hr r H
    unfold f_m_run_20 at H
    refine Ex.many (f' := (22, [some (.ref 27), some (.int v1), some (.int v2)], [.int v1, .int v2], xSt xG0 hc hr xs g L c z)) ?_ 2 (by rfl)
    refine Ex.ite (ls := [some (.ref 27), some (.int v1), some (.int v2)]) (st := []) (S := xSt xG0 hc hr xs g L c z) (by rfl) (fun q1 => ?_) (fun q1 => ?_)
    · replace H := (if_pos q1).symm.trans H
      refine Ex.many (f' := (44, [none, none, some (.int v2)], [.int v2], xSt xG0 hc hr xs g L c z)) ?_ 1 (by rfl)
      replace H := Option.some.inj H
      subst H
      exact Ex.done (by rfl)
    · replace H := (if_neg q1).symm.trans H
      refine Ex.many (f' := (30, [some (.ref 27), some (.int v1), some (.int v2)], [.int (2 : Int32), .int (hr 27 1)], xSt xG0 hc hr xs g L c z)) ?_ 3 (by rfl)
      refine Ex.ite (ls := [some (.ref 27), some (.int v1), some (.int v2)]) (st := []) (S := xSt xG0 hc hr xs g L c z) (by rfl) (fun q2 => ?_) (fun q2 => ?_)
      · replace H := (if_pos q2).symm.trans H
        refine Ex.many (f' := (34, [some (.ref 27), some (.int v1), some (.int v2)], [.ref 27], xSt xG0 hc hr xs g L c z)) ?_ 1 (by rfl)
        obtain ⟨q3, hq3, H⟩ := xbd H
        refine Ex.call (mk := 141) (vs := [.ref 27]) (rest := []) (by rfl) (by rfl) (Ex.up (T_m_step hr q3 hq3) (by decide)) (xbb c z) ?_
        show Ex _ _ (37, [some (.ref 27), some (.int v1), some (.int v2)], [], xSt xG0 hc q3 xs g L c z) _
        refine Ex.many (f' := (20, [some (.ref 27), some (.int v1), some (.int (v2 + (1 : Int32)))], [], xSt xG0 hc q3 xs g L c z)) ?_ 2 (by rfl)
        exact ih v1 (v2 + (1 : Int32)) q3 r H
      · replace H := (if_neg q2).symm.trans H
        refine Ex.many (f' := (44, [none, none, some (.int v2)], [.int v2], xSt xG0 hc hr xs g L c z)) ?_ 1 (by rfl)
        replace H := Option.some.inj H
        subst H
        exact Ex.done (by rfl)
def f_m_run (a1 : Int32) (hr : xI) : Option (Int32 × xI) :=
  if a1 < 0 then (some ((-1 : Int32), (xput hr 27 0 (0 : Int32)))) else (if a1 ≤ (500 : Int32) then (f_m_run_20 1000 a1 (0 : Int32) (xput hr 27 0 (0 : Int32))) else (some ((-1 : Int32), (xput hr 27 0 (0 : Int32)))))
theorem T_m_run {hc : xI} {g : xJ} {xs : Nat → Int32} {L c z : Nat} (a1 : Int32) (hr : xI) (r : (Int32 × xI)) (H : f_m_run a1 hr = some r) : Ex 6 140 (0, [some (.ref 27), some (.int a1), none], [], xSt xG0 hc hr xs g L c z) (.inl (some (.int r.1)), xSt xG0 hc r.2 xs g L c z) := by
  unfold f_m_run at H
  refine Ex.many (f' := (2, [some (.ref 27), some (.int a1), none], [.int (0 : Int32), .ref 27], xSt xG0 hc hr xs g L c z)) ?_ 2 (by rfl)
  refine Ex.putR (pc := 5) (k := 27) (j := 0) (v := (0 : Int32)) (ls := [some (.ref 27), some (.int a1), none]) (st := []) (hr := hr) ?_ (by rfl) (by rfl)
  refine Ex.many (f' := (6, [some (.ref 27), some (.int a1), none], [.int a1], xSt xG0 hc (xput hr 27 0 (0 : Int32)) xs g L c z)) ?_ 1 (by rfl)
  refine Ex.ite (ls := [some (.ref 27), some (.int a1), none]) (st := []) (S := xSt xG0 hc (xput hr 27 0 (0 : Int32)) xs g L c z) (by rfl) (fun q1 => ?_) (fun q1 => ?_)
  · replace H := (if_pos q1).symm.trans H
    refine Ex.many (f' := (17, [none, none, none], [.int (-1 : Int32)], xSt xG0 hc (xput hr 27 0 (0 : Int32)) xs g L c z)) ?_ 1 (by rfl)
    replace H := Option.some.inj H
    subst H
    exact Ex.done (by rfl)
  · replace H := (if_neg q1).symm.trans H
    refine Ex.many (f' := (13, [some (.ref 27), some (.int a1), none], [.int (500 : Int32), .int a1], xSt xG0 hc (xput hr 27 0 (0 : Int32)) xs g L c z)) ?_ 2 (by rfl)
    refine Ex.ite (ls := [some (.ref 27), some (.int a1), none]) (st := []) (S := xSt xG0 hc (xput hr 27 0 (0 : Int32)) xs g L c z) (by rfl) (fun q2 => ?_) (fun q2 => ?_)
    · replace H := (if_pos q2).symm.trans H
      refine Ex.many (f' := (20, [some (.ref 27), some (.int a1), some (.int (0 : Int32))], [], xSt xG0 hc (xput hr 27 0 (0 : Int32)) xs g L c z)) ?_ 2 (by rfl)
      exact T_m_run_20 1000 a1 (0 : Int32) (xput hr 27 0 (0 : Int32)) r H
    · replace H := (if_neg q2).symm.trans H
      refine Ex.many (f' := (17, [none, none, none], [.int (-1 : Int32)], xSt xG0 hc (xput hr 27 0 (0 : Int32)) xs g L c z)) ?_ 1 (by rfl)
      replace H := Option.some.inj H
      subst H
      exact Ex.done (by rfl)
def f_m_stop_32 (v1 : Int32) (s1 : Int32) (hr : xI) : Option (Int32 × xI) :=
  xb01 v1 (some (v1, (xput hr 27 1 s1)))
theorem T_m_stop_32 {hc : xI} {g : xJ} {xs : Nat → Int32} {L c z : Nat} (v1 : Int32) (s1 : Int32) (hr : xI) (r : (Int32 × xI)) (H : f_m_stop_32 v1 s1 hr = some r) : Ex 0 163 (32, [none, some (.int v1)], [.int s1, .ref 27], xSt xG0 hc hr xs g L c z) (.inl (some (.int r.1)), xSt xG0 hc r.2 xs g L c z) := by
  unfold f_m_stop_32 at H
  refine Ex.putR (pc := 35) (k := 27) (j := 1) (v := s1) (ls := [none, some (.int v1)]) (st := []) (hr := hr) ?_ (by rfl) (by rfl)
  refine Ex.many (f' := (36, [none, some (.int v1)], [.int v1], xSt xG0 hc (xput hr 27 1 s1) xs g L c z)) ?_ 1 (by rfl)
  obtain ⟨g1, H⟩ := xb01_some H
  replace H := Option.some.inj H
  subst H
  exact Ex.ret01 (by rfl) g1
def f_m_stop_18 (s0 : Int32) (hr : xI) : Option (Int32 × xI) :=
  if s0 = 0 then (f_m_stop_32 s0 (hr 27 1) hr) else (f_m_stop_32 s0 (1 : Int32) hr)
theorem T_m_stop_18 {hc : xI} {g : xJ} {xs : Nat → Int32} {L c z : Nat} (s0 : Int32) (hr : xI) (r : (Int32 × xI)) (H : f_m_stop_18 s0 hr = some r) : Ex 0 163 (18, [some (.ref 27), none], [.int s0], xSt xG0 hc hr xs g L c z) (.inl (some (.int r.1)), xSt xG0 hc r.2 xs g L c z) := by
  unfold f_m_stop_18 at H
  refine Ex.many (f' := (21, [some (.ref 27), some (.int s0)], [.int s0, .ref 27], xSt xG0 hc hr xs g L c z)) ?_ 3 (by rfl)
  refine Ex.ite (ls := [some (.ref 27), some (.int s0)]) (st := [.ref 27]) (S := xSt xG0 hc hr xs g L c z) (by rfl) (fun q1 => ?_) (fun q1 => ?_)
  · replace H := (if_pos q1).symm.trans H
    refine Ex.many (f' := (32, [some (.ref 27), some (.int s0)], [.int (hr 27 1), .ref 27], xSt xG0 hc hr xs g L c z)) ?_ 2 (by rfl)
    refine Ex.kill (ls' := [none, some (.int s0)]) (by rfl) ?_
    exact T_m_stop_32 s0 (hr 27 1) hr r H
  · replace H := (if_neg q1).symm.trans H
    refine Ex.many (f' := (32, [none, some (.int s0)], [.int (1 : Int32), .ref 27], xSt xG0 hc hr xs g L c z)) ?_ 2 (by rfl)
    exact T_m_stop_32 s0 (1 : Int32) hr r H
def f_m_stop (hr : xI) : Option (Int32 × xI) :=
  if (hr 27 1) = (2 : Int32) then (f_m_stop_18 (1 : Int32) (xput hr 27 0 (0 : Int32))) else (f_m_stop_18 (0 : Int32) (xput hr 27 0 (0 : Int32)))
theorem T_m_stop {hc : xI} {g : xJ} {xs : Nat → Int32} {L c z : Nat} (hr : xI) (r : (Int32 × xI)) (H : f_m_stop hr = some r) : Ex 0 163 (0, [some (.ref 27), none], [], xSt xG0 hc hr xs g L c z) (.inl (some (.int r.1)), xSt xG0 hc r.2 xs g L c z) := by
  unfold f_m_stop at H
  refine Ex.many (f' := (2, [some (.ref 27), none], [.int (0 : Int32), .ref 27], xSt xG0 hc hr xs g L c z)) ?_ 2 (by rfl)
  refine Ex.putR (pc := 5) (k := 27) (j := 0) (v := (0 : Int32)) (ls := [some (.ref 27), none]) (st := []) (hr := hr) ?_ (by rfl) (by rfl)
  refine Ex.many (f' := (10, [some (.ref 27), none], [.int (2 : Int32), .int (hr 27 1)], xSt xG0 hc (xput hr 27 0 (0 : Int32)) xs g L c z)) ?_ 3 (by rfl)
  refine Ex.ite (ls := [some (.ref 27), none]) (st := []) (S := xSt xG0 hc (xput hr 27 0 (0 : Int32)) xs g L c z) (by rfl) (fun q1 => ?_) (fun q1 => ?_)
  · replace H := (if_pos q1).symm.trans H
    refine Ex.many (f' := (18, [some (.ref 27), none], [.int (1 : Int32)], xSt xG0 hc (xput hr 27 0 (0 : Int32)) xs g L c z)) ?_ 2 (by rfl)
    exact T_m_stop_18 (1 : Int32) (xput hr 27 0 (0 : Int32)) r H
  · replace H := (if_neg q1).symm.trans H
    refine Ex.many (f' := (18, [some (.ref 27), none], [.int (0 : Int32)], xSt xG0 hc (xput hr 27 0 (0 : Int32)) xs g L c z)) ?_ 1 (by rfl)
    exact T_m_stop_18 (0 : Int32) (xput hr 27 0 (0 : Int32)) r H
def f_m_result_14 (s1 : Int32) (hr : xI) : Option (Int32 × xI) :=
  if (hr 27 1) = (3 : Int32) then (some ((hr 27 40), (xput hr 27 0 s1))) else (some ((0 : Int32), (xput hr 27 0 s1)))
theorem T_m_result_14 {hc : xI} {g : xJ} {xs : Nat → Int32} {L c z : Nat} (s1 : Int32) (hr : xI) (r : (Int32 × xI)) (H : f_m_result_14 s1 hr = some r) : Ex 0 164 (14, [some (.ref 27)], [.int s1, .ref 27], xSt xG0 hc hr xs g L c z) (.inl (some (.int r.1)), xSt xG0 hc r.2 xs g L c z) := by
  unfold f_m_result_14 at H
  refine Ex.putR (pc := 17) (k := 27) (j := 0) (v := s1) (ls := [some (.ref 27)]) (st := []) (hr := hr) ?_ (by rfl) (by rfl)
  refine Ex.many (f' := (22, [some (.ref 27)], [.int (3 : Int32), .int (hr 27 1)], xSt xG0 hc (xput hr 27 0 s1) xs g L c z)) ?_ 3 (by rfl)
  refine Ex.ite (ls := [some (.ref 27)]) (st := []) (S := xSt xG0 hc (xput hr 27 0 s1) xs g L c z) (by rfl) (fun q1 => ?_) (fun q1 => ?_)
  · replace H := (if_pos q1).symm.trans H
    refine Ex.many (f' := (33, [some (.ref 27)], [.int (hr 27 40)], xSt xG0 hc (xput hr 27 0 s1) xs g L c z)) ?_ 3 (by rfl)
    replace H := Option.some.inj H
    subst H
    exact Ex.done (by rfl)
  · replace H := (if_neg q1).symm.trans H
    refine Ex.many (f' := (33, [none], [.int (0 : Int32)], xSt xG0 hc (xput hr 27 0 s1) xs g L c z)) ?_ 1 (by rfl)
    replace H := Option.some.inj H
    subst H
    exact Ex.done (by rfl)
def f_m_result (hr : xI) : Option (Int32 × xI) :=
  if (hr 27 1) = (3 : Int32) then (f_m_result_14 (0 : Int32) hr) else (f_m_result_14 (1 : Int32) hr)
theorem T_m_result {hc : xI} {g : xJ} {xs : Nat → Int32} {L c z : Nat} (hr : xI) (r : (Int32 × xI)) (H : f_m_result hr = some r) : Ex 0 164 (0, [some (.ref 27)], [], xSt xG0 hc hr xs g L c z) (.inl (some (.int r.1)), xSt xG0 hc r.2 xs g L c z) := by
  unfold f_m_result at H
  refine Ex.many (f' := (6, [some (.ref 27)], [.int (3 : Int32), .int (hr 27 1), .ref 27], xSt xG0 hc hr xs g L c z)) ?_ 4 (by rfl)
  refine Ex.ite (ls := [some (.ref 27)]) (st := [.ref 27]) (S := xSt xG0 hc hr xs g L c z) (by rfl) (fun q1 => ?_) (fun q1 => ?_)
  · replace H := (if_pos q1).symm.trans H
    refine Ex.many (f' := (14, [some (.ref 27)], [.int (0 : Int32), .ref 27], xSt xG0 hc hr xs g L c z)) ?_ 2 (by rfl)
    exact T_m_result_14 (0 : Int32) hr r H
  · replace H := (if_neg q1).symm.trans H
    refine Ex.many (f' := (14, [some (.ref 27)], [.int (1 : Int32), .ref 27], xSt xG0 hc hr xs g L c z)) ?_ 1 (by rfl)
    exact T_m_result_14 (1 : Int32) hr r H
def f_m_look_18 (v1 : Int32) (s0 : Int32) (hr : xI) : Option (Int32 × xI) :=
  if v1 = (0 : Int32) then (some ((hr 27 1), hr)) else (if v1 = (1 : Int32) then (if (hr 27 1) = (4 : Int32) then (some ((hr 27 31), hr)) else (some ((0 : Int32), hr))) else (if v1 = (2 : Int32) then (if s0 = 0 then (some ((-1 : Int32), hr)) else (some ((hr 27 32), hr))) else (if v1 = (3 : Int32) then (if s0 = 0 then (some ((0 : Int32), hr)) else (some ((hr 27 33), hr))) else (if v1 = (4 : Int32) then (if s0 = 0 then (some ((0 : Int32), hr)) else (some ((hr 27 35), hr))) else (if v1 = (5 : Int32) then (some ((hr 27 27), hr)) else (if v1 = (6 : Int32) then (some ((hr 27 2), hr)) else (some ((-1 : Int32), hr))))))))
theorem T_m_look_18 {hc : xI} {g : xJ} {xs : Nat → Int32} {L c z : Nat} (v1 : Int32) (s0 : Int32) (hr : xI) (r : (Int32 × xI)) (H : f_m_look_18 v1 s0 hr = some r) : Ex 0 165 (18, [some (.ref 27), some (.int v1), none], [.int s0], xSt xG0 hc hr xs g L c z) (.inl (some (.int r.1)), xSt xG0 hc r.2 xs g L c z) := by
  unfold f_m_look_18 at H
  refine Ex.many (f' := (20, [some (.ref 27), some (.int v1), some (.int s0)], [.int v1], xSt xG0 hc hr xs g L c z)) ?_ 2 (by rfl)
  by_cases q1 : v1 = (0 : Int32)
  · replace H := (if_pos q1).symm.trans H
    refine Ex.sw (t := 64) (ls := [some (.ref 27), some (.int v1), some (.int s0)]) (st := []) (S := xSt xG0 hc hr xs g L c z) ?_ (by rfl) (by rw [q1]; rfl)
    refine Ex.many (f' := (68, [some (.ref 27), none, none], [.int (hr 27 1)], xSt xG0 hc hr xs g L c z)) ?_ 2 (by rfl)
    replace H := Option.some.inj H
    subst H
    exact Ex.done (by rfl)
  · replace H := (if_neg q1).symm.trans H
    by_cases q2 : v1 = (1 : Int32)
    · replace H := (if_pos q2).symm.trans H
      refine Ex.sw (t := 69) (ls := [some (.ref 27), some (.int v1), some (.int s0)]) (st := []) (S := xSt xG0 hc hr xs g L c z) ?_ (by rfl) (by rw [q2]; rfl)
      refine Ex.many (f' := (74, [some (.ref 27), none, none], [.int (4 : Int32), .int (hr 27 1)], xSt xG0 hc hr xs g L c z)) ?_ 3 (by rfl)
      refine Ex.ite (ls := [some (.ref 27), none, none]) (st := []) (S := xSt xG0 hc hr xs g L c z) (by rfl) (fun q3 => ?_) (fun q3 => ?_)
      · replace H := (if_pos q3).symm.trans H
        refine Ex.many (f' := (85, [some (.ref 27), none, none], [.int (hr 27 31)], xSt xG0 hc hr xs g L c z)) ?_ 3 (by rfl)
        replace H := Option.some.inj H
        subst H
        exact Ex.done (by rfl)
      · replace H := (if_neg q3).symm.trans H
        refine Ex.many (f' := (85, [none, none, none], [.int (0 : Int32)], xSt xG0 hc hr xs g L c z)) ?_ 1 (by rfl)
        replace H := Option.some.inj H
        subst H
        exact Ex.done (by rfl)
    · replace H := (if_neg q2).symm.trans H
      by_cases q4 : v1 = (2 : Int32)
      · replace H := (if_pos q4).symm.trans H
        refine Ex.sw (t := 86) (ls := [some (.ref 27), some (.int v1), some (.int s0)]) (st := []) (S := xSt xG0 hc hr xs g L c z) ?_ (by rfl) (by rw [q4]; rfl)
        refine Ex.many (f' := (87, [some (.ref 27), none, some (.int s0)], [.int s0], xSt xG0 hc hr xs g L c z)) ?_ 1 (by rfl)
        refine Ex.ite (ls := [some (.ref 27), none, some (.int s0)]) (st := []) (S := xSt xG0 hc hr xs g L c z) (by rfl) (fun q5 => ?_) (fun q5 => ?_)
        · replace H := (if_pos q5).symm.trans H
          refine Ex.many (f' := (98, [none, none, none], [.int (-1 : Int32)], xSt xG0 hc hr xs g L c z)) ?_ 1 (by rfl)
          replace H := Option.some.inj H
          subst H
          exact Ex.done (by rfl)
        · replace H := (if_neg q5).symm.trans H
          refine Ex.many (f' := (98, [some (.ref 27), none, none], [.int (hr 27 32)], xSt xG0 hc hr xs g L c z)) ?_ 3 (by rfl)
          replace H := Option.some.inj H
          subst H
          exact Ex.done (by rfl)
      · replace H := (if_neg q4).symm.trans H
        by_cases q6 : v1 = (3 : Int32)
        · replace H := (if_pos q6).symm.trans H
          refine Ex.sw (t := 99) (ls := [some (.ref 27), some (.int v1), some (.int s0)]) (st := []) (S := xSt xG0 hc hr xs g L c z) ?_ (by rfl) (by rw [q6]; rfl)
          refine Ex.many (f' := (100, [some (.ref 27), none, some (.int s0)], [.int s0], xSt xG0 hc hr xs g L c z)) ?_ 1 (by rfl)
          refine Ex.ite (ls := [some (.ref 27), none, some (.int s0)]) (st := []) (S := xSt xG0 hc hr xs g L c z) (by rfl) (fun q7 => ?_) (fun q7 => ?_)
          · replace H := (if_pos q7).symm.trans H
            refine Ex.many (f' := (111, [none, none, none], [.int (0 : Int32)], xSt xG0 hc hr xs g L c z)) ?_ 1 (by rfl)
            replace H := Option.some.inj H
            subst H
            exact Ex.done (by rfl)
          · replace H := (if_neg q7).symm.trans H
            refine Ex.many (f' := (111, [some (.ref 27), none, none], [.int (hr 27 33)], xSt xG0 hc hr xs g L c z)) ?_ 3 (by rfl)
            replace H := Option.some.inj H
            subst H
            exact Ex.done (by rfl)
        · replace H := (if_neg q6).symm.trans H
          by_cases q8 : v1 = (4 : Int32)
          · replace H := (if_pos q8).symm.trans H
            refine Ex.sw (t := 112) (ls := [some (.ref 27), some (.int v1), some (.int s0)]) (st := []) (S := xSt xG0 hc hr xs g L c z) ?_ (by rfl) (by rw [q8]; rfl)
            refine Ex.many (f' := (113, [some (.ref 27), none, some (.int s0)], [.int s0], xSt xG0 hc hr xs g L c z)) ?_ 1 (by rfl)
            refine Ex.ite (ls := [some (.ref 27), none, some (.int s0)]) (st := []) (S := xSt xG0 hc hr xs g L c z) (by rfl) (fun q9 => ?_) (fun q9 => ?_)
            · replace H := (if_pos q9).symm.trans H
              refine Ex.many (f' := (124, [none, none, none], [.int (0 : Int32)], xSt xG0 hc hr xs g L c z)) ?_ 1 (by rfl)
              replace H := Option.some.inj H
              subst H
              exact Ex.done (by rfl)
            · replace H := (if_neg q9).symm.trans H
              refine Ex.many (f' := (124, [some (.ref 27), none, none], [.int (hr 27 35)], xSt xG0 hc hr xs g L c z)) ?_ 3 (by rfl)
              replace H := Option.some.inj H
              subst H
              exact Ex.done (by rfl)
          · replace H := (if_neg q8).symm.trans H
            by_cases q10 : v1 = (5 : Int32)
            · replace H := (if_pos q10).symm.trans H
              refine Ex.sw (t := 125) (ls := [some (.ref 27), some (.int v1), some (.int s0)]) (st := []) (S := xSt xG0 hc hr xs g L c z) ?_ (by rfl) (by rw [q10]; rfl)
              refine Ex.many (f' := (129, [some (.ref 27), none, none], [.int (hr 27 27)], xSt xG0 hc hr xs g L c z)) ?_ 2 (by rfl)
              replace H := Option.some.inj H
              subst H
              exact Ex.done (by rfl)
            · replace H := (if_neg q10).symm.trans H
              by_cases q11 : v1 = (6 : Int32)
              · replace H := (if_pos q11).symm.trans H
                refine Ex.sw (t := 130) (ls := [some (.ref 27), some (.int v1), some (.int s0)]) (st := []) (S := xSt xG0 hc hr xs g L c z) ?_ (by rfl) (by rw [q11]; rfl)
                refine Ex.many (f' := (134, [some (.ref 27), none, none], [.int (hr 27 2)], xSt xG0 hc hr xs g L c z)) ?_ 2 (by rfl)
                replace H := Option.some.inj H
                subst H
                exact Ex.done (by rfl)
              · replace H := (if_neg q11).symm.trans H
                refine Ex.sw (t := 135) (ls := [some (.ref 27), some (.int v1), some (.int s0)]) (st := []) (S := xSt xG0 hc hr xs g L c z) ?_ (by rfl) (xtsw_d [(0 : Int32), (1 : Int32), (2 : Int32), (3 : Int32), (4 : Int32), (5 : Int32), (6 : Int32)] (by decide +kernel) (by decide +kernel) (List.forall_mem_cons.mpr ⟨fun e => q1 e, (List.forall_mem_cons.mpr ⟨fun e => q2 e, (List.forall_mem_cons.mpr ⟨fun e => q4 e, (List.forall_mem_cons.mpr ⟨fun e => q6 e, (List.forall_mem_cons.mpr ⟨fun e => q8 e, (List.forall_mem_cons.mpr ⟨fun e => q10 e, (List.forall_mem_cons.mpr ⟨fun e => q11 e, (fun _ h => absurd h List.not_mem_nil)⟩)⟩)⟩)⟩)⟩)⟩)⟩))
                refine Ex.many (f' := (136, [none, none, none], [.int (-1 : Int32)], xSt xG0 hc hr xs g L c z)) ?_ 1 (by rfl)
                replace H := Option.some.inj H
                subst H
                exact Ex.done (by rfl)
def f_m_look (a1 : Int32) (hr : xI) : Option (Int32 × xI) :=
  if (hr 27 1) = (2 : Int32) then (f_m_look_18 a1 (1 : Int32) (xput hr 27 0 (0 : Int32))) else (f_m_look_18 a1 (0 : Int32) (xput hr 27 0 (0 : Int32)))
theorem T_m_look {hc : xI} {g : xJ} {xs : Nat → Int32} {L c z : Nat} (a1 : Int32) (hr : xI) (r : (Int32 × xI)) (H : f_m_look a1 hr = some r) : Ex 0 165 (0, [some (.ref 27), some (.int a1), none], [], xSt xG0 hc hr xs g L c z) (.inl (some (.int r.1)), xSt xG0 hc r.2 xs g L c z) := by
  unfold f_m_look at H
  refine Ex.many (f' := (2, [some (.ref 27), some (.int a1), none], [.int (0 : Int32), .ref 27], xSt xG0 hc hr xs g L c z)) ?_ 2 (by rfl)
  refine Ex.putR (pc := 5) (k := 27) (j := 0) (v := (0 : Int32)) (ls := [some (.ref 27), some (.int a1), none]) (st := []) (hr := hr) ?_ (by rfl) (by rfl)
  refine Ex.many (f' := (10, [some (.ref 27), some (.int a1), none], [.int (2 : Int32), .int (hr 27 1)], xSt xG0 hc (xput hr 27 0 (0 : Int32)) xs g L c z)) ?_ 3 (by rfl)
  refine Ex.ite (ls := [some (.ref 27), some (.int a1), none]) (st := []) (S := xSt xG0 hc (xput hr 27 0 (0 : Int32)) xs g L c z) (by rfl) (fun q1 => ?_) (fun q1 => ?_)
  · replace H := (if_pos q1).symm.trans H
    refine Ex.many (f' := (18, [some (.ref 27), some (.int a1), none], [.int (1 : Int32)], xSt xG0 hc (xput hr 27 0 (0 : Int32)) xs g L c z)) ?_ 2 (by rfl)
    exact T_m_look_18 a1 (1 : Int32) (xput hr 27 0 (0 : Int32)) r H
  · replace H := (if_neg q1).symm.trans H
    refine Ex.many (f' := (18, [some (.ref 27), some (.int a1), none], [.int (0 : Int32)], xSt xG0 hc (xput hr 27 0 (0 : Int32)) xs g L c z)) ?_ 1 (by rfl)
    exact T_m_look_18 a1 (0 : Int32) (xput hr 27 0 (0 : Int32)) r H
def f_m_value_109 (v1 : Int32) (v2 : Int32) (v4 : Int32) (s1 : Int32) (hr : xI) : Option (Int32 × xI) :=
  if s1 ≤ 0 then (if v1 = 0 then (xgd v2 101 (some ((hr 46 v2.toNatClampNeg), (xput hr 27 0 s1)))) else (if v1 = (1 : Int32) then (xgd (((8 : Int32) * v4) + v2) 48 (some ((hr 50 (((8 : Int32) * v4) + v2).toNatClampNeg), (xput hr 27 0 s1)))) else (xgd v2 4 (some ((hr 44 v2.toNatClampNeg), (xput hr 27 0 s1)))))) else (some ((0 : Int32), (xput hr 27 0 s1)))
theorem T_m_value_109 {hc : xI} {g : xJ} {xs : Nat → Int32} {L c z : Nat} (v1 : Int32) (v2 : Int32) (v4 : Int32) (s1 : Int32) (hr : xI) (r : (Int32 × xI)) (H : f_m_value_109 v1 v2 v4 s1 hr = some r) : Ex 0 166 (109, [some (.ref 27), some (.int v1), some (.int v2), none, some (.int v4), none, none], [.int s1, .ref 27], xSt xG0 hc hr xs g L c z) (.inl (some (.int r.1)), xSt xG0 hc r.2 xs g L c z) := by
  unfold f_m_value_109 at H
  refine Ex.putR (pc := 112) (k := 27) (j := 0) (v := s1) (ls := [some (.ref 27), some (.int v1), some (.int v2), none, some (.int v4), none, none]) (st := []) (hr := hr) ?_ (by rfl) (by rfl)
  refine Ex.many (f' := (116, [some (.ref 27), some (.int v1), some (.int v2), none, some (.int v4), none, none], [.int s1], xSt xG0 hc (xput hr 27 0 s1) xs g L c z)) ?_ 2 (by rfl)
  refine Ex.ite (ls := [some (.ref 27), some (.int v1), some (.int v2), none, some (.int v4), none, none]) (st := []) (S := xSt xG0 hc (xput hr 27 0 s1) xs g L c z) (by rfl) (fun q1 => ?_) (fun q1 => ?_)
  · replace H := (if_pos q1).symm.trans H
    refine Ex.many (f' := (122, [some (.ref 27), some (.int v1), some (.int v2), none, some (.int v4), none, none], [.int v1], xSt xG0 hc (xput hr 27 0 s1) xs g L c z)) ?_ 1 (by rfl)
    refine Ex.ite (ls := [some (.ref 27), some (.int v1), some (.int v2), none, some (.int v4), none, none]) (st := []) (S := xSt xG0 hc (xput hr 27 0 s1) xs g L c z) (by rfl) (fun q2 => ?_) (fun q2 => ?_)
    · replace H := (if_pos q2).symm.trans H
      refine Ex.many (f' := (130, [some (.ref 27), none, some (.int v2), none, none, none, none], [.int v2, .ref 46], xSt xG0 hc (xput hr 27 0 s1) xs g L c z)) ?_ 3 (by rfl)
      obtain ⟨g3, H⟩ := xgd_some H
      refine Ex.guard (f' := (131, [some (.ref 27), none, some (.int v2), none, none, none, none], [.int (hr 46 v2.toNatClampNeg)], xSt xG0 hc (xput hr 27 0 s1) xs g L c z)) (by rfl) g3 ?_
      refine Ex.many (f' := (160, [some (.ref 27), none, some (.int v2), none, none, none, none], [.int (hr 46 v2.toNatClampNeg)], xSt xG0 hc (xput hr 27 0 s1) xs g L c z)) ?_ 1 (by rfl)
      replace H := Option.some.inj H
      subst H
      exact Ex.done (by rfl)
    · replace H := (if_neg q2).symm.trans H
      refine Ex.many (f' := (136, [some (.ref 27), some (.int v1), some (.int v2), none, some (.int v4), none, none], [.int (1 : Int32), .int v1], xSt xG0 hc (xput hr 27 0 s1) xs g L c z)) ?_ 2 (by rfl)
      refine Ex.ite (ls := [some (.ref 27), some (.int v1), some (.int v2), none, some (.int v4), none, none]) (st := []) (S := xSt xG0 hc (xput hr 27 0 s1) xs g L c z) (by rfl) (fun q4 => ?_) (fun q4 => ?_)
      · replace H := (if_pos q4).symm.trans H
        refine Ex.many (f' := (150, [some (.ref 27), none, some (.int v2), none, some (.int v4), none, none], [.int (((8 : Int32) * v4) + v2), .ref 50], xSt xG0 hc (xput hr 27 0 s1) xs g L c z)) ?_ 7 (by rfl)
        obtain ⟨g5, H⟩ := xgd_some H
        refine Ex.guard (f' := (151, [some (.ref 27), none, some (.int v2), none, some (.int v4), none, none], [.int (hr 50 (((8 : Int32) * v4) + v2).toNatClampNeg)], xSt xG0 hc (xput hr 27 0 s1) xs g L c z)) (by rfl) g5 ?_
        refine Ex.many (f' := (160, [some (.ref 27), none, some (.int v2), none, some (.int v4), none, none], [.int (hr 50 (((8 : Int32) * v4) + v2).toNatClampNeg)], xSt xG0 hc (xput hr 27 0 s1) xs g L c z)) ?_ 1 (by rfl)
        replace H := Option.some.inj H
        subst H
        exact Ex.done (by rfl)
      · replace H := (if_neg q4).symm.trans H
        refine Ex.many (f' := (159, [some (.ref 27), none, some (.int v2), none, none, none, none], [.int v2, .ref 44], xSt xG0 hc (xput hr 27 0 s1) xs g L c z)) ?_ 3 (by rfl)
        obtain ⟨g6, H⟩ := xgd_some H
        refine Ex.guard (f' := (160, [some (.ref 27), none, some (.int v2), none, none, none, none], [.int (hr 44 v2.toNatClampNeg)], xSt xG0 hc (xput hr 27 0 s1) xs g L c z)) (by rfl) g6 ?_
        replace H := Option.some.inj H
        subst H
        exact Ex.done (by rfl)
  · replace H := (if_neg q1).symm.trans H
    refine Ex.many (f' := (120, [none, none, none, none, none, none, none], [.int (0 : Int32)], xSt xG0 hc (xput hr 27 0 s1) xs g L c z)) ?_ 1 (by rfl)
    replace H := Option.some.inj H
    subst H
    exact Ex.done (by rfl)
def f_m_value_104 (v1 : Int32) (v2 : Int32) (v4 : Int32) (hr : xI) : Option (Int32 × xI) :=
  f_m_value_109 v1 v2 v4 (1 : Int32) hr
theorem T_m_value_104 {hc : xI} {g : xJ} {xs : Nat → Int32} {L c z : Nat} (v1 : Int32) (v2 : Int32) (v4 : Int32) (hr : xI) (r : (Int32 × xI)) (H : f_m_value_104 v1 v2 v4 hr = some r) : Ex 0 166 (104, [some (.ref 27), some (.int v1), some (.int v2), none, some (.int v4), none, none], [.ref 27], xSt xG0 hc hr xs g L c z) (.inl (some (.int r.1)), xSt xG0 hc r.2 xs g L c z) := by
  unfold f_m_value_104 at H
  refine Ex.many (f' := (109, [some (.ref 27), some (.int v1), some (.int v2), none, some (.int v4), none, none], [.int (1 : Int32), .ref 27], xSt xG0 hc hr xs g L c z)) ?_ 2 (by rfl)
  exact T_m_value_109 v1 v2 v4 (1 : Int32) hr r H
def f_m_value_91 (v1 : Int32) (v2 : Int32) (v4 : Int32) (s0 : Int32) (hr : xI) : Option (Int32 × xI) :=
  if v2 < 0 then (f_m_value_104 v1 v2 v4 hr) else (if v2 < s0 then (f_m_value_109 v1 v2 v4 (0 : Int32) hr) else (f_m_value_104 v1 v2 v4 hr))
theorem T_m_value_91 {hc : xI} {g : xJ} {xs : Nat → Int32} {L c z : Nat} (v1 : Int32) (v2 : Int32) (v4 : Int32) (s0 : Int32) (hr : xI) (r : (Int32 × xI)) (H : f_m_value_91 v1 v2 v4 s0 hr = some r) : Ex 0 166 (91, [some (.ref 27), some (.int v1), some (.int v2), none, some (.int v4), none, none], [.int s0], xSt xG0 hc hr xs g L c z) (.inl (some (.int r.1)), xSt xG0 hc r.2 xs g L c z) := by
  unfold f_m_value_91 at H
  refine Ex.many (f' := (95, [some (.ref 27), some (.int v1), some (.int v2), none, some (.int v4), none, some (.int s0)], [.int v2, .ref 27], xSt xG0 hc hr xs g L c z)) ?_ 3 (by rfl)
  refine Ex.ite (ls := [some (.ref 27), some (.int v1), some (.int v2), none, some (.int v4), none, some (.int s0)]) (st := [.ref 27]) (S := xSt xG0 hc hr xs g L c z) (by rfl) (fun q1 => ?_) (fun q1 => ?_)
  · replace H := (if_pos q1).symm.trans H
    refine Ex.kill (ls' := [some (.ref 27), some (.int v1), some (.int v2), none, some (.int v4), none, none]) (by rfl) ?_
    exact T_m_value_104 v1 v2 v4 hr r H
  · replace H := (if_neg q1).symm.trans H
    refine Ex.many (f' := (101, [some (.ref 27), some (.int v1), some (.int v2), none, some (.int v4), none, some (.int s0)], [.int s0, .int v2, .ref 27], xSt xG0 hc hr xs g L c z)) ?_ 2 (by rfl)
    refine Ex.ite (ls := [some (.ref 27), some (.int v1), some (.int v2), none, some (.int v4), none, some (.int s0)]) (st := [.ref 27]) (S := xSt xG0 hc hr xs g L c z) (by rfl) (fun q2 => ?_) (fun q2 => ?_)
    · replace H := (if_pos q2).symm.trans H
      refine Ex.many (f' := (109, [some (.ref 27), some (.int v1), some (.int v2), none, some (.int v4), none, none], [.int (0 : Int32), .ref 27], xSt xG0 hc hr xs g L c z)) ?_ 1 (by rfl)
      exact T_m_value_109 v1 v2 v4 (0 : Int32) hr r H
    · replace H := (if_neg q2).symm.trans H
      refine Ex.kill (ls' := [some (.ref 27), some (.int v1), some (.int v2), none, some (.int v4), none, none]) (by rfl) ?_
      exact T_m_value_104 v1 v2 v4 hr r H
def f_m_value_81 (v1 : Int32) (v2 : Int32) (v4 : Int32) (hr : xI) : Option (Int32 × xI) :=
  if v1 = (2 : Int32) then (f_m_value_91 v1 v2 v4 (4 : Int32) hr) else (f_m_value_91 v1 v2 v4 (0 : Int32) hr)
theorem T_m_value_81 {hc : xI} {g : xJ} {xs : Nat → Int32} {L c z : Nat} (v1 : Int32) (v2 : Int32) (v4 : Int32) (hr : xI) (r : (Int32 × xI)) (H : f_m_value_81 v1 v2 v4 hr = some r) : Ex 0 166 (81, [some (.ref 27), some (.int v1), some (.int v2), none, some (.int v4), none, none], [], xSt xG0 hc hr xs g L c z) (.inl (some (.int r.1)), xSt xG0 hc r.2 xs g L c z) := by
  unfold f_m_value_81 at H
  refine Ex.many (f' := (83, [some (.ref 27), some (.int v1), some (.int v2), none, some (.int v4), none, none], [.int (2 : Int32), .int v1], xSt xG0 hc hr xs g L c z)) ?_ 2 (by rfl)
  refine Ex.ite (ls := [some (.ref 27), some (.int v1), some (.int v2), none, some (.int v4), none, none]) (st := []) (S := xSt xG0 hc hr xs g L c z) (by rfl) (fun q1 => ?_) (fun q1 => ?_)
  · replace H := (if_pos q1).symm.trans H
    refine Ex.many (f' := (91, [some (.ref 27), some (.int v1), some (.int v2), none, some (.int v4), none, none], [.int (4 : Int32)], xSt xG0 hc hr xs g L c z)) ?_ 2 (by rfl)
    exact T_m_value_91 v1 v2 v4 (4 : Int32) hr r H
  · replace H := (if_neg q1).symm.trans H
    refine Ex.many (f' := (91, [some (.ref 27), some (.int v1), some (.int v2), none, some (.int v4), none, none], [.int (0 : Int32)], xSt xG0 hc hr xs g L c z)) ?_ 1 (by rfl)
    exact T_m_value_91 v1 v2 v4 (0 : Int32) hr r H
def f_m_value_54 (v1 : Int32) (v2 : Int32) (v3 : Int32) (v4 : Int32) (v5 : Int32) (hr : xI) : Option (Int32 × xI) :=
  if v1 = (1 : Int32) then (if v3 = 0 then (f_m_value_81 v1 v2 v4 hr) else (xgd v5 6 (xgd v5 6 (f_m_value_91 v1 v2 v4 ((hr 30 v5.toNatClampNeg) + (hr 31 v5.toNatClampNeg)) hr)))) else (f_m_value_81 v1 v2 v4 hr)
theorem T_m_value_54 {hc : xI} {g : xJ} {xs : Nat → Int32} {L c z : Nat} (v1 : Int32) (v2 : Int32) (v3 : Int32) (v4 : Int32) (v5 : Int32) (hr : xI) (r : (Int32 × xI)) (H : f_m_value_54 v1 v2 v3 v4 v5 hr = some r) : Ex 0 166 (54, [some (.ref 27), some (.int v1), some (.int v2), some (.int v3), some (.int v4), some (.int v5), none], [], xSt xG0 hc hr xs g L c z) (.inl (some (.int r.1)), xSt xG0 hc r.2 xs g L c z) := by
  unfold f_m_value_54 at H
  refine Ex.many (f' := (56, [some (.ref 27), some (.int v1), some (.int v2), some (.int v3), some (.int v4), some (.int v5), none], [.int (1 : Int32), .int v1], xSt xG0 hc hr xs g L c z)) ?_ 2 (by rfl)
  refine Ex.ite (ls := [some (.ref 27), some (.int v1), some (.int v2), some (.int v3), some (.int v4), some (.int v5), none]) (st := []) (S := xSt xG0 hc hr xs g L c z) (by rfl) (fun q1 => ?_) (fun q1 => ?_)
  · replace H := (if_pos q1).symm.trans H
    refine Ex.many (f' := (60, [some (.ref 27), some (.int v1), some (.int v2), some (.int v3), some (.int v4), some (.int v5), none], [.int v3], xSt xG0 hc hr xs g L c z)) ?_ 1 (by rfl)
    refine Ex.ite (ls := [some (.ref 27), some (.int v1), some (.int v2), some (.int v3), some (.int v4), some (.int v5), none]) (st := []) (S := xSt xG0 hc hr xs g L c z) (by rfl) (fun q2 => ?_) (fun q2 => ?_)
    · replace H := (if_pos q2).symm.trans H
      refine Ex.kill (ls' := [some (.ref 27), some (.int v1), some (.int v2), none, some (.int v4), none, none]) (by rfl) ?_
      exact T_m_value_81 v1 v2 v4 hr r H
    · replace H := (if_neg q2).symm.trans H
      refine Ex.many (f' := (69, [some (.ref 27), some (.int v1), some (.int v2), none, some (.int v4), some (.int v5), none], [.int v5, .ref 30], xSt xG0 hc hr xs g L c z)) ?_ 3 (by rfl)
      obtain ⟨g3, H⟩ := xgd_some H
      refine Ex.guard (f' := (70, [some (.ref 27), some (.int v1), some (.int v2), none, some (.int v4), some (.int v5), none], [.int (hr 30 v5.toNatClampNeg)], xSt xG0 hc hr xs g L c z)) (by rfl) g3 ?_
      refine Ex.many (f' := (76, [some (.ref 27), some (.int v1), some (.int v2), none, some (.int v4), some (.int v5), none], [.int v5, .ref 31, .int (hr 30 v5.toNatClampNeg)], xSt xG0 hc hr xs g L c z)) ?_ 3 (by rfl)
      obtain ⟨g4, H⟩ := xgd_some H
      refine Ex.guard (f' := (77, [some (.ref 27), some (.int v1), some (.int v2), none, some (.int v4), some (.int v5), none], [.int (hr 31 v5.toNatClampNeg), .int (hr 30 v5.toNatClampNeg)], xSt xG0 hc hr xs g L c z)) (by rfl) g4 ?_
      refine Ex.many (f' := (91, [some (.ref 27), some (.int v1), some (.int v2), none, some (.int v4), some (.int v5), none], [.int ((hr 30 v5.toNatClampNeg) + (hr 31 v5.toNatClampNeg))], xSt xG0 hc hr xs g L c z)) ?_ 2 (by rfl)
      refine Ex.kill (ls' := [some (.ref 27), some (.int v1), some (.int v2), none, some (.int v4), none, none]) (by rfl) ?_
      exact T_m_value_91 v1 v2 v4 ((hr 30 v5.toNatClampNeg) + (hr 31 v5.toNatClampNeg)) hr r H
  · replace H := (if_neg q1).symm.trans H
    refine Ex.kill (ls' := [some (.ref 27), some (.int v1), some (.int v2), none, some (.int v4), none, none]) (by rfl) ?_
    exact T_m_value_81 v1 v2 v4 hr r H
def f_m_value_28 (v1 : Int32) (v2 : Int32) (v3 : Int32) (s0 : Int32) (hr : xI) : Option (Int32 × xI) :=
  xgd s0 6 (if v1 = 0 then (if v3 = 0 then (f_m_value_54 v1 v2 v3 s0 (hr 47 s0.toNatClampNeg) hr) else (f_m_value_91 v1 v2 s0 (hr 27 33) hr)) else (f_m_value_54 v1 v2 v3 s0 (hr 47 s0.toNatClampNeg) hr))
theorem T_m_value_28 {hc : xI} {g : xJ} {xs : Nat → Int32} {L c z : Nat} (v1 : Int32) (v2 : Int32) (v3 : Int32) (s0 : Int32) (hr : xI) (r : (Int32 × xI)) (H : f_m_value_28 v1 v2 v3 s0 hr = some r) : Ex 0 166 (28, [some (.ref 27), some (.int v1), some (.int v2), some (.int v3), none, none, none], [.int s0], xSt xG0 hc hr xs g L c z) (.inl (some (.int r.1)), xSt xG0 hc r.2 xs g L c z) := by
  unfold f_m_value_28 at H
  refine Ex.many (f' := (36, [some (.ref 27), some (.int v1), some (.int v2), some (.int v3), some (.int s0), none, none], [.int s0, .ref 47], xSt xG0 hc hr xs g L c z)) ?_ 4 (by rfl)
  obtain ⟨g1, H⟩ := xgd_some H
  refine Ex.guard (f' := (37, [some (.ref 27), some (.int v1), some (.int v2), some (.int v3), some (.int s0), none, none], [.int (hr 47 s0.toNatClampNeg)], xSt xG0 hc hr xs g L c z)) (by rfl) g1 ?_
  refine Ex.many (f' := (40, [some (.ref 27), some (.int v1), some (.int v2), some (.int v3), some (.int s0), some (.int (hr 47 s0.toNatClampNeg)), none], [.int v1], xSt xG0 hc hr xs g L c z)) ?_ 2 (by rfl)
  refine Ex.ite (ls := [some (.ref 27), some (.int v1), some (.int v2), some (.int v3), some (.int s0), some (.int (hr 47 s0.toNatClampNeg)), none]) (st := []) (S := xSt xG0 hc hr xs g L c z) (by rfl) (fun q2 => ?_) (fun q2 => ?_)
  · replace H := (if_pos q2).symm.trans H
    refine Ex.many (f' := (44, [some (.ref 27), some (.int v1), some (.int v2), some (.int v3), some (.int s0), some (.int (hr 47 s0.toNatClampNeg)), none], [.int v3], xSt xG0 hc hr xs g L c z)) ?_ 1 (by rfl)
    refine Ex.ite (ls := [some (.ref 27), some (.int v1), some (.int v2), some (.int v3), some (.int s0), some (.int (hr 47 s0.toNatClampNeg)), none]) (st := []) (S := xSt xG0 hc hr xs g L c z) (by rfl) (fun q3 => ?_) (fun q3 => ?_)
    · replace H := (if_pos q3).symm.trans H
      exact T_m_value_54 v1 v2 v3 s0 (hr 47 s0.toNatClampNeg) hr r H
    · replace H := (if_neg q3).symm.trans H
      refine Ex.many (f' := (91, [some (.ref 27), some (.int v1), some (.int v2), none, some (.int s0), none, none], [.int (hr 27 33)], xSt xG0 hc hr xs g L c z)) ?_ 3 (by rfl)
      exact T_m_value_91 v1 v2 s0 (hr 27 33) hr r H
  · replace H := (if_neg q2).symm.trans H
    exact T_m_value_54 v1 v2 v3 s0 (hr 47 s0.toNatClampNeg) hr r H
def f_m_value_13 (v1 : Int32) (v2 : Int32) (s0 : Int32) (hr : xI) : Option (Int32 × xI) :=
  if s0 = 0 then (f_m_value_28 v1 v2 s0 (0 : Int32) hr) else (f_m_value_28 v1 v2 s0 ((hr 27 35) - (1 : Int32)) hr)
theorem T_m_value_13 {hc : xI} {g : xJ} {xs : Nat → Int32} {L c z : Nat} (v1 : Int32) (v2 : Int32) (s0 : Int32) (hr : xI) (r : (Int32 × xI)) (H : f_m_value_13 v1 v2 s0 hr = some r) : Ex 0 166 (13, [some (.ref 27), some (.int v1), some (.int v2), none, none, none, none], [.int s0], xSt xG0 hc hr xs g L c z) (.inl (some (.int r.1)), xSt xG0 hc r.2 xs g L c z) := by
  unfold f_m_value_13 at H
  refine Ex.many (f' := (15, [some (.ref 27), some (.int v1), some (.int v2), some (.int s0), none, none, none], [.int s0], xSt xG0 hc hr xs g L c z)) ?_ 2 (by rfl)
  refine Ex.ite (ls := [some (.ref 27), some (.int v1), some (.int v2), some (.int s0), none, none, none]) (st := []) (S := xSt xG0 hc hr xs g L c z) (by rfl) (fun q1 => ?_) (fun q1 => ?_)
  · replace H := (if_pos q1).symm.trans H
    refine Ex.many (f' := (28, [some (.ref 27), some (.int v1), some (.int v2), some (.int s0), none, none, none], [.int (0 : Int32)], xSt xG0 hc hr xs g L c z)) ?_ 1 (by rfl)
    exact T_m_value_28 v1 v2 s0 (0 : Int32) hr r H
  · replace H := (if_neg q1).symm.trans H
    refine Ex.many (f' := (28, [some (.ref 27), some (.int v1), some (.int v2), some (.int s0), none, none, none], [.int ((hr 27 35) - (1 : Int32))], xSt xG0 hc hr xs g L c z)) ?_ 5 (by rfl)
    exact T_m_value_28 v1 v2 s0 ((hr 27 35) - (1 : Int32)) hr r H
def f_m_value (a1 : Int32) (a2 : Int32) (hr : xI) : Option (Int32 × xI) :=
  if (hr 27 1) = (2 : Int32) then (f_m_value_13 a1 a2 (1 : Int32) hr) else (f_m_value_13 a1 a2 (0 : Int32) hr)
theorem T_m_value {hc : xI} {g : xJ} {xs : Nat → Int32} {L c z : Nat} (a1 : Int32) (a2 : Int32) (hr : xI) (r : (Int32 × xI)) (H : f_m_value a1 a2 hr = some r) : Ex 0 166 (0, [some (.ref 27), some (.int a1), some (.int a2), none, none, none, none], [], xSt xG0 hc hr xs g L c z) (.inl (some (.int r.1)), xSt xG0 hc r.2 xs g L c z) := by
  unfold f_m_value at H
  refine Ex.many (f' := (5, [some (.ref 27), some (.int a1), some (.int a2), none, none, none, none], [.int (2 : Int32), .int (hr 27 1)], xSt xG0 hc hr xs g L c z)) ?_ 3 (by rfl)
  refine Ex.ite (ls := [some (.ref 27), some (.int a1), some (.int a2), none, none, none, none]) (st := []) (S := xSt xG0 hc hr xs g L c z) (by rfl) (fun q1 => ?_) (fun q1 => ?_)
  · replace H := (if_pos q1).symm.trans H
    refine Ex.many (f' := (13, [some (.ref 27), some (.int a1), some (.int a2), none, none, none, none], [.int (1 : Int32)], xSt xG0 hc hr xs g L c z)) ?_ 2 (by rfl)
    exact T_m_value_13 a1 a2 (1 : Int32) hr r H
  · replace H := (if_neg q1).symm.trans H
    refine Ex.many (f' := (13, [some (.ref 27), some (.int a1), some (.int a2), none, none, none, none], [.int (0 : Int32)], xSt xG0 hc hr xs g L c z)) ?_ 1 (by rfl)
    exact T_m_value_13 a1 a2 (0 : Int32) hr r H
def f_m_peek (a1 : Int32) (hr : xI) : Option (Int32 × xI) :=
  if a1 < 0 then (some ((-1 : Int32), (xput hr 27 0 (0 : Int32)))) else (if a1 < ((64 : Int32) * (hr 27 27)) then (xgd a1 256 (some ((hr 43 a1.toNatClampNeg), (xput hr 27 0 (0 : Int32))))) else (some ((-1 : Int32), (xput hr 27 0 (0 : Int32)))))
theorem T_m_peek {hc : xI} {g : xJ} {xs : Nat → Int32} {L c z : Nat} (a1 : Int32) (hr : xI) (r : (Int32 × xI)) (H : f_m_peek a1 hr = some r) : Ex 0 167 (0, [some (.ref 27), some (.int a1)], [], xSt xG0 hc hr xs g L c z) (.inl (some (.int r.1)), xSt xG0 hc r.2 xs g L c z) := by
  unfold f_m_peek at H
  refine Ex.many (f' := (2, [some (.ref 27), some (.int a1)], [.int (0 : Int32), .ref 27], xSt xG0 hc hr xs g L c z)) ?_ 2 (by rfl)
  refine Ex.putR (pc := 5) (k := 27) (j := 0) (v := (0 : Int32)) (ls := [some (.ref 27), some (.int a1)]) (st := []) (hr := hr) ?_ (by rfl) (by rfl)
  refine Ex.many (f' := (6, [some (.ref 27), some (.int a1)], [.int a1], xSt xG0 hc (xput hr 27 0 (0 : Int32)) xs g L c z)) ?_ 1 (by rfl)
  refine Ex.ite (ls := [some (.ref 27), some (.int a1)]) (st := []) (S := xSt xG0 hc (xput hr 27 0 (0 : Int32)) xs g L c z) (by rfl) (fun q1 => ?_) (fun q1 => ?_)
  · replace H := (if_pos q1).symm.trans H
    refine Ex.many (f' := (30, [none, none], [.int (-1 : Int32)], xSt xG0 hc (xput hr 27 0 (0 : Int32)) xs g L c z)) ?_ 2 (by rfl)
    replace H := Option.some.inj H
    subst H
    exact Ex.done (by rfl)
  · replace H := (if_neg q1).symm.trans H
    refine Ex.many (f' := (17, [some (.ref 27), some (.int a1)], [.int ((64 : Int32) * (hr 27 27)), .int a1], xSt xG0 hc (xput hr 27 0 (0 : Int32)) xs g L c z)) ?_ 5 (by rfl)
    refine Ex.ite (ls := [some (.ref 27), some (.int a1)]) (st := []) (S := xSt xG0 hc (xput hr 27 0 (0 : Int32)) xs g L c z) (by rfl) (fun q2 => ?_) (fun q2 => ?_)
    · replace H := (if_pos q2).symm.trans H
      refine Ex.many (f' := (29, [some (.ref 27), some (.int a1)], [.int a1, .ref 43], xSt xG0 hc (xput hr 27 0 (0 : Int32)) xs g L c z)) ?_ 3 (by rfl)
      obtain ⟨g3, H⟩ := xgd_some H
      refine Ex.guard (f' := (30, [some (.ref 27), some (.int a1)], [.int (hr 43 a1.toNatClampNeg)], xSt xG0 hc (xput hr 27 0 (0 : Int32)) xs g L c z)) (by rfl) g3 ?_
      replace H := Option.some.inj H
      subst H
      exact Ex.done (by rfl)
    · replace H := (if_neg q2).symm.trans H
      refine Ex.many (f' := (30, [none, none], [.int (-1 : Int32)], xSt xG0 hc (xput hr 27 0 (0 : Int32)) xs g L c z)) ?_ 2 (by rfl)
      replace H := Option.some.inj H
      subst H
      exact Ex.done (by rfl)
def f_m_poke (a1 : Int32) (a2 : Int32) (hr : xI) : Option (Int32 × xI) :=
  if a1 < 0 then (some ((0 : Int32), (xput hr 27 0 (0 : Int32)))) else (if ((64 : Int32) * (hr 27 27)) ≤ a1 then (some ((0 : Int32), (xput hr 27 0 (0 : Int32)))) else (if (hr 27 1) = (2 : Int32) then (some ((0 : Int32), (xput hr 27 0 (0 : Int32)))) else (xgd a1 256 (some ((1 : Int32), (xput (xput hr 27 0 (0 : Int32)) 43 a1.toNatClampNeg (a2 &&& (255 : Int32))))))))
theorem T_m_poke {hc : xI} {g : xJ} {xs : Nat → Int32} {L c z : Nat} (a1 : Int32) (a2 : Int32) (hr : xI) (r : (Int32 × xI)) (H : f_m_poke a1 a2 hr = some r) : Ex 0 168 (0, [some (.ref 27), some (.int a1), some (.int a2)], [], xSt xG0 hc hr xs g L c z) (.inl (some (.int r.1)), xSt xG0 hc r.2 xs g L c z) := by
  unfold f_m_poke at H
  refine Ex.many (f' := (2, [some (.ref 27), some (.int a1), some (.int a2)], [.int (0 : Int32), .ref 27], xSt xG0 hc hr xs g L c z)) ?_ 2 (by rfl)
  refine Ex.putR (pc := 5) (k := 27) (j := 0) (v := (0 : Int32)) (ls := [some (.ref 27), some (.int a1), some (.int a2)]) (st := []) (hr := hr) ?_ (by rfl) (by rfl)
  refine Ex.many (f' := (6, [some (.ref 27), some (.int a1), some (.int a2)], [.int a1], xSt xG0 hc (xput hr 27 0 (0 : Int32)) xs g L c z)) ?_ 1 (by rfl)
  refine Ex.ite (ls := [some (.ref 27), some (.int a1), some (.int a2)]) (st := []) (S := xSt xG0 hc (xput hr 27 0 (0 : Int32)) xs g L c z) (by rfl) (fun q1 => ?_) (fun q1 => ?_)
  · replace H := (if_pos q1).symm.trans H
    refine Ex.many (f' := (29, [none, none, none], [.int (0 : Int32)], xSt xG0 hc (xput hr 27 0 (0 : Int32)) xs g L c z)) ?_ 1 (by rfl)
    replace H := Option.some.inj H
    subst H
    exact Ex.done (by rfl)
  · replace H := (if_neg q1).symm.trans H
    refine Ex.many (f' := (17, [some (.ref 27), some (.int a1), some (.int a2)], [.int ((64 : Int32) * (hr 27 27)), .int a1], xSt xG0 hc (xput hr 27 0 (0 : Int32)) xs g L c z)) ?_ 5 (by rfl)
    refine Ex.ite (ls := [some (.ref 27), some (.int a1), some (.int a2)]) (st := []) (S := xSt xG0 hc (xput hr 27 0 (0 : Int32)) xs g L c z) (by rfl) (fun q2 => ?_) (fun q2 => ?_)
    · replace H := (if_pos q2).symm.trans H
      refine Ex.many (f' := (29, [none, none, none], [.int (0 : Int32)], xSt xG0 hc (xput hr 27 0 (0 : Int32)) xs g L c z)) ?_ 1 (by rfl)
      replace H := Option.some.inj H
      subst H
      exact Ex.done (by rfl)
    · replace H := (if_neg q2).symm.trans H
      refine Ex.many (f' := (25, [some (.ref 27), some (.int a1), some (.int a2)], [.int (2 : Int32), .int (hr 27 1)], xSt xG0 hc (xput hr 27 0 (0 : Int32)) xs g L c z)) ?_ 3 (by rfl)
      refine Ex.ite (ls := [some (.ref 27), some (.int a1), some (.int a2)]) (st := []) (S := xSt xG0 hc (xput hr 27 0 (0 : Int32)) xs g L c z) (by rfl) (fun q3 => ?_) (fun q3 => ?_)
      · replace H := (if_pos q3).symm.trans H
        refine Ex.many (f' := (29, [none, none, none], [.int (0 : Int32)], xSt xG0 hc (xput hr 27 0 (0 : Int32)) xs g L c z)) ?_ 1 (by rfl)
        replace H := Option.some.inj H
        subst H
        exact Ex.done (by rfl)
      · replace H := (if_neg q3).symm.trans H
        refine Ex.many (f' := (40, [some (.ref 27), some (.int a1), some (.int a2)], [.int (a2 &&& (255 : Int32)), .int a1, .ref 43], xSt xG0 hc (xput hr 27 0 (0 : Int32)) xs g L c z)) ?_ 6 (by rfl)
        obtain ⟨g4, H⟩ := xgd_some H
        refine Ex.gputR (pc := 41) (k := 43) (n := 256) (i := a1) (v := (a2 &&& (255 : Int32))) (ls := [some (.ref 27), some (.int a1), some (.int a2)]) (st := []) (hr := (xput hr 27 0 (0 : Int32))) ?_ (by rfl) g4 (by rfl)
        refine Ex.many (f' := (42, [some (.ref 27), some (.int a1), some (.int a2)], [.int (1 : Int32)], xSt xG0 hc (xput (xput hr 27 0 (0 : Int32)) 43 a1.toNatClampNeg (a2 &&& (255 : Int32))) xs g L c z)) ?_ 1 (by rfl)
        replace H := Option.some.inj H
        subst H
        exact Ex.done (by rfl)
