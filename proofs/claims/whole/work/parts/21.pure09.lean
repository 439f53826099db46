/-! Methods as functions. -/
def f_m_give_84 (s2 : Int32) (s1 : Int32) (hr : xI) : Option xI :=
  xgd s1 101 (some (xput (xput hr 46 s1.toNatClampNeg s2) 27 33 ((hr 27 33) + (1 : Int32))))
theorem T_m_give_84 {hc : xI} {g : xJ} {xs : Nat → Int32} {L c z : Nat} (s2 : Int32) (s1 : Int32) (hr : xI) (r : xI) (H : f_m_give_84 s2 s1 hr = some r) : Ex 0 162 (84, [some (.ref 27), none, none, none], [.int s2, .int s1, .ref 46], xSt xG0 hc hr xs g L c z) (.inl none, xSt xG0 hc r xs g L c z) := by
  unfold f_m_give_84 at H
  obtain ⟨g1, H⟩ := xgd_some H
  refine Ex.gputR (pc := 85) (k := 46) (n := 101) (i := s1) (v := s2) (ls := [some (.ref 27), none, none, none]) (st := []) (hr := hr) ?_ (by rfl) g1 (by rfl)
  refine Ex.many (f' := (92, [some (.ref 27), none, none, none], [.int ((hr 27 33) + (1 : Int32)), .ref 27], xSt xG0 hc (xput hr 46 s1.toNatClampNeg s2) xs g L c z)) ?_ 5 (by rfl)
  refine Ex.putR (pc := 95) (k := 27) (j := 33) (v := ((hr 27 33) + (1 : Int32))) (ls := [some (.ref 27), none, none, none]) (st := []) (hr := (xput hr 46 s1.toNatClampNeg s2)) ?_ (by rfl) (by rfl)
  replace H := Option.some.inj H
  subst H
  exact Ex.done (by rfl)
def f_m_give_40 (s4 : Int32) (s3 : Int32) (s1 : Int32) (hr : xI) : Option xI :=
  xgd (s3 + s4) 48 (f_m_give_84 (hr 50 (s3 + s4).toNatClampNeg) s1 hr)
theorem T_m_give_40 {hc : xI} {g : xJ} {xs : Nat → Int32} {L c z : Nat} (s4 : Int32) (s3 : Int32) (s1 : Int32) (hr : xI) (r : xI) (H : f_m_give_40 s4 s3 s1 hr = some r) : Ex 0 162 (40, [some (.ref 27), none, none, none], [.int s4, .int s3, .ref 50, .int s1, .ref 46], xSt xG0 hc hr xs g L c z) (.inl none, xSt xG0 hc r xs g L c z) := by
  unfold f_m_give_40 at H
  refine Ex.many (f' := (41, [some (.ref 27), none, none, none], [.int (s3 + s4), .ref 50, .int s1, .ref 46], xSt xG0 hc hr xs g L c z)) ?_ 1 (by rfl)
  obtain ⟨g1, H⟩ := xgd_some H
  refine Ex.guard (f' := (42, [some (.ref 27), none, none, none], [.int (hr 50 (s3 + s4).toNatClampNeg), .int s1, .ref 46], xSt xG0 hc hr xs g L c z)) (by rfl) g1 ?_
  refine Ex.many (f' := (84, [some (.ref 27), none, none, none], [.int (hr 50 (s3 + s4).toNatClampNeg), .int s1, .ref 46], xSt xG0 hc hr xs g L c z)) ?_ 1 (by rfl)
  exact T_m_give_84 (hr 50 (s3 + s4).toNatClampNeg) s1 hr r H
def f_m_give_66 (s3 : Int32) (s1 : Int32) (hr : xI) : Option xI :=
  xgd s3 4 (f_m_give_84 (hr 44 s3.toNatClampNeg) s1 hr)
theorem T_m_give_66 {hc : xI} {g : xJ} {xs : Nat → Int32} {L c z : Nat} (s3 : Int32) (s1 : Int32) (hr : xI) (r : xI) (H : f_m_give_66 s3 s1 hr = some r) : Ex 0 162 (66, [some (.ref 27), none, none, none], [.int s3, .ref 44, .int s1, .ref 46], xSt xG0 hc hr xs g L c z) (.inl none, xSt xG0 hc r xs g L c z) := by
  unfold f_m_give_66 at H
  obtain ⟨g1, H⟩ := xgd_some H
  refine Ex.guard (f' := (67, [some (.ref 27), none, none, none], [.int (hr 44 s3.toNatClampNeg), .int s1, .ref 46], xSt xG0 hc hr xs g L c z)) (by rfl) g1 ?_
  refine Ex.many (f' := (84, [some (.ref 27), none, none, none], [.int (hr 44 s3.toNatClampNeg), .int s1, .ref 46], xSt xG0 hc hr xs g L c z)) ?_ 1 (by rfl)
  exact T_m_give_84 (hr 44 s3.toNatClampNeg) s1 hr r H
def f_m_give (a1 : Int32) (a2 : Int32) (hr : xI) : Option xI :=
  if a1 = (32 : Int32) then (if a1 = (32 : Int32) then (f_m_give_40 a2 ((8 : Int32) * ((hr 27 35) - (1 : Int32))) (hr 27 33) hr) else (f_m_give_40 (0 : Int32) ((8 : Int32) * ((hr 27 35) - (1 : Int32))) (hr 27 33) hr)) else (if a1 = (35 : Int32) then (if a1 = (35 : Int32) then (f_m_give_66 a2 (hr 27 33) hr) else (f_m_give_66 (0 : Int32) (hr 27 33) hr)) else (if a1 = (63 : Int32) then (f_m_give_84 (hr 27 27) (hr 27 33) hr) else (f_m_give_84 a2 (hr 27 33) hr)))
theorem T_m_give {hc : xI} {g : xJ} {xs : Nat → Int32} {L c z : Nat} (a1 : Int32) (a2 : Int32) (hr : xI) (r : xI) (H : f_m_give a1 a2 hr = some r) : Ex 0 162 (0, [some (.ref 27), some (.int a1), some (.int a2), none], [], xSt xG0 hc hr xs g L c z) (.inl none, xSt xG0 hc r xs g L c z) := by
  unfold f_m_give at H
  refine Ex.many (f' := (21, [some (.ref 27), some (.int a1), some (.int a2), some (.int ((8 : Int32) * ((hr 27 35) - (1 : Int32))))], [.int (32 : Int32), .int a1, .int (hr 27 33), .ref 46], xSt xG0 hc hr xs g L c z)) ?_ 13 (by rfl)
  refine Ex.ite (ls := [some (.ref 27), some (.int a1), some (.int a2), some (.int ((8 : Int32) * ((hr 27 35) - (1 : Int32))))]) (st := [.int (hr 27 33), .ref 46]) (S := xSt xG0 hc hr xs g L c z) (by rfl) (fun q1 => ?_) (fun q1 => ?_)
  · replace H := (if_pos q1).symm.trans H
    refine Ex.many (f' := (32, [some (.ref 27), some (.int a1), some (.int a2), some (.int ((8 : Int32) * ((hr 27 35) - (1 : Int32))))], [.int (32 : Int32), .int a1, .int ((8 : Int32) * ((hr 27 35) - (1 : Int32))), .ref 50, .int (hr 27 33), .ref 46], xSt xG0 hc hr xs g L c z)) ?_ 5 (by rfl)
    refine Ex.ite (ls := [some (.ref 27), some (.int a1), some (.int a2), some (.int ((8 : Int32) * ((hr 27 35) - (1 : Int32))))]) (st := [.int ((8 : Int32) * ((hr 27 35) - (1 : Int32))), .ref 50, .int (hr 27 33), .ref 46]) (S := xSt xG0 hc hr xs g L c z) (by rfl) (fun q2 => ?_) (fun q2 => ?_)
    · replace H := (if_pos q2).symm.trans H
      refine Ex.many (f' := (40, [some (.ref 27), none, some (.int a2), none], [.int a2, .int ((8 : Int32) * ((hr 27 35) - (1 : Int32))), .ref 50, .int (hr 27 33), .ref 46], xSt xG0 hc hr xs g L c z)) ?_ 2 (by rfl)
      refine Ex.kill (ls' := [some (.ref 27), none, none, none]) (by rfl) ?_
      exact T_m_give_40 a2 ((8 : Int32) * ((hr 27 35) - (1 : Int32))) (hr 27 33) hr r H
    · replace H := (if_neg q2).symm.trans H
      refine Ex.many (f' := (40, [some (.ref 27), none, none, none], [.int (0 : Int32), .int ((8 : Int32) * ((hr 27 35) - (1 : Int32))), .ref 50, .int (hr 27 33), .ref 46], xSt xG0 hc hr xs g L c z)) ?_ 1 (by rfl)
      exact T_m_give_40 (0 : Int32) ((8 : Int32) * ((hr 27 35) - (1 : Int32))) (hr 27 33) hr r H
  · replace H := (if_neg q1).symm.trans H
    refine Ex.many (f' := (48, [some (.ref 27), some (.int a1), some (.int a2), none], [.int (35 : Int32), .int a1, .int (hr 27 33), .ref 46], xSt xG0 hc hr xs g L c z)) ?_ 2 (by rfl)
    refine Ex.ite (ls := [some (.ref 27), some (.int a1), some (.int a2), none]) (st := [.int (hr 27 33), .ref 46]) (S := xSt xG0 hc hr xs g L c z) (by rfl) (fun q3 => ?_) (fun q3 => ?_)
    · replace H := (if_pos q3).symm.trans H
      refine Ex.many (f' := (58, [some (.ref 27), some (.int a1), some (.int a2), none], [.int (35 : Int32), .int a1, .ref 44, .int (hr 27 33), .ref 46], xSt xG0 hc hr xs g L c z)) ?_ 4 (by rfl)
      refine Ex.ite (ls := [some (.ref 27), some (.int a1), some (.int a2), none]) (st := [.ref 44, .int (hr 27 33), .ref 46]) (S := xSt xG0 hc hr xs g L c z) (by rfl) (fun q4 => ?_) (fun q4 => ?_)
      · replace H := (if_pos q4).symm.trans H
        refine Ex.many (f' := (66, [some (.ref 27), none, some (.int a2), none], [.int a2, .ref 44, .int (hr 27 33), .ref 46], xSt xG0 hc hr xs g L c z)) ?_ 2 (by rfl)
        refine Ex.kill (ls' := [some (.ref 27), none, none, none]) (by rfl) ?_
        exact T_m_give_66 a2 (hr 27 33) hr r H
      · replace H := (if_neg q4).symm.trans H
        refine Ex.many (f' := (66, [some (.ref 27), none, none, none], [.int (0 : Int32), .ref 44, .int (hr 27 33), .ref 46], xSt xG0 hc hr xs g L c z)) ?_ 1 (by rfl)
        exact T_m_give_66 (0 : Int32) (hr 27 33) hr r H
    · replace H := (if_neg q3).symm.trans H
      refine Ex.many (f' := (73, [some (.ref 27), some (.int a1), some (.int a2), none], [.int (63 : Int32), .int a1, .int (hr 27 33), .ref 46], xSt xG0 hc hr xs g L c z)) ?_ 2 (by rfl)
      refine Ex.ite (ls := [some (.ref 27), some (.int a1), some (.int a2), none]) (st := [.int (hr 27 33), .ref 46]) (S := xSt xG0 hc hr xs g L c z) (by rfl) (fun q5 => ?_) (fun q5 => ?_)
      · replace H := (if_pos q5).symm.trans H
        refine Ex.many (f' := (84, [some (.ref 27), none, none, none], [.int (hr 27 27), .int (hr 27 33), .ref 46], xSt xG0 hc hr xs g L c z)) ?_ 3 (by rfl)
        exact T_m_give_84 (hr 27 27) (hr 27 33) hr r H
      · replace H := (if_neg q5).symm.trans H
        refine Ex.many (f' := (84, [some (.ref 27), none, some (.int a2), none], [.int a2, .int (hr 27 33), .ref 46], xSt xG0 hc hr xs g L c z)) ?_ 1 (by rfl)
        refine Ex.kill (ls' := [some (.ref 27), none, none, none]) (by rfl) ?_
        exact T_m_give_84 a2 (hr 27 33) hr r H
def f_m_store_23 : Nat → Int32 → Int32 → Int32 → Int32 → xI → Option xI
  | 0, _, _, _, _, _ => none
  | n + 1, v1, v3, v4, v5, hr => if (f_m_bytesOf v1) ≤ v5 then (some (xput hr 27 33 ((hr 27 33) - (2 : Int32)))) else (xgd (v3 + v5) 256 (f_m_store_23 n v1 v3 (v4 >>> ((8 : Int32) &&& 31)) (v5 + (1 : Int32)) (xput hr 43 (v3 + v5).toNatClampNeg (v4 &&& (255 : Int32)))))
theorem T_m_store_23 {hc : xI} {g : xJ} {xs : Nat → Int32} {L c z : Nat} (n : Nat) : ∀ (v1 : Int32) (v3 : Int32) (v4 : Int32) (v5 : Int32) (hr : xI) (r : xI), f_m_store_23 n v1 v3 v4 v5 hr = some r → Ex 2 153 (23, [some (.ref 27), some (.int v1), none, some (.int v3), some (.int v4), some (.int v5)], [], xSt xG0 hc hr xs g L c z) (.inl none, xSt xG0 hc r xs g L c z) := by
  induction n with
  | zero =>
    intro v1 v3 v4 v5 hr r H
    unfold f_m_store_23 at H
    cases H
  | succ n ih =>
    intro v1 v3 v4 v5 hr r H
    unfold f_m_store_23 at H
    refine Ex.many (f' := (26, [some (.ref 27), some (.int v1), none, some (.int v3), some (.int v4), some (.int v5)], [.int v1, .int v5], xSt xG0 hc hr xs g L c z)) ?_ 2 (by rfl)
    refine Ex.call (mk := 146) (vs := [.int v1]) (rest := [.int v5]) (by rfl) (by rfl) (Ex.up (T_m_bytesOf v1 _ rfl) (by decide)) (xbb c z) ?_
    show Ex _ _ (29, [some (.ref 27), some (.int v1), none, some (.int v3), some (.int v4), some (.int v5)], [.int (f_m_bytesOf v1), .int v5], xSt xG0 hc hr xs g L c z) _
    refine Ex.ite (ls := [some (.ref 27), some (.int v1), none, some (.int v3), some (.int v4), some (.int v5)]) (st := []) (S := xSt xG0 hc hr xs g L c z) (by rfl) (fun q2 => ?_) (fun q2 => ?_)
    · replace H := (if_pos q2).symm.trans H
      refine Ex.many (f' := (67, [some (.ref 27), none, none, none, none, none], [.int ((hr 27 33) - (2 : Int32)), .ref 27], xSt xG0 hc hr xs g L c z)) ?_ 5 (by rfl)
      refine Ex.putR (pc := 70) (k := 27) (j := 33) (v := ((hr 27 33) - (2 : Int32))) (ls := [some (.ref 27), none, none, none, none, none]) (st := []) (hr := hr) ?_ (by rfl) (by rfl)
      replace H := Option.some.inj H
      subst H
      exact Ex.done (by rfl)
    · replace H := (if_neg q2).symm.trans H
      refine Ex.many (f' := (46, [some (.ref 27), some (.int v1), none, some (.int v3), some (.int v4), some (.int v5)], [.int (v4 &&& (255 : Int32)), .int (v3 + v5), .ref 43], xSt xG0 hc hr xs g L c z)) ?_ 8 (by rfl)
      obtain ⟨g3, H⟩ := xgd_some H
      refine Ex.gputR (pc := 47) (k := 43) (n := 256) (i := (v3 + v5)) (v := (v4 &&& (255 : Int32))) (ls := [some (.ref 27), some (.int v1), none, some (.int v3), some (.int v4), some (.int v5)]) (st := []) (hr := hr) ?_ (by rfl) g3 (by rfl)
      refine Ex.many (f' := (23, [some (.ref 27), some (.int v1), none, some (.int v3), some (.int (v4 >>> ((8 : Int32) &&& 31))), some (.int (v5 + (1 : Int32)))], [], xSt xG0 hc (xput hr 43 (v3 + v5).toNatClampNeg (v4 &&& (255 : Int32))) xs g L c z)) ?_ 6 (by rfl)
      exact ih v1 v3 (v4 >>> ((8 : Int32) &&& 31)) (v5 + (1 : Int32)) (xput hr 43 (v3 + v5).toNatClampNeg (v4 &&& (255 : Int32))) r H
def f_m_store (a1 : Int32) (a2 : Int32) (hr : xI) : Option xI :=
  xgd ((hr 27 33) - (2 : Int32)) 101 ((f_m_place (hr 46 ((hr 27 33) - (2 : Int32)).toNatClampNeg) a1 hr).bind fun q2 => f_m_store_23 1000 a1 q2 a2 (0 : Int32) hr)
theorem T_m_store {hc : xI} {g : xJ} {xs : Nat → Int32} {L c z : Nat} (a1 : Int32) (a2 : Int32) (hr : xI) (r : xI) (H : f_m_store a1 a2 hr = some r) : Ex 2 153 (0, [some (.ref 27), some (.int a1), some (.int a2), none, none, none], [], xSt xG0 hc hr xs g L c z) (.inl none, xSt xG0 hc r xs g L c z) := by
  unfold f_m_store at H
  refine Ex.many (f' := (11, [some (.ref 27), some (.int a1), some (.int a2), none, none, none], [.int ((hr 27 33) - (2 : Int32)), .ref 46, .ref 27], xSt xG0 hc hr xs g L c z)) ?_ 7 (by rfl)
  obtain ⟨g1, H⟩ := xgd_some H
  refine Ex.guard (f' := (12, [some (.ref 27), some (.int a1), some (.int a2), none, none, none], [.int (hr 46 ((hr 27 33) - (2 : Int32)).toNatClampNeg), .ref 27], xSt xG0 hc hr xs g L c z)) (by rfl) g1 ?_
  refine Ex.many (f' := (13, [some (.ref 27), some (.int a1), some (.int a2), none, none, none], [.int a1, .int (hr 46 ((hr 27 33) - (2 : Int32)).toNatClampNeg), .ref 27], xSt xG0 hc hr xs g L c z)) ?_ 1 (by rfl)
  obtain ⟨q2, hq2, H⟩ := xbd H
  refine Ex.call (mk := 145) (vs := [.ref 27, .int (hr 46 ((hr 27 33) - (2 : Int32)).toNatClampNeg), .int a1]) (rest := []) (by rfl) (by rfl) (Ex.up (T_m_place (hr 46 ((hr 27 33) - (2 : Int32)).toNatClampNeg) a1 hr q2 hq2) (by decide)) (xbb c z) ?_
  show Ex _ _ (16, [some (.ref 27), some (.int a1), some (.int a2), none, none, none], [.int q2], xSt xG0 hc hr xs g L c z) _
  refine Ex.many (f' := (23, [some (.ref 27), some (.int a1), some (.int a2), some (.int q2), some (.int a2), some (.int (0 : Int32))], [], xSt xG0 hc hr xs g L c z)) ?_ 5 (by rfl)
  refine Ex.kill (ls' := [some (.ref 27), some (.int a1), none, some (.int q2), some (.int a2), some (.int (0 : Int32))]) (by rfl) ?_
  exact T_m_store_23 1000 a1 q2 a2 (0 : Int32) hr r H
def f_m_plain_226 (v1 : Int32) (hr : xI) : Option xI :=
  some (xput hr 27 32 ((hr 27 32) + ((1 : Int32) + (f_m_immediates v1))))
theorem T_m_plain_226 {hc : xI} {g : xJ} {xs : Nat → Int32} {L c z : Nat} (v1 : Int32) (hr : xI) (r : xI) (H : f_m_plain_226 v1 hr = some r) : Ex 3 152 (226, [some (.ref 27), some (.int v1), none, none, none, none], [], xSt xG0 hc hr xs g L c z) (.inl none, xSt xG0 hc r xs g L c z) := by
  unfold f_m_plain_226 at H
  refine Ex.many (f' := (233, [some (.ref 27), some (.int v1), none, none, none, none], [.int v1, .int (1 : Int32), .int (hr 27 32), .ref 27], xSt xG0 hc hr xs g L c z)) ?_ 5 (by rfl)
  refine Ex.call (mk := 121) (vs := [.int v1]) (rest := [.int (1 : Int32), .int (hr 27 32), .ref 27]) (by rfl) (by rfl) (Ex.up (T_m_immediates v1 _ rfl) (by decide)) (xbb c z) ?_
  show Ex _ _ (236, [some (.ref 27), some (.int v1), none, none, none, none], [.int (f_m_immediates v1), .int (1 : Int32), .int (hr 27 32), .ref 27], xSt xG0 hc hr xs g L c z) _
  refine Ex.many (f' := (238, [none, none, none, none, none, none], [.int ((hr 27 32) + ((1 : Int32) + (f_m_immediates v1))), .ref 27], xSt xG0 hc hr xs g L c z)) ?_ 2 (by rfl)
  refine Ex.putR (pc := 241) (k := 27) (j := 32) (v := ((hr 27 32) + ((1 : Int32) + (f_m_immediates v1)))) (ls := [none, none, none, none, none, none]) (st := []) (hr := hr) ?_ (by rfl) (by rfl)
  replace H := Option.some.inj H
  subst H
  exact Ex.done (by rfl)
def f_m_plain_99 (v1 : Int32) (s2 : Int32) (s1 : Int32) (hr : xI) : Option xI :=
  xgd s1 101 (f_m_plain_226 v1 (xput hr 46 s1.toNatClampNeg s2))
theorem T_m_plain_99 {hc : xI} {g : xJ} {xs : Nat → Int32} {L c z : Nat} (v1 : Int32) (s2 : Int32) (s1 : Int32) (hr : xI) (r : xI) (H : f_m_plain_99 v1 s2 s1 hr = some r) : Ex 3 152 (99, [some (.ref 27), some (.int v1), none, none, none, none], [.int s2, .int s1, .ref 46], xSt xG0 hc hr xs g L c z) (.inl none, xSt xG0 hc r xs g L c z) := by
  unfold f_m_plain_99 at H
  obtain ⟨g1, H⟩ := xgd_some H
  refine Ex.gputR (pc := 100) (k := 46) (n := 101) (i := s1) (v := s2) (ls := [some (.ref 27), some (.int v1), none, none, none, none]) (st := []) (hr := hr) ?_ (by rfl) g1 (by rfl)
  refine Ex.many (f' := (226, [some (.ref 27), some (.int v1), none, none, none, none], [], xSt xG0 hc (xput hr 46 s1.toNatClampNeg s2) xs g L c z)) ?_ 1 (by rfl)
  exact T_m_plain_226 v1 (xput hr 46 s1.toNatClampNeg s2) r H
def f_m_plain_197 (v1 : Int32) (s2 : Int32) (s1 : Int32) (hr : xI) : Option xI :=
  xgd s1 101 (f_m_plain_226 v1 (xput hr 46 s1.toNatClampNeg s2))
theorem T_m_plain_197 {hc : xI} {g : xJ} {xs : Nat → Int32} {L c z : Nat} (v1 : Int32) (s2 : Int32) (s1 : Int32) (hr : xI) (r : xI) (H : f_m_plain_197 v1 s2 s1 hr = some r) : Ex 3 152 (197, [some (.ref 27), some (.int v1), none, none, none, none], [.int s2, .int s1, .ref 46], xSt xG0 hc hr xs g L c z) (.inl none, xSt xG0 hc r xs g L c z) := by
  unfold f_m_plain_197 at H
  obtain ⟨g1, H⟩ := xgd_some H
  refine Ex.gputR (pc := 198) (k := 46) (n := 101) (i := s1) (v := s2) (ls := [some (.ref 27), some (.int v1), none, none, none, none]) (st := []) (hr := hr) ?_ (by rfl) g1 (by rfl)
  refine Ex.many (f' := (226, [some (.ref 27), some (.int v1), none, none, none, none], [], xSt xG0 hc (xput hr 46 s1.toNatClampNeg s2) xs g L c z)) ?_ 1 (by rfl)
  exact T_m_plain_226 v1 (xput hr 46 s1.toNatClampNeg s2) r H
def f_m_plain_189 (v1 : Int32) (v4 : Int32) (v5 : Int32) (s1 : Int32) (hr : xI) : Option xI :=
  f_m_plain_197 v1 (f_m_reckon v1 v5 v4) s1 hr
theorem T_m_plain_189 {hc : xI} {g : xJ} {xs : Nat → Int32} {L c z : Nat} (v1 : Int32) (v4 : Int32) (v5 : Int32) (s1 : Int32) (hr : xI) (r : xI) (H : f_m_plain_189 v1 v4 v5 s1 hr = some r) : Ex 3 152 (189, [some (.ref 27), some (.int v1), none, none, some (.int v4), some (.int v5)], [.int s1, .ref 46], xSt xG0 hc hr xs g L c z) (.inl none, xSt xG0 hc r xs g L c z) := by
  unfold f_m_plain_189 at H
  refine Ex.many (f' := (194, [some (.ref 27), some (.int v1), none, none, some (.int v4), some (.int v5)], [.int v4, .int v5, .int v1, .int s1, .ref 46], xSt xG0 hc hr xs g L c z)) ?_ 3 (by rfl)
  refine Ex.call (mk := 157) (vs := [.int v1, .int v5, .int v4]) (rest := [.int s1, .ref 46]) (by rfl) (by rfl) (Ex.up (T_m_reckon v1 v5 v4 _ rfl) (by decide)) (xbb c z) ?_
  show Ex _ _ (197, [some (.ref 27), some (.int v1), none, none, some (.int v4), some (.int v5)], [.int (f_m_reckon v1 v5 v4), .int s1, .ref 46], xSt xG0 hc hr xs g L c z) _
  refine Ex.kill (ls' := [some (.ref 27), some (.int v1), none, none, none, none]) (by rfl) ?_
  exact T_m_plain_197 v1 (f_m_reckon v1 v5 v4) s1 hr r H
def f_m_plain_131 (v1 : Int32) (v4 : Int32) (v5 : Int32) (hr : xI) : Option xI :=
  if (80 : Int32) ≤ v1 then (if v1 < (109 : Int32) then (f_m_plain_189 v1 v4 v5 ((hr 27 33) - (1 : Int32)) hr) else (if (112 : Int32) < v1 then (f_m_plain_189 v1 v4 v5 ((hr 27 33) - (1 : Int32)) hr) else ((f_m_divide v1 v5 v4).bind fun q4 => f_m_plain_197 v1 q4 ((hr 27 33) - (1 : Int32)) hr))) else ((f_m_compare v1 v5 v4).bind fun q5 => if q5 = 0 then (f_m_plain_197 v1 (0 : Int32) ((hr 27 33) - (1 : Int32)) hr) else (f_m_plain_197 v1 (1 : Int32) ((hr 27 33) - (1 : Int32)) hr))
theorem T_m_plain_131 {hc : xI} {g : xJ} {xs : Nat → Int32} {L c z : Nat} (v1 : Int32) (v4 : Int32) (v5 : Int32) (hr : xI) (r : xI) (H : f_m_plain_131 v1 v4 v5 hr = some r) : Ex 3 152 (131, [some (.ref 27), some (.int v1), none, none, some (.int v4), some (.int v5)], [], xSt xG0 hc hr xs g L c z) (.inl none, xSt xG0 hc r xs g L c z) := by
  unfold f_m_plain_131 at H
  refine Ex.many (f' := (144, [some (.ref 27), some (.int v1), none, none, some (.int v4), some (.int v5)], [.int (80 : Int32), .int v1, .int ((hr 27 33) - (1 : Int32)), .ref 46], xSt xG0 hc hr xs g L c z)) ?_ 8 (by rfl)
  refine Ex.ite (ls := [some (.ref 27), some (.int v1), none, none, some (.int v4), some (.int v5)]) (st := [.int ((hr 27 33) - (1 : Int32)), .ref 46]) (S := xSt xG0 hc hr xs g L c z) (by rfl) (fun q1 => ?_) (fun q1 => ?_)
  · replace H := (if_pos q1).symm.trans H
    refine Ex.many (f' := (169, [some (.ref 27), some (.int v1), none, none, some (.int v4), some (.int v5)], [.int (109 : Int32), .int v1, .int ((hr 27 33) - (1 : Int32)), .ref 46], xSt xG0 hc hr xs g L c z)) ?_ 2 (by rfl)
    refine Ex.ite (ls := [some (.ref 27), some (.int v1), none, none, some (.int v4), some (.int v5)]) (st := [.int ((hr 27 33) - (1 : Int32)), .ref 46]) (S := xSt xG0 hc hr xs g L c z) (by rfl) (fun q2 => ?_) (fun q2 => ?_)
    · replace H := (if_pos q2).symm.trans H
      exact T_m_plain_189 v1 v4 v5 ((hr 27 33) - (1 : Int32)) hr r H
    · replace H := (if_neg q2).symm.trans H
      refine Ex.many (f' := (175, [some (.ref 27), some (.int v1), none, none, some (.int v4), some (.int v5)], [.int (112 : Int32), .int v1, .int ((hr 27 33) - (1 : Int32)), .ref 46], xSt xG0 hc hr xs g L c z)) ?_ 2 (by rfl)
      refine Ex.ite (ls := [some (.ref 27), some (.int v1), none, none, some (.int v4), some (.int v5)]) (st := [.int ((hr 27 33) - (1 : Int32)), .ref 46]) (S := xSt xG0 hc hr xs g L c z) (by rfl) (fun q3 => ?_) (fun q3 => ?_)
      · replace H := (if_pos q3).symm.trans H
        exact T_m_plain_189 v1 v4 v5 ((hr 27 33) - (1 : Int32)) hr r H
      · replace H := (if_neg q3).symm.trans H
        refine Ex.many (f' := (183, [some (.ref 27), some (.int v1), none, none, some (.int v4), some (.int v5)], [.int v4, .int v5, .int v1, .int ((hr 27 33) - (1 : Int32)), .ref 46], xSt xG0 hc hr xs g L c z)) ?_ 3 (by rfl)
        obtain ⟨q4, hq4, H⟩ := xbd H
        refine Ex.call (mk := 156) (vs := [.int v1, .int v5, .int v4]) (rest := [.int ((hr 27 33) - (1 : Int32)), .ref 46]) (by rfl) (by rfl) (Ex.up (T_m_divide v1 v5 v4 q4 hq4) (by decide)) (xbb c z) ?_
        show Ex _ _ (186, [some (.ref 27), some (.int v1), none, none, some (.int v4), some (.int v5)], [.int q4, .int ((hr 27 33) - (1 : Int32)), .ref 46], xSt xG0 hc hr xs g L c z) _
        refine Ex.many (f' := (197, [some (.ref 27), some (.int v1), none, none, none, none], [.int q4, .int ((hr 27 33) - (1 : Int32)), .ref 46], xSt xG0 hc hr xs g L c z)) ?_ 1 (by rfl)
        exact T_m_plain_197 v1 q4 ((hr 27 33) - (1 : Int32)) hr r H
  · replace H := (if_neg q1).symm.trans H
    refine Ex.many (f' := (152, [some (.ref 27), some (.int v1), none, none, some (.int v4), some (.int v5)], [.int v4, .int v5, .int v1, .int ((hr 27 33) - (1 : Int32)), .ref 46], xSt xG0 hc hr xs g L c z)) ?_ 3 (by rfl)
    obtain ⟨q5, hq5, H⟩ := xbd H
    refine Ex.call (mk := 154) (vs := [.int v1, .int v5, .int v4]) (rest := [.int ((hr 27 33) - (1 : Int32)), .ref 46]) (by rfl) (by rfl) (Ex.up (T_m_compare v1 v5 v4 q5 hq5) (by decide)) (xbb c z) ?_
    show Ex _ _ (155, [some (.ref 27), some (.int v1), none, none, some (.int v4), some (.int v5)], [.int q5, .int ((hr 27 33) - (1 : Int32)), .ref 46], xSt xG0 hc hr xs g L c z) _
    refine Ex.ite (ls := [some (.ref 27), some (.int v1), none, none, none, none]) (st := [.int ((hr 27 33) - (1 : Int32)), .ref 46]) (S := xSt xG0 hc hr xs g L c z) (by rfl) (fun q6 => ?_) (fun q6 => ?_)
    · replace H := (if_pos q6).symm.trans H
      refine Ex.many (f' := (197, [some (.ref 27), some (.int v1), none, none, none, none], [.int (0 : Int32), .int ((hr 27 33) - (1 : Int32)), .ref 46], xSt xG0 hc hr xs g L c z)) ?_ 2 (by rfl)
      exact T_m_plain_197 v1 (0 : Int32) ((hr 27 33) - (1 : Int32)) hr r H
    · replace H := (if_neg q6).symm.trans H
      refine Ex.many (f' := (197, [some (.ref 27), some (.int v1), none, none, none, none], [.int (1 : Int32), .int ((hr 27 33) - (1 : Int32)), .ref 46], xSt xG0 hc hr xs g L c z)) ?_ 2 (by rfl)
      exact T_m_plain_197 v1 (1 : Int32) ((hr 27 33) - (1 : Int32)) hr r H
def f_m_plain_27 (v1 : Int32) (v2 : Int32) (v3 : Int32) (s0 : Int32) (hr : xI) : Option xI :=
  if (f_m_isStore v1) = 0 then (if v3 = (3 : Int32) then (if s0 = 0 then (xgd ((hr 27 33) - (2 : Int32)) 101 (f_m_plain_99 v1 (hr 46 ((hr 27 33) - (2 : Int32)).toNatClampNeg) (((hr 27 33) - (2 : Int32)) - (1 : Int32)) (xput hr 27 33 ((hr 27 33) - (2 : Int32))))) else (xgd (((hr 27 33) - (2 : Int32)) - (1 : Int32)) 101 (f_m_plain_99 v1 (hr 46 (((hr 27 33) - (2 : Int32)) - (1 : Int32)).toNatClampNeg) (((hr 27 33) - (2 : Int32)) - (1 : Int32)) (xput hr 27 33 ((hr 27 33) - (2 : Int32)))))) else (if v3 = (2 : Int32) then (xgd (((hr 27 33) - (1 : Int32)) - (1 : Int32)) 101 (f_m_plain_131 v1 s0 (hr 46 (((hr 27 33) - (1 : Int32)) - (1 : Int32)).toNatClampNeg) (xput hr 27 33 ((hr 27 33) - (1 : Int32))))) else (if v3 = (1 : Int32) then ((f_m_one v1 v2 hr).bind fun q10 => f_m_plain_226 v1 q10) else (if v1 = (1 : Int32) then (f_m_plain_226 v1 hr) else ((f_m_give v1 v2 hr).bind fun q12 => f_m_plain_226 v1 q12))))) else ((f_m_store v1 s0 hr).bind fun q13 => f_m_plain_226 v1 q13)
theorem T_m_plain_27 {hc : xI} {g : xJ} {xs : Nat → Int32} {L c z : Nat} (v1 : Int32) (v2 : Int32) (v3 : Int32) (s0 : Int32) (hr : xI) (r : xI) (H : f_m_plain_27 v1 v2 v3 s0 hr = some r) : Ex 3 152 (27, [some (.ref 27), some (.int v1), some (.int v2), some (.int v3), none, none], [.int s0], xSt xG0 hc hr xs g L c z) (.inl none, xSt xG0 hc r xs g L c z) := by
  unfold f_m_plain_27 at H
  refine Ex.many (f' := (30, [some (.ref 27), some (.int v1), some (.int v2), some (.int v3), some (.int s0), none], [.int v1], xSt xG0 hc hr xs g L c z)) ?_ 2 (by rfl)
  refine Ex.call (mk := 144) (vs := [.int v1]) (rest := []) (by rfl) (by rfl) (Ex.up (T_m_isStore v1 _ rfl) (by decide)) (xbb c z) ?_
  show Ex _ _ (33, [some (.ref 27), some (.int v1), some (.int v2), some (.int v3), some (.int s0), none], [.int (f_m_isStore v1)], xSt xG0 hc hr xs g L c z) _
  refine Ex.ite (ls := [some (.ref 27), some (.int v1), some (.int v2), some (.int v3), some (.int s0), none]) (st := []) (S := xSt xG0 hc hr xs g L c z) (by rfl) (fun q2 => ?_) (fun q2 => ?_)
  · replace H := (if_pos q2).symm.trans H
    refine Ex.many (f' := (48, [some (.ref 27), some (.int v1), some (.int v2), some (.int v3), some (.int s0), none], [.int (3 : Int32), .int v3], xSt xG0 hc hr xs g L c z)) ?_ 2 (by rfl)
    refine Ex.ite (ls := [some (.ref 27), some (.int v1), some (.int v2), some (.int v3), some (.int s0), none]) (st := []) (S := xSt xG0 hc hr xs g L c z) (by rfl) (fun q3 => ?_) (fun q3 => ?_)
    · replace H := (if_pos q3).symm.trans H
      refine Ex.many (f' := (58, [some (.ref 27), some (.int v1), none, none, some (.int s0), none], [.int ((hr 27 33) - (2 : Int32)), .ref 27], xSt xG0 hc hr xs g L c z)) ?_ 5 (by rfl)
      refine Ex.putR (pc := 61) (k := 27) (j := 33) (v := ((hr 27 33) - (2 : Int32))) (ls := [some (.ref 27), some (.int v1), none, none, some (.int s0), none]) (st := []) (hr := hr) ?_ (by rfl) (by rfl)
      refine Ex.many (f' := (73, [some (.ref 27), some (.int v1), none, none, some (.int s0), none], [.int s0, .int (((hr 27 33) - (2 : Int32)) - (1 : Int32)), .ref 46], xSt xG0 hc (xput hr 27 33 ((hr 27 33) - (2 : Int32))) xs g L c z)) ?_ 7 (by rfl)
      refine Ex.ite (ls := [some (.ref 27), some (.int v1), none, none, some (.int s0), none]) (st := [.int (((hr 27 33) - (2 : Int32)) - (1 : Int32)), .ref 46]) (S := xSt xG0 hc (xput hr 27 33 ((hr 27 33) - (2 : Int32))) xs g L c z) (by rfl) (fun q4 => ?_) (fun q4 => ?_)
      · replace H := (if_pos q4).symm.trans H
        refine Ex.many (f' := (98, [some (.ref 27), some (.int v1), none, none, none, none], [.int ((hr 27 33) - (2 : Int32)), .ref 46, .int (((hr 27 33) - (2 : Int32)) - (1 : Int32)), .ref 46], xSt xG0 hc (xput hr 27 33 ((hr 27 33) - (2 : Int32))) xs g L c z)) ?_ 4 (by rfl)
        obtain ⟨g5, H⟩ := xgd_some H
        refine Ex.guard (f' := (99, [some (.ref 27), some (.int v1), none, none, none, none], [.int (hr 46 ((hr 27 33) - (2 : Int32)).toNatClampNeg), .int (((hr 27 33) - (2 : Int32)) - (1 : Int32)), .ref 46], xSt xG0 hc (xput hr 27 33 ((hr 27 33) - (2 : Int32))) xs g L c z)) (by rfl) g5 ?_
        exact T_m_plain_99 v1 (hr 46 ((hr 27 33) - (2 : Int32)).toNatClampNeg) (((hr 27 33) - (2 : Int32)) - (1 : Int32)) (xput hr 27 33 ((hr 27 33) - (2 : Int32))) r H
      · replace H := (if_neg q4).symm.trans H
        refine Ex.many (f' := (86, [some (.ref 27), some (.int v1), none, none, none, none], [.int (((hr 27 33) - (2 : Int32)) - (1 : Int32)), .ref 46, .int (((hr 27 33) - (2 : Int32)) - (1 : Int32)), .ref 46], xSt xG0 hc (xput hr 27 33 ((hr 27 33) - (2 : Int32))) xs g L c z)) ?_ 6 (by rfl)
        obtain ⟨g6, H⟩ := xgd_some H
        refine Ex.guard (f' := (87, [some (.ref 27), some (.int v1), none, none, none, none], [.int (hr 46 (((hr 27 33) - (2 : Int32)) - (1 : Int32)).toNatClampNeg), .int (((hr 27 33) - (2 : Int32)) - (1 : Int32)), .ref 46], xSt xG0 hc (xput hr 27 33 ((hr 27 33) - (2 : Int32))) xs g L c z)) (by rfl) g6 ?_
        refine Ex.many (f' := (99, [some (.ref 27), some (.int v1), none, none, none, none], [.int (hr 46 (((hr 27 33) - (2 : Int32)) - (1 : Int32)).toNatClampNeg), .int (((hr 27 33) - (2 : Int32)) - (1 : Int32)), .ref 46], xSt xG0 hc (xput hr 27 33 ((hr 27 33) - (2 : Int32))) xs g L c z)) ?_ 1 (by rfl)
        exact T_m_plain_99 v1 (hr 46 (((hr 27 33) - (2 : Int32)) - (1 : Int32)).toNatClampNeg) (((hr 27 33) - (2 : Int32)) - (1 : Int32)) (xput hr 27 33 ((hr 27 33) - (2 : Int32))) r H
    · replace H := (if_neg q3).symm.trans H
      refine Ex.many (f' := (105, [some (.ref 27), some (.int v1), some (.int v2), some (.int v3), some (.int s0), none], [.int (2 : Int32), .int v3], xSt xG0 hc hr xs g L c z)) ?_ 2 (by rfl)
      refine Ex.ite (ls := [some (.ref 27), some (.int v1), some (.int v2), some (.int v3), some (.int s0), none]) (st := []) (S := xSt xG0 hc hr xs g L c z) (by rfl) (fun q7 => ?_) (fun q7 => ?_)
      · replace H := (if_pos q7).symm.trans H
        refine Ex.many (f' := (115, [some (.ref 27), some (.int v1), none, none, some (.int s0), none], [.int ((hr 27 33) - (1 : Int32)), .ref 27], xSt xG0 hc hr xs g L c z)) ?_ 5 (by rfl)
        refine Ex.putR (pc := 118) (k := 27) (j := 33) (v := ((hr 27 33) - (1 : Int32))) (ls := [some (.ref 27), some (.int v1), none, none, some (.int s0), none]) (st := []) (hr := hr) ?_ (by rfl) (by rfl)
        refine Ex.many (f' := (128, [some (.ref 27), some (.int v1), none, none, some (.int s0), none], [.int (((hr 27 33) - (1 : Int32)) - (1 : Int32)), .ref 46], xSt xG0 hc (xput hr 27 33 ((hr 27 33) - (1 : Int32))) xs g L c z)) ?_ 6 (by rfl)
        obtain ⟨g8, H⟩ := xgd_some H
        refine Ex.guard (f' := (129, [some (.ref 27), some (.int v1), none, none, some (.int s0), none], [.int (hr 46 (((hr 27 33) - (1 : Int32)) - (1 : Int32)).toNatClampNeg)], xSt xG0 hc (xput hr 27 33 ((hr 27 33) - (1 : Int32))) xs g L c z)) (by rfl) g8 ?_
        refine Ex.many (f' := (131, [some (.ref 27), some (.int v1), none, none, some (.int s0), some (.int (hr 46 (((hr 27 33) - (1 : Int32)) - (1 : Int32)).toNatClampNeg))], [], xSt xG0 hc (xput hr 27 33 ((hr 27 33) - (1 : Int32))) xs g L c z)) ?_ 1 (by rfl)
        exact T_m_plain_131 v1 s0 (hr 46 (((hr 27 33) - (1 : Int32)) - (1 : Int32)).toNatClampNeg) (xput hr 27 33 ((hr 27 33) - (1 : Int32))) r H
      · replace H := (if_neg q7).symm.trans H
        refine Ex.many (f' := (203, [some (.ref 27), some (.int v1), some (.int v2), some (.int v3), none, none], [.int (1 : Int32), .int v3], xSt xG0 hc hr xs g L c z)) ?_ 2 (by rfl)
        refine Ex.ite (ls := [some (.ref 27), some (.int v1), some (.int v2), some (.int v3), none, none]) (st := []) (S := xSt xG0 hc hr xs g L c z) (by rfl) (fun q9 => ?_) (fun q9 => ?_)
        · replace H := (if_pos q9).symm.trans H
          refine Ex.many (f' := (209, [some (.ref 27), some (.int v1), some (.int v2), none, none, none], [.int v2, .int v1, .ref 27], xSt xG0 hc hr xs g L c z)) ?_ 3 (by rfl)
          obtain ⟨q10, hq10, H⟩ := xbd H
          refine Ex.call (mk := 158) (vs := [.ref 27, .int v1, .int v2]) (rest := []) (by rfl) (by rfl) (Ex.up (T_m_one v1 v2 hr q10 hq10) (by decide)) (xbb c z) ?_
          show Ex _ _ (212, [some (.ref 27), some (.int v1), some (.int v2), none, none, none], [], xSt xG0 hc q10 xs g L c z) _
          refine Ex.many (f' := (226, [some (.ref 27), some (.int v1), none, none, none, none], [], xSt xG0 hc q10 xs g L c z)) ?_ 1 (by rfl)
          exact T_m_plain_226 v1 q10 r H
        · replace H := (if_neg q9).symm.trans H
          refine Ex.many (f' := (217, [some (.ref 27), some (.int v1), some (.int v2), none, none, none], [.int (1 : Int32), .int v1], xSt xG0 hc hr xs g L c z)) ?_ 2 (by rfl)
          refine Ex.ite (ls := [some (.ref 27), some (.int v1), some (.int v2), none, none, none]) (st := []) (S := xSt xG0 hc hr xs g L c z) (by rfl) (fun q11 => ?_) (fun q11 => ?_)
          · replace H := (if_pos q11).symm.trans H
            refine Ex.kill (ls' := [some (.ref 27), some (.int v1), none, none, none, none]) (by rfl) ?_
            exact T_m_plain_226 v1 hr r H
          · replace H := (if_neg q11).symm.trans H
            refine Ex.many (f' := (223, [some (.ref 27), some (.int v1), some (.int v2), none, none, none], [.int v2, .int v1, .ref 27], xSt xG0 hc hr xs g L c z)) ?_ 3 (by rfl)
            obtain ⟨q12, hq12, H⟩ := xbd H
            refine Ex.call (mk := 162) (vs := [.ref 27, .int v1, .int v2]) (rest := []) (by rfl) (by rfl) (Ex.up (T_m_give v1 v2 hr q12 hq12) (by decide)) (xbb c z) ?_
            show Ex _ _ (226, [some (.ref 27), some (.int v1), some (.int v2), none, none, none], [], xSt xG0 hc q12 xs g L c z) _
            refine Ex.kill (ls' := [some (.ref 27), some (.int v1), none, none, none, none]) (by rfl) ?_
            exact T_m_plain_226 v1 q12 r H
  · replace H := (if_neg q2).symm.trans H
    refine Ex.many (f' := (40, [some (.ref 27), some (.int v1), none, none, some (.int s0), none], [.int s0, .int v1, .ref 27], xSt xG0 hc hr xs g L c z)) ?_ 3 (by rfl)
    obtain ⟨q13, hq13, H⟩ := xbd H
    refine Ex.call (mk := 153) (vs := [.ref 27, .int v1, .int s0]) (rest := []) (by rfl) (by rfl) (Ex.up (T_m_store v1 s0 hr q13 hq13) (by decide)) (xbb c z) ?_
    show Ex _ _ (43, [some (.ref 27), some (.int v1), none, none, some (.int s0), none], [], xSt xG0 hc q13 xs g L c z) _
    refine Ex.many (f' := (226, [some (.ref 27), some (.int v1), none, none, none, none], [], xSt xG0 hc q13 xs g L c z)) ?_ 1 (by rfl)
    exact T_m_plain_226 v1 q13 r H
def f_m_plain (a1 : Int32) (a2 : Int32) (hr : xI) : Option xI :=
  if (hr 27 33) ≤ 0 then (f_m_plain_27 a1 a2 (f_m_eats a1) (0 : Int32) hr) else (xgd ((hr 27 33) - (1 : Int32)) 101 (f_m_plain_27 a1 a2 (f_m_eats a1) (hr 46 ((hr 27 33) - (1 : Int32)).toNatClampNeg) hr))
theorem T_m_plain {hc : xI} {g : xJ} {xs : Nat → Int32} {L c z : Nat} (a1 : Int32) (a2 : Int32) (hr : xI) (r : xI) (H : f_m_plain a1 a2 hr = some r) : Ex 3 152 (0, [some (.ref 27), some (.int a1), some (.int a2), none, none, none], [], xSt xG0 hc hr xs g L c z) (.inl none, xSt xG0 hc r xs g L c z) := by
  unfold f_m_plain at H
  refine Ex.many (f' := (1, [some (.ref 27), some (.int a1), some (.int a2), none, none, none], [.int a1], xSt xG0 hc hr xs g L c z)) ?_ 1 (by rfl)
  refine Ex.call (mk := 133) (vs := [.int a1]) (rest := []) (by rfl) (by rfl) (Ex.up (T_m_eats a1 _ rfl) (by decide)) (xbb c z) ?_
  show Ex _ _ (4, [some (.ref 27), some (.int a1), some (.int a2), none, none, none], [.int (f_m_eats a1)], xSt xG0 hc hr xs g L c z) _
  refine Ex.many (f' := (9, [some (.ref 27), some (.int a1), some (.int a2), some (.int (f_m_eats a1)), none, none], [.int (hr 27 33)], xSt xG0 hc hr xs g L c z)) ?_ 3 (by rfl)
  refine Ex.ite (ls := [some (.ref 27), some (.int a1), some (.int a2), some (.int (f_m_eats a1)), none, none]) (st := []) (S := xSt xG0 hc hr xs g L c z) (by rfl) (fun q2 => ?_) (fun q2 => ?_)
  · replace H := (if_pos q2).symm.trans H
    refine Ex.many (f' := (27, [some (.ref 27), some (.int a1), some (.int a2), some (.int (f_m_eats a1)), none, none], [.int (0 : Int32)], xSt xG0 hc hr xs g L c z)) ?_ 1 (by rfl)
    exact T_m_plain_27 a1 a2 (f_m_eats a1) (0 : Int32) hr r H
  · replace H := (if_neg q2).symm.trans H
    refine Ex.many (f' := (22, [some (.ref 27), some (.int a1), some (.int a2), some (.int (f_m_eats a1)), none, none], [.int ((hr 27 33) - (1 : Int32)), .ref 46], xSt xG0 hc hr xs g L c z)) ?_ 6 (by rfl)
    obtain ⟨g3, H⟩ := xgd_some H
    refine Ex.guard (f' := (23, [some (.ref 27), some (.int a1), some (.int a2), some (.int (f_m_eats a1)), none, none], [.int (hr 46 ((hr 27 33) - (1 : Int32)).toNatClampNeg)], xSt xG0 hc hr xs g L c z)) (by rfl) g3 ?_
    refine Ex.many (f' := (27, [some (.ref 27), some (.int a1), some (.int a2), some (.int (f_m_eats a1)), none, none], [.int (hr 46 ((hr 27 33) - (1 : Int32)).toNatClampNeg)], xSt xG0 hc hr xs g L c z)) ?_ 1 (by rfl)
    exact T_m_plain_27 a1 a2 (f_m_eats a1) (hr 46 ((hr 27 33) - (1 : Int32)).toNatClampNeg) hr r H
def f_m_fall_2 : Nat → Int32 → Int32 → Int32 → xI → Option xI
  | 0, _, _, _, _ => none
  | n + 1, v1, v2, v3, hr => if v2 ≤ v3 then (some (xput hr 27 33 (v1 + v2))) else (xgd (((hr 27 33) - v2) + v3) 101 (xgd (v1 + v3) 101 (f_m_fall_2 n v1 v2 (v3 + (1 : Int32)) (xput hr 46 (v1 + v3).toNatClampNeg (hr 46 (((hr 27 33) - v2) + v3).toNatClampNeg)))))
theorem T_m_fall_2 {hc : xI} {g : xJ} {xs : Nat → Int32} {L c z : Nat} (n : Nat) : ∀ (v1 : Int32) (v2 : Int32) (v3 : Int32) (hr : xI) (r : xI), f_m_fall_2 n v1 v2 v3 hr = some r → Ex 0 149 (2, [some (.ref 27), some (.int v1), some (.int v2), some (.int v3)], [], xSt xG0 hc hr xs g L c z) (.inl none, xSt xG0 hc r xs g L c z) := by
  induction n with
  | zero =>
    intro v1 v2 v3 hr r H
    unfold f_m_fall_2 at H
    cases H
  | succ n ih =>
    intro v1 v2 v3 hr r H
    unfold f_m_fall_2 at H
    refine Ex.many (f' := (4, [some (.ref 27), some (.int v1), some (.int v2), some (.int v3)], [.int v2, .int v3], xSt xG0 hc hr xs g L c z)) ?_ 2 (by rfl)
    refine Ex.ite (ls := [some (.ref 27), some (.int v1), some (.int v2), some (.int v3)]) (st := []) (S := xSt xG0 hc hr xs g L c z) (by rfl) (fun q1 => ?_) (fun q1 => ?_)
    · replace H := (if_pos q1).symm.trans H
      refine Ex.many (f' := (38, [some (.ref 27), some (.int v1), some (.int v2), none], [.int (v1 + v2), .ref 27], xSt xG0 hc hr xs g L c z)) ?_ 4 (by rfl)
      refine Ex.putR (pc := 41) (k := 27) (j := 33) (v := (v1 + v2)) (ls := [some (.ref 27), some (.int v1), some (.int v2), none]) (st := []) (hr := hr) ?_ (by rfl) (by rfl)
      replace H := Option.some.inj H
      subst H
      exact Ex.done (by rfl)
    · replace H := (if_neg q1).symm.trans H
      refine Ex.many (f' := (26, [some (.ref 27), some (.int v1), some (.int v2), some (.int v3)], [.int (((hr 27 33) - v2) + v3), .ref 46, .int (v1 + v3), .ref 46], xSt xG0 hc hr xs g L c z)) ?_ 13 (by rfl)
      obtain ⟨g2, H⟩ := xgd_some H
      refine Ex.guard (f' := (27, [some (.ref 27), some (.int v1), some (.int v2), some (.int v3)], [.int (hr 46 (((hr 27 33) - v2) + v3).toNatClampNeg), .int (v1 + v3), .ref 46], xSt xG0 hc hr xs g L c z)) (by rfl) g2 ?_
      obtain ⟨g3, H⟩ := xgd_some H
      refine Ex.gputR (pc := 28) (k := 46) (n := 101) (i := (v1 + v3)) (v := (hr 46 (((hr 27 33) - v2) + v3).toNatClampNeg)) (ls := [some (.ref 27), some (.int v1), some (.int v2), some (.int v3)]) (st := []) (hr := hr) ?_ (by rfl) g3 (by rfl)
      refine Ex.many (f' := (2, [some (.ref 27), some (.int v1), some (.int v2), some (.int (v3 + (1 : Int32)))], [], xSt xG0 hc (xput hr 46 (v1 + v3).toNatClampNeg (hr 46 (((hr 27 33) - v2) + v3).toNatClampNeg)) xs g L c z)) ?_ 2 (by rfl)
      exact ih v1 v2 (v3 + (1 : Int32)) (xput hr 46 (v1 + v3).toNatClampNeg (hr 46 (((hr 27 33) - v2) + v3).toNatClampNeg)) r H
def f_m_fall (a1 : Int32) (a2 : Int32) (hr : xI) : Option xI :=
  f_m_fall_2 1000 a1 a2 (0 : Int32) hr
theorem T_m_fall {hc : xI} {g : xJ} {xs : Nat → Int32} {L c z : Nat} (a1 : Int32) (a2 : Int32) (hr : xI) (r : xI) (H : f_m_fall a1 a2 hr = some r) : Ex 0 149 (0, [some (.ref 27), some (.int a1), some (.int a2), none], [], xSt xG0 hc hr xs g L c z) (.inl none, xSt xG0 hc r xs g L c z) := by
  unfold f_m_fall at H
  refine Ex.many (f' := (2, [some (.ref 27), some (.int a1), some (.int a2), some (.int (0 : Int32))], [], xSt xG0 hc hr xs g L c z)) ?_ 2 (by rfl)
  exact T_m_fall_2 1000 a1 a2 (0 : Int32) hr r H
def f_m_comeBack_74 (s1 : Int32) (hr : xI) : Option xI :=
  some (xput hr 27 40 s1)
theorem T_m_comeBack_74 {hc : xI} {g : xJ} {xs : Nat → Int32} {L c z : Nat} (s1 : Int32) (hr : xI) (r : xI) (H : f_m_comeBack_74 s1 hr = some r) : Ex 1 148 (74, [none, none, none], [.int s1, .ref 27], xSt xG0 hc hr xs g L c z) (.inl none, xSt xG0 hc r xs g L c z) := by
  unfold f_m_comeBack_74 at H
  refine Ex.putR (pc := 77) (k := 27) (j := 40) (v := s1) (ls := [none, none, none]) (st := []) (hr := hr) ?_ (by rfl) (by rfl)
  replace H := Option.some.inj H
  subst H
  exact Ex.done (by rfl)
def f_m_comeBack (hr : xI) : Option xI :=
  xgd ((hr 27 35) - (1 : Int32)) 6 (xgd ((hr 27 35) - (1 : Int32)) 6 (xgd (hr 47 ((hr 27 35) - (1 : Int32)).toNatClampNeg) 6 ((f_m_fall (hr 49 ((hr 27 35) - (1 : Int32)).toNatClampNeg) (hr 32 (hr 47 ((hr 27 35) - (1 : Int32)).toNatClampNeg).toNatClampNeg) hr).bind fun q4 => xgd ((hr 27 35) - (1 : Int32)) 6 (if ((hr 27 35) - (1 : Int32)) = 0 then (xgd (hr 47 ((hr 27 35) - (1 : Int32)).toNatClampNeg) 6 (if (q4 32 (hr 47 ((hr 27 35) - (1 : Int32)).toNatClampNeg).toNatClampNeg) ≤ 0 then (f_m_comeBack_74 (0 : Int32) (xput (xput (xput q4 27 35 ((hr 27 35) - (1 : Int32))) 27 32 (q4 48 ((hr 27 35) - (1 : Int32)).toNatClampNeg)) 27 1 (3 : Int32))) else (f_m_comeBack_74 (q4 46 0) (xput (xput (xput q4 27 35 ((hr 27 35) - (1 : Int32))) 27 32 (q4 48 ((hr 27 35) - (1 : Int32)).toNatClampNeg)) 27 1 (3 : Int32))))) else (some (xput (xput q4 27 35 ((hr 27 35) - (1 : Int32))) 27 32 (q4 48 ((hr 27 35) - (1 : Int32)).toNatClampNeg)))))))
theorem T_m_comeBack {hc : xI} {g : xJ} {xs : Nat → Int32} {L c z : Nat} (hr : xI) (r : xI) (H : f_m_comeBack hr = some r) : Ex 1 148 (0, [some (.ref 27), none, none], [], xSt xG0 hc hr xs g L c z) (.inl none, xSt xG0 hc r xs g L c z) := by
  unfold f_m_comeBack at H
  refine Ex.many (f' := (12, [some (.ref 27), some (.int ((hr 27 35) - (1 : Int32))), none], [.int ((hr 27 35) - (1 : Int32)), .ref 47], xSt xG0 hc hr xs g L c z)) ?_ 8 (by rfl)
  obtain ⟨g1, H⟩ := xgd_some H
  refine Ex.guard (f' := (13, [some (.ref 27), some (.int ((hr 27 35) - (1 : Int32))), none], [.int (hr 47 ((hr 27 35) - (1 : Int32)).toNatClampNeg)], xSt xG0 hc hr xs g L c z)) (by rfl) g1 ?_
  refine Ex.many (f' := (20, [some (.ref 27), some (.int ((hr 27 35) - (1 : Int32))), some (.int (hr 47 ((hr 27 35) - (1 : Int32)).toNatClampNeg))], [.int ((hr 27 35) - (1 : Int32)), .ref 49, .ref 27], xSt xG0 hc hr xs g L c z)) ?_ 5 (by rfl)
  obtain ⟨g2, H⟩ := xgd_some H
  refine Ex.guard (f' := (21, [some (.ref 27), some (.int ((hr 27 35) - (1 : Int32))), some (.int (hr 47 ((hr 27 35) - (1 : Int32)).toNatClampNeg))], [.int (hr 49 ((hr 27 35) - (1 : Int32)).toNatClampNeg), .ref 27], xSt xG0 hc hr xs g L c z)) (by rfl) g2 ?_
  refine Ex.many (f' := (26, [some (.ref 27), some (.int ((hr 27 35) - (1 : Int32))), some (.int (hr 47 ((hr 27 35) - (1 : Int32)).toNatClampNeg))], [.int (hr 47 ((hr 27 35) - (1 : Int32)).toNatClampNeg), .ref 32, .int (hr 49 ((hr 27 35) - (1 : Int32)).toNatClampNeg), .ref 27], xSt xG0 hc hr xs g L c z)) ?_ 3 (by rfl)
  obtain ⟨g3, H⟩ := xgd_some H
  refine Ex.guard (f' := (27, [some (.ref 27), some (.int ((hr 27 35) - (1 : Int32))), some (.int (hr 47 ((hr 27 35) - (1 : Int32)).toNatClampNeg))], [.int (hr 32 (hr 47 ((hr 27 35) - (1 : Int32)).toNatClampNeg).toNatClampNeg), .int (hr 49 ((hr 27 35) - (1 : Int32)).toNatClampNeg), .ref 27], xSt xG0 hc hr xs g L c z)) (by rfl) g3 ?_
  obtain ⟨q4, hq4, H⟩ := xbd H
  refine Ex.call (mk := 149) (vs := [.ref 27, .int (hr 49 ((hr 27 35) - (1 : Int32)).toNatClampNeg), .int (hr 32 (hr 47 ((hr 27 35) - (1 : Int32)).toNatClampNeg).toNatClampNeg)]) (rest := []) (by rfl) (by rfl) (Ex.up (T_m_fall (hr 49 ((hr 27 35) - (1 : Int32)).toNatClampNeg) (hr 32 (hr 47 ((hr 27 35) - (1 : Int32)).toNatClampNeg).toNatClampNeg) hr q4 hq4) (by decide)) (xbb c z) ?_
  show Ex _ _ (30, [some (.ref 27), some (.int ((hr 27 35) - (1 : Int32))), some (.int (hr 47 ((hr 27 35) - (1 : Int32)).toNatClampNeg))], [], xSt xG0 hc q4 xs g L c z) _
  refine Ex.many (f' := (32, [some (.ref 27), some (.int ((hr 27 35) - (1 : Int32))), some (.int (hr 47 ((hr 27 35) - (1 : Int32)).toNatClampNeg))], [.int ((hr 27 35) - (1 : Int32)), .ref 27], xSt xG0 hc q4 xs g L c z)) ?_ 2 (by rfl)
  refine Ex.putR (pc := 35) (k := 27) (j := 35) (v := ((hr 27 35) - (1 : Int32))) (ls := [some (.ref 27), some (.int ((hr 27 35) - (1 : Int32))), some (.int (hr 47 ((hr 27 35) - (1 : Int32)).toNatClampNeg))]) (st := []) (hr := q4) ?_ (by rfl) (by rfl)
  refine Ex.many (f' := (41, [some (.ref 27), some (.int ((hr 27 35) - (1 : Int32))), some (.int (hr 47 ((hr 27 35) - (1 : Int32)).toNatClampNeg))], [.int ((hr 27 35) - (1 : Int32)), .ref 48, .ref 27], xSt xG0 hc (xput q4 27 35 ((hr 27 35) - (1 : Int32))) xs g L c z)) ?_ 4 (by rfl)
  obtain ⟨g5, H⟩ := xgd_some H
  refine Ex.guard (f' := (42, [some (.ref 27), some (.int ((hr 27 35) - (1 : Int32))), some (.int (hr 47 ((hr 27 35) - (1 : Int32)).toNatClampNeg))], [.int (q4 48 ((hr 27 35) - (1 : Int32)).toNatClampNeg), .ref 27], xSt xG0 hc (xput q4 27 35 ((hr 27 35) - (1 : Int32))) xs g L c z)) (by rfl) g5 ?_
  refine Ex.putR (pc := 45) (k := 27) (j := 32) (v := (q4 48 ((hr 27 35) - (1 : Int32)).toNatClampNeg)) (ls := [some (.ref 27), some (.int ((hr 27 35) - (1 : Int32))), some (.int (hr 47 ((hr 27 35) - (1 : Int32)).toNatClampNeg))]) (st := []) (hr := (xput q4 27 35 ((hr 27 35) - (1 : Int32)))) ?_ (by rfl) (by rfl)
  refine Ex.many (f' := (46, [some (.ref 27), some (.int ((hr 27 35) - (1 : Int32))), some (.int (hr 47 ((hr 27 35) - (1 : Int32)).toNatClampNeg))], [.int ((hr 27 35) - (1 : Int32))], xSt xG0 hc (xput (xput q4 27 35 ((hr 27 35) - (1 : Int32))) 27 32 (q4 48 ((hr 27 35) - (1 : Int32)).toNatClampNeg)) xs g L c z)) ?_ 1 (by rfl)
  refine Ex.ite (ls := [some (.ref 27), some (.int ((hr 27 35) - (1 : Int32))), some (.int (hr 47 ((hr 27 35) - (1 : Int32)).toNatClampNeg))]) (st := []) (S := xSt xG0 hc (xput (xput q4 27 35 ((hr 27 35) - (1 : Int32))) 27 32 (q4 48 ((hr 27 35) - (1 : Int32)).toNatClampNeg)) xs g L c z) (by rfl) (fun q6 => ?_) (fun q6 => ?_)
  · replace H := (if_pos q6).symm.trans H
    refine Ex.many (f' := (51, [some (.ref 27), none, some (.int (hr 47 ((hr 27 35) - (1 : Int32)).toNatClampNeg))], [.int (3 : Int32), .ref 27], xSt xG0 hc (xput (xput q4 27 35 ((hr 27 35) - (1 : Int32))) 27 32 (q4 48 ((hr 27 35) - (1 : Int32)).toNatClampNeg)) xs g L c z)) ?_ 2 (by rfl)
    refine Ex.putR (pc := 54) (k := 27) (j := 1) (v := (3 : Int32)) (ls := [some (.ref 27), none, some (.int (hr 47 ((hr 27 35) - (1 : Int32)).toNatClampNeg))]) (st := []) (hr := (xput (xput q4 27 35 ((hr 27 35) - (1 : Int32))) 27 32 (q4 48 ((hr 27 35) - (1 : Int32)).toNatClampNeg))) ?_ (by rfl) (by rfl)
    refine Ex.many (f' := (60, [some (.ref 27), none, some (.int (hr 47 ((hr 27 35) - (1 : Int32)).toNatClampNeg))], [.int (hr 47 ((hr 27 35) - (1 : Int32)).toNatClampNeg), .ref 32, .ref 27], xSt xG0 hc (xput (xput (xput q4 27 35 ((hr 27 35) - (1 : Int32))) 27 32 (q4 48 ((hr 27 35) - (1 : Int32)).toNatClampNeg)) 27 1 (3 : Int32)) xs g L c z)) ?_ 4 (by rfl)
    obtain ⟨g7, H⟩ := xgd_some H
    refine Ex.guard (f' := (61, [some (.ref 27), none, some (.int (hr 47 ((hr 27 35) - (1 : Int32)).toNatClampNeg))], [.int (q4 32 (hr 47 ((hr 27 35) - (1 : Int32)).toNatClampNeg).toNatClampNeg), .ref 27], xSt xG0 hc (xput (xput (xput q4 27 35 ((hr 27 35) - (1 : Int32))) 27 32 (q4 48 ((hr 27 35) - (1 : Int32)).toNatClampNeg)) 27 1 (3 : Int32)) xs g L c z)) (by rfl) g7 ?_
    refine Ex.ite (ls := [some (.ref 27), none, some (.int (hr 47 ((hr 27 35) - (1 : Int32)).toNatClampNeg))]) (st := [.ref 27]) (S := xSt xG0 hc (xput (xput (xput q4 27 35 ((hr 27 35) - (1 : Int32))) 27 32 (q4 48 ((hr 27 35) - (1 : Int32)).toNatClampNeg)) 27 1 (3 : Int32)) xs g L c z) (by rfl) (fun q8 => ?_) (fun q8 => ?_)
    · replace H := (if_pos q8).symm.trans H
      refine Ex.many (f' := (74, [none, none, none], [.int (0 : Int32), .ref 27], xSt xG0 hc (xput (xput (xput q4 27 35 ((hr 27 35) - (1 : Int32))) 27 32 (q4 48 ((hr 27 35) - (1 : Int32)).toNatClampNeg)) 27 1 (3 : Int32)) xs g L c z)) ?_ 1 (by rfl)
      exact T_m_comeBack_74 (0 : Int32) (xput (xput (xput q4 27 35 ((hr 27 35) - (1 : Int32))) 27 32 (q4 48 ((hr 27 35) - (1 : Int32)).toNatClampNeg)) 27 1 (3 : Int32)) r H
    · replace H := (if_neg q8).symm.trans H
      refine Ex.many (f' := (74, [some (.ref 27), none, none], [.int (q4 46 0), .ref 27], xSt xG0 hc (xput (xput (xput q4 27 35 ((hr 27 35) - (1 : Int32))) 27 32 (q4 48 ((hr 27 35) - (1 : Int32)).toNatClampNeg)) 27 1 (3 : Int32)) xs g L c z)) ?_ 5 (by rfl)
      refine Ex.kill (ls' := [none, none, none]) (by rfl) ?_
      exact T_m_comeBack_74 (q4 46 0) (xput (xput (xput q4 27 35 ((hr 27 35) - (1 : Int32))) 27 32 (q4 48 ((hr 27 35) - (1 : Int32)).toNatClampNeg)) 27 1 (3 : Int32)) r H
  · replace H := (if_neg q6).symm.trans H
    replace H := Option.some.inj H
    subst H
    exact Ex.done (by rfl)
def f_m_branch_86 (s1 : Int32) (hr : xI) : Option xI :=
  some (xput hr 27 32 s1)
theorem T_m_branch_86 {hc : xI} {g : xJ} {xs : Nat → Int32} {L c z : Nat} (s1 : Int32) (hr : xI) (r : xI) (H : f_m_branch_86 s1 hr = some r) : Ex 2 150 (86, [none, none, none], [.int s1, .ref 27], xSt xG0 hc hr xs g L c z) (.inl none, xSt xG0 hc r xs g L c z) := by
  unfold f_m_branch_86 at H
  refine Ex.putR (pc := 89) (k := 27) (j := 32) (v := s1) (ls := [none, none, none]) (st := []) (hr := hr) ?_ (by rfl) (by rfl)
  replace H := Option.some.inj H
  subst H
  exact Ex.done (by rfl)
def f_m_branch (a1 : Int32) (hr : xI) : Option xI :=
  xgd (hr 27 32) 240 ((f_m_outer (hr 41 (hr 27 32).toNatClampNeg) a1 hr).bind fun q2 => xgd q2 250 (if (hr 33 q2.toNatClampNeg) = 0 then ((f_m_comeBack hr).bind fun q5 => some q5) else (xgd ((hr 27 35) - (1 : Int32)) 6 (xgd q2 250 ((f_m_takes q2 hr).bind fun q8 => (f_m_fall ((hr 49 ((hr 27 35) - (1 : Int32)).toNatClampNeg) + (hr 35 q2.toNatClampNeg)) q8 hr).bind fun q9 => xgd q2 250 (if (q9 33 q2.toNatClampNeg) = (3 : Int32) then (xgd q2 250 (f_m_branch_86 ((q9 37 q2.toNatClampNeg) + (2 : Int32)) q9)) else (xgd q2 250 (f_m_branch_86 ((q9 39 q2.toNatClampNeg) + (1 : Int32)) q9))))))))
theorem T_m_branch {hc : xI} {g : xJ} {xs : Nat → Int32} {L c z : Nat} (a1 : Int32) (hr : xI) (r : xI) (H : f_m_branch a1 hr = some r) : Ex 2 150 (0, [some (.ref 27), some (.int a1), none], [], xSt xG0 hc hr xs g L c z) (.inl none, xSt xG0 hc r xs g L c z) := by
  unfold f_m_branch at H
  refine Ex.many (f' := (9, [some (.ref 27), some (.int a1), none], [.int (hr 27 32), .ref 41, .ref 27], xSt xG0 hc hr xs g L c z)) ?_ 5 (by rfl)
  obtain ⟨g1, H⟩ := xgd_some H
  refine Ex.guard (f' := (10, [some (.ref 27), some (.int a1), none], [.int (hr 41 (hr 27 32).toNatClampNeg), .ref 27], xSt xG0 hc hr xs g L c z)) (by rfl) g1 ?_
  refine Ex.many (f' := (11, [some (.ref 27), some (.int a1), none], [.int a1, .int (hr 41 (hr 27 32).toNatClampNeg), .ref 27], xSt xG0 hc hr xs g L c z)) ?_ 1 (by rfl)
  obtain ⟨q2, hq2, H⟩ := xbd H
  refine Ex.call (mk := 129) (vs := [.ref 27, .int (hr 41 (hr 27 32).toNatClampNeg), .int a1]) (rest := []) (by rfl) (by rfl) (Ex.up (T_m_outer (hr 41 (hr 27 32).toNatClampNeg) a1 hr q2 hq2) (by decide)) (xbb c z) ?_
  show Ex _ _ (14, [some (.ref 27), some (.int a1), none], [.int q2], xSt xG0 hc hr xs g L c z) _
  refine Ex.many (f' := (20, [some (.ref 27), none, some (.int q2)], [.int q2, .ref 33], xSt xG0 hc hr xs g L c z)) ?_ 4 (by rfl)
  obtain ⟨g3, H⟩ := xgd_some H
  refine Ex.guard (f' := (21, [some (.ref 27), none, some (.int q2)], [.int (hr 33 q2.toNatClampNeg)], xSt xG0 hc hr xs g L c z)) (by rfl) g3 ?_
  refine Ex.ite (ls := [some (.ref 27), none, some (.int q2)]) (st := []) (S := xSt xG0 hc hr xs g L c z) (by rfl) (fun q4 => ?_) (fun q4 => ?_)
  · replace H := (if_pos q4).symm.trans H
    refine Ex.many (f' := (25, [some (.ref 27), none, none], [.ref 27], xSt xG0 hc hr xs g L c z)) ?_ 1 (by rfl)
    obtain ⟨q5, hq5, H⟩ := xbd H
    refine Ex.call (mk := 148) (vs := [.ref 27]) (rest := []) (by rfl) (by rfl) (Ex.up (T_m_comeBack hr q5 hq5) (by decide)) (xbb c z) ?_
    show Ex _ _ (28, [some (.ref 27), none, none], [], xSt xG0 hc q5 xs g L c z) _
    replace H := Option.some.inj H
    subst H
    exact Ex.done (by rfl)
  · replace H := (if_neg q4).symm.trans H
    refine Ex.many (f' := (40, [some (.ref 27), none, some (.int q2)], [.int ((hr 27 35) - (1 : Int32)), .ref 49, .ref 27], xSt xG0 hc hr xs g L c z)) ?_ 7 (by rfl)
    obtain ⟨g6, H⟩ := xgd_some H
    refine Ex.guard (f' := (41, [some (.ref 27), none, some (.int q2)], [.int (hr 49 ((hr 27 35) - (1 : Int32)).toNatClampNeg), .ref 27], xSt xG0 hc hr xs g L c z)) (by rfl) g6 ?_
    refine Ex.many (f' := (46, [some (.ref 27), none, some (.int q2)], [.int q2, .ref 35, .int (hr 49 ((hr 27 35) - (1 : Int32)).toNatClampNeg), .ref 27], xSt xG0 hc hr xs g L c z)) ?_ 3 (by rfl)
    obtain ⟨g7, H⟩ := xgd_some H
    refine Ex.guard (f' := (47, [some (.ref 27), none, some (.int q2)], [.int (hr 35 q2.toNatClampNeg), .int (hr 49 ((hr 27 35) - (1 : Int32)).toNatClampNeg), .ref 27], xSt xG0 hc hr xs g L c z)) (by rfl) g7 ?_
    refine Ex.many (f' := (50, [some (.ref 27), none, some (.int q2)], [.int q2, .ref 27, .int ((hr 49 ((hr 27 35) - (1 : Int32)).toNatClampNeg) + (hr 35 q2.toNatClampNeg)), .ref 27], xSt xG0 hc hr xs g L c z)) ?_ 3 (by rfl)
    obtain ⟨q8, hq8, H⟩ := xbd H
    refine Ex.call (mk := 130) (vs := [.ref 27, .int q2]) (rest := [.int ((hr 49 ((hr 27 35) - (1 : Int32)).toNatClampNeg) + (hr 35 q2.toNatClampNeg)), .ref 27]) (by rfl) (by rfl) (Ex.up (T_m_takes q2 hr q8 hq8) (by decide)) (xbb c z) ?_
    show Ex _ _ (53, [some (.ref 27), none, some (.int q2)], [.int q8, .int ((hr 49 ((hr 27 35) - (1 : Int32)).toNatClampNeg) + (hr 35 q2.toNatClampNeg)), .ref 27], xSt xG0 hc hr xs g L c z) _
    obtain ⟨q9, hq9, H⟩ := xbd H
    refine Ex.call (mk := 149) (vs := [.ref 27, .int ((hr 49 ((hr 27 35) - (1 : Int32)).toNatClampNeg) + (hr 35 q2.toNatClampNeg)), .int q8]) (rest := []) (by rfl) (by rfl) (Ex.up (T_m_fall ((hr 49 ((hr 27 35) - (1 : Int32)).toNatClampNeg) + (hr 35 q2.toNatClampNeg)) q8 hr q9 hq9) (by decide)) (xbb c z) ?_
    show Ex _ _ (56, [some (.ref 27), none, some (.int q2)], [], xSt xG0 hc q9 xs g L c z) _
    refine Ex.many (f' := (62, [some (.ref 27), none, some (.int q2)], [.int q2, .ref 33, .ref 27], xSt xG0 hc q9 xs g L c z)) ?_ 4 (by rfl)
    obtain ⟨g10, H⟩ := xgd_some H
    refine Ex.guard (f' := (63, [some (.ref 27), none, some (.int q2)], [.int (q9 33 q2.toNatClampNeg), .ref 27], xSt xG0 hc q9 xs g L c z)) (by rfl) g10 ?_
    refine Ex.many (f' := (64, [some (.ref 27), none, some (.int q2)], [.int (3 : Int32), .int (q9 33 q2.toNatClampNeg), .ref 27], xSt xG0 hc q9 xs g L c z)) ?_ 1 (by rfl)
    refine Ex.ite (ls := [some (.ref 27), none, some (.int q2)]) (st := [.ref 27]) (S := xSt xG0 hc q9 xs g L c z) (by rfl) (fun q11 => ?_) (fun q11 => ?_)
    · replace H := (if_pos q11).symm.trans H
      refine Ex.many (f' := (72, [some (.ref 27), none, some (.int q2)], [.int q2, .ref 37, .ref 27], xSt xG0 hc q9 xs g L c z)) ?_ 3 (by rfl)
      obtain ⟨g12, H⟩ := xgd_some H
      refine Ex.guard (f' := (73, [some (.ref 27), none, some (.int q2)], [.int (q9 37 q2.toNatClampNeg), .ref 27], xSt xG0 hc q9 xs g L c z)) (by rfl) g12 ?_
      refine Ex.many (f' := (86, [some (.ref 27), none, some (.int q2)], [.int ((q9 37 q2.toNatClampNeg) + (2 : Int32)), .ref 27], xSt xG0 hc q9 xs g L c z)) ?_ 3 (by rfl)
      refine Ex.kill (ls' := [none, none, none]) (by rfl) ?_
      exact T_m_branch_86 ((q9 37 q2.toNatClampNeg) + (2 : Int32)) q9 r H
    · replace H := (if_neg q11).symm.trans H
      refine Ex.many (f' := (83, [some (.ref 27), none, some (.int q2)], [.int q2, .ref 39, .ref 27], xSt xG0 hc q9 xs g L c z)) ?_ 3 (by rfl)
      obtain ⟨g13, H⟩ := xgd_some H
      refine Ex.guard (f' := (84, [some (.ref 27), none, some (.int q2)], [.int (q9 39 q2.toNatClampNeg), .ref 27], xSt xG0 hc q9 xs g L c z)) (by rfl) g13 ?_
      refine Ex.many (f' := (86, [some (.ref 27), none, some (.int q2)], [.int ((q9 39 q2.toNatClampNeg) + (1 : Int32)), .ref 27], xSt xG0 hc q9 xs g L c z)) ?_ 2 (by rfl)
      refine Ex.kill (ls' := [none, none, none]) (by rfl) ?_
      exact T_m_branch_86 ((q9 39 q2.toNatClampNeg) + (1 : Int32)) q9 r H
def f_m_table_57 (s3 : Int32) (s2 : Int32) (hr : xI) : Option xI :=
  xgd (s2 + s3) 240 ((f_m_branch (hr 28 (s2 + s3).toNatClampNeg) hr).bind fun q2 => some q2)
theorem T_m_table_57 {hc : xI} {g : xJ} {xs : Nat → Int32} {L c z : Nat} (s3 : Int32) (s2 : Int32) (hr : xI) (r : xI) (H : f_m_table_57 s3 s2 hr = some r) : Ex 3 151 (57, [none, none, none], [.int s3, .int s2, .ref 28, .ref 27], xSt xG0 hc hr xs g L c z) (.inl none, xSt xG0 hc r xs g L c z) := by
  unfold f_m_table_57 at H
  refine Ex.many (f' := (58, [none, none, none], [.int (s2 + s3), .ref 28, .ref 27], xSt xG0 hc hr xs g L c z)) ?_ 1 (by rfl)
  obtain ⟨g1, H⟩ := xgd_some H
  refine Ex.guard (f' := (59, [none, none, none], [.int (hr 28 (s2 + s3).toNatClampNeg), .ref 27], xSt xG0 hc hr xs g L c z)) (by rfl) g1 ?_
  obtain ⟨q2, hq2, H⟩ := xbd H
  refine Ex.call (mk := 150) (vs := [.ref 27, .int (hr 28 (s2 + s3).toNatClampNeg)]) (rest := []) (by rfl) (by rfl) (Ex.up (T_m_branch (hr 28 (s2 + s3).toNatClampNeg) hr q2 hq2) (by decide)) (xbb c z) ?_
  show Ex _ _ (62, [none, none, none], [], xSt xG0 hc q2 xs g L c z) _
  replace H := Option.some.inj H
  subst H
  exact Ex.done (by rfl)
def f_m_table_52 (v1 : Int32) (s2 : Int32) (hr : xI) : Option xI :=
  f_m_table_57 v1 s2 hr
theorem T_m_table_52 {hc : xI} {g : xJ} {xs : Nat → Int32} {L c z : Nat} (v1 : Int32) (s2 : Int32) (hr : xI) (r : xI) (H : f_m_table_52 v1 s2 hr = some r) : Ex 3 151 (52, [none, some (.int v1), none], [.int s2, .ref 28, .ref 27], xSt xG0 hc hr xs g L c z) (.inl none, xSt xG0 hc r xs g L c z) := by
  unfold f_m_table_52 at H
  refine Ex.many (f' := (57, [none, some (.int v1), none], [.int v1, .int s2, .ref 28, .ref 27], xSt xG0 hc hr xs g L c z)) ?_ 2 (by rfl)
  refine Ex.kill (ls' := [none, none, none]) (by rfl) ?_
  exact T_m_table_57 v1 s2 hr r H
def f_m_table (hr : xI) : Option xI :=
  xgd ((hr 27 32) + (1 : Int32)) 240 (xgd ((hr 27 33) - (1 : Int32)) 101 (if (hr 46 ((hr 27 33) - (1 : Int32)).toNatClampNeg) < 0 then (f_m_table_52 (hr 28 ((hr 27 32) + (1 : Int32)).toNatClampNeg) ((hr 27 32) + (2 : Int32)) (xput hr 27 33 ((hr 27 33) - (1 : Int32)))) else (if (hr 46 ((hr 27 33) - (1 : Int32)).toNatClampNeg) ≤ (hr 28 ((hr 27 32) + (1 : Int32)).toNatClampNeg) then (f_m_table_57 (hr 46 ((hr 27 33) - (1 : Int32)).toNatClampNeg) ((hr 27 32) + (2 : Int32)) (xput hr 27 33 ((hr 27 33) - (1 : Int32)))) else (f_m_table_52 (hr 28 ((hr 27 32) + (1 : Int32)).toNatClampNeg) ((hr 27 32) + (2 : Int32)) (xput hr 27 33 ((hr 27 33) - (1 : Int32)))))))
theorem T_m_table {hc : xI} {g : xJ} {xs : Nat → Int32} {L c z : Nat} (hr : xI) (r : xI) (H : f_m_table hr = some r) : Ex 3 151 (0, [some (.ref 27), none, none], [], xSt xG0 hc hr xs g L c z) (.inl none, xSt xG0 hc r xs g L c z) := by
  unfold f_m_table at H
  refine Ex.many (f' := (10, [some (.ref 27), none, none], [.int ((hr 27 32) + (1 : Int32)), .ref 28], xSt xG0 hc hr xs g L c z)) ?_ 6 (by rfl)
  obtain ⟨g1, H⟩ := xgd_some H
  refine Ex.guard (f' := (11, [some (.ref 27), none, none], [.int (hr 28 ((hr 27 32) + (1 : Int32)).toNatClampNeg)], xSt xG0 hc hr xs g L c z)) (by rfl) g1 ?_
  refine Ex.many (f' := (19, [some (.ref 27), some (.int (hr 28 ((hr 27 32) + (1 : Int32)).toNatClampNeg)), none], [.int ((hr 27 33) - (1 : Int32)), .ref 27], xSt xG0 hc hr xs g L c z)) ?_ 6 (by rfl)
  refine Ex.putR (pc := 22) (k := 27) (j := 33) (v := ((hr 27 33) - (1 : Int32))) (ls := [some (.ref 27), some (.int (hr 28 ((hr 27 32) + (1 : Int32)).toNatClampNeg)), none]) (st := []) (hr := hr) ?_ (by rfl) (by rfl)
  refine Ex.many (f' := (30, [some (.ref 27), some (.int (hr 28 ((hr 27 32) + (1 : Int32)).toNatClampNeg)), none], [.int ((hr 27 33) - (1 : Int32)), .ref 46], xSt xG0 hc (xput hr 27 33 ((hr 27 33) - (1 : Int32))) xs g L c z)) ?_ 4 (by rfl)
  obtain ⟨g2, H⟩ := xgd_some H
  refine Ex.guard (f' := (31, [some (.ref 27), some (.int (hr 28 ((hr 27 32) + (1 : Int32)).toNatClampNeg)), none], [.int (hr 46 ((hr 27 33) - (1 : Int32)).toNatClampNeg)], xSt xG0 hc (xput hr 27 33 ((hr 27 33) - (1 : Int32))) xs g L c z)) (by rfl) g2 ?_
  refine Ex.many (f' := (44, [some (.ref 27), some (.int (hr 28 ((hr 27 32) + (1 : Int32)).toNatClampNeg)), some (.int (hr 46 ((hr 27 33) - (1 : Int32)).toNatClampNeg))], [.int (hr 46 ((hr 27 33) - (1 : Int32)).toNatClampNeg), .int ((hr 27 32) + (2 : Int32)), .ref 28, .ref 27], xSt xG0 hc (xput hr 27 33 ((hr 27 33) - (1 : Int32))) xs g L c z)) ?_ 9 (by rfl)
  refine Ex.ite (ls := [some (.ref 27), some (.int (hr 28 ((hr 27 32) + (1 : Int32)).toNatClampNeg)), some (.int (hr 46 ((hr 27 33) - (1 : Int32)).toNatClampNeg))]) (st := [.int ((hr 27 32) + (2 : Int32)), .ref 28, .ref 27]) (S := xSt xG0 hc (xput hr 27 33 ((hr 27 33) - (1 : Int32))) xs g L c z) (by rfl) (fun q3 => ?_) (fun q3 => ?_)
  · replace H := (if_pos q3).symm.trans H
    refine Ex.kill (ls' := [none, some (.int (hr 28 ((hr 27 32) + (1 : Int32)).toNatClampNeg)), none]) (by rfl) ?_
    exact T_m_table_52 (hr 28 ((hr 27 32) + (1 : Int32)).toNatClampNeg) ((hr 27 32) + (2 : Int32)) (xput hr 27 33 ((hr 27 33) - (1 : Int32))) r H
  · replace H := (if_neg q3).symm.trans H
    refine Ex.many (f' := (49, [none, some (.int (hr 28 ((hr 27 32) + (1 : Int32)).toNatClampNeg)), some (.int (hr 46 ((hr 27 33) - (1 : Int32)).toNatClampNeg))], [.int (hr 28 ((hr 27 32) + (1 : Int32)).toNatClampNeg), .int (hr 46 ((hr 27 33) - (1 : Int32)).toNatClampNeg), .int ((hr 27 32) + (2 : Int32)), .ref 28, .ref 27], xSt xG0 hc (xput hr 27 33 ((hr 27 33) - (1 : Int32))) xs g L c z)) ?_ 2 (by rfl)
    refine Ex.ite (ls := [none, some (.int (hr 28 ((hr 27 32) + (1 : Int32)).toNatClampNeg)), some (.int (hr 46 ((hr 27 33) - (1 : Int32)).toNatClampNeg))]) (st := [.int ((hr 27 32) + (2 : Int32)), .ref 28, .ref 27]) (S := xSt xG0 hc (xput hr 27 33 ((hr 27 33) - (1 : Int32))) xs g L c z) (by rfl) (fun q4 => ?_) (fun q4 => ?_)
    · replace H := (if_pos q4).symm.trans H
      refine Ex.many (f' := (57, [none, none, some (.int (hr 46 ((hr 27 33) - (1 : Int32)).toNatClampNeg))], [.int (hr 46 ((hr 27 33) - (1 : Int32)).toNatClampNeg), .int ((hr 27 32) + (2 : Int32)), .ref 28, .ref 27], xSt xG0 hc (xput hr 27 33 ((hr 27 33) - (1 : Int32))) xs g L c z)) ?_ 1 (by rfl)
      refine Ex.kill (ls' := [none, none, none]) (by rfl) ?_
      exact T_m_table_57 (hr 46 ((hr 27 33) - (1 : Int32)).toNatClampNeg) ((hr 27 32) + (2 : Int32)) (xput hr 27 33 ((hr 27 33) - (1 : Int32))) r H
    · replace H := (if_neg q4).symm.trans H
      refine Ex.kill (ls' := [none, some (.int (hr 28 ((hr 27 32) + (1 : Int32)).toNatClampNeg)), none]) (by rfl) ?_
      exact T_m_table_52 (hr 28 ((hr 27 32) + (1 : Int32)).toNatClampNeg) ((hr 27 32) + (2 : Int32)) (xput hr 27 33 ((hr 27 33) - (1 : Int32))) r H
def f_m_goes_73 (s1 : Int32) (hr : xI) : Option xI :=
  some (xput hr 27 32 s1)
theorem T_m_goes_73 {hc : xI} {g : xJ} {xs : Nat → Int32} {L c z : Nat} (s1 : Int32) (hr : xI) (r : xI) (H : f_m_goes_73 s1 hr = some r) : Ex 4 147 (73, [none, none, none, none], [.int s1, .ref 27], xSt xG0 hc hr xs g L c z) (.inl none, xSt xG0 hc r xs g L c z) := by
  unfold f_m_goes_73 at H
  refine Ex.putR (pc := 76) (k := 27) (j := 32) (v := s1) (ls := [none, none, none, none]) (st := []) (hr := hr) ?_ (by rfl) (by rfl)
  refine Ex.many (f' := (267, [none, none, none, none], [], xSt xG0 hc (xput hr 27 32 s1) xs g L c z)) ?_ 1 (by rfl)
  replace H := Option.some.inj H
  subst H
  exact Ex.done (by rfl)
def f_m_goes (a1 : Int32) (a2 : Int32) (hr : xI) : Option xI :=
  xgd (hr 27 32) 240 (if a1 = (4 : Int32) then (xgd ((hr 27 33) - (1 : Int32)) 101 (if (hr 46 ((hr 27 33) - (1 : Int32)).toNatClampNeg) = 0 then (xgd (hr 42 (hr 27 32).toNatClampNeg) 250 (if (hr 38 (hr 42 (hr 27 32).toNatClampNeg).toNatClampNeg) < 0 then (xgd (hr 42 (hr 27 32).toNatClampNeg) 250 (f_m_goes_73 (hr 39 (hr 42 (hr 27 32).toNatClampNeg).toNatClampNeg) (xput hr 27 33 ((hr 27 33) - (1 : Int32))))) else (xgd (hr 42 (hr 27 32).toNatClampNeg) 250 (f_m_goes_73 ((hr 38 (hr 42 (hr 27 32).toNatClampNeg).toNatClampNeg) + (1 : Int32)) (xput hr 27 33 ((hr 27 33) - (1 : Int32))))))) else (f_m_goes_73 ((hr 27 32) + (2 : Int32)) (xput hr 27 33 ((hr 27 33) - (1 : Int32)))))) else (if a1 = (5 : Int32) then (xgd (hr 27 32) 240 (xgd (hr 41 (hr 27 32).toNatClampNeg) 250 (some (xput hr 27 32 (hr 39 (hr 41 (hr 27 32).toNatClampNeg).toNatClampNeg))))) else (if a1 = (11 : Int32) then (xgd (hr 27 32) 240 (xgd (hr 41 (hr 27 32).toNatClampNeg) 250 (if (hr 33 (hr 41 (hr 27 32).toNatClampNeg).toNatClampNeg) = 0 then ((f_m_comeBack hr).bind fun q16 => some q16) else (some (xput hr 27 32 ((hr 27 32) + (1 : Int32))))))) else (if a1 = (12 : Int32) then ((f_m_branch a2 hr).bind fun q18 => some q18) else (if a1 = (13 : Int32) then (xgd ((hr 27 33) - (1 : Int32)) 101 (if (hr 46 ((hr 27 33) - (1 : Int32)).toNatClampNeg) = 0 then (some (xput (xput hr 27 33 ((hr 27 33) - (1 : Int32))) 27 32 ((hr 27 32) + (2 : Int32)))) else ((f_m_branch a2 (xput hr 27 33 ((hr 27 33) - (1 : Int32)))).bind fun q22 => some q22))) else (if a1 = (14 : Int32) then ((f_m_table hr).bind fun q24 => some q24) else (if a1 = (15 : Int32) then ((f_m_comeBack hr).bind fun q26 => some q26) else (if a1 = (16 : Int32) then ((f_m_enter a2 ((hr 27 32) + (2 : Int32)) hr).bind fun q28 => some q28) else (some (xput hr 27 32 ((hr 27 32) + (2 : Int32))))))))))))
theorem T_m_goes {hc : xI} {g : xJ} {xs : Nat → Int32} {L c z : Nat} (a1 : Int32) (a2 : Int32) (hr : xI) (r : xI) (H : f_m_goes a1 a2 hr = some r) : Ex 4 147 (0, [some (.ref 27), some (.int a1), some (.int a2), none], [], xSt xG0 hc hr xs g L c z) (.inl none, xSt xG0 hc r xs g L c z) := by
  unfold f_m_goes at H
  refine Ex.many (f' := (8, [some (.ref 27), some (.int a1), some (.int a2), none], [.int (hr 27 32), .ref 42], xSt xG0 hc hr xs g L c z)) ?_ 4 (by rfl)
  obtain ⟨g1, H⟩ := xgd_some H
  refine Ex.guard (f' := (9, [some (.ref 27), some (.int a1), some (.int a2), none], [.int (hr 42 (hr 27 32).toNatClampNeg)], xSt xG0 hc hr xs g L c z)) (by rfl) g1 ?_
  refine Ex.many (f' := (12, [some (.ref 27), some (.int a1), some (.int a2), some (.int (hr 42 (hr 27 32).toNatClampNeg))], [.int (4 : Int32), .int a1], xSt xG0 hc hr xs g L c z)) ?_ 3 (by rfl)
  refine Ex.ite (ls := [some (.ref 27), some (.int a1), some (.int a2), some (.int (hr 42 (hr 27 32).toNatClampNeg))]) (st := []) (S := xSt xG0 hc hr xs g L c z) (by rfl) (fun q2 => ?_) (fun q2 => ?_)
  · replace H := (if_pos q2).symm.trans H
    refine Ex.many (f' := (22, [some (.ref 27), none, none, some (.int (hr 42 (hr 27 32).toNatClampNeg))], [.int ((hr 27 33) - (1 : Int32)), .ref 27], xSt xG0 hc hr xs g L c z)) ?_ 5 (by rfl)
    refine Ex.putR (pc := 25) (k := 27) (j := 33) (v := ((hr 27 33) - (1 : Int32))) (ls := [some (.ref 27), none, none, some (.int (hr 42 (hr 27 32).toNatClampNeg))]) (st := []) (hr := hr) ?_ (by rfl) (by rfl)
    refine Ex.many (f' := (34, [some (.ref 27), none, none, some (.int (hr 42 (hr 27 32).toNatClampNeg))], [.int ((hr 27 33) - (1 : Int32)), .ref 46, .ref 27], xSt xG0 hc (xput hr 27 33 ((hr 27 33) - (1 : Int32))) xs g L c z)) ?_ 5 (by rfl)
    obtain ⟨g3, H⟩ := xgd_some H
    refine Ex.guard (f' := (35, [some (.ref 27), none, none, some (.int (hr 42 (hr 27 32).toNatClampNeg))], [.int (hr 46 ((hr 27 33) - (1 : Int32)).toNatClampNeg), .ref 27], xSt xG0 hc (xput hr 27 33 ((hr 27 33) - (1 : Int32))) xs g L c z)) (by rfl) g3 ?_
    refine Ex.ite (ls := [some (.ref 27), none, none, some (.int (hr 42 (hr 27 32).toNatClampNeg))]) (st := [.ref 27]) (S := xSt xG0 hc (xput hr 27 33 ((hr 27 33) - (1 : Int32))) xs g L c z) (by rfl) (fun q4 => ?_) (fun q4 => ?_)
    · replace H := (if_pos q4).symm.trans H
      refine Ex.many (f' := (52, [some (.ref 27), none, none, some (.int (hr 42 (hr 27 32).toNatClampNeg))], [.int (hr 42 (hr 27 32).toNatClampNeg), .ref 38, .ref 27], xSt xG0 hc (xput hr 27 33 ((hr 27 33) - (1 : Int32))) xs g L c z)) ?_ 3 (by rfl)
      obtain ⟨g5, H⟩ := xgd_some H
      refine Ex.guard (f' := (53, [some (.ref 27), none, none, some (.int (hr 42 (hr 27 32).toNatClampNeg))], [.int (hr 38 (hr 42 (hr 27 32).toNatClampNeg).toNatClampNeg), .ref 27], xSt xG0 hc (xput hr 27 33 ((hr 27 33) - (1 : Int32))) xs g L c z)) (by rfl) g5 ?_
      refine Ex.ite (ls := [some (.ref 27), none, none, some (.int (hr 42 (hr 27 32).toNatClampNeg))]) (st := [.ref 27]) (S := xSt xG0 hc (xput hr 27 33 ((hr 27 33) - (1 : Int32))) xs g L c z) (by rfl) (fun q6 => ?_) (fun q6 => ?_)
      · replace H := (if_pos q6).symm.trans H
        refine Ex.many (f' := (72, [some (.ref 27), none, none, some (.int (hr 42 (hr 27 32).toNatClampNeg))], [.int (hr 42 (hr 27 32).toNatClampNeg), .ref 39, .ref 27], xSt xG0 hc (xput hr 27 33 ((hr 27 33) - (1 : Int32))) xs g L c z)) ?_ 3 (by rfl)
        obtain ⟨g7, H⟩ := xgd_some H
        refine Ex.guard (f' := (73, [some (.ref 27), none, none, some (.int (hr 42 (hr 27 32).toNatClampNeg))], [.int (hr 39 (hr 42 (hr 27 32).toNatClampNeg).toNatClampNeg), .ref 27], xSt xG0 hc (xput hr 27 33 ((hr 27 33) - (1 : Int32))) xs g L c z)) (by rfl) g7 ?_
        refine Ex.kill (ls' := [none, none, none, none]) (by rfl) ?_
        exact T_m_goes_73 (hr 39 (hr 42 (hr 27 32).toNatClampNeg).toNatClampNeg) (xput hr 27 33 ((hr 27 33) - (1 : Int32))) r H
      · replace H := (if_neg q6).symm.trans H
        refine Ex.many (f' := (61, [some (.ref 27), none, none, some (.int (hr 42 (hr 27 32).toNatClampNeg))], [.int (hr 42 (hr 27 32).toNatClampNeg), .ref 38, .ref 27], xSt xG0 hc (xput hr 27 33 ((hr 27 33) - (1 : Int32))) xs g L c z)) ?_ 3 (by rfl)
        obtain ⟨g8, H⟩ := xgd_some H
        refine Ex.guard (f' := (62, [some (.ref 27), none, none, some (.int (hr 42 (hr 27 32).toNatClampNeg))], [.int (hr 38 (hr 42 (hr 27 32).toNatClampNeg).toNatClampNeg), .ref 27], xSt xG0 hc (xput hr 27 33 ((hr 27 33) - (1 : Int32))) xs g L c z)) (by rfl) g8 ?_
        refine Ex.many (f' := (73, [some (.ref 27), none, none, some (.int (hr 42 (hr 27 32).toNatClampNeg))], [.int ((hr 38 (hr 42 (hr 27 32).toNatClampNeg).toNatClampNeg) + (1 : Int32)), .ref 27], xSt xG0 hc (xput hr 27 33 ((hr 27 33) - (1 : Int32))) xs g L c z)) ?_ 3 (by rfl)
        refine Ex.kill (ls' := [none, none, none, none]) (by rfl) ?_
        exact T_m_goes_73 ((hr 38 (hr 42 (hr 27 32).toNatClampNeg).toNatClampNeg) + (1 : Int32)) (xput hr 27 33 ((hr 27 33) - (1 : Int32))) r H
    · replace H := (if_neg q4).symm.trans H
      refine Ex.many (f' := (73, [some (.ref 27), none, none, none], [.int ((hr 27 32) + (2 : Int32)), .ref 27], xSt xG0 hc (xput hr 27 33 ((hr 27 33) - (1 : Int32))) xs g L c z)) ?_ 5 (by rfl)
      refine Ex.kill (ls' := [none, none, none, none]) (by rfl) ?_
      exact T_m_goes_73 ((hr 27 32) + (2 : Int32)) (xput hr 27 33 ((hr 27 33) - (1 : Int32))) r H
  · replace H := (if_neg q2).symm.trans H
    refine Ex.many (f' := (81, [some (.ref 27), some (.int a1), some (.int a2), none], [.int (5 : Int32), .int a1], xSt xG0 hc hr xs g L c z)) ?_ 2 (by rfl)
    refine Ex.ite (ls := [some (.ref 27), some (.int a1), some (.int a2), none]) (st := []) (S := xSt xG0 hc hr xs g L c z) (by rfl) (fun q9 => ?_) (fun q9 => ?_)
    · replace H := (if_pos q9).symm.trans H
      refine Ex.many (f' := (97, [some (.ref 27), none, none, none], [.int (hr 27 32), .ref 41, .ref 39, .ref 27], xSt xG0 hc hr xs g L c z)) ?_ 7 (by rfl)
      obtain ⟨g10, H⟩ := xgd_some H
      refine Ex.guard (f' := (98, [some (.ref 27), none, none, none], [.int (hr 41 (hr 27 32).toNatClampNeg), .ref 39, .ref 27], xSt xG0 hc hr xs g L c z)) (by rfl) g10 ?_
      obtain ⟨g11, H⟩ := xgd_some H
      refine Ex.guard (f' := (99, [some (.ref 27), none, none, none], [.int (hr 39 (hr 41 (hr 27 32).toNatClampNeg).toNatClampNeg), .ref 27], xSt xG0 hc hr xs g L c z)) (by rfl) g11 ?_
      refine Ex.putR (pc := 102) (k := 27) (j := 32) (v := (hr 39 (hr 41 (hr 27 32).toNatClampNeg).toNatClampNeg)) (ls := [some (.ref 27), none, none, none]) (st := []) (hr := hr) ?_ (by rfl) (by rfl)
      refine Ex.many (f' := (267, [some (.ref 27), none, none, none], [], xSt xG0 hc (xput hr 27 32 (hr 39 (hr 41 (hr 27 32).toNatClampNeg).toNatClampNeg)) xs g L c z)) ?_ 1 (by rfl)
      replace H := Option.some.inj H
      subst H
      exact Ex.done (by rfl)
    · replace H := (if_neg q9).symm.trans H
      refine Ex.many (f' := (108, [some (.ref 27), some (.int a1), some (.int a2), none], [.int (11 : Int32), .int a1], xSt xG0 hc hr xs g L c z)) ?_ 2 (by rfl)
      refine Ex.ite (ls := [some (.ref 27), some (.int a1), some (.int a2), none]) (st := []) (S := xSt xG0 hc hr xs g L c z) (by rfl) (fun q12 => ?_) (fun q12 => ?_)
      · replace H := (if_pos q12).symm.trans H
        refine Ex.many (f' := (123, [some (.ref 27), none, none, none], [.int (hr 27 32), .ref 41, .ref 33], xSt xG0 hc hr xs g L c z)) ?_ 6 (by rfl)
        obtain ⟨g13, H⟩ := xgd_some H
        refine Ex.guard (f' := (124, [some (.ref 27), none, none, none], [.int (hr 41 (hr 27 32).toNatClampNeg), .ref 33], xSt xG0 hc hr xs g L c z)) (by rfl) g13 ?_
        obtain ⟨g14, H⟩ := xgd_some H
        refine Ex.guard (f' := (125, [some (.ref 27), none, none, none], [.int (hr 33 (hr 41 (hr 27 32).toNatClampNeg).toNatClampNeg)], xSt xG0 hc hr xs g L c z)) (by rfl) g14 ?_
        refine Ex.ite (ls := [some (.ref 27), none, none, none]) (st := []) (S := xSt xG0 hc hr xs g L c z) (by rfl) (fun q15 => ?_) (fun q15 => ?_)
        · replace H := (if_pos q15).symm.trans H
          refine Ex.many (f' := (129, [some (.ref 27), none, none, none], [.ref 27], xSt xG0 hc hr xs g L c z)) ?_ 1 (by rfl)
          obtain ⟨q16, hq16, H⟩ := xbd H
          refine Ex.call (mk := 148) (vs := [.ref 27]) (rest := []) (by rfl) (by rfl) (Ex.up (T_m_comeBack hr q16 hq16) (by decide)) (xbb c z) ?_
          show Ex _ _ (132, [some (.ref 27), none, none, none], [], xSt xG0 hc q16 xs g L c z) _
          refine Ex.many (f' := (267, [none, none, none, none], [], xSt xG0 hc q16 xs g L c z)) ?_ 1 (by rfl)
          replace H := Option.some.inj H
          subst H
          exact Ex.done (by rfl)
        · replace H := (if_neg q15).symm.trans H
          refine Ex.many (f' := (142, [some (.ref 27), none, none, none], [.int ((hr 27 32) + (1 : Int32)), .ref 27], xSt xG0 hc hr xs g L c z)) ?_ 5 (by rfl)
          refine Ex.putR (pc := 145) (k := 27) (j := 32) (v := ((hr 27 32) + (1 : Int32))) (ls := [some (.ref 27), none, none, none]) (st := []) (hr := hr) ?_ (by rfl) (by rfl)
          refine Ex.many (f' := (267, [some (.ref 27), none, none, none], [], xSt xG0 hc (xput hr 27 32 ((hr 27 32) + (1 : Int32))) xs g L c z)) ?_ 1 (by rfl)
          replace H := Option.some.inj H
          subst H
          exact Ex.done (by rfl)
      · replace H := (if_neg q12).symm.trans H
        refine Ex.many (f' := (151, [some (.ref 27), some (.int a1), some (.int a2), none], [.int (12 : Int32), .int a1], xSt xG0 hc hr xs g L c z)) ?_ 2 (by rfl)
        refine Ex.ite (ls := [some (.ref 27), some (.int a1), some (.int a2), none]) (st := []) (S := xSt xG0 hc hr xs g L c z) (by rfl) (fun q17 => ?_) (fun q17 => ?_)
        · replace H := (if_pos q17).symm.trans H
          refine Ex.many (f' := (156, [some (.ref 27), none, some (.int a2), none], [.int a2, .ref 27], xSt xG0 hc hr xs g L c z)) ?_ 2 (by rfl)
          obtain ⟨q18, hq18, H⟩ := xbd H
          refine Ex.call (mk := 150) (vs := [.ref 27, .int a2]) (rest := []) (by rfl) (by rfl) (Ex.up (T_m_branch a2 hr q18 hq18) (by decide)) (xbb c z) ?_
          show Ex _ _ (159, [some (.ref 27), none, some (.int a2), none], [], xSt xG0 hc q18 xs g L c z) _
          refine Ex.many (f' := (267, [none, none, none, none], [], xSt xG0 hc q18 xs g L c z)) ?_ 1 (by rfl)
          replace H := Option.some.inj H
          subst H
          exact Ex.done (by rfl)
        · replace H := (if_neg q17).symm.trans H
          refine Ex.many (f' := (165, [some (.ref 27), some (.int a1), some (.int a2), none], [.int (13 : Int32), .int a1], xSt xG0 hc hr xs g L c z)) ?_ 2 (by rfl)
          refine Ex.ite (ls := [some (.ref 27), some (.int a1), some (.int a2), none]) (st := []) (S := xSt xG0 hc hr xs g L c z) (by rfl) (fun q19 => ?_) (fun q19 => ?_)
          · replace H := (if_pos q19).symm.trans H
            refine Ex.many (f' := (175, [some (.ref 27), none, some (.int a2), none], [.int ((hr 27 33) - (1 : Int32)), .ref 27], xSt xG0 hc hr xs g L c z)) ?_ 5 (by rfl)
            refine Ex.putR (pc := 178) (k := 27) (j := 33) (v := ((hr 27 33) - (1 : Int32))) (ls := [some (.ref 27), none, some (.int a2), none]) (st := []) (hr := hr) ?_ (by rfl) (by rfl)
            refine Ex.many (f' := (186, [some (.ref 27), none, some (.int a2), none], [.int ((hr 27 33) - (1 : Int32)), .ref 46], xSt xG0 hc (xput hr 27 33 ((hr 27 33) - (1 : Int32))) xs g L c z)) ?_ 4 (by rfl)
            obtain ⟨g20, H⟩ := xgd_some H
            refine Ex.guard (f' := (187, [some (.ref 27), none, some (.int a2), none], [.int (hr 46 ((hr 27 33) - (1 : Int32)).toNatClampNeg)], xSt xG0 hc (xput hr 27 33 ((hr 27 33) - (1 : Int32))) xs g L c z)) (by rfl) g20 ?_
            refine Ex.ite (ls := [some (.ref 27), none, some (.int a2), none]) (st := []) (S := xSt xG0 hc (xput hr 27 33 ((hr 27 33) - (1 : Int32))) xs g L c z) (by rfl) (fun q21 => ?_) (fun q21 => ?_)
            · replace H := (if_pos q21).symm.trans H
              refine Ex.many (f' := (205, [some (.ref 27), none, none, none], [.int ((hr 27 32) + (2 : Int32)), .ref 27], xSt xG0 hc (xput hr 27 33 ((hr 27 33) - (1 : Int32))) xs g L c z)) ?_ 5 (by rfl)
              refine Ex.putR (pc := 208) (k := 27) (j := 32) (v := ((hr 27 32) + (2 : Int32))) (ls := [some (.ref 27), none, none, none]) (st := []) (hr := (xput hr 27 33 ((hr 27 33) - (1 : Int32)))) ?_ (by rfl) (by rfl)
              refine Ex.many (f' := (267, [some (.ref 27), none, none, none], [], xSt xG0 hc (xput (xput hr 27 33 ((hr 27 33) - (1 : Int32))) 27 32 ((hr 27 32) + (2 : Int32))) xs g L c z)) ?_ 1 (by rfl)
              replace H := Option.some.inj H
              subst H
              exact Ex.done (by rfl)
            · replace H := (if_neg q21).symm.trans H
              refine Ex.many (f' := (192, [some (.ref 27), none, some (.int a2), none], [.int a2, .ref 27], xSt xG0 hc (xput hr 27 33 ((hr 27 33) - (1 : Int32))) xs g L c z)) ?_ 2 (by rfl)
              obtain ⟨q22, hq22, H⟩ := xbd H
              refine Ex.call (mk := 150) (vs := [.ref 27, .int a2]) (rest := []) (by rfl) (by rfl) (Ex.up (T_m_branch a2 (xput hr 27 33 ((hr 27 33) - (1 : Int32))) q22 hq22) (by decide)) (xbb c z) ?_
              show Ex _ _ (195, [some (.ref 27), none, some (.int a2), none], [], xSt xG0 hc q22 xs g L c z) _
              refine Ex.many (f' := (267, [none, none, none, none], [], xSt xG0 hc q22 xs g L c z)) ?_ 1 (by rfl)
              replace H := Option.some.inj H
              subst H
              exact Ex.done (by rfl)
          · replace H := (if_neg q19).symm.trans H
            refine Ex.many (f' := (214, [some (.ref 27), some (.int a1), some (.int a2), none], [.int (14 : Int32), .int a1], xSt xG0 hc hr xs g L c z)) ?_ 2 (by rfl)
            refine Ex.ite (ls := [some (.ref 27), some (.int a1), some (.int a2), none]) (st := []) (S := xSt xG0 hc hr xs g L c z) (by rfl) (fun q23 => ?_) (fun q23 => ?_)
            · replace H := (if_pos q23).symm.trans H
              refine Ex.many (f' := (218, [some (.ref 27), none, none, none], [.ref 27], xSt xG0 hc hr xs g L c z)) ?_ 1 (by rfl)
              obtain ⟨q24, hq24, H⟩ := xbd H
              refine Ex.call (mk := 151) (vs := [.ref 27]) (rest := []) (by rfl) (by rfl) (Ex.up (T_m_table hr q24 hq24) (by decide)) (xbb c z) ?_
              show Ex _ _ (221, [some (.ref 27), none, none, none], [], xSt xG0 hc q24 xs g L c z) _
              refine Ex.many (f' := (267, [none, none, none, none], [], xSt xG0 hc q24 xs g L c z)) ?_ 1 (by rfl)
              replace H := Option.some.inj H
              subst H
              exact Ex.done (by rfl)
            · replace H := (if_neg q23).symm.trans H
              refine Ex.many (f' := (227, [some (.ref 27), some (.int a1), some (.int a2), none], [.int (15 : Int32), .int a1], xSt xG0 hc hr xs g L c z)) ?_ 2 (by rfl)
              refine Ex.ite (ls := [some (.ref 27), some (.int a1), some (.int a2), none]) (st := []) (S := xSt xG0 hc hr xs g L c z) (by rfl) (fun q25 => ?_) (fun q25 => ?_)
              · replace H := (if_pos q25).symm.trans H
                refine Ex.many (f' := (231, [some (.ref 27), none, none, none], [.ref 27], xSt xG0 hc hr xs g L c z)) ?_ 1 (by rfl)
                obtain ⟨q26, hq26, H⟩ := xbd H
                refine Ex.call (mk := 148) (vs := [.ref 27]) (rest := []) (by rfl) (by rfl) (Ex.up (T_m_comeBack hr q26 hq26) (by decide)) (xbb c z) ?_
                show Ex _ _ (234, [some (.ref 27), none, none, none], [], xSt xG0 hc q26 xs g L c z) _
                refine Ex.many (f' := (267, [none, none, none, none], [], xSt xG0 hc q26 xs g L c z)) ?_ 1 (by rfl)
                replace H := Option.some.inj H
                subst H
                exact Ex.done (by rfl)
              · replace H := (if_neg q25).symm.trans H
                refine Ex.many (f' := (240, [some (.ref 27), some (.int a1), some (.int a2), none], [.int (16 : Int32), .int a1], xSt xG0 hc hr xs g L c z)) ?_ 2 (by rfl)
                refine Ex.ite (ls := [some (.ref 27), some (.int a1), some (.int a2), none]) (st := []) (S := xSt xG0 hc hr xs g L c z) (by rfl) (fun q27 => ?_) (fun q27 => ?_)
                · replace H := (if_pos q27).symm.trans H
                  refine Ex.many (f' := (251, [some (.ref 27), none, some (.int a2), none], [.int ((hr 27 32) + (2 : Int32)), .int a2, .ref 27], xSt xG0 hc hr xs g L c z)) ?_ 6 (by rfl)
                  obtain ⟨q28, hq28, H⟩ := xbd H
                  refine Ex.call (mk := 139) (vs := [.ref 27, .int a2, .int ((hr 27 32) + (2 : Int32))]) (rest := []) (by rfl) (by rfl) (Ex.up (T_m_enter a2 ((hr 27 32) + (2 : Int32)) hr q28 hq28) (by decide)) (xbb c z) ?_
                  show Ex _ _ (254, [some (.ref 27), none, some (.int a2), none], [], xSt xG0 hc q28 xs g L c z) _
                  refine Ex.many (f' := (267, [none, none, none, none], [], xSt xG0 hc q28 xs g L c z)) ?_ 1 (by rfl)
                  replace H := Option.some.inj H
                  subst H
                  exact Ex.done (by rfl)
                · replace H := (if_neg q27).symm.trans H
                  refine Ex.many (f' := (264, [some (.ref 27), none, none, none], [.int ((hr 27 32) + (2 : Int32)), .ref 27], xSt xG0 hc hr xs g L c z)) ?_ 5 (by rfl)
                  refine Ex.putR (pc := 267) (k := 27) (j := 32) (v := ((hr 27 32) + (2 : Int32))) (ls := [some (.ref 27), none, none, none]) (st := []) (hr := hr) ?_ (by rfl) (by rfl)
                  replace H := Option.some.inj H
                  subst H
                  exact Ex.done (by rfl)
