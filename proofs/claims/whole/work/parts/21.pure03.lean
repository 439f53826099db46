/-! Methods as functions. -/
def f_w_poke (a1 : Int32) (a2 : Int32) (hc : xI) : Option (Int32 × xI) :=
  if (hc 0 6) = (2 : Int32) then (some ((0 : Int32), hc)) else (if (f_y_holds a1.toInt64 (1 : Int32) hc) = 0 then (some ((0 : Int32), hc)) else ((f_y_write a1 a2 (1 : Int32) hc).bind fun q4 => some ((1 : Int32), q4)))
theorem T_w_poke {hr : xI} {g : xJ} {xs : Nat → Int32} {L c z : Nat} (a1 : Int32) (a2 : Int32) (hc : xI) (r : (Int32 × xI)) (H : f_w_poke a1 a2 hc = some r) : Ex 1 61 (0, [some (.ref 0), some (.int a1), some (.int a2)], [], xSt xG0 hc hr xs g L c z) (.inl (some (.int r.1)), xSt xG0 r.2 hr xs g L c z) := by
  unfold f_w_poke at H
  refine Ex.many (f' := (5, [some (.ref 0), some (.int a1), some (.int a2)], [.int (2 : Int32), .int (hc 0 6)], xSt xG0 hc hr xs g L c z)) ?_ 3 (by rfl)
  refine Ex.ite (ls := [some (.ref 0), some (.int a1), some (.int a2)]) (st := []) (S := xSt xG0 hc hr xs g L c z) (by rfl) (fun q1 => ?_) (fun q1 => ?_)
  · replace H := (if_pos q1).symm.trans H
    refine Ex.many (f' := (22, [none, none, none], [.int (0 : Int32)], xSt xG0 hc hr xs g L c z)) ?_ 1 (by rfl)
    replace H := Option.some.inj H
    subst H
    exact Ex.done (by rfl)
  · replace H := (if_neg q1).symm.trans H
    refine Ex.many (f' := (15, [some (.ref 0), some (.int a1), some (.int a2)], [.int (1 : Int32), .long a1.toInt64, .ref 11], xSt xG0 hc hr xs g L c z)) ?_ 5 (by rfl)
    refine Ex.call (mk := 40) (vs := [.ref 11, .long a1.toInt64, .int (1 : Int32)]) (rest := []) (by rfl) (by rfl) (Ex.up (T_y_holds a1.toInt64 (1 : Int32) hc _ rfl) (by decide)) (xbb c z) ?_
    show Ex _ _ (18, [some (.ref 0), some (.int a1), some (.int a2)], [.int (f_y_holds a1.toInt64 (1 : Int32) hc)], xSt xG0 hc hr xs g L c z) _
    refine Ex.ite (ls := [some (.ref 0), some (.int a1), some (.int a2)]) (st := []) (S := xSt xG0 hc hr xs g L c z) (by rfl) (fun q3 => ?_) (fun q3 => ?_)
    · replace H := (if_pos q3).symm.trans H
      refine Ex.many (f' := (22, [none, none, none], [.int (0 : Int32)], xSt xG0 hc hr xs g L c z)) ?_ 1 (by rfl)
      replace H := Option.some.inj H
      subst H
      exact Ex.done (by rfl)
    · replace H := (if_neg q3).symm.trans H
      refine Ex.many (f' := (30, [some (.ref 0), some (.int a1), some (.int a2)], [.int (1 : Int32), .int a2, .int a1, .ref 11], xSt xG0 hc hr xs g L c z)) ?_ 5 (by rfl)
      obtain ⟨q4, hq4, H⟩ := xbd H
      refine Ex.call (mk := 41) (vs := [.ref 11, .int a1, .int a2, .int (1 : Int32)]) (rest := []) (by rfl) (by rfl) (Ex.up (T_y_write a1 a2 (1 : Int32) hc q4 hq4) (by decide)) (xbb c z) ?_
      show Ex _ _ (33, [some (.ref 0), some (.int a1), some (.int a2)], [], xSt xG0 q4 hr xs g L c z) _
      refine Ex.many (f' := (34, [none, none, none], [.int (1 : Int32)], xSt xG0 q4 hr xs g L c z)) ?_ 1 (by rfl)
      replace H := Option.some.inj H
      subst H
      exact Ex.done (by rfl)
def f_c_hasRoomFor (a1 : Int32) (hc : xI) : Int32 :=
  if (240 : Int32) < ((hc 1 1) + a1) then (0 : Int32) else (1 : Int32)
theorem T_c_hasRoomFor {hr : xI} {g : xJ} {xs : Nat → Int32} {L c z : Nat} (a1 : Int32) (hc : xI) (r : Int32) (H : f_c_hasRoomFor a1 hc = r) : Ex 0 64 (0, [some (.ref 1), some (.int a1)], [], xSt xG0 hc hr xs g L c z) (.inl (some (.int r)), xSt xG0 hc hr xs g L c z) := by
  unfold f_c_hasRoomFor at H
  refine Ex.many (f' := (9, [some (.ref 1), some (.int a1)], [.int (240 : Int32), .int ((hc 1 1) + a1)], xSt xG0 hc hr xs g L c z)) ?_ 5 (by rfl)
  refine Ex.ite (ls := [some (.ref 1), some (.int a1)]) (st := []) (S := xSt xG0 hc hr xs g L c z) (by rfl) (fun q1 => ?_) (fun q1 => ?_)
  · replace H := (if_pos q1).symm.trans H
    refine Ex.many (f' := (17, [none, none], [.int (0 : Int32)], xSt xG0 hc hr xs g L c z)) ?_ 1 (by rfl)
    skip
    subst H
    exact Ex.done (by rfl)
  · replace H := (if_neg q1).symm.trans H
    refine Ex.many (f' := (17, [none, none], [.int (1 : Int32)], xSt xG0 hc hr xs g L c z)) ?_ 2 (by rfl)
    skip
    subst H
    exact Ex.done (by rfl)
def f_c_append (a1 : Int32) (hc : xI) : Option xI :=
  xgd (hc 1 1) 240 (some (xput (xput hc 2 (hc 1 1).toNatClampNeg a1) 1 1 ((hc 1 1) + (1 : Int32))))
theorem T_c_append {hr : xI} {g : xJ} {xs : Nat → Int32} {L c z : Nat} (a1 : Int32) (hc : xI) (r : xI) (H : f_c_append a1 hc = some r) : Ex 0 65 (0, [some (.ref 1), some (.int a1)], [], xSt xG0 hc hr xs g L c z) (.inl none, xSt xG0 r hr xs g L c z) := by
  unfold f_c_append at H
  refine Ex.many (f' := (9, [some (.ref 1), some (.int a1)], [.int a1, .int (hc 1 1), .ref 2], xSt xG0 hc hr xs g L c z)) ?_ 5 (by rfl)
  obtain ⟨g1, H⟩ := xgd_some H
  refine Ex.gputC (pc := 10) (k := 2) (n := 240) (i := (hc 1 1)) (v := a1) (ls := [some (.ref 1), some (.int a1)]) (st := []) (hc := hc) ?_ (by rfl) g1 (by rfl)
  refine Ex.many (f' := (17, [some (.ref 1), some (.int a1)], [.int ((hc 1 1) + (1 : Int32)), .ref 1], xSt xG0 (xput hc 2 (hc 1 1).toNatClampNeg a1) hr xs g L c z)) ?_ 5 (by rfl)
  refine Ex.putC (pc := 20) (k := 1) (j := 1) (v := ((hc 1 1) + (1 : Int32))) (ls := [some (.ref 1), some (.int a1)]) (st := []) (hc := (xput hc 2 (hc 1 1).toNatClampNeg a1)) ?_ (by rfl) (by rfl)
  replace H := Option.some.inj H
  subst H
  exact Ex.done (by rfl)
def f_w_feed_11 (hc : xI) : Option ((Int32 ⊕ Nat) × xI) :=
  some ((.inr 0), hc)
theorem T_w_feed_11 {hr : xI} {g : xJ} {xs : Nat → Int32} {L c z : Nat} (hcz : 0 < c ∧ 6 ≤ z) (hc : xI) (r : ((Int32 ⊕ Nat) × xI)) (H : f_w_feed_11 hc = some r) : Ex 6 63 (11, [none, none, none, none, none], [], xSt xG0 hc hr xs g L c z) (xto r.1, xSt xG0 r.2 hr xs g L (xtc r.1 c) (xtz r.1 z)) := by
  unfold f_w_feed_11 at H
  replace H := Option.some.inj H
  subst H
  exact Ex.throw (w := 0) hcz (by rfl) (by decide) (by decide)
def f_w_feed_39 (hc : xI) : Option ((Int32 ⊕ Nat) × xI) :=
  some ((.inr 1), hc)
theorem T_w_feed_39 {hr : xI} {g : xJ} {xs : Nat → Int32} {L c z : Nat} (hcz : 0 < c ∧ 6 ≤ z) (hc : xI) (r : ((Int32 ⊕ Nat) × xI)) (H : f_w_feed_39 hc = some r) : Ex 6 63 (39, [none, none, none, none, none], [], xSt xG0 hc hr xs g L c z) (xto r.1, xSt xG0 r.2 hr xs g L (xtc r.1 c) (xtz r.1 z)) := by
  unfold f_w_feed_39 at H
  replace H := Option.some.inj H
  subst H
  exact Ex.throw (w := 0) hcz (by rfl) (by decide) (by decide)
def f_w_feed_54 : Nat → Int64 → Int32 → xI → Option ((Int32 ⊕ Nat) × xI)
  | 0, _, _, _ => none
  | n + 1, v2, v4, hc => if v4 < 0 then (some ((.inl (hc 1 1)), hc)) else ((f_c_append ((xlushr v2 ((8 : Int32) * v4)).toInt32 &&& (255 : Int32)) hc).bind fun q2 => f_w_feed_54 n v2 (v4 + (-1 : Int32)) q2)
theorem T_w_feed_54 {hr : xI} {g : xJ} {xs : Nat → Int32} {L c z : Nat} (hcz : 0 < c ∧ 6 ≤ z) (n : Nat) : ∀ (v2 : Int64) (v4 : Int32) (hc : xI) (r : ((Int32 ⊕ Nat) × xI)), f_w_feed_54 n v2 v4 hc = some r → Ex 6 63 (54, [some (.ref 0), none, some (.long v2), none, some (.int v4)], [], xSt xG0 hc hr xs g L c z) (xto r.1, xSt xG0 r.2 hr xs g L (xtc r.1 c) (xtz r.1 z)) := by
  induction n with
  | zero =>
    intro v2 v4 hc r H
    unfold f_w_feed_54 at H
    cases H
  | succ n ih =>
    intro v2 v4 hc r H
    unfold f_w_feed_54 at H
    refine Ex.many (f' := (56, [some (.ref 0), none, some (.long v2), none, some (.int v4)], [.int v4], xSt xG0 hc hr xs g L c z)) ?_ 1 (by rfl)
    refine Ex.ite (ls := [some (.ref 0), none, some (.long v2), none, some (.int v4)]) (st := []) (S := xSt xG0 hc hr xs g L c z) (by rfl) (fun q1 => ?_) (fun q1 => ?_)
    · replace H := (if_pos q1).symm.trans H
      refine Ex.many (f' := (91, [some (.ref 0), none, none, none, none], [.int (hc 1 1)], xSt xG0 hc hr xs g L c z)) ?_ 3 (by rfl)
      replace H := Option.some.inj H
      subst H
      exact Ex.done (by rfl)
    · replace H := (if_neg q1).symm.trans H
      refine Ex.many (f' := (75, [some (.ref 0), none, some (.long v2), none, some (.int v4)], [.int ((xlushr v2 ((8 : Int32) * v4)).toInt32 &&& (255 : Int32)), .ref 1], xSt xG0 hc hr xs g L c z)) ?_ 10 (by rfl)
      obtain ⟨q2, hq2, H⟩ := xbd H
      refine Ex.call (mk := 65) (vs := [.ref 1, .int ((xlushr v2 ((8 : Int32) * v4)).toInt32 &&& (255 : Int32))]) (rest := []) (by rfl) (by rfl) (Ex.up (T_c_append ((xlushr v2 ((8 : Int32) * v4)).toInt32 &&& (255 : Int32)) hc q2 hq2) (by decide)) (xbb c z) ?_
      show Ex _ _ (78, [some (.ref 0), none, some (.long v2), none, some (.int v4)], [], xSt xG0 q2 hr xs g L c z) _
      refine Ex.many (f' := (54, [some (.ref 0), none, some (.long v2), none, some (.int (v4 + (-1 : Int32)))], [], xSt xG0 q2 hr xs g L c z)) ?_ 2 (by rfl)
      exact ih v2 (v4 + (-1 : Int32)) q2 r H
def f_w_feed (a1 : Int32) (a2 : Int64) (hc : xI) : Option ((Int32 ⊕ Nat) × xI) :=
  if a1 < (1 : Int32) then (f_w_feed_11 hc) else (if a1 ≤ (8 : Int32) then (if (hc 0 6) = 0 then (if (f_c_hasRoomFor a1 hc) = 0 then (f_w_feed_39 hc) else (f_w_feed_54 1000 a2 (a1 - (1 : Int32)) hc)) else (f_w_feed_39 hc)) else (f_w_feed_11 hc))
theorem T_w_feed {hr : xI} {g : xJ} {xs : Nat → Int32} {L c z : Nat} (hcz : 0 < c ∧ 6 ≤ z) (a1 : Int32) (a2 : Int64) (hc : xI) (r : ((Int32 ⊕ Nat) × xI)) (H : f_w_feed a1 a2 hc = some r) : Ex 6 63 (0, [some (.ref 0), some (.int a1), some (.long a2), none, none], [], xSt xG0 hc hr xs g L c z) (xto r.1, xSt xG0 r.2 hr xs g L (xtc r.1 c) (xtz r.1 z)) := by
  unfold f_w_feed at H
  refine Ex.many (f' := (2, [some (.ref 0), some (.int a1), some (.long a2), none, none], [.int (1 : Int32), .int a1], xSt xG0 hc hr xs g L c z)) ?_ 2 (by rfl)
  refine Ex.ite (ls := [some (.ref 0), some (.int a1), some (.long a2), none, none]) (st := []) (S := xSt xG0 hc hr xs g L c z) (by rfl) (fun q1 => ?_) (fun q1 => ?_)
  · replace H := (if_pos q1).symm.trans H
    refine Ex.kill (ls' := [none, none, none, none, none]) (by rfl) ?_
    exact T_w_feed_11 hcz hc r H
  · replace H := (if_neg q1).symm.trans H
    refine Ex.many (f' := (8, [some (.ref 0), some (.int a1), some (.long a2), none, none], [.int (8 : Int32), .int a1], xSt xG0 hc hr xs g L c z)) ?_ 2 (by rfl)
    refine Ex.ite (ls := [some (.ref 0), some (.int a1), some (.long a2), none, none]) (st := []) (S := xSt xG0 hc hr xs g L c z) (by rfl) (fun q2 => ?_) (fun q2 => ?_)
    · replace H := (if_pos q2).symm.trans H
      refine Ex.many (f' := (25, [some (.ref 0), some (.int a1), some (.long a2), none, none], [.int (hc 0 6)], xSt xG0 hc hr xs g L c z)) ?_ 2 (by rfl)
      refine Ex.ite (ls := [some (.ref 0), some (.int a1), some (.long a2), none, none]) (st := []) (S := xSt xG0 hc hr xs g L c z) (by rfl) (fun q3 => ?_) (fun q3 => ?_)
      · replace H := (if_pos q3).symm.trans H
        refine Ex.many (f' := (33, [some (.ref 0), some (.int a1), some (.long a2), none, none], [.int a1, .ref 1], xSt xG0 hc hr xs g L c z)) ?_ 3 (by rfl)
        refine Ex.call (mk := 64) (vs := [.ref 1, .int a1]) (rest := []) (by rfl) (by rfl) (Ex.up (T_c_hasRoomFor a1 hc _ rfl) (by decide)) (xbb c z) ?_
        show Ex _ _ (36, [some (.ref 0), some (.int a1), some (.long a2), none, none], [.int (f_c_hasRoomFor a1 hc)], xSt xG0 hc hr xs g L c z) _
        refine Ex.ite (ls := [some (.ref 0), some (.int a1), some (.long a2), none, none]) (st := []) (S := xSt xG0 hc hr xs g L c z) (by rfl) (fun q5 => ?_) (fun q5 => ?_)
        · replace H := (if_pos q5).symm.trans H
          refine Ex.kill (ls' := [none, none, none, none, none]) (by rfl) ?_
          exact T_w_feed_39 hcz hc r H
        · replace H := (if_neg q5).symm.trans H
          refine Ex.many (f' := (54, [some (.ref 0), some (.int a1), some (.long a2), none, some (.int (a1 - (1 : Int32)))], [], xSt xG0 hc hr xs g L c z)) ?_ 4 (by rfl)
          refine Ex.kill (ls' := [some (.ref 0), none, some (.long a2), none, some (.int (a1 - (1 : Int32)))]) (by rfl) ?_
          exact T_w_feed_54 hcz 1000 a2 (a1 - (1 : Int32)) hc r H
      · replace H := (if_neg q3).symm.trans H
        refine Ex.kill (ls' := [none, none, none, none, none]) (by rfl) ?_
        exact T_w_feed_39 hcz hc r H
    · replace H := (if_neg q2).symm.trans H
      refine Ex.kill (ls' := [none, none, none, none, none]) (by rfl) ?_
      exact T_w_feed_11 hcz hc r H
def f_w_word_18 (hc : xI) : Option ((Int32 ⊕ Nat) × xI) :=
  some ((.inr 1), hc)
theorem T_w_word_18 {hr : xI} {g : xJ} {xs : Nat → Int32} {L c z : Nat} (hcz : 0 < c ∧ 6 ≤ z) (hc : xI) (r : ((Int32 ⊕ Nat) × xI)) (H : f_w_word_18 hc = some r) : Ex 6 67 (18, [none, none], [], xSt xG0 hc hr xs g L c z) (xto r.1, xSt xG0 r.2 hr xs g L (xtc r.1 c) (xtz r.1 z)) := by
  unfold f_w_word_18 at H
  replace H := Option.some.inj H
  subst H
  exact Ex.throw (w := 0) hcz (by rfl) (by decide) (by decide)
def f_w_word (a1 : Int32) (hc : xI) : Option ((Int32 ⊕ Nat) × xI) :=
  if (hc 0 6) = 0 then (if (f_c_hasRoomFor (1 : Int32) hc) = 0 then (f_w_word_18 hc) else ((f_c_append a1 hc).bind fun q4 => some ((.inl (q4 1 1)), q4))) else (f_w_word_18 hc)
theorem T_w_word {hr : xI} {g : xJ} {xs : Nat → Int32} {L c z : Nat} (hcz : 0 < c ∧ 6 ≤ z) (a1 : Int32) (hc : xI) (r : ((Int32 ⊕ Nat) × xI)) (H : f_w_word a1 hc = some r) : Ex 6 67 (0, [some (.ref 0), some (.int a1)], [], xSt xG0 hc hr xs g L c z) (xto r.1, xSt xG0 r.2 hr xs g L (xtc r.1 c) (xtz r.1 z)) := by
  unfold f_w_word at H
  refine Ex.many (f' := (4, [some (.ref 0), some (.int a1)], [.int (hc 0 6)], xSt xG0 hc hr xs g L c z)) ?_ 2 (by rfl)
  refine Ex.ite (ls := [some (.ref 0), some (.int a1)]) (st := []) (S := xSt xG0 hc hr xs g L c z) (by rfl) (fun q1 => ?_) (fun q1 => ?_)
  · replace H := (if_pos q1).symm.trans H
    refine Ex.many (f' := (12, [some (.ref 0), some (.int a1)], [.int (1 : Int32), .ref 1], xSt xG0 hc hr xs g L c z)) ?_ 3 (by rfl)
    refine Ex.call (mk := 64) (vs := [.ref 1, .int (1 : Int32)]) (rest := []) (by rfl) (by rfl) (Ex.up (T_c_hasRoomFor (1 : Int32) hc _ rfl) (by decide)) (xbb c z) ?_
    show Ex _ _ (15, [some (.ref 0), some (.int a1)], [.int (f_c_hasRoomFor (1 : Int32) hc)], xSt xG0 hc hr xs g L c z) _
    refine Ex.ite (ls := [some (.ref 0), some (.int a1)]) (st := []) (S := xSt xG0 hc hr xs g L c z) (by rfl) (fun q3 => ?_) (fun q3 => ?_)
    · replace H := (if_pos q3).symm.trans H
      refine Ex.kill (ls' := [none, none]) (by rfl) ?_
      exact T_w_word_18 hcz hc r H
    · replace H := (if_neg q3).symm.trans H
      refine Ex.many (f' := (33, [some (.ref 0), some (.int a1)], [.int a1, .ref 1], xSt xG0 hc hr xs g L c z)) ?_ 3 (by rfl)
      obtain ⟨q4, hq4, H⟩ := xbd H
      refine Ex.call (mk := 65) (vs := [.ref 1, .int a1]) (rest := []) (by rfl) (by rfl) (Ex.up (T_c_append a1 hc q4 hq4) (by decide)) (xbb c z) ?_
      show Ex _ _ (36, [some (.ref 0), some (.int a1)], [], xSt xG0 q4 hr xs g L c z) _
      refine Ex.many (f' := (43, [some (.ref 0), none], [.int (q4 1 1)], xSt xG0 q4 hr xs g L c z)) ?_ 3 (by rfl)
      replace H := Option.some.inj H
      subst H
      exact Ex.done (by rfl)
  · replace H := (if_neg q1).symm.trans H
    refine Ex.kill (ls' := [none, none]) (by rfl) ?_
    exact T_w_word_18 hcz hc r H
def f_c_isSignature (a0 : Int32) (a1 : Int32) (a2 : Int32) : Int32 :=
  if a0 < 0 then (0 : Int32) else (if (4 : Int32) < a0 then (0 : Int32) else (if a1 < 0 then (0 : Int32) else (if (4 : Int32) < a1 then (0 : Int32) else (if a2 < 0 then (0 : Int32) else (if (1 : Int32) < a2 then (0 : Int32) else (1 : Int32))))))
theorem T_c_isSignature {hc : xI} {hr : xI} {g : xJ} {xs : Nat → Int32} {L c z : Nat} (a0 : Int32) (a1 : Int32) (a2 : Int32) (r : Int32) (H : f_c_isSignature a0 a1 a2 = r) : Ex 0 70 (0, [some (.int a0), some (.int a1), some (.int a2)], [], xSt xG0 hc hr xs g L c z) (.inl (some (.int r)), xSt xG0 hc hr xs g L c z) := by
  unfold f_c_isSignature at H
  refine Ex.many (f' := (1, [some (.int a0), some (.int a1), some (.int a2)], [.int a0], xSt xG0 hc hr xs g L c z)) ?_ 1 (by rfl)
  refine Ex.ite (ls := [some (.int a0), some (.int a1), some (.int a2)]) (st := []) (S := xSt xG0 hc hr xs g L c z) (by rfl) (fun q1 => ?_) (fun q1 => ?_)
  · replace H := (if_pos q1).symm.trans H
    refine Ex.many (f' := (32, [none, none, none], [.int (0 : Int32)], xSt xG0 hc hr xs g L c z)) ?_ 1 (by rfl)
    skip
    subst H
    exact Ex.done (by rfl)
  · replace H := (if_neg q1).symm.trans H
    refine Ex.many (f' := (6, [some (.int a0), some (.int a1), some (.int a2)], [.int (4 : Int32), .int a0], xSt xG0 hc hr xs g L c z)) ?_ 2 (by rfl)
    refine Ex.ite (ls := [some (.int a0), some (.int a1), some (.int a2)]) (st := []) (S := xSt xG0 hc hr xs g L c z) (by rfl) (fun q2 => ?_) (fun q2 => ?_)
    · replace H := (if_pos q2).symm.trans H
      refine Ex.many (f' := (32, [none, none, none], [.int (0 : Int32)], xSt xG0 hc hr xs g L c z)) ?_ 1 (by rfl)
      skip
      subst H
      exact Ex.done (by rfl)
    · replace H := (if_neg q2).symm.trans H
      refine Ex.many (f' := (10, [none, some (.int a1), some (.int a2)], [.int a1], xSt xG0 hc hr xs g L c z)) ?_ 1 (by rfl)
      refine Ex.ite (ls := [none, some (.int a1), some (.int a2)]) (st := []) (S := xSt xG0 hc hr xs g L c z) (by rfl) (fun q3 => ?_) (fun q3 => ?_)
      · replace H := (if_pos q3).symm.trans H
        refine Ex.many (f' := (32, [none, none, none], [.int (0 : Int32)], xSt xG0 hc hr xs g L c z)) ?_ 1 (by rfl)
        skip
        subst H
        exact Ex.done (by rfl)
      · replace H := (if_neg q3).symm.trans H
        refine Ex.many (f' := (15, [none, some (.int a1), some (.int a2)], [.int (4 : Int32), .int a1], xSt xG0 hc hr xs g L c z)) ?_ 2 (by rfl)
        refine Ex.ite (ls := [none, some (.int a1), some (.int a2)]) (st := []) (S := xSt xG0 hc hr xs g L c z) (by rfl) (fun q4 => ?_) (fun q4 => ?_)
        · replace H := (if_pos q4).symm.trans H
          refine Ex.many (f' := (32, [none, none, none], [.int (0 : Int32)], xSt xG0 hc hr xs g L c z)) ?_ 1 (by rfl)
          skip
          subst H
          exact Ex.done (by rfl)
        · replace H := (if_neg q4).symm.trans H
          refine Ex.many (f' := (19, [none, none, some (.int a2)], [.int a2], xSt xG0 hc hr xs g L c z)) ?_ 1 (by rfl)
          refine Ex.ite (ls := [none, none, some (.int a2)]) (st := []) (S := xSt xG0 hc hr xs g L c z) (by rfl) (fun q5 => ?_) (fun q5 => ?_)
          · replace H := (if_pos q5).symm.trans H
            refine Ex.many (f' := (32, [none, none, none], [.int (0 : Int32)], xSt xG0 hc hr xs g L c z)) ?_ 1 (by rfl)
            skip
            subst H
            exact Ex.done (by rfl)
          · replace H := (if_neg q5).symm.trans H
            refine Ex.many (f' := (24, [none, none, some (.int a2)], [.int (1 : Int32), .int a2], xSt xG0 hc hr xs g L c z)) ?_ 2 (by rfl)
            refine Ex.ite (ls := [none, none, some (.int a2)]) (st := []) (S := xSt xG0 hc hr xs g L c z) (by rfl) (fun q6 => ?_) (fun q6 => ?_)
            · replace H := (if_pos q6).symm.trans H
              refine Ex.many (f' := (32, [none, none, none], [.int (0 : Int32)], xSt xG0 hc hr xs g L c z)) ?_ 1 (by rfl)
              skip
              subst H
              exact Ex.done (by rfl)
            · replace H := (if_neg q6).symm.trans H
              refine Ex.many (f' := (32, [none, none, none], [.int (1 : Int32)], xSt xG0 hc hr xs g L c z)) ?_ 2 (by rfl)
              skip
              subst H
              exact Ex.done (by rfl)
def f_c_hasRoomForFunction (hc : xI) : Int32 :=
  if (6 : Int32) ≤ (hc 1 2) then (0 : Int32) else (1 : Int32)
theorem T_c_hasRoomForFunction {hr : xI} {g : xJ} {xs : Nat → Int32} {L c z : Nat} (hc : xI) (r : Int32) (H : f_c_hasRoomForFunction hc = r) : Ex 0 71 (0, [some (.ref 1)], [], xSt xG0 hc hr xs g L c z) (.inl (some (.int r)), xSt xG0 hc hr xs g L c z) := by
  unfold f_c_hasRoomForFunction at H
  refine Ex.many (f' := (6, [some (.ref 1)], [.int (6 : Int32), .int (hc 1 2)], xSt xG0 hc hr xs g L c z)) ?_ 3 (by rfl)
  refine Ex.ite (ls := [some (.ref 1)]) (st := []) (S := xSt xG0 hc hr xs g L c z) (by rfl) (fun q1 => ?_) (fun q1 => ?_)
  · replace H := (if_pos q1).symm.trans H
    refine Ex.many (f' := (14, [none], [.int (0 : Int32)], xSt xG0 hc hr xs g L c z)) ?_ 1 (by rfl)
    skip
    subst H
    exact Ex.done (by rfl)
  · replace H := (if_neg q1).symm.trans H
    refine Ex.many (f' := (14, [none], [.int (1 : Int32)], xSt xG0 hc hr xs g L c z)) ?_ 2 (by rfl)
    skip
    subst H
    exact Ex.done (by rfl)
def f_c_hasLooseWords (hc : xI) : Option Int32 :=
  (f_c_bodyStart (hc 1 2) hc).bind fun q1 => if (hc 1 1) ≤ q1 then (some (0 : Int32)) else (some (1 : Int32))
theorem T_c_hasLooseWords {hr : xI} {g : xJ} {xs : Nat → Int32} {L c z : Nat} (hc : xI) (r : Int32) (H : f_c_hasLooseWords hc = some r) : Ex 1 72 (0, [some (.ref 1)], [], xSt xG0 hc hr xs g L c z) (.inl (some (.int r)), xSt xG0 hc hr xs g L c z) := by
  unfold f_c_hasLooseWords at H
  refine Ex.many (f' := (9, [some (.ref 1)], [.int (hc 1 2), .ref 1, .int (hc 1 1)], xSt xG0 hc hr xs g L c z)) ?_ 5 (by rfl)
  obtain ⟨q1, hq1, H⟩ := xbd H
  refine Ex.call (mk := 31) (vs := [.ref 1, .int (hc 1 2)]) (rest := [.int (hc 1 1)]) (by rfl) (by rfl) (Ex.up (T_c_bodyStart (hc 1 2) hc q1 hq1) (by decide)) (xbb c z) ?_
  show Ex _ _ (12, [some (.ref 1)], [.int q1, .int (hc 1 1)], xSt xG0 hc hr xs g L c z) _
  refine Ex.ite (ls := [none]) (st := []) (S := xSt xG0 hc hr xs g L c z) (by rfl) (fun q2 => ?_) (fun q2 => ?_)
  · replace H := (if_pos q2).symm.trans H
    refine Ex.many (f' := (20, [none], [.int (0 : Int32)], xSt xG0 hc hr xs g L c z)) ?_ 1 (by rfl)
    replace H := Option.some.inj H
    subst H
    exact Ex.done (by rfl)
  · replace H := (if_neg q2).symm.trans H
    refine Ex.many (f' := (20, [none], [.int (1 : Int32)], xSt xG0 hc hr xs g L c z)) ?_ 2 (by rfl)
    replace H := Option.some.inj H
    subst H
    exact Ex.done (by rfl)
def f_c_addFunction (a1 : Int32) (a2 : Int32) (a3 : Int32) (hc : xI) : Option (Int32 × xI) :=
  xgd (hc 1 2) 6 (xgd (hc 1 2) 6 (xgd (hc 1 2) 6 (xgd (hc 1 2) 6 (some ((hc 1 2), (xput (xput (xput (xput (xput hc 3 (hc 1 2).toNatClampNeg (hc 1 1)) 4 (hc 1 2).toNatClampNeg a1) 5 (hc 1 2).toNatClampNeg (a1 + a2)) 6 (hc 1 2).toNatClampNeg a3) 1 2 ((hc 1 2) + (1 : Int32))))))))
theorem T_c_addFunction {hr : xI} {g : xJ} {xs : Nat → Int32} {L c z : Nat} (a1 : Int32) (a2 : Int32) (a3 : Int32) (hc : xI) (r : (Int32 × xI)) (H : f_c_addFunction a1 a2 a3 hc = some r) : Ex 0 73 (0, [some (.ref 1), some (.int a1), some (.int a2), some (.int a3), none], [], xSt xG0 hc hr xs g L c z) (.inl (some (.int r.1)), xSt xG0 r.2 hr xs g L c z) := by
  unfold f_c_addFunction at H
  refine Ex.many (f' := (16, [some (.ref 1), some (.int a1), some (.int a2), some (.int a3), some (.int (hc 1 2))], [.int (hc 1 1), .int (hc 1 2), .ref 3], xSt xG0 hc hr xs g L c z)) ?_ 8 (by rfl)
  obtain ⟨g1, H⟩ := xgd_some H
  refine Ex.gputC (pc := 17) (k := 3) (n := 6) (i := (hc 1 2)) (v := (hc 1 1)) (ls := [some (.ref 1), some (.int a1), some (.int a2), some (.int a3), some (.int (hc 1 2))]) (st := []) (hc := hc) ?_ (by rfl) g1 (by rfl)
  refine Ex.many (f' := (24, [some (.ref 1), some (.int a1), some (.int a2), some (.int a3), some (.int (hc 1 2))], [.int a1, .int (hc 1 2), .ref 4], xSt xG0 (xput hc 3 (hc 1 2).toNatClampNeg (hc 1 1)) hr xs g L c z)) ?_ 4 (by rfl)
  obtain ⟨g2, H⟩ := xgd_some H
  refine Ex.gputC (pc := 25) (k := 4) (n := 6) (i := (hc 1 2)) (v := a1) (ls := [some (.ref 1), some (.int a1), some (.int a2), some (.int a3), some (.int (hc 1 2))]) (st := []) (hc := (xput hc 3 (hc 1 2).toNatClampNeg (hc 1 1))) ?_ (by rfl) g2 (by rfl)
  refine Ex.many (f' := (34, [some (.ref 1), some (.int a1), some (.int a2), some (.int a3), some (.int (hc 1 2))], [.int (a1 + a2), .int (hc 1 2), .ref 5], xSt xG0 (xput (xput hc 3 (hc 1 2).toNatClampNeg (hc 1 1)) 4 (hc 1 2).toNatClampNeg a1) hr xs g L c z)) ?_ 6 (by rfl)
  obtain ⟨g3, H⟩ := xgd_some H
  refine Ex.gputC (pc := 35) (k := 5) (n := 6) (i := (hc 1 2)) (v := (a1 + a2)) (ls := [some (.ref 1), some (.int a1), some (.int a2), some (.int a3), some (.int (hc 1 2))]) (st := []) (hc := (xput (xput hc 3 (hc 1 2).toNatClampNeg (hc 1 1)) 4 (hc 1 2).toNatClampNeg a1)) ?_ (by rfl) g3 (by rfl)
  refine Ex.many (f' := (42, [some (.ref 1), some (.int a1), some (.int a2), some (.int a3), some (.int (hc 1 2))], [.int a3, .int (hc 1 2), .ref 6], xSt xG0 (xput (xput (xput hc 3 (hc 1 2).toNatClampNeg (hc 1 1)) 4 (hc 1 2).toNatClampNeg a1) 5 (hc 1 2).toNatClampNeg (a1 + a2)) hr xs g L c z)) ?_ 4 (by rfl)
  obtain ⟨g4, H⟩ := xgd_some H
  refine Ex.gputC (pc := 43) (k := 6) (n := 6) (i := (hc 1 2)) (v := a3) (ls := [some (.ref 1), some (.int a1), some (.int a2), some (.int a3), some (.int (hc 1 2))]) (st := []) (hc := (xput (xput (xput hc 3 (hc 1 2).toNatClampNeg (hc 1 1)) 4 (hc 1 2).toNatClampNeg a1) 5 (hc 1 2).toNatClampNeg (a1 + a2))) ?_ (by rfl) g4 (by rfl)
  refine Ex.many (f' := (50, [some (.ref 1), some (.int a1), some (.int a2), some (.int a3), some (.int (hc 1 2))], [.int ((hc 1 2) + (1 : Int32)), .ref 1], xSt xG0 (xput (xput (xput (xput hc 3 (hc 1 2).toNatClampNeg (hc 1 1)) 4 (hc 1 2).toNatClampNeg a1) 5 (hc 1 2).toNatClampNeg (a1 + a2)) 6 (hc 1 2).toNatClampNeg a3) hr xs g L c z)) ?_ 5 (by rfl)
  refine Ex.putC (pc := 53) (k := 1) (j := 2) (v := ((hc 1 2) + (1 : Int32))) (ls := [some (.ref 1), some (.int a1), some (.int a2), some (.int a3), some (.int (hc 1 2))]) (st := []) (hc := (xput (xput (xput (xput hc 3 (hc 1 2).toNatClampNeg (hc 1 1)) 4 (hc 1 2).toNatClampNeg a1) 5 (hc 1 2).toNatClampNeg (a1 + a2)) 6 (hc 1 2).toNatClampNeg a3)) ?_ (by rfl) (by rfl)
  refine Ex.many (f' := (55, [some (.ref 1), some (.int a1), some (.int a2), some (.int a3), some (.int (hc 1 2))], [.int (hc 1 2)], xSt xG0 (xput (xput (xput (xput (xput hc 3 (hc 1 2).toNatClampNeg (hc 1 1)) 4 (hc 1 2).toNatClampNeg a1) 5 (hc 1 2).toNatClampNeg (a1 + a2)) 6 (hc 1 2).toNatClampNeg a3) 1 2 ((hc 1 2) + (1 : Int32))) hr xs g L c z)) ?_ 1 (by rfl)
  replace H := Option.some.inj H
  subst H
  exact Ex.done (by rfl)
def f_w_declare_46 (hc : xI) : Option ((Int32 ⊕ Nat) × xI) :=
  some ((.inr 1), hc)
theorem T_w_declare_46 {hr : xI} {g : xJ} {xs : Nat → Int32} {L c z : Nat} (hcz : 0 < c ∧ 6 ≤ z) (hc : xI) (r : ((Int32 ⊕ Nat) × xI)) (H : f_w_declare_46 hc = some r) : Ex 6 69 (46, [none, none, none, none], [], xSt xG0 hc hr xs g L c z) (xto r.1, xSt xG0 r.2 hr xs g L (xtc r.1 c) (xtz r.1 z)) := by
  unfold f_w_declare_46 at H
  replace H := Option.some.inj H
  subst H
  exact Ex.throw (w := 0) hcz (by rfl) (by decide) (by decide)
def f_w_declare (a1 : Int32) (a2 : Int32) (a3 : Int32) (hc : xI) : Option ((Int32 ⊕ Nat) × xI) :=
  if (f_c_isSignature a1 a2 a3) = 0 then (some ((.inr 0), hc)) else (if (hc 0 6) = 0 then (if (f_c_hasRoomForFunction hc) = 0 then (f_w_declare_46 hc) else ((f_c_hasLooseWords hc).bind fun q6 => if q6 = 0 then (f_w_declare_46 hc) else ((f_c_addFunction a1 a2 a3 hc).bind fun q8 => some ((.inl q8.1), q8.2)))) else (f_w_declare_46 hc))
theorem T_w_declare {hr : xI} {g : xJ} {xs : Nat → Int32} {L c z : Nat} (hcz : 0 < c ∧ 6 ≤ z) (a1 : Int32) (a2 : Int32) (a3 : Int32) (hc : xI) (r : ((Int32 ⊕ Nat) × xI)) (H : f_w_declare a1 a2 a3 hc = some r) : Ex 6 69 (0, [some (.ref 0), some (.int a1), some (.int a2), some (.int a3)], [], xSt xG0 hc hr xs g L c z) (xto r.1, xSt xG0 r.2 hr xs g L (xtc r.1 c) (xtz r.1 z)) := by
  unfold f_w_declare at H
  refine Ex.many (f' := (3, [some (.ref 0), some (.int a1), some (.int a2), some (.int a3)], [.int a3, .int a2, .int a1], xSt xG0 hc hr xs g L c z)) ?_ 3 (by rfl)
  refine Ex.call (mk := 70) (vs := [.int a1, .int a2, .int a3]) (rest := []) (by rfl) (by rfl) (Ex.up (T_c_isSignature a1 a2 a3 _ rfl) (by decide)) (xbb c z) ?_
  show Ex _ _ (6, [some (.ref 0), some (.int a1), some (.int a2), some (.int a3)], [.int (f_c_isSignature a1 a2 a3)], xSt xG0 hc hr xs g L c z) _
  refine Ex.ite (ls := [some (.ref 0), some (.int a1), some (.int a2), some (.int a3)]) (st := []) (S := xSt xG0 hc hr xs g L c z) (by rfl) (fun q2 => ?_) (fun q2 => ?_)
  · replace H := (if_pos q2).symm.trans H
    replace H := Option.some.inj H
    subst H
    exact Ex.throw (w := 0) hcz (by rfl) (by decide) (by decide)
  · replace H := (if_neg q2).symm.trans H
    refine Ex.many (f' := (23, [some (.ref 0), some (.int a1), some (.int a2), some (.int a3)], [.int (hc 0 6)], xSt xG0 hc hr xs g L c z)) ?_ 2 (by rfl)
    refine Ex.ite (ls := [some (.ref 0), some (.int a1), some (.int a2), some (.int a3)]) (st := []) (S := xSt xG0 hc hr xs g L c z) (by rfl) (fun q3 => ?_) (fun q3 => ?_)
    · replace H := (if_pos q3).symm.trans H
      refine Ex.many (f' := (30, [some (.ref 0), some (.int a1), some (.int a2), some (.int a3)], [.ref 1], xSt xG0 hc hr xs g L c z)) ?_ 2 (by rfl)
      refine Ex.call (mk := 71) (vs := [.ref 1]) (rest := []) (by rfl) (by rfl) (Ex.up (T_c_hasRoomForFunction hc _ rfl) (by decide)) (xbb c z) ?_
      show Ex _ _ (33, [some (.ref 0), some (.int a1), some (.int a2), some (.int a3)], [.int (f_c_hasRoomForFunction hc)], xSt xG0 hc hr xs g L c z) _
      refine Ex.ite (ls := [some (.ref 0), some (.int a1), some (.int a2), some (.int a3)]) (st := []) (S := xSt xG0 hc hr xs g L c z) (by rfl) (fun q5 => ?_) (fun q5 => ?_)
      · replace H := (if_pos q5).symm.trans H
        refine Ex.kill (ls' := [none, none, none, none]) (by rfl) ?_
        exact T_w_declare_46 hcz hc r H
      · replace H := (if_neg q5).symm.trans H
        refine Ex.many (f' := (40, [some (.ref 0), some (.int a1), some (.int a2), some (.int a3)], [.ref 1], xSt xG0 hc hr xs g L c z)) ?_ 2 (by rfl)
        obtain ⟨q6, hq6, H⟩ := xbd H
        refine Ex.call (mk := 72) (vs := [.ref 1]) (rest := []) (by rfl) (by rfl) (Ex.up (T_c_hasLooseWords hc q6 hq6) (by decide)) (xbb c z) ?_
        show Ex _ _ (43, [some (.ref 0), some (.int a1), some (.int a2), some (.int a3)], [.int q6], xSt xG0 hc hr xs g L c z) _
        refine Ex.ite (ls := [some (.ref 0), some (.int a1), some (.int a2), some (.int a3)]) (st := []) (S := xSt xG0 hc hr xs g L c z) (by rfl) (fun q7 => ?_) (fun q7 => ?_)
        · replace H := (if_pos q7).symm.trans H
          refine Ex.kill (ls' := [none, none, none, none]) (by rfl) ?_
          exact T_w_declare_46 hcz hc r H
        · replace H := (if_neg q7).symm.trans H
          refine Ex.many (f' := (63, [some (.ref 0), some (.int a1), some (.int a2), some (.int a3)], [.int a3, .int a2, .int a1, .ref 1], xSt xG0 hc hr xs g L c z)) ?_ 5 (by rfl)
          obtain ⟨q8, hq8, H⟩ := xbd H
          refine Ex.call (mk := 73) (vs := [.ref 1, .int a1, .int a2, .int a3]) (rest := []) (by rfl) (by rfl) (Ex.up (T_c_addFunction a1 a2 a3 hc q8 hq8) (by decide)) (xbb c z) ?_
          show Ex _ _ (66, [some (.ref 0), some (.int a1), some (.int a2), some (.int a3)], [.int q8.1], xSt xG0 q8.2 hr xs g L c z) _
          replace H := Option.some.inj H
          subst H
          exact Ex.done (by rfl)
    · replace H := (if_neg q3).symm.trans H
      refine Ex.kill (ls' := [none, none, none, none]) (by rfl) ?_
      exact T_w_declare_46 hcz hc r H
def f_k_fail (a1 : Int32) (hc : xI) : Option xI :=
  if (hc 13 9) = 0 then (some (xput hc 13 9 a1)) else (some hc)
theorem T_k_fail {hr : xI} {g : xJ} {xs : Nat → Int32} {L c z : Nat} (a1 : Int32) (hc : xI) (r : xI) (H : f_k_fail a1 hc = some r) : Ex 0 79 (0, [some (.ref 13), some (.int a1)], [], xSt xG0 hc hr xs g L c z) (.inl none, xSt xG0 r hr xs g L c z) := by
  unfold f_k_fail at H
  refine Ex.many (f' := (4, [some (.ref 13), some (.int a1)], [.int (hc 13 9)], xSt xG0 hc hr xs g L c z)) ?_ 2 (by rfl)
  refine Ex.ite (ls := [some (.ref 13), some (.int a1)]) (st := []) (S := xSt xG0 hc hr xs g L c z) (by rfl) (fun q1 => ?_) (fun q1 => ?_)
  · replace H := (if_pos q1).symm.trans H
    refine Ex.many (f' := (9, [some (.ref 13), some (.int a1)], [.int a1, .ref 13], xSt xG0 hc hr xs g L c z)) ?_ 2 (by rfl)
    refine Ex.putC (pc := 12) (k := 13) (j := 9) (v := a1) (ls := [some (.ref 13), some (.int a1)]) (st := []) (hc := hc) ?_ (by rfl) (by rfl)
    replace H := Option.some.inj H
    subst H
    exact Ex.done (by rfl)
  · replace H := (if_neg q1).symm.trans H
    replace H := Option.some.inj H
    subst H
    exact Ex.done (by rfl)
def f_k_openFrame (a1 : Int32) (a2 : Int32) (a3 : Int32) (hc : xI) : Option xI :=
  if (hc 13 6) = (9 : Int32) then ((f_k_fail (6 : Int32) hc).bind fun q2 => some q2) else (xgd (hc 13 6) 9 (xgd (hc 13 6) 9 (xgd (hc 13 6) 9 (xgd (hc 13 6) 9 (xgd (hc 13 6) 9 (if a3 = (-1 : Int32) then (some (xput (xput (xput (xput (xput (xput hc 14 (hc 13 6).toNatClampNeg a1) 15 (hc 13 6).toNatClampNeg a2) 16 (hc 13 6).toNatClampNeg (hc 13 7)) 17 (hc 13 6).toNatClampNeg (vp_nar .boolean (1 : Int32))) 18 (hc 13 6).toNatClampNeg a3) 13 6 ((hc 13 6) + (1 : Int32)))) else (xgd a3 240 (xgd a3 240 (some (xput (xput (xput (xput (xput (xput (xput (xput hc 14 (hc 13 6).toNatClampNeg a1) 15 (hc 13 6).toNatClampNeg a2) 16 (hc 13 6).toNatClampNeg (hc 13 7)) 17 (hc 13 6).toNatClampNeg (vp_nar .boolean (1 : Int32))) 18 (hc 13 6).toNatClampNeg a3) 13 6 ((hc 13 6) + (1 : Int32))) 9 a3.toNatClampNeg (hc 13 7)) 8 a3.toNatClampNeg (-1 : Int32)))))))))))
theorem T_k_openFrame {hr : xI} {g : xJ} {xs : Nat → Int32} {L c z : Nat} (a1 : Int32) (a2 : Int32) (a3 : Int32) (hc : xI) (r : xI) (H : f_k_openFrame a1 a2 a3 hc = some r) : Ex 1 78 (0, [some (.ref 13), some (.int a1), some (.int a2), some (.int a3)], [], xSt xG0 hc hr xs g L c z) (.inl none, xSt xG0 r hr xs g L c z) := by
  unfold f_k_openFrame at H
  refine Ex.many (f' := (6, [some (.ref 13), some (.int a1), some (.int a2), some (.int a3)], [.int (9 : Int32), .int (hc 13 6)], xSt xG0 hc hr xs g L c z)) ?_ 3 (by rfl)
  refine Ex.ite (ls := [some (.ref 13), some (.int a1), some (.int a2), some (.int a3)]) (st := []) (S := xSt xG0 hc hr xs g L c z) (by rfl) (fun q1 => ?_) (fun q1 => ?_)
  · replace H := (if_pos q1).symm.trans H
    refine Ex.many (f' := (12, [some (.ref 13), none, none, none], [.int (6 : Int32), .ref 13], xSt xG0 hc hr xs g L c z)) ?_ 2 (by rfl)
    obtain ⟨q2, hq2, H⟩ := xbd H
    refine Ex.call (mk := 79) (vs := [.ref 13, .int (6 : Int32)]) (rest := []) (by rfl) (by rfl) (Ex.up (T_k_fail (6 : Int32) hc q2 hq2) (by decide)) (xbb c z) ?_
    show Ex _ _ (15, [some (.ref 13), none, none, none], [], xSt xG0 q2 hr xs g L c z) _
    replace H := Option.some.inj H
    subst H
    exact Ex.done (by rfl)
  · replace H := (if_neg q1).symm.trans H
    refine Ex.many (f' := (25, [some (.ref 13), some (.int a1), some (.int a2), some (.int a3)], [.int a1, .int (hc 13 6), .ref 14], xSt xG0 hc hr xs g L c z)) ?_ 5 (by rfl)
    obtain ⟨g3, H⟩ := xgd_some H
    refine Ex.gputC (pc := 26) (k := 14) (n := 9) (i := (hc 13 6)) (v := a1) (ls := [some (.ref 13), some (.int a1), some (.int a2), some (.int a3)]) (st := []) (hc := hc) ?_ (by rfl) g3 (by rfl)
    refine Ex.many (f' := (35, [some (.ref 13), some (.int a1), some (.int a2), some (.int a3)], [.int a2, .int (hc 13 6), .ref 15], xSt xG0 (xput hc 14 (hc 13 6).toNatClampNeg a1) hr xs g L c z)) ?_ 5 (by rfl)
    obtain ⟨g4, H⟩ := xgd_some H
    refine Ex.gputC (pc := 36) (k := 15) (n := 9) (i := (hc 13 6)) (v := a2) (ls := [some (.ref 13), some (.int a1), some (.int a2), some (.int a3)]) (st := []) (hc := (xput hc 14 (hc 13 6).toNatClampNeg a1)) ?_ (by rfl) g4 (by rfl)
    refine Ex.many (f' := (48, [some (.ref 13), some (.int a1), some (.int a2), some (.int a3)], [.int (hc 13 7), .int (hc 13 6), .ref 16], xSt xG0 (xput (xput hc 14 (hc 13 6).toNatClampNeg a1) 15 (hc 13 6).toNatClampNeg a2) hr xs g L c z)) ?_ 6 (by rfl)
    obtain ⟨g5, H⟩ := xgd_some H
    refine Ex.gputC (pc := 49) (k := 16) (n := 9) (i := (hc 13 6)) (v := (hc 13 7)) (ls := [some (.ref 13), some (.int a1), some (.int a2), some (.int a3)]) (st := []) (hc := (xput (xput hc 14 (hc 13 6).toNatClampNeg a1) 15 (hc 13 6).toNatClampNeg a2)) ?_ (by rfl) g5 (by rfl)
    refine Ex.many (f' := (58, [some (.ref 13), some (.int a1), some (.int a2), some (.int a3)], [.int (1 : Int32), .int (hc 13 6), .ref 17], xSt xG0 (xput (xput (xput hc 14 (hc 13 6).toNatClampNeg a1) 15 (hc 13 6).toNatClampNeg a2) 16 (hc 13 6).toNatClampNeg (hc 13 7)) hr xs g L c z)) ?_ 5 (by rfl)
    obtain ⟨g6, H⟩ := xgd_some H
    refine Ex.gputC (pc := 59) (k := 17) (n := 9) (i := (hc 13 6)) (v := (vp_nar .boolean (1 : Int32))) (ls := [some (.ref 13), some (.int a1), some (.int a2), some (.int a3)]) (st := []) (hc := (xput (xput (xput hc 14 (hc 13 6).toNatClampNeg a1) 15 (hc 13 6).toNatClampNeg a2) 16 (hc 13 6).toNatClampNeg (hc 13 7))) ?_ (by rfl) g6 (by rfl)
    refine Ex.many (f' := (68, [some (.ref 13), some (.int a1), some (.int a2), some (.int a3)], [.int a3, .int (hc 13 6), .ref 18], xSt xG0 (xput (xput (xput (xput hc 14 (hc 13 6).toNatClampNeg a1) 15 (hc 13 6).toNatClampNeg a2) 16 (hc 13 6).toNatClampNeg (hc 13 7)) 17 (hc 13 6).toNatClampNeg (vp_nar .boolean (1 : Int32))) hr xs g L c z)) ?_ 5 (by rfl)
    obtain ⟨g7, H⟩ := xgd_some H
    refine Ex.gputC (pc := 69) (k := 18) (n := 9) (i := (hc 13 6)) (v := a3) (ls := [some (.ref 13), some (.int a1), some (.int a2), some (.int a3)]) (st := []) (hc := (xput (xput (xput (xput hc 14 (hc 13 6).toNatClampNeg a1) 15 (hc 13 6).toNatClampNeg a2) 16 (hc 13 6).toNatClampNeg (hc 13 7)) 17 (hc 13 6).toNatClampNeg (vp_nar .boolean (1 : Int32)))) ?_ (by rfl) g7 (by rfl)
    refine Ex.many (f' := (76, [some (.ref 13), some (.int a1), some (.int a2), some (.int a3)], [.int ((hc 13 6) + (1 : Int32)), .ref 13], xSt xG0 (xput (xput (xput (xput (xput hc 14 (hc 13 6).toNatClampNeg a1) 15 (hc 13 6).toNatClampNeg a2) 16 (hc 13 6).toNatClampNeg (hc 13 7)) 17 (hc 13 6).toNatClampNeg (vp_nar .boolean (1 : Int32))) 18 (hc 13 6).toNatClampNeg a3) hr xs g L c z)) ?_ 5 (by rfl)
    refine Ex.putC (pc := 79) (k := 13) (j := 6) (v := ((hc 13 6) + (1 : Int32))) (ls := [some (.ref 13), some (.int a1), some (.int a2), some (.int a3)]) (st := []) (hc := (xput (xput (xput (xput (xput hc 14 (hc 13 6).toNatClampNeg a1) 15 (hc 13 6).toNatClampNeg a2) 16 (hc 13 6).toNatClampNeg (hc 13 7)) 17 (hc 13 6).toNatClampNeg (vp_nar .boolean (1 : Int32))) 18 (hc 13 6).toNatClampNeg a3)) ?_ (by rfl) (by rfl)
    refine Ex.many (f' := (81, [some (.ref 13), some (.int a1), some (.int a2), some (.int a3)], [.int (-1 : Int32), .int a3], xSt xG0 (xput (xput (xput (xput (xput (xput hc 14 (hc 13 6).toNatClampNeg a1) 15 (hc 13 6).toNatClampNeg a2) 16 (hc 13 6).toNatClampNeg (hc 13 7)) 17 (hc 13 6).toNatClampNeg (vp_nar .boolean (1 : Int32))) 18 (hc 13 6).toNatClampNeg a3) 13 6 ((hc 13 6) + (1 : Int32))) hr xs g L c z)) ?_ 2 (by rfl)
    refine Ex.ite (ls := [some (.ref 13), some (.int a1), some (.int a2), some (.int a3)]) (st := []) (S := xSt xG0 (xput (xput (xput (xput (xput (xput hc 14 (hc 13 6).toNatClampNeg a1) 15 (hc 13 6).toNatClampNeg a2) 16 (hc 13 6).toNatClampNeg (hc 13 7)) 17 (hc 13 6).toNatClampNeg (vp_nar .boolean (1 : Int32))) 18 (hc 13 6).toNatClampNeg a3) 13 6 ((hc 13 6) + (1 : Int32))) hr xs g L c z) (by rfl) (fun q8 => ?_) (fun q8 => ?_)
    · replace H := (if_pos q8).symm.trans H
      replace H := Option.some.inj H
      subst H
      exact Ex.done (by rfl)
    · replace H := (if_neg q8).symm.trans H
      refine Ex.many (f' := (96, [some (.ref 13), none, none, some (.int a3)], [.int (hc 13 7), .int a3, .ref 9], xSt xG0 (xput (xput (xput (xput (xput (xput hc 14 (hc 13 6).toNatClampNeg a1) 15 (hc 13 6).toNatClampNeg a2) 16 (hc 13 6).toNatClampNeg (hc 13 7)) 17 (hc 13 6).toNatClampNeg (vp_nar .boolean (1 : Int32))) 18 (hc 13 6).toNatClampNeg a3) 13 6 ((hc 13 6) + (1 : Int32))) hr xs g L c z)) ?_ 6 (by rfl)
      obtain ⟨g9, H⟩ := xgd_some H
      refine Ex.gputC (pc := 97) (k := 9) (n := 240) (i := a3) (v := (hc 13 7)) (ls := [some (.ref 13), none, none, some (.int a3)]) (st := []) (hc := (xput (xput (xput (xput (xput (xput hc 14 (hc 13 6).toNatClampNeg a1) 15 (hc 13 6).toNatClampNeg a2) 16 (hc 13 6).toNatClampNeg (hc 13 7)) 17 (hc 13 6).toNatClampNeg (vp_nar .boolean (1 : Int32))) 18 (hc 13 6).toNatClampNeg a3) 13 6 ((hc 13 6) + (1 : Int32)))) ?_ (by rfl) g9 (by rfl)
      refine Ex.many (f' := (106, [some (.ref 13), none, none, some (.int a3)], [.int (-1 : Int32), .int a3, .ref 8], xSt xG0 (xput (xput (xput (xput (xput (xput (xput hc 14 (hc 13 6).toNatClampNeg a1) 15 (hc 13 6).toNatClampNeg a2) 16 (hc 13 6).toNatClampNeg (hc 13 7)) 17 (hc 13 6).toNatClampNeg (vp_nar .boolean (1 : Int32))) 18 (hc 13 6).toNatClampNeg a3) 13 6 ((hc 13 6) + (1 : Int32))) 9 a3.toNatClampNeg (hc 13 7)) hr xs g L c z)) ?_ 5 (by rfl)
      obtain ⟨g10, H⟩ := xgd_some H
      refine Ex.gputC (pc := 107) (k := 8) (n := 240) (i := a3) (v := (-1 : Int32)) (ls := [some (.ref 13), none, none, some (.int a3)]) (st := []) (hc := (xput (xput (xput (xput (xput (xput (xput hc 14 (hc 13 6).toNatClampNeg a1) 15 (hc 13 6).toNatClampNeg a2) 16 (hc 13 6).toNatClampNeg (hc 13 7)) 17 (hc 13 6).toNatClampNeg (vp_nar .boolean (1 : Int32))) 18 (hc 13 6).toNatClampNeg a3) 13 6 ((hc 13 6) + (1 : Int32))) 9 a3.toNatClampNeg (hc 13 7))) ?_ (by rfl) g10 (by rfl)
      replace H := Option.some.inj H
      subst H
      exact Ex.done (by rfl)
def f_k_immediate (hc : xI) : Option Int32 :=
  xgd ((hc 13 11) + (1 : Int32)) 240 (some (hc 2 ((hc 13 11) + (1 : Int32)).toNatClampNeg))
theorem T_k_immediate {hr : xI} {g : xJ} {xs : Nat → Int32} {L c z : Nat} (hc : xI) (r : Int32) (H : f_k_immediate hc = some r) : Ex 0 81 (0, [some (.ref 13)], [], xSt xG0 hc hr xs g L c z) (.inl (some (.int r)), xSt xG0 hc hr xs g L c z) := by
  unfold f_k_immediate at H
  refine Ex.many (f' := (13, [some (.ref 13)], [.int ((hc 13 11) + (1 : Int32)), .ref 2], xSt xG0 hc hr xs g L c z)) ?_ 7 (by rfl)
  obtain ⟨g1, H⟩ := xgd_some H
  refine Ex.guard (f' := (14, [some (.ref 13)], [.int (hc 2 ((hc 13 11) + (1 : Int32)).toNatClampNeg)], xSt xG0 hc hr xs g L c z)) (by rfl) g1 ?_
  replace H := Option.some.inj H
  subst H
  exact Ex.done (by rfl)
def f_k_checkLabel_22 (hc : xI) : Option xI :=
  (f_k_fail (4 : Int32) hc).bind fun q1 => some q1
theorem T_k_checkLabel_22 {hr : xI} {g : xJ} {xs : Nat → Int32} {L c z : Nat} (hc : xI) (r : xI) (H : f_k_checkLabel_22 hc = some r) : Ex 1 83 (22, [some (.ref 13), none, none], [], xSt xG0 hc hr xs g L c z) (.inl none, xSt xG0 r hr xs g L c z) := by
  unfold f_k_checkLabel_22 at H
  refine Ex.many (f' := (24, [some (.ref 13), none, none], [.int (4 : Int32), .ref 13], xSt xG0 hc hr xs g L c z)) ?_ 2 (by rfl)
  obtain ⟨q1, hq1, H⟩ := xbd H
  refine Ex.call (mk := 79) (vs := [.ref 13, .int (4 : Int32)]) (rest := []) (by rfl) (by rfl) (Ex.up (T_k_fail (4 : Int32) hc q1 hq1) (by decide)) (xbb c z) ?_
  show Ex _ _ (27, [some (.ref 13), none, none], [], xSt xG0 q1 hr xs g L c z) _
  refine Ex.many (f' := (52, [none, none, none], [], xSt xG0 q1 hr xs g L c z)) ?_ 1 (by rfl)
  replace H := Option.some.inj H
  subst H
  exact Ex.done (by rfl)
def f_k_checkLabel (a1 : Int32) (hc : xI) : Option xI :=
  xgd a1 240 (if (hc 2 a1.toNatClampNeg) < 0 then (f_k_checkLabel_22 hc) else (if (hc 2 a1.toNatClampNeg) < (hc 13 6) then (xgd (((hc 13 6) - (1 : Int32)) - (hc 2 a1.toNatClampNeg)) 9 (xgd a1 240 (some (xput hc 10 a1.toNatClampNeg (hc 18 (((hc 13 6) - (1 : Int32)) - (hc 2 a1.toNatClampNeg)).toNatClampNeg))))) else (f_k_checkLabel_22 hc)))
theorem T_k_checkLabel {hr : xI} {g : xJ} {xs : Nat → Int32} {L c z : Nat} (a1 : Int32) (hc : xI) (r : xI) (H : f_k_checkLabel a1 hc = some r) : Ex 1 83 (0, [some (.ref 13), some (.int a1), none], [], xSt xG0 hc hr xs g L c z) (.inl none, xSt xG0 r hr xs g L c z) := by
  unfold f_k_checkLabel at H
  refine Ex.many (f' := (8, [some (.ref 13), some (.int a1), none], [.int a1, .ref 2], xSt xG0 hc hr xs g L c z)) ?_ 4 (by rfl)
  obtain ⟨g1, H⟩ := xgd_some H
  refine Ex.guard (f' := (9, [some (.ref 13), some (.int a1), none], [.int (hc 2 a1.toNatClampNeg)], xSt xG0 hc hr xs g L c z)) (by rfl) g1 ?_
  refine Ex.many (f' := (11, [some (.ref 13), some (.int a1), some (.int (hc 2 a1.toNatClampNeg))], [.int (hc 2 a1.toNatClampNeg)], xSt xG0 hc hr xs g L c z)) ?_ 2 (by rfl)
  refine Ex.ite (ls := [some (.ref 13), some (.int a1), some (.int (hc 2 a1.toNatClampNeg))]) (st := []) (S := xSt xG0 hc hr xs g L c z) (by rfl) (fun q2 => ?_) (fun q2 => ?_)
  · replace H := (if_pos q2).symm.trans H
    refine Ex.kill (ls' := [some (.ref 13), none, none]) (by rfl) ?_
    exact T_k_checkLabel_22 hc r H
  · replace H := (if_neg q2).symm.trans H
    refine Ex.many (f' := (19, [some (.ref 13), some (.int a1), some (.int (hc 2 a1.toNatClampNeg))], [.int (hc 13 6), .int (hc 2 a1.toNatClampNeg)], xSt xG0 hc hr xs g L c z)) ?_ 3 (by rfl)
    refine Ex.ite (ls := [some (.ref 13), some (.int a1), some (.int (hc 2 a1.toNatClampNeg))]) (st := []) (S := xSt xG0 hc hr xs g L c z) (by rfl) (fun q3 => ?_) (fun q3 => ?_)
    · replace H := (if_pos q3).symm.trans H
      refine Ex.many (f' := (50, [some (.ref 13), some (.int a1), some (.int (hc 2 a1.toNatClampNeg))], [.int (((hc 13 6) - (1 : Int32)) - (hc 2 a1.toNatClampNeg)), .ref 18, .int a1, .ref 10], xSt xG0 hc hr xs g L c z)) ?_ 12 (by rfl)
      obtain ⟨g4, H⟩ := xgd_some H
      refine Ex.guard (f' := (51, [some (.ref 13), some (.int a1), some (.int (hc 2 a1.toNatClampNeg))], [.int (hc 18 (((hc 13 6) - (1 : Int32)) - (hc 2 a1.toNatClampNeg)).toNatClampNeg), .int a1, .ref 10], xSt xG0 hc hr xs g L c z)) (by rfl) g4 ?_
      obtain ⟨g5, H⟩ := xgd_some H
      refine Ex.gputC (pc := 52) (k := 10) (n := 240) (i := a1) (v := (hc 18 (((hc 13 6) - (1 : Int32)) - (hc 2 a1.toNatClampNeg)).toNatClampNeg)) (ls := [some (.ref 13), some (.int a1), some (.int (hc 2 a1.toNatClampNeg))]) (st := []) (hc := hc) ?_ (by rfl) g5 (by rfl)
      replace H := Option.some.inj H
      subst H
      exact Ex.done (by rfl)
    · replace H := (if_neg q3).symm.trans H
      refine Ex.kill (ls' := [some (.ref 13), none, none]) (by rfl) ?_
      exact T_k_checkLabel_22 hc r H
def f_k_checkTable_10 (hc : xI) : Option xI :=
  (f_k_fail (5 : Int32) hc).bind fun q1 => some q1
theorem T_k_checkTable_10 {hr : xI} {g : xJ} {xs : Nat → Int32} {L c z : Nat} (hc : xI) (r : xI) (H : f_k_checkTable_10 hc = some r) : Ex 2 82 (10, [some (.ref 13), none, none], [], xSt xG0 hc hr xs g L c z) (.inl none, xSt xG0 r hr xs g L c z) := by
  unfold f_k_checkTable_10 at H
  refine Ex.many (f' := (12, [some (.ref 13), none, none], [.int (5 : Int32), .ref 13], xSt xG0 hc hr xs g L c z)) ?_ 2 (by rfl)
  obtain ⟨q1, hq1, H⟩ := xbd H
  refine Ex.call (mk := 79) (vs := [.ref 13, .int (5 : Int32)]) (rest := []) (by rfl) (by rfl) (Ex.up (T_k_fail (5 : Int32) hc q1 hq1) (by decide)) (xbb c z) ?_
  show Ex _ _ (15, [some (.ref 13), none, none], [], xSt xG0 q1 hr xs g L c z) _
  refine Ex.many (f' := (66, [none, none, none], [], xSt xG0 q1 hr xs g L c z)) ?_ 1 (by rfl)
  replace H := Option.some.inj H
  subst H
  exact Ex.done (by rfl)
def f_k_checkTable_43 : Nat → Int32 → Int32 → xI → Option xI
  | 0, _, _, _ => none
  | n + 1, v1, v2, hc => if v1 < v2 then (some hc) else ((f_k_checkLabel (((hc 13 11) + (2 : Int32)) + v2) hc).bind fun q2 => f_k_checkTable_43 n v1 (v2 + (1 : Int32)) q2)
theorem T_k_checkTable_43 {hr : xI} {g : xJ} {xs : Nat → Int32} {L c z : Nat} (n : Nat) : ∀ (v1 : Int32) (v2 : Int32) (hc : xI) (r : xI), f_k_checkTable_43 n v1 v2 hc = some r → Ex 2 82 (43, [some (.ref 13), some (.int v1), some (.int v2)], [], xSt xG0 hc hr xs g L c z) (.inl none, xSt xG0 r hr xs g L c z) := by
  induction n with
  | zero =>
    intro v1 v2 hc r H
    unfold f_k_checkTable_43 at H
    cases H
  | succ n ih =>
    intro v1 v2 hc r H
    unfold f_k_checkTable_43 at H
    refine Ex.many (f' := (45, [some (.ref 13), some (.int v1), some (.int v2)], [.int v1, .int v2], xSt xG0 hc hr xs g L c z)) ?_ 2 (by rfl)
    refine Ex.ite (ls := [some (.ref 13), some (.int v1), some (.int v2)]) (st := []) (S := xSt xG0 hc hr xs g L c z) (by rfl) (fun q1 => ?_) (fun q1 => ?_)
    · replace H := (if_pos q1).symm.trans H
      replace H := Option.some.inj H
      subst H
      exact Ex.done (by rfl)
    · replace H := (if_neg q1).symm.trans H
      refine Ex.many (f' := (57, [some (.ref 13), some (.int v1), some (.int v2)], [.int (((hc 13 11) + (2 : Int32)) + v2), .ref 13], xSt xG0 hc hr xs g L c z)) ?_ 7 (by rfl)
      obtain ⟨q2, hq2, H⟩ := xbd H
      refine Ex.call (mk := 83) (vs := [.ref 13, .int (((hc 13 11) + (2 : Int32)) + v2)]) (rest := []) (by rfl) (by rfl) (Ex.up (T_k_checkLabel (((hc 13 11) + (2 : Int32)) + v2) hc q2 hq2) (by decide)) (xbb c z) ?_
      show Ex _ _ (60, [some (.ref 13), some (.int v1), some (.int v2)], [], xSt xG0 q2 hr xs g L c z) _
      refine Ex.many (f' := (43, [some (.ref 13), some (.int v1), some (.int (v2 + (1 : Int32)))], [], xSt xG0 q2 hr xs g L c z)) ?_ 2 (by rfl)
      exact ih v1 (v2 + (1 : Int32)) q2 r H
def f_k_checkTable (a1 : Int32) (hc : xI) : Option xI :=
  if a1 < 0 then (f_k_checkTable_10 hc) else (if a1 ≤ (8 : Int32) then (if (((hc 13 11) + (2 : Int32)) + a1) < (hc 13 8) then (f_k_checkTable_43 1000 a1 (0 : Int32) hc) else ((f_k_fail (1 : Int32) hc).bind fun q4 => some q4)) else (f_k_checkTable_10 hc))
theorem T_k_checkTable {hr : xI} {g : xJ} {xs : Nat → Int32} {L c z : Nat} (a1 : Int32) (hc : xI) (r : xI) (H : f_k_checkTable a1 hc = some r) : Ex 2 82 (0, [some (.ref 13), some (.int a1), none], [], xSt xG0 hc hr xs g L c z) (.inl none, xSt xG0 r hr xs g L c z) := by
  unfold f_k_checkTable at H
  refine Ex.many (f' := (1, [some (.ref 13), some (.int a1), none], [.int a1], xSt xG0 hc hr xs g L c z)) ?_ 1 (by rfl)
  refine Ex.ite (ls := [some (.ref 13), some (.int a1), none]) (st := []) (S := xSt xG0 hc hr xs g L c z) (by rfl) (fun q1 => ?_) (fun q1 => ?_)
  · replace H := (if_pos q1).symm.trans H
    refine Ex.kill (ls' := [some (.ref 13), none, none]) (by rfl) ?_
    exact T_k_checkTable_10 hc r H
  · replace H := (if_neg q1).symm.trans H
    refine Ex.many (f' := (7, [some (.ref 13), some (.int a1), none], [.int (8 : Int32), .int a1], xSt xG0 hc hr xs g L c z)) ?_ 2 (by rfl)
    refine Ex.ite (ls := [some (.ref 13), some (.int a1), none]) (st := []) (S := xSt xG0 hc hr xs g L c z) (by rfl) (fun q2 => ?_) (fun q2 => ?_)
    · replace H := (if_pos q2).symm.trans H
      refine Ex.many (f' := (30, [some (.ref 13), some (.int a1), none], [.int (hc 13 8), .int (((hc 13 11) + (2 : Int32)) + a1)], xSt xG0 hc hr xs g L c z)) ?_ 8 (by rfl)
      refine Ex.ite (ls := [some (.ref 13), some (.int a1), none]) (st := []) (S := xSt xG0 hc hr xs g L c z) (by rfl) (fun q3 => ?_) (fun q3 => ?_)
      · replace H := (if_pos q3).symm.trans H
        refine Ex.many (f' := (43, [some (.ref 13), some (.int a1), some (.int (0 : Int32))], [], xSt xG0 hc hr xs g L c z)) ?_ 2 (by rfl)
        exact T_k_checkTable_43 1000 a1 (0 : Int32) hc r H
      · replace H := (if_neg q3).symm.trans H
        refine Ex.many (f' := (35, [some (.ref 13), none, none], [.int (1 : Int32), .ref 13], xSt xG0 hc hr xs g L c z)) ?_ 2 (by rfl)
        obtain ⟨q4, hq4, H⟩ := xbd H
        refine Ex.call (mk := 79) (vs := [.ref 13, .int (1 : Int32)]) (rest := []) (by rfl) (by rfl) (Ex.up (T_k_fail (1 : Int32) hc q4 hq4) (by decide)) (xbb c z) ?_
        show Ex _ _ (38, [some (.ref 13), none, none], [], xSt xG0 q4 hr xs g L c z) _
        refine Ex.many (f' := (66, [none, none, none], [], xSt xG0 q4 hr xs g L c z)) ?_ 1 (by rfl)
        replace H := Option.some.inj H
        subst H
        exact Ex.done (by rfl)
    · replace H := (if_neg q2).symm.trans H
      refine Ex.kill (ls' := [some (.ref 13), none, none]) (by rfl) ?_
      exact T_k_checkTable_10 hc r H
def f_c_hasFunction (a1 : Int32) (hc : xI) : Int32 :=
  if a1 < 0 then (0 : Int32) else (if (hc 1 2) ≤ a1 then (0 : Int32) else (1 : Int32))
theorem T_c_hasFunction {hr : xI} {g : xJ} {xs : Nat → Int32} {L c z : Nat} (a1 : Int32) (hc : xI) (r : Int32) (H : f_c_hasFunction a1 hc = r) : Ex 0 85 (0, [some (.ref 1), some (.int a1)], [], xSt xG0 hc hr xs g L c z) (.inl (some (.int r)), xSt xG0 hc hr xs g L c z) := by
  unfold f_c_hasFunction at H
  refine Ex.many (f' := (1, [some (.ref 1), some (.int a1)], [.int a1], xSt xG0 hc hr xs g L c z)) ?_ 1 (by rfl)
  refine Ex.ite (ls := [some (.ref 1), some (.int a1)]) (st := []) (S := xSt xG0 hc hr xs g L c z) (by rfl) (fun q1 => ?_) (fun q1 => ?_)
  · replace H := (if_pos q1).symm.trans H
    refine Ex.many (f' := (17, [none, none], [.int (0 : Int32)], xSt xG0 hc hr xs g L c z)) ?_ 1 (by rfl)
    skip
    subst H
    exact Ex.done (by rfl)
  · replace H := (if_neg q1).symm.trans H
    refine Ex.many (f' := (9, [some (.ref 1), some (.int a1)], [.int (hc 1 2), .int a1], xSt xG0 hc hr xs g L c z)) ?_ 3 (by rfl)
    refine Ex.ite (ls := [some (.ref 1), some (.int a1)]) (st := []) (S := xSt xG0 hc hr xs g L c z) (by rfl) (fun q2 => ?_) (fun q2 => ?_)
    · replace H := (if_pos q2).symm.trans H
      refine Ex.many (f' := (17, [none, none], [.int (0 : Int32)], xSt xG0 hc hr xs g L c z)) ?_ 1 (by rfl)
      skip
      subst H
      exact Ex.done (by rfl)
    · replace H := (if_neg q2).symm.trans H
      refine Ex.many (f' := (17, [none, none], [.int (1 : Int32)], xSt xG0 hc hr xs g L c z)) ?_ 2 (by rfl)
      skip
      subst H
      exact Ex.done (by rfl)
def f_k_isAllowed (a1 : Int32) (a2 : Int32) (hc : xI) : Option Int32 :=
  if a1 = (1 : Int32) then (if a2 = 0 then (some (1 : Int32)) else (if a2 = (1 : Int32) then (some (1 : Int32)) else (some (0 : Int32)))) else (if a1 = (4 : Int32) then (xb01 (f_c_hasFunction a2 hc) (some (f_c_hasFunction a2 hc))) else (if a1 = (5 : Int32) then (if a2 < 0 then (some (0 : Int32)) else (xgd (hc 13 10) 6 (if (hc 5 (hc 13 10).toNatClampNeg) ≤ a2 then (some (0 : Int32)) else (some (1 : Int32))))) else (if a1 = (6 : Int32) then (if a2 < 0 then (some (0 : Int32)) else (if (4 : Int32) ≤ a2 then (some (0 : Int32)) else (some (1 : Int32)))) else (if a1 = (7 : Int32) then (if a2 < 0 then (some (0 : Int32)) else (some (1 : Int32))) else (some (1 : Int32))))))
theorem T_k_isAllowed {hr : xI} {g : xJ} {xs : Nat → Int32} {L c z : Nat} (a1 : Int32) (a2 : Int32) (hc : xI) (r : Int32) (H : f_k_isAllowed a1 a2 hc = some r) : Ex 1 84 (0, [some (.ref 13), some (.int a1), some (.int a2)], [], xSt xG0 hc hr xs g L c z) (.inl (some (.int r)), xSt xG0 hc hr xs g L c z) := by
  unfold f_k_isAllowed at H
  refine Ex.many (f' := (1, [some (.ref 13), some (.int a1), some (.int a2)], [.int a1], xSt xG0 hc hr xs g L c z)) ?_ 1 (by rfl)
  by_cases q1 : a1 = (1 : Int32)
  · replace H := (if_pos q1).symm.trans H
    refine Ex.sw (t := 44) (ls := [some (.ref 13), some (.int a1), some (.int a2)]) (st := []) (S := xSt xG0 hc hr xs g L c z) ?_ (by rfl) (by rw [q1]; rfl)
    refine Ex.many (f' := (45, [none, none, some (.int a2)], [.int a2], xSt xG0 hc hr xs g L c z)) ?_ 1 (by rfl)
    refine Ex.ite (ls := [none, none, some (.int a2)]) (st := []) (S := xSt xG0 hc hr xs g L c z) (by rfl) (fun q2 => ?_) (fun q2 => ?_)
    · replace H := (if_pos q2).symm.trans H
      refine Ex.many (f' := (58, [none, none, none], [.int (1 : Int32)], xSt xG0 hc hr xs g L c z)) ?_ 2 (by rfl)
      replace H := Option.some.inj H
      subst H
      exact Ex.done (by rfl)
    · replace H := (if_neg q2).symm.trans H
      refine Ex.many (f' := (50, [none, none, some (.int a2)], [.int (1 : Int32), .int a2], xSt xG0 hc hr xs g L c z)) ?_ 2 (by rfl)
      refine Ex.ite (ls := [none, none, some (.int a2)]) (st := []) (S := xSt xG0 hc hr xs g L c z) (by rfl) (fun q3 => ?_) (fun q3 => ?_)
      · replace H := (if_pos q3).symm.trans H
        refine Ex.many (f' := (58, [none, none, none], [.int (1 : Int32)], xSt xG0 hc hr xs g L c z)) ?_ 2 (by rfl)
        replace H := Option.some.inj H
        subst H
        exact Ex.done (by rfl)
      · replace H := (if_neg q3).symm.trans H
        refine Ex.many (f' := (58, [none, none, none], [.int (0 : Int32)], xSt xG0 hc hr xs g L c z)) ?_ 1 (by rfl)
        replace H := Option.some.inj H
        subst H
        exact Ex.done (by rfl)
  · replace H := (if_neg q1).symm.trans H
    by_cases q4 : a1 = (4 : Int32)
    · replace H := (if_pos q4).symm.trans H
      refine Ex.sw (t := 59) (ls := [some (.ref 13), some (.int a1), some (.int a2)]) (st := []) (S := xSt xG0 hc hr xs g L c z) ?_ (by rfl) (by rw [q4]; rfl)
      refine Ex.many (f' := (64, [some (.ref 13), none, some (.int a2)], [.int a2, .ref 1], xSt xG0 hc hr xs g L c z)) ?_ 3 (by rfl)
      refine Ex.call (mk := 85) (vs := [.ref 1, .int a2]) (rest := []) (by rfl) (by rfl) (Ex.up (T_c_hasFunction a2 hc _ rfl) (by decide)) (xbb c z) ?_
      show Ex _ _ (67, [some (.ref 13), none, some (.int a2)], [.int (f_c_hasFunction a2 hc)], xSt xG0 hc hr xs g L c z) _
      obtain ⟨g6, H⟩ := xb01_some H
      replace H := Option.some.inj H
      subst H
      exact Ex.ret01 (by rfl) g6
    · replace H := (if_neg q4).symm.trans H
      by_cases q7 : a1 = (5 : Int32)
      · replace H := (if_pos q7).symm.trans H
        refine Ex.sw (t := 68) (ls := [some (.ref 13), some (.int a1), some (.int a2)]) (st := []) (S := xSt xG0 hc hr xs g L c z) ?_ (by rfl) (by rw [q7]; rfl)
        refine Ex.many (f' := (69, [some (.ref 13), none, some (.int a2)], [.int a2], xSt xG0 hc hr xs g L c z)) ?_ 1 (by rfl)
        refine Ex.ite (ls := [some (.ref 13), none, some (.int a2)]) (st := []) (S := xSt xG0 hc hr xs g L c z) (by rfl) (fun q8 => ?_) (fun q8 => ?_)
        · replace H := (if_pos q8).symm.trans H
          refine Ex.many (f' := (93, [none, none, none], [.int (0 : Int32)], xSt xG0 hc hr xs g L c z)) ?_ 1 (by rfl)
          replace H := Option.some.inj H
          subst H
          exact Ex.done (by rfl)
        · replace H := (if_neg q8).symm.trans H
          refine Ex.many (f' := (84, [some (.ref 13), none, some (.int a2)], [.int (hc 13 10), .ref 5, .int a2], xSt xG0 hc hr xs g L c z)) ?_ 6 (by rfl)
          obtain ⟨g9, H⟩ := xgd_some H
          refine Ex.guard (f' := (85, [some (.ref 13), none, some (.int a2)], [.int (hc 5 (hc 13 10).toNatClampNeg), .int a2], xSt xG0 hc hr xs g L c z)) (by rfl) g9 ?_
          refine Ex.ite (ls := [some (.ref 13), none, some (.int a2)]) (st := []) (S := xSt xG0 hc hr xs g L c z) (by rfl) (fun q10 => ?_) (fun q10 => ?_)
          · replace H := (if_pos q10).symm.trans H
            refine Ex.many (f' := (93, [none, none, none], [.int (0 : Int32)], xSt xG0 hc hr xs g L c z)) ?_ 1 (by rfl)
            replace H := Option.some.inj H
            subst H
            exact Ex.done (by rfl)
          · replace H := (if_neg q10).symm.trans H
            refine Ex.many (f' := (93, [none, none, none], [.int (1 : Int32)], xSt xG0 hc hr xs g L c z)) ?_ 2 (by rfl)
            replace H := Option.some.inj H
            subst H
            exact Ex.done (by rfl)
      · replace H := (if_neg q7).symm.trans H
        by_cases q11 : a1 = (6 : Int32)
        · replace H := (if_pos q11).symm.trans H
          refine Ex.sw (t := 94) (ls := [some (.ref 13), some (.int a1), some (.int a2)]) (st := []) (S := xSt xG0 hc hr xs g L c z) ?_ (by rfl) (by rw [q11]; rfl)
          refine Ex.many (f' := (95, [none, none, some (.int a2)], [.int a2], xSt xG0 hc hr xs g L c z)) ?_ 1 (by rfl)
          refine Ex.ite (ls := [none, none, some (.int a2)]) (st := []) (S := xSt xG0 hc hr xs g L c z) (by rfl) (fun q12 => ?_) (fun q12 => ?_)
          · replace H := (if_pos q12).symm.trans H
            refine Ex.many (f' := (108, [none, none, none], [.int (0 : Int32)], xSt xG0 hc hr xs g L c z)) ?_ 1 (by rfl)
            replace H := Option.some.inj H
            subst H
            exact Ex.done (by rfl)
          · replace H := (if_neg q12).symm.trans H
            refine Ex.many (f' := (100, [none, none, some (.int a2)], [.int (4 : Int32), .int a2], xSt xG0 hc hr xs g L c z)) ?_ 2 (by rfl)
            refine Ex.ite (ls := [none, none, some (.int a2)]) (st := []) (S := xSt xG0 hc hr xs g L c z) (by rfl) (fun q13 => ?_) (fun q13 => ?_)
            · replace H := (if_pos q13).symm.trans H
              refine Ex.many (f' := (108, [none, none, none], [.int (0 : Int32)], xSt xG0 hc hr xs g L c z)) ?_ 1 (by rfl)
              replace H := Option.some.inj H
              subst H
              exact Ex.done (by rfl)
            · replace H := (if_neg q13).symm.trans H
              refine Ex.many (f' := (108, [none, none, none], [.int (1 : Int32)], xSt xG0 hc hr xs g L c z)) ?_ 2 (by rfl)
              replace H := Option.some.inj H
              subst H
              exact Ex.done (by rfl)
        · replace H := (if_neg q11).symm.trans H
          by_cases q14 : a1 = (7 : Int32)
          · replace H := (if_pos q14).symm.trans H
            refine Ex.sw (t := 109) (ls := [some (.ref 13), some (.int a1), some (.int a2)]) (st := []) (S := xSt xG0 hc hr xs g L c z) ?_ (by rfl) (by rw [q14]; rfl)
            refine Ex.many (f' := (110, [none, none, some (.int a2)], [.int a2], xSt xG0 hc hr xs g L c z)) ?_ 1 (by rfl)
            refine Ex.ite (ls := [none, none, some (.int a2)]) (st := []) (S := xSt xG0 hc hr xs g L c z) (by rfl) (fun q15 => ?_) (fun q15 => ?_)
            · replace H := (if_pos q15).symm.trans H
              refine Ex.many (f' := (118, [none, none, none], [.int (0 : Int32)], xSt xG0 hc hr xs g L c z)) ?_ 1 (by rfl)
              replace H := Option.some.inj H
              subst H
              exact Ex.done (by rfl)
            · replace H := (if_neg q15).symm.trans H
              refine Ex.many (f' := (118, [none, none, none], [.int (1 : Int32)], xSt xG0 hc hr xs g L c z)) ?_ 2 (by rfl)
              replace H := Option.some.inj H
              subst H
              exact Ex.done (by rfl)
          · replace H := (if_neg q14).symm.trans H
            refine Ex.sw (t := 119) (ls := [some (.ref 13), some (.int a1), some (.int a2)]) (st := []) (S := xSt xG0 hc hr xs g L c z) ?_ (by rfl) (xtsw_d [(1 : Int32), (4 : Int32), (5 : Int32), (6 : Int32), (7 : Int32)] (by decide +kernel) (by decide +kernel) (List.forall_mem_cons.mpr ⟨fun e => q1 e, (List.forall_mem_cons.mpr ⟨fun e => q4 e, (List.forall_mem_cons.mpr ⟨fun e => q7 e, (List.forall_mem_cons.mpr ⟨fun e => q11 e, (List.forall_mem_cons.mpr ⟨fun e => q14 e, (fun _ h => absurd h List.not_mem_nil)⟩)⟩)⟩)⟩)⟩))
            refine Ex.many (f' := (120, [none, none, none], [.int (1 : Int32)], xSt xG0 hc hr xs g L c z)) ?_ 1 (by rfl)
            replace H := Option.some.inj H
            subst H
            exact Ex.done (by rfl)
def f_k_checkImmediates_23 (hc : xI) : Option xI :=
  (f_k_fail (1 : Int32) hc).bind fun q1 => some q1
theorem T_k_checkImmediates_23 {hr : xI} {g : xJ} {xs : Nat → Int32} {L c z : Nat} (hc : xI) (r : xI) (H : f_k_checkImmediates_23 hc = some r) : Ex 3 80 (23, [some (.ref 13), none], [], xSt xG0 hc hr xs g L c z) (.inl none, xSt xG0 r hr xs g L c z) := by
  unfold f_k_checkImmediates_23 at H
  refine Ex.many (f' := (25, [some (.ref 13), none], [.int (1 : Int32), .ref 13], xSt xG0 hc hr xs g L c z)) ?_ 2 (by rfl)
  obtain ⟨q1, hq1, H⟩ := xbd H
  refine Ex.call (mk := 79) (vs := [.ref 13, .int (1 : Int32)]) (rest := []) (by rfl) (by rfl) (Ex.up (T_k_fail (1 : Int32) hc q1 hq1) (by decide)) (xbb c z) ?_
  show Ex _ _ (28, [some (.ref 13), none], [], xSt xG0 q1 hr xs g L c z) _
  refine Ex.many (f' := (82, [none, none], [], xSt xG0 q1 hr xs g L c z)) ?_ 1 (by rfl)
  replace H := Option.some.inj H
  subst H
  exact Ex.done (by rfl)
def f_k_checkImmediates (a1 : Int32) (hc : xI) : Option xI :=
  if a1 = 0 then (some hc) else (if a1 = (-1 : Int32) then (f_k_checkImmediates_23 hc) else (if ((hc 13 11) + (1 : Int32)) < (hc 13 8) then (if a1 = (3 : Int32) then ((f_k_immediate hc).bind fun q5 => (f_k_checkTable q5 hc).bind fun q6 => some q6) else (if a1 = (2 : Int32) then ((f_k_checkLabel ((hc 13 11) + (1 : Int32)) hc).bind fun q8 => some q8) else ((f_k_immediate hc).bind fun q9 => (f_k_isAllowed a1 q9 hc).bind fun q10 => if q10 = 0 then ((f_k_fail (5 : Int32) hc).bind fun q12 => some q12) else (some hc)))) else (f_k_checkImmediates_23 hc)))
theorem T_k_checkImmediates {hr : xI} {g : xJ} {xs : Nat → Int32} {L c z : Nat} (a1 : Int32) (hc : xI) (r : xI) (H : f_k_checkImmediates a1 hc = some r) : Ex 3 80 (0, [some (.ref 13), some (.int a1)], [], xSt xG0 hc hr xs g L c z) (.inl none, xSt xG0 r hr xs g L c z) := by
  unfold f_k_checkImmediates at H
  refine Ex.many (f' := (1, [some (.ref 13), some (.int a1)], [.int a1], xSt xG0 hc hr xs g L c z)) ?_ 1 (by rfl)
  refine Ex.ite (ls := [some (.ref 13), some (.int a1)]) (st := []) (S := xSt xG0 hc hr xs g L c z) (by rfl) (fun q1 => ?_) (fun q1 => ?_)
  · replace H := (if_pos q1).symm.trans H
    replace H := Option.some.inj H
    subst H
    exact Ex.done (by rfl)
  · replace H := (if_neg q1).symm.trans H
    refine Ex.many (f' := (7, [some (.ref 13), some (.int a1)], [.int (-1 : Int32), .int a1], xSt xG0 hc hr xs g L c z)) ?_ 2 (by rfl)
    refine Ex.ite (ls := [some (.ref 13), some (.int a1)]) (st := []) (S := xSt xG0 hc hr xs g L c z) (by rfl) (fun q2 => ?_) (fun q2 => ?_)
    · replace H := (if_pos q2).symm.trans H
      refine Ex.kill (ls' := [some (.ref 13), none]) (by rfl) ?_
      exact T_k_checkImmediates_23 hc r H
    · replace H := (if_neg q2).symm.trans H
      refine Ex.many (f' := (20, [some (.ref 13), some (.int a1)], [.int (hc 13 8), .int ((hc 13 11) + (1 : Int32))], xSt xG0 hc hr xs g L c z)) ?_ 6 (by rfl)
      refine Ex.ite (ls := [some (.ref 13), some (.int a1)]) (st := []) (S := xSt xG0 hc hr xs g L c z) (by rfl) (fun q3 => ?_) (fun q3 => ?_)
      · replace H := (if_pos q3).symm.trans H
        refine Ex.many (f' := (33, [some (.ref 13), some (.int a1)], [.int (3 : Int32), .int a1], xSt xG0 hc hr xs g L c z)) ?_ 2 (by rfl)
        refine Ex.ite (ls := [some (.ref 13), some (.int a1)]) (st := []) (S := xSt xG0 hc hr xs g L c z) (by rfl) (fun q4 => ?_) (fun q4 => ?_)
        · replace H := (if_pos q4).symm.trans H
          refine Ex.many (f' := (38, [some (.ref 13), none], [.ref 13, .ref 13], xSt xG0 hc hr xs g L c z)) ?_ 2 (by rfl)
          obtain ⟨q5, hq5, H⟩ := xbd H
          refine Ex.call (mk := 81) (vs := [.ref 13]) (rest := [.ref 13]) (by rfl) (by rfl) (Ex.up (T_k_immediate hc q5 hq5) (by decide)) (xbb c z) ?_
          show Ex _ _ (41, [some (.ref 13), none], [.int q5, .ref 13], xSt xG0 hc hr xs g L c z) _
          obtain ⟨q6, hq6, H⟩ := xbd H
          refine Ex.call (mk := 82) (vs := [.ref 13, .int q5]) (rest := []) (by rfl) (by rfl) (Ex.up (T_k_checkTable q5 hc q6 hq6) (by decide)) (xbb c z) ?_
          show Ex _ _ (44, [none, none], [], xSt xG0 q6 hr xs g L c z) _
          refine Ex.many (f' := (82, [none, none], [], xSt xG0 q6 hr xs g L c z)) ?_ 1 (by rfl)
          replace H := Option.some.inj H
          subst H
          exact Ex.done (by rfl)
        · replace H := (if_neg q4).symm.trans H
          refine Ex.many (f' := (49, [some (.ref 13), some (.int a1)], [.int (2 : Int32), .int a1], xSt xG0 hc hr xs g L c z)) ?_ 2 (by rfl)
          refine Ex.ite (ls := [some (.ref 13), some (.int a1)]) (st := []) (S := xSt xG0 hc hr xs g L c z) (by rfl) (fun q7 => ?_) (fun q7 => ?_)
          · replace H := (if_pos q7).symm.trans H
            refine Ex.many (f' := (59, [some (.ref 13), none], [.int ((hc 13 11) + (1 : Int32)), .ref 13], xSt xG0 hc hr xs g L c z)) ?_ 5 (by rfl)
            obtain ⟨q8, hq8, H⟩ := xbd H
            refine Ex.call (mk := 83) (vs := [.ref 13, .int ((hc 13 11) + (1 : Int32))]) (rest := []) (by rfl) (by rfl) (Ex.up (T_k_checkLabel ((hc 13 11) + (1 : Int32)) hc q8 hq8) (by decide)) (xbb c z) ?_
            show Ex _ _ (62, [some (.ref 13), none], [], xSt xG0 q8 hr xs g L c z) _
            refine Ex.many (f' := (82, [none, none], [], xSt xG0 q8 hr xs g L c z)) ?_ 1 (by rfl)
            replace H := Option.some.inj H
            subst H
            exact Ex.done (by rfl)
          · replace H := (if_neg q7).symm.trans H
            refine Ex.many (f' := (68, [some (.ref 13), some (.int a1)], [.ref 13, .int a1, .ref 13], xSt xG0 hc hr xs g L c z)) ?_ 3 (by rfl)
            obtain ⟨q9, hq9, H⟩ := xbd H
            refine Ex.call (mk := 81) (vs := [.ref 13]) (rest := [.int a1, .ref 13]) (by rfl) (by rfl) (Ex.up (T_k_immediate hc q9 hq9) (by decide)) (xbb c z) ?_
            show Ex _ _ (71, [some (.ref 13), some (.int a1)], [.int q9, .int a1, .ref 13], xSt xG0 hc hr xs g L c z) _
            obtain ⟨q10, hq10, H⟩ := xbd H
            refine Ex.call (mk := 84) (vs := [.ref 13, .int a1, .int q9]) (rest := []) (by rfl) (by rfl) (Ex.up (T_k_isAllowed a1 q9 hc q10 hq10) (by decide)) (xbb c z) ?_
            show Ex _ _ (74, [some (.ref 13), none], [.int q10], xSt xG0 hc hr xs g L c z) _
            refine Ex.ite (ls := [some (.ref 13), none]) (st := []) (S := xSt xG0 hc hr xs g L c z) (by rfl) (fun q11 => ?_) (fun q11 => ?_)
            · replace H := (if_pos q11).symm.trans H
              refine Ex.many (f' := (79, [some (.ref 13), none], [.int (5 : Int32), .ref 13], xSt xG0 hc hr xs g L c z)) ?_ 2 (by rfl)
              obtain ⟨q12, hq12, H⟩ := xbd H
              refine Ex.call (mk := 79) (vs := [.ref 13, .int (5 : Int32)]) (rest := []) (by rfl) (by rfl) (Ex.up (T_k_fail (5 : Int32) hc q12 hq12) (by decide)) (xbb c z) ?_
              show Ex _ _ (82, [some (.ref 13), none], [], xSt xG0 q12 hr xs g L c z) _
              replace H := Option.some.inj H
              subst H
              exact Ex.done (by rfl)
            · replace H := (if_neg q11).symm.trans H
              replace H := Option.some.inj H
              subst H
              exact Ex.done (by rfl)
      · replace H := (if_neg q3).symm.trans H
        refine Ex.kill (ls' := [some (.ref 13), none]) (by rfl) ?_
        exact T_k_checkImmediates_23 hc r H
def f_k_leaveOff (hc : xI) : Option xI :=
  xgd ((hc 13 6) - (1 : Int32)) 9 (xgd ((hc 13 6) - (1 : Int32)) 9 (some (xput (xput hc 13 7 (hc 16 ((hc 13 6) - (1 : Int32)).toNatClampNeg)) 17 ((hc 13 6) - (1 : Int32)).toNatClampNeg (vp_nar .boolean (0 : Int32)))))
theorem T_k_leaveOff {hr : xI} {g : xJ} {xs : Nat → Int32} {L c z : Nat} (hc : xI) (r : xI) (H : f_k_leaveOff hc = some r) : Ex 0 87 (0, [some (.ref 13)], [], xSt xG0 hc hr xs g L c z) (.inl none, xSt xG0 r hr xs g L c z) := by
  unfold f_k_leaveOff at H
  refine Ex.many (f' := (11, [some (.ref 13)], [.int ((hc 13 6) - (1 : Int32)), .ref 16, .ref 13], xSt xG0 hc hr xs g L c z)) ?_ 7 (by rfl)
  obtain ⟨g1, H⟩ := xgd_some H
  refine Ex.guard (f' := (12, [some (.ref 13)], [.int (hc 16 ((hc 13 6) - (1 : Int32)).toNatClampNeg), .ref 13], xSt xG0 hc hr xs g L c z)) (by rfl) g1 ?_
  refine Ex.putC (pc := 15) (k := 13) (j := 7) (v := (hc 16 ((hc 13 6) - (1 : Int32)).toNatClampNeg)) (ls := [some (.ref 13)]) (st := []) (hc := hc) ?_ (by rfl) (by rfl)
  refine Ex.many (f' := (26, [some (.ref 13)], [.int (0 : Int32), .int ((hc 13 6) - (1 : Int32)), .ref 17], xSt xG0 (xput hc 13 7 (hc 16 ((hc 13 6) - (1 : Int32)).toNatClampNeg)) hr xs g L c z)) ?_ 7 (by rfl)
  obtain ⟨g2, H⟩ := xgd_some H
  refine Ex.gputC (pc := 27) (k := 17) (n := 9) (i := ((hc 13 6) - (1 : Int32))) (v := (vp_nar .boolean (0 : Int32))) (ls := [some (.ref 13)]) (st := []) (hc := (xput hc 13 7 (hc 16 ((hc 13 6) - (1 : Int32)).toNatClampNeg))) ?_ (by rfl) g2 (by rfl)
  replace H := Option.some.inj H
  subst H
  exact Ex.done (by rfl)
def f_k_popValues_54 (k : Int32 → Int32 → Int32 → xI → Option xI) (v1 : Int32) (v2 : Int32) (v3 : Int32) (hc : xI) : Option xI :=
  k v1 v2 (v3 + (1 : Int32)) hc
theorem T_k_popValues_54 {hr : xI} {g : xJ} {xs : Nat → Int32} {L c z : Nat} (k : Int32 → Int32 → Int32 → xI → Option xI) (hk : ∀ (v1 : Int32) (v2 : Int32) (v3 : Int32) (hc : xI) (r : xI), k v1 v2 v3 hc = some r → Ex 1 88 (9, [some (.ref 13), some (.int v1), some (.int v2), some (.int v3)], [], xSt xG0 hc hr xs g L c z) (.inl none, xSt xG0 r hr xs g L c z)) (v1 : Int32) (v2 : Int32) (v3 : Int32) (hc : xI) (r : xI) (H : f_k_popValues_54 k v1 v2 v3 hc = some r) : Ex 1 88 (54, [some (.ref 13), some (.int v1), some (.int v2), some (.int v3)], [], xSt xG0 hc hr xs g L c z) (.inl none, xSt xG0 r hr xs g L c z) := by
  unfold f_k_popValues_54 at H
  refine Ex.many (f' := (9, [some (.ref 13), some (.int v1), some (.int v2), some (.int (v3 + (1 : Int32)))], [], xSt xG0 hc hr xs g L c z)) ?_ 2 (by rfl)
  exact hk v1 v2 (v3 + (1 : Int32)) hc r H
def f_k_popValues_9 : Nat → Int32 → Int32 → Int32 → xI → Option xI
  | 0, _, _, _, _ => none
  | n + 1, v1, v2, v3, hc => if v1 ≤ v3 then (some hc) else (xgd v2 9 (if (hc 13 7) ≤ (hc 16 v2.toNatClampNeg) then (xgd v2 9 (if (hc 17 v2.toNatClampNeg) = 0 then (f_k_popValues_54 (f_k_popValues_9 n) v1 v2 v3 hc) else ((f_k_fail (2 : Int32) hc).bind fun q6 => f_k_popValues_54 (f_k_popValues_9 n) v1 v2 v3 q6))) else (f_k_popValues_54 (f_k_popValues_9 n) v1 v2 v3 (xput hc 13 7 ((hc 13 7) - (1 : Int32))))))
theorem T_k_popValues_9 {hr : xI} {g : xJ} {xs : Nat → Int32} {L c z : Nat} (n : Nat) : ∀ (v1 : Int32) (v2 : Int32) (v3 : Int32) (hc : xI) (r : xI), f_k_popValues_9 n v1 v2 v3 hc = some r → Ex 1 88 (9, [some (.ref 13), some (.int v1), some (.int v2), some (.int v3)], [], xSt xG0 hc hr xs g L c z) (.inl none, xSt xG0 r hr xs g L c z) := by
  induction n with
  | zero =>
    intro v1 v2 v3 hc r H
    unfold f_k_popValues_9 at H
    cases H
  | succ n ih =>
    intro v1 v2 v3 hc r H
    unfold f_k_popValues_9 at H
    refine Ex.many (f' := (11, [some (.ref 13), some (.int v1), some (.int v2), some (.int v3)], [.int v1, .int v3], xSt xG0 hc hr xs g L c z)) ?_ 2 (by rfl)
    refine Ex.ite (ls := [some (.ref 13), some (.int v1), some (.int v2), some (.int v3)]) (st := []) (S := xSt xG0 hc hr xs g L c z) (by rfl) (fun q1 => ?_) (fun q1 => ?_)
    · replace H := (if_pos q1).symm.trans H
      replace H := Option.some.inj H
      subst H
      exact Ex.done (by rfl)
    · replace H := (if_neg q1).symm.trans H
      refine Ex.many (f' := (23, [some (.ref 13), some (.int v1), some (.int v2), some (.int v3)], [.int v2, .ref 16, .int (hc 13 7)], xSt xG0 hc hr xs g L c z)) ?_ 5 (by rfl)
      obtain ⟨g2, H⟩ := xgd_some H
      refine Ex.guard (f' := (24, [some (.ref 13), some (.int v1), some (.int v2), some (.int v3)], [.int (hc 16 v2.toNatClampNeg), .int (hc 13 7)], xSt xG0 hc hr xs g L c z)) (by rfl) g2 ?_
      refine Ex.ite (ls := [some (.ref 13), some (.int v1), some (.int v2), some (.int v3)]) (st := []) (S := xSt xG0 hc hr xs g L c z) (by rfl) (fun q3 => ?_) (fun q3 => ?_)
      · replace H := (if_pos q3).symm.trans H
        refine Ex.many (f' := (45, [some (.ref 13), some (.int v1), some (.int v2), some (.int v3)], [.int v2, .ref 17], xSt xG0 hc hr xs g L c z)) ?_ 3 (by rfl)
        obtain ⟨g4, H⟩ := xgd_some H
        refine Ex.guard (f' := (46, [some (.ref 13), some (.int v1), some (.int v2), some (.int v3)], [.int (hc 17 v2.toNatClampNeg)], xSt xG0 hc hr xs g L c z)) (by rfl) g4 ?_
        refine Ex.ite (ls := [some (.ref 13), some (.int v1), some (.int v2), some (.int v3)]) (st := []) (S := xSt xG0 hc hr xs g L c z) (by rfl) (fun q5 => ?_) (fun q5 => ?_)
        · replace H := (if_pos q5).symm.trans H
          exact T_k_popValues_54 (f_k_popValues_9 n) ih v1 v2 v3 hc r H
        · replace H := (if_neg q5).symm.trans H
          refine Ex.many (f' := (51, [some (.ref 13), some (.int v1), some (.int v2), some (.int v3)], [.int (2 : Int32), .ref 13], xSt xG0 hc hr xs g L c z)) ?_ 2 (by rfl)
          obtain ⟨q6, hq6, H⟩ := xbd H
          refine Ex.call (mk := 79) (vs := [.ref 13, .int (2 : Int32)]) (rest := []) (by rfl) (by rfl) (Ex.up (T_k_fail (2 : Int32) hc q6 hq6) (by decide)) (xbb c z) ?_
          show Ex _ _ (54, [some (.ref 13), some (.int v1), some (.int v2), some (.int v3)], [], xSt xG0 q6 hr xs g L c z) _
          exact T_k_popValues_54 (f_k_popValues_9 n) ih v1 v2 v3 q6 r H
      · replace H := (if_neg q3).symm.trans H
        refine Ex.many (f' := (34, [some (.ref 13), some (.int v1), some (.int v2), some (.int v3)], [.int ((hc 13 7) - (1 : Int32)), .ref 13], xSt xG0 hc hr xs g L c z)) ?_ 5 (by rfl)
        refine Ex.putC (pc := 37) (k := 13) (j := 7) (v := ((hc 13 7) - (1 : Int32))) (ls := [some (.ref 13), some (.int v1), some (.int v2), some (.int v3)]) (st := []) (hc := hc) ?_ (by rfl) (by rfl)
        refine Ex.many (f' := (54, [some (.ref 13), some (.int v1), some (.int v2), some (.int v3)], [], xSt xG0 (xput hc 13 7 ((hc 13 7) - (1 : Int32))) hr xs g L c z)) ?_ 1 (by rfl)
        exact T_k_popValues_54 (f_k_popValues_9 n) ih v1 v2 v3 (xput hc 13 7 ((hc 13 7) - (1 : Int32))) r H
def f_k_popValues (a1 : Int32) (hc : xI) : Option xI :=
  f_k_popValues_9 1000 a1 ((hc 13 6) - (1 : Int32)) (0 : Int32) hc
theorem T_k_popValues {hr : xI} {g : xJ} {xs : Nat → Int32} {L c z : Nat} (a1 : Int32) (hc : xI) (r : xI) (H : f_k_popValues a1 hc = some r) : Ex 1 88 (0, [some (.ref 13), some (.int a1), none, none], [], xSt xG0 hc hr xs g L c z) (.inl none, xSt xG0 r hr xs g L c z) := by
  unfold f_k_popValues at H
  refine Ex.many (f' := (9, [some (.ref 13), some (.int a1), some (.int ((hc 13 6) - (1 : Int32))), some (.int (0 : Int32))], [], xSt xG0 hc hr xs g L c z)) ?_ 7 (by rfl)
  exact T_k_popValues_9 1000 a1 ((hc 13 6) - (1 : Int32)) (0 : Int32) hc r H
