/-! The law as a function. -/
def f_l_feed (a1 : Int32) (a2 : Int64) (hc : xI) (g : xJ) : Option (Int32 × xI × xJ) :=
  (f_w_feed a1 a2 hc).bind fun q => Sum.elim (fun v => some ((0 : Int32), q.2, (xputL g 51 0 v.toInt64))) (fun x => if x = 0 then some ((1 : Int32), q.2, g) else (if x = 1 then some ((2 : Int32), q.2, g) else none)) q.1
theorem T_l_feed {hr : xI} {xs : Nat → Int32} {L c z : Nat} (hcz : 0 < c ∧ 6 ≤ z) (a1 : Int32) (a2 : Int64) (hc : xI) (g : xJ) (r : (Int32 × xI × xJ)) (H : f_l_feed a1 a2 hc g = some r) : ∃ c' z', (c' ≤ c ∧ c ≤ c' + 1 ∧ z' ≤ z ∧ z ≤ z' + 6) ∧ Ex 7 62 (0, [some (.ref 0), some (.int a1), some (.long a2), none, some (.ref 51), none], [], xSt xG0 hc hr xs g L c z) (.inl (some (.int r.1)), xSt xG0 r.2.1 hr xs r.2.2 L c' z') := by
  unfold f_l_feed at H
  obtain ⟨q, hq, H⟩ := xbd H
  have hT := T_w_feed (xs := xs) (L := L) (hr := hr) (g := g) hcz a1 a2 hc q hq
  obtain ⟨q1, q2⟩ := q
  cases q1 with
  | inl v =>
    replace H := Option.some.inj H
    subst H
    refine ⟨c, z, by omega, ?_⟩
    refine Ex.many (f' := (6, [some (.ref 0), some (.int a1), some (.long a2), none, some (.ref 51), none], [.long a2, .int a1, .ref 0, .int (0 : Int32), .ref 51], xSt xG0 hc hr xs g L c z)) ?_ 5 (by rfl)
    refine Ex.call (mk := 63) (vs := [.ref 0, .int a1, .long a2]) (rest := [.int (0 : Int32), .ref 51]) (by rfl) (by rfl) (Ex.up hT (by decide)) (xbb c z) ?_
    show Ex _ _ (9, [some (.ref 0), some (.int a1), some (.long a2), none, some (.ref 51), none], [.int v, .int (0 : Int32), .ref 51], xSt xG0 q2 hr xs g L c z) _
    refine Ex.many (f' := (23, [none, none, none, none, none, none], [.int (0 : Int32)], xSt xG0 q2 hr xs (xputL g 51 0 v.toInt64) L c z)) ?_ 4 (by rfl)
    exact Ex.done (by rfl)
  | inr x =>
    by_cases e0 : x = 0
    · replace H := (if_pos e0).symm.trans H
      replace H := Option.some.inj H
      subst H
      subst e0
      refine ⟨c - 1, z - 6, by omega, ?_⟩
      refine Ex.many (f' := (6, [some (.ref 0), some (.int a1), some (.long a2), none, some (.ref 51), none], [.long a2, .int a1, .ref 0, .int (0 : Int32), .ref 51], xSt xG0 hc hr xs g L c z)) ?_ 5 (by rfl)
      refine Ex.caught (mk := 63) (q := (16, 5)) (x := 0) (vs := [.ref 0, .int a1, .long a2]) (rest := [.int (0 : Int32), .ref 51]) (by rfl) (by rfl) (by rfl) (by rfl) (Ex.up hT (by decide)) (xbt c z) (by rfl) (by rfl) ?_
      show Ex _ _ (16, [some (.ref 0), some (.int a1), some (.long a2), none, some (.ref 51), none], [], xSt xG0 q2 hr xs g L (c - 1) (z - 6)) _
      refine Ex.many (f' := (17, [some (.ref 0), some (.int a1), some (.long a2), none, some (.ref 51), none], [.int (1 : Int32)], xSt xG0 q2 hr xs g L (c - 1) (z - 6))) ?_ 1 (by rfl)
      exact Ex.done (by rfl)
    · replace H := (if_neg e0).symm.trans H
      by_cases e1 : x = 1
      · replace H := (if_pos e1).symm.trans H
        replace H := Option.some.inj H
        subst H
        subst e1
        refine ⟨c - 1, z - 6, by omega, ?_⟩
        refine Ex.many (f' := (6, [some (.ref 0), some (.int a1), some (.long a2), none, some (.ref 51), none], [.long a2, .int a1, .ref 0, .int (0 : Int32), .ref 51], xSt xG0 hc hr xs g L c z)) ?_ 5 (by rfl)
        refine Ex.caught (mk := 63) (q := (20, 5)) (x := 1) (vs := [.ref 0, .int a1, .long a2]) (rest := [.int (0 : Int32), .ref 51]) (by rfl) (by rfl) (by rfl) (by rfl) (Ex.up hT (by decide)) (xbt c z) (by rfl) (by rfl) ?_
        show Ex _ _ (20, [some (.ref 0), some (.int a1), some (.long a2), none, some (.ref 51), none], [], xSt xG0 q2 hr xs g L (c - 1) (z - 6)) _
        refine Ex.many (f' := (21, [some (.ref 0), some (.int a1), some (.long a2), none, some (.ref 51), none], [.int (2 : Int32)], xSt xG0 q2 hr xs g L (c - 1) (z - 6))) ?_ 1 (by rfl)
        exact Ex.done (by rfl)
      · replace H := (if_neg e1).symm.trans H
        cases H
def f_l_word (a1 : Int32) (hc : xI) (g : xJ) : Option (Int32 × xI × xJ) :=
  (f_w_word a1 hc).bind fun q => Sum.elim (fun v => some ((0 : Int32), q.2, (xputL g 51 0 v.toInt64))) (fun x => if x = 1 then some ((1 : Int32), q.2, g) else none) q.1
theorem T_l_word {hr : xI} {xs : Nat → Int32} {L c z : Nat} (hcz : 0 < c ∧ 6 ≤ z) (a1 : Int32) (hc : xI) (g : xJ) (r : (Int32 × xI × xJ)) (H : f_l_word a1 hc g = some r) : ∃ c' z', (c' ≤ c ∧ c ≤ c' + 1 ∧ z' ≤ z ∧ z ≤ z' + 6) ∧ Ex 7 66 (0, [some (.ref 0), some (.int a1), some (.ref 51), none], [], xSt xG0 hc hr xs g L c z) (.inl (some (.int r.1)), xSt xG0 r.2.1 hr xs r.2.2 L c' z') := by
  unfold f_l_word at H
  obtain ⟨q, hq, H⟩ := xbd H
  have hT := T_w_word (xs := xs) (L := L) (hr := hr) (g := g) hcz a1 hc q hq
  obtain ⟨q1, q2⟩ := q
  cases q1 with
  | inl v =>
    replace H := Option.some.inj H
    subst H
    refine ⟨c, z, by omega, ?_⟩
    refine Ex.many (f' := (4, [some (.ref 0), some (.int a1), some (.ref 51), none], [.int a1, .ref 0, .int (0 : Int32), .ref 51], xSt xG0 hc hr xs g L c z)) ?_ 4 (by rfl)
    refine Ex.call (mk := 67) (vs := [.ref 0, .int a1]) (rest := [.int (0 : Int32), .ref 51]) (by rfl) (by rfl) (Ex.up hT (by decide)) (xbb c z) ?_
    show Ex _ _ (7, [some (.ref 0), some (.int a1), some (.ref 51), none], [.int v, .int (0 : Int32), .ref 51], xSt xG0 q2 hr xs g L c z) _
    refine Ex.many (f' := (16, [none, none, none, none], [.int (0 : Int32)], xSt xG0 q2 hr xs (xputL g 51 0 v.toInt64) L c z)) ?_ 4 (by rfl)
    exact Ex.done (by rfl)
  | inr x =>
    by_cases e1 : x = 1
    · replace H := (if_pos e1).symm.trans H
      replace H := Option.some.inj H
      subst H
      subst e1
      refine ⟨c - 1, z - 6, by omega, ?_⟩
      refine Ex.many (f' := (4, [some (.ref 0), some (.int a1), some (.ref 51), none], [.int a1, .ref 0, .int (0 : Int32), .ref 51], xSt xG0 hc hr xs g L c z)) ?_ 4 (by rfl)
      refine Ex.caught (mk := 67) (q := (13, 3)) (x := 1) (vs := [.ref 0, .int a1]) (rest := [.int (0 : Int32), .ref 51]) (by rfl) (by rfl) (by rfl) (by rfl) (Ex.up hT (by decide)) (xbt c z) (by rfl) (by rfl) ?_
      show Ex _ _ (13, [some (.ref 0), some (.int a1), some (.ref 51), none], [], xSt xG0 q2 hr xs g L (c - 1) (z - 6)) _
      refine Ex.many (f' := (14, [some (.ref 0), some (.int a1), some (.ref 51), none], [.int (1 : Int32)], xSt xG0 q2 hr xs g L (c - 1) (z - 6))) ?_ 1 (by rfl)
      exact Ex.done (by rfl)
    · replace H := (if_neg e1).symm.trans H
      cases H
def f_l_declare (a1 : Int32) (a2 : Int32) (a3 : Int32) (hc : xI) (g : xJ) : Option (Int32 × xI × xJ) :=
  (f_w_declare a1 a2 a3 hc).bind fun q => Sum.elim (fun v => some ((0 : Int32), q.2, (xputL g 51 0 v.toInt64))) (fun x => if x = 0 then some ((1 : Int32), q.2, g) else (if x = 1 then some ((2 : Int32), q.2, g) else none)) q.1
theorem T_l_declare {hr : xI} {xs : Nat → Int32} {L c z : Nat} (hcz : 0 < c ∧ 6 ≤ z) (a1 : Int32) (a2 : Int32) (a3 : Int32) (hc : xI) (g : xJ) (r : (Int32 × xI × xJ)) (H : f_l_declare a1 a2 a3 hc g = some r) : ∃ c' z', (c' ≤ c ∧ c ≤ c' + 1 ∧ z' ≤ z ∧ z ≤ z' + 6) ∧ Ex 7 68 (0, [some (.ref 0), some (.int a1), some (.int a2), some (.int a3), some (.ref 51), none], [], xSt xG0 hc hr xs g L c z) (.inl (some (.int r.1)), xSt xG0 r.2.1 hr xs r.2.2 L c' z') := by
  unfold f_l_declare at H
  obtain ⟨q, hq, H⟩ := xbd H
  have hT := T_w_declare (xs := xs) (L := L) (hr := hr) (g := g) hcz a1 a2 a3 hc q hq
  obtain ⟨q1, q2⟩ := q
  cases q1 with
  | inl v =>
    replace H := Option.some.inj H
    subst H
    refine ⟨c, z, by omega, ?_⟩
    refine Ex.many (f' := (7, [some (.ref 0), some (.int a1), some (.int a2), some (.int a3), some (.ref 51), none], [.int a3, .int a2, .int a1, .ref 0, .int (0 : Int32), .ref 51], xSt xG0 hc hr xs g L c z)) ?_ 6 (by rfl)
    refine Ex.call (mk := 69) (vs := [.ref 0, .int a1, .int a2, .int a3]) (rest := [.int (0 : Int32), .ref 51]) (by rfl) (by rfl) (Ex.up hT (by decide)) (xbb c z) ?_
    show Ex _ _ (10, [some (.ref 0), some (.int a1), some (.int a2), some (.int a3), some (.ref 51), none], [.int v, .int (0 : Int32), .ref 51], xSt xG0 q2 hr xs g L c z) _
    refine Ex.many (f' := (24, [none, none, none, none, none, none], [.int (0 : Int32)], xSt xG0 q2 hr xs (xputL g 51 0 v.toInt64) L c z)) ?_ 4 (by rfl)
    exact Ex.done (by rfl)
  | inr x =>
    by_cases e0 : x = 0
    · replace H := (if_pos e0).symm.trans H
      replace H := Option.some.inj H
      subst H
      subst e0
      refine ⟨c - 1, z - 6, by omega, ?_⟩
      refine Ex.many (f' := (7, [some (.ref 0), some (.int a1), some (.int a2), some (.int a3), some (.ref 51), none], [.int a3, .int a2, .int a1, .ref 0, .int (0 : Int32), .ref 51], xSt xG0 hc hr xs g L c z)) ?_ 6 (by rfl)
      refine Ex.caught (mk := 69) (q := (17, 5)) (x := 0) (vs := [.ref 0, .int a1, .int a2, .int a3]) (rest := [.int (0 : Int32), .ref 51]) (by rfl) (by rfl) (by rfl) (by rfl) (Ex.up hT (by decide)) (xbt c z) (by rfl) (by rfl) ?_
      show Ex _ _ (17, [some (.ref 0), some (.int a1), some (.int a2), some (.int a3), some (.ref 51), none], [], xSt xG0 q2 hr xs g L (c - 1) (z - 6)) _
      refine Ex.many (f' := (18, [some (.ref 0), some (.int a1), some (.int a2), some (.int a3), some (.ref 51), none], [.int (1 : Int32)], xSt xG0 q2 hr xs g L (c - 1) (z - 6))) ?_ 1 (by rfl)
      exact Ex.done (by rfl)
    · replace H := (if_neg e0).symm.trans H
      by_cases e1 : x = 1
      · replace H := (if_pos e1).symm.trans H
        replace H := Option.some.inj H
        subst H
        subst e1
        refine ⟨c - 1, z - 6, by omega, ?_⟩
        refine Ex.many (f' := (7, [some (.ref 0), some (.int a1), some (.int a2), some (.int a3), some (.ref 51), none], [.int a3, .int a2, .int a1, .ref 0, .int (0 : Int32), .ref 51], xSt xG0 hc hr xs g L c z)) ?_ 6 (by rfl)
        refine Ex.caught (mk := 69) (q := (21, 5)) (x := 1) (vs := [.ref 0, .int a1, .int a2, .int a3]) (rest := [.int (0 : Int32), .ref 51]) (by rfl) (by rfl) (by rfl) (by rfl) (Ex.up hT (by decide)) (xbt c z) (by rfl) (by rfl) ?_
        show Ex _ _ (21, [some (.ref 0), some (.int a1), some (.int a2), some (.int a3), some (.ref 51), none], [], xSt xG0 q2 hr xs g L (c - 1) (z - 6)) _
        refine Ex.many (f' := (22, [some (.ref 0), some (.int a1), some (.int a2), some (.int a3), some (.ref 51), none], [.int (2 : Int32)], xSt xG0 q2 hr xs g L (c - 1) (z - 6))) ?_ 1 (by rfl)
        exact Ex.done (by rfl)
      · replace H := (if_neg e1).symm.trans H
        cases H
def f_l_validate (hc : xI) (g : xJ) : Option (Int32 × xI × xJ) :=
  (f_w_validate hc).bind fun q => Sum.elim (fun v => some ((0 : Int32), q.2, (xputL g 51 0 v.toInt64))) (fun x => if x = 1 then some ((1 : Int32), q.2, g) else none) q.1
theorem T_l_validate {hr : xI} {xs : Nat → Int32} {L c z : Nat} (hcz : 0 < c ∧ 6 ≤ z) (hc : xI) (g : xJ) (r : (Int32 × xI × xJ)) (H : f_l_validate hc g = some r) : ∃ c' z', (c' ≤ c ∧ c ≤ c' + 1 ∧ z' ≤ z ∧ z ≤ z' + 6) ∧ Ex 8 74 (0, [some (.ref 0), some (.ref 51), none], [], xSt xG0 hc hr xs g L c z) (.inl (some (.int r.1)), xSt xG0 r.2.1 hr xs r.2.2 L c' z') := by
  unfold f_l_validate at H
  obtain ⟨q, hq, H⟩ := xbd H
  have hT := T_w_validate (xs := xs) (L := L) (hr := hr) (g := g) hcz hc q hq
  obtain ⟨q1, q2⟩ := q
  cases q1 with
  | inl v =>
    replace H := Option.some.inj H
    subst H
    refine ⟨c, z, by omega, ?_⟩
    refine Ex.many (f' := (3, [some (.ref 0), some (.ref 51), none], [.ref 0, .int (0 : Int32), .ref 51], xSt xG0 hc hr xs g L c z)) ?_ 3 (by rfl)
    refine Ex.call (mk := 75) (vs := [.ref 0]) (rest := [.int (0 : Int32), .ref 51]) (by rfl) (by rfl) (Ex.up hT (by decide)) (xbb c z) ?_
    show Ex _ _ (6, [some (.ref 0), some (.ref 51), none], [.int v, .int (0 : Int32), .ref 51], xSt xG0 q2 hr xs g L c z) _
    refine Ex.many (f' := (15, [none, none, none], [.int (0 : Int32)], xSt xG0 q2 hr xs (xputL g 51 0 v.toInt64) L c z)) ?_ 4 (by rfl)
    exact Ex.done (by rfl)
  | inr x =>
    by_cases e1 : x = 1
    · replace H := (if_pos e1).symm.trans H
      replace H := Option.some.inj H
      subst H
      subst e1
      refine ⟨c - 1, z - 6, by omega, ?_⟩
      refine Ex.many (f' := (3, [some (.ref 0), some (.ref 51), none], [.ref 0, .int (0 : Int32), .ref 51], xSt xG0 hc hr xs g L c z)) ?_ 3 (by rfl)
      refine Ex.caught (mk := 75) (q := (12, 2)) (x := 1) (vs := [.ref 0]) (rest := [.int (0 : Int32), .ref 51]) (by rfl) (by rfl) (by rfl) (by rfl) (Ex.up hT (by decide)) (xbt c z) (by rfl) (by rfl) ?_
      show Ex _ _ (12, [some (.ref 0), some (.ref 51), none], [], xSt xG0 q2 hr xs g L (c - 1) (z - 6)) _
      refine Ex.many (f' := (13, [some (.ref 0), some (.ref 51), none], [.int (1 : Int32)], xSt xG0 q2 hr xs g L (c - 1) (z - 6))) ?_ 1 (by rfl)
      exact Ex.done (by rfl)
    · replace H := (if_neg e1).symm.trans H
      cases H
def f_l_invoke (a1 : Int32) (hc : xI) : Option (Int32 × xI) :=
  (f_w_invoke a1 hc).bind fun q => Sum.elim (fun v => some ((0 : Int32), q.2)) (fun x => if x = 1 then some ((1 : Int32), q.2) else (if x = 2 then some ((2 : Int32), q.2) else (if x = 0 then some ((3 : Int32), q.2) else none))) q.1
theorem T_l_invoke {hr : xI} {g : xJ} {xs : Nat → Int32} {L c z : Nat} (hcz : 0 < c ∧ 6 ≤ z) (a1 : Int32) (hc : xI) (r : (Int32 × xI)) (H : f_l_invoke a1 hc = some r) : ∃ c' z', (c' ≤ c ∧ c ≤ c' + 1 ∧ z' ≤ z ∧ z ≤ z' + 6) ∧ Ex 7 99 (0, [some (.ref 0), some (.int a1), none], [], xSt xG0 hc hr xs g L c z) (.inl (some (.int r.1)), xSt xG0 r.2 hr xs g L c' z') := by
  unfold f_l_invoke at H
  obtain ⟨q, hq, H⟩ := xbd H
  have hT := T_w_invoke (xs := xs) (L := L) (hr := hr) (g := g) hcz a1 hc q hq
  obtain ⟨q1, q2⟩ := q
  cases q1 with
  | inl v =>
    replace H := Option.some.inj H
    subst H
    refine ⟨c, z, by omega, ?_⟩
    refine Ex.many (f' := (2, [some (.ref 0), some (.int a1), none], [.int a1, .ref 0], xSt xG0 hc hr xs g L c z)) ?_ 2 (by rfl)
    refine Ex.call (mk := 100) (vs := [.ref 0, .int a1]) (rest := []) (by rfl) (by rfl) (Ex.up hT (by decide)) (xbb c z) ?_
    show Ex _ _ (5, [some (.ref 0), some (.int a1), none], [], xSt xG0 q2 hr xs g L c z) _
    refine Ex.many (f' := (18, [none, none, none], [.int (0 : Int32)], xSt xG0 q2 hr xs g L c z)) ?_ 2 (by rfl)
    exact Ex.done (by rfl)
  | inr x =>
    by_cases e1 : x = 1
    · replace H := (if_pos e1).symm.trans H
      replace H := Option.some.inj H
      subst H
      subst e1
      refine ⟨c - 1, z - 6, by omega, ?_⟩
      refine Ex.many (f' := (2, [some (.ref 0), some (.int a1), none], [.int a1, .ref 0], xSt xG0 hc hr xs g L c z)) ?_ 2 (by rfl)
      refine Ex.caught (mk := 100) (q := (9, 2)) (x := 1) (vs := [.ref 0, .int a1]) (rest := []) (by rfl) (by rfl) (by rfl) (by rfl) (Ex.up hT (by decide)) (xbt c z) (by rfl) (by rfl) ?_
      show Ex _ _ (9, [some (.ref 0), some (.int a1), none], [], xSt xG0 q2 hr xs g L (c - 1) (z - 6)) _
      refine Ex.many (f' := (10, [some (.ref 0), some (.int a1), none], [.int (1 : Int32)], xSt xG0 q2 hr xs g L (c - 1) (z - 6))) ?_ 1 (by rfl)
      exact Ex.done (by rfl)
    · replace H := (if_neg e1).symm.trans H
      by_cases e2 : x = 2
      · replace H := (if_pos e2).symm.trans H
        replace H := Option.some.inj H
        subst H
        subst e2
        refine ⟨c - 1, z - 6, by omega, ?_⟩
        refine Ex.many (f' := (2, [some (.ref 0), some (.int a1), none], [.int a1, .ref 0], xSt xG0 hc hr xs g L c z)) ?_ 2 (by rfl)
        refine Ex.caught (mk := 100) (q := (12, 2)) (x := 2) (vs := [.ref 0, .int a1]) (rest := []) (by rfl) (by rfl) (by rfl) (by rfl) (Ex.up hT (by decide)) (xbt c z) (by rfl) (by rfl) ?_
        show Ex _ _ (12, [some (.ref 0), some (.int a1), none], [], xSt xG0 q2 hr xs g L (c - 1) (z - 6)) _
        refine Ex.many (f' := (13, [some (.ref 0), some (.int a1), none], [.int (2 : Int32)], xSt xG0 q2 hr xs g L (c - 1) (z - 6))) ?_ 1 (by rfl)
        exact Ex.done (by rfl)
      · replace H := (if_neg e2).symm.trans H
        by_cases e0 : x = 0
        · replace H := (if_pos e0).symm.trans H
          replace H := Option.some.inj H
          subst H
          subst e0
          refine ⟨c - 1, z - 6, by omega, ?_⟩
          refine Ex.many (f' := (2, [some (.ref 0), some (.int a1), none], [.int a1, .ref 0], xSt xG0 hc hr xs g L c z)) ?_ 2 (by rfl)
          refine Ex.caught (mk := 100) (q := (15, 2)) (x := 0) (vs := [.ref 0, .int a1]) (rest := []) (by rfl) (by rfl) (by rfl) (by rfl) (Ex.up hT (by decide)) (xbt c z) (by rfl) (by rfl) ?_
          show Ex _ _ (15, [some (.ref 0), some (.int a1), none], [], xSt xG0 q2 hr xs g L (c - 1) (z - 6)) _
          refine Ex.many (f' := (16, [some (.ref 0), some (.int a1), none], [.int (3 : Int32)], xSt xG0 q2 hr xs g L (c - 1) (z - 6))) ?_ 1 (by rfl)
          exact Ex.done (by rfl)
        · replace H := (if_neg e0).symm.trans H
          cases H
def f_l_result (hc : xI) (g : xJ) : Option (Int32 × xJ) :=
  (f_w_result hc).bind fun q => Sum.elim (fun v => some ((0 : Int32), (xputL g 51 0 v.toInt64))) (fun x => if x = 1 then some ((1 : Int32), g) else none) q
theorem T_l_result {hr : xI} {xs : Nat → Int32} {L c z : Nat} (hcz : 0 < c ∧ 6 ≤ z) (hc : xI) (g : xJ) (r : (Int32 × xJ)) (H : f_l_result hc g = some r) : ∃ c' z', (c' ≤ c ∧ c ≤ c' + 1 ∧ z' ≤ z ∧ z ≤ z' + 6) ∧ Ex 7 102 (0, [some (.ref 0), some (.ref 51), none], [], xSt xG0 hc hr xs g L c z) (.inl (some (.int r.1)), xSt xG0 hc hr xs r.2 L c' z') := by
  unfold f_l_result at H
  obtain ⟨q, hq, H⟩ := xbd H
  have hT := T_w_result (xs := xs) (L := L) (hr := hr) (g := g) hcz hc q hq
  cases q with
  | inl v =>
    replace H := Option.some.inj H
    subst H
    refine ⟨c, z, by omega, ?_⟩
    refine Ex.many (f' := (3, [some (.ref 0), some (.ref 51), none], [.ref 0, .int (0 : Int32), .ref 51], xSt xG0 hc hr xs g L c z)) ?_ 3 (by rfl)
    refine Ex.call (mk := 103) (vs := [.ref 0]) (rest := [.int (0 : Int32), .ref 51]) (by rfl) (by rfl) (Ex.up hT (by decide)) (xbb c z) ?_
    show Ex _ _ (6, [some (.ref 0), some (.ref 51), none], [.int v, .int (0 : Int32), .ref 51], xSt xG0 hc hr xs g L c z) _
    refine Ex.many (f' := (15, [none, none, none], [.int (0 : Int32)], xSt xG0 hc hr xs (xputL g 51 0 v.toInt64) L c z)) ?_ 4 (by rfl)
    exact Ex.done (by rfl)
  | inr x =>
    by_cases e1 : x = 1
    · replace H := (if_pos e1).symm.trans H
      replace H := Option.some.inj H
      subst H
      subst e1
      refine ⟨c - 1, z - 6, by omega, ?_⟩
      refine Ex.many (f' := (3, [some (.ref 0), some (.ref 51), none], [.ref 0, .int (0 : Int32), .ref 51], xSt xG0 hc hr xs g L c z)) ?_ 3 (by rfl)
      refine Ex.caught (mk := 103) (q := (12, 2)) (x := 1) (vs := [.ref 0]) (rest := [.int (0 : Int32), .ref 51]) (by rfl) (by rfl) (by rfl) (by rfl) (Ex.up hT (by decide)) (xbt c z) (by rfl) (by rfl) ?_
      show Ex _ _ (12, [some (.ref 0), some (.ref 51), none], [], xSt xG0 hc hr xs g L (c - 1) (z - 6)) _
      refine Ex.many (f' := (13, [some (.ref 0), some (.ref 51), none], [.int (1 : Int32)], xSt xG0 hc hr xs g L (c - 1) (z - 6))) ?_ 1 (by rfl)
      exact Ex.done (by rfl)
    · replace H := (if_neg e1).symm.trans H
      cases H
def f_l_value (a1 : Int32) (a2 : Int32) (hc : xI) (g : xJ) : Option (Int32 × xJ) :=
  (f_w_value a1 a2 hc).bind fun q => Sum.elim (fun v => some ((0 : Int32), (xputL g 51 0 v.toInt64))) (fun x => if x = 2 then some ((1 : Int32), g) else none) q
theorem T_l_value {hr : xI} {xs : Nat → Int32} {L c z : Nat} (hcz : 0 < c ∧ 6 ≤ z) (a1 : Int32) (a2 : Int32) (hc : xI) (g : xJ) (r : (Int32 × xJ)) (H : f_l_value a1 a2 hc g = some r) : ∃ c' z', (c' ≤ c ∧ c ≤ c' + 1 ∧ z' ≤ z ∧ z ≤ z' + 6) ∧ Ex 7 104 (0, [some (.ref 0), some (.int a1), some (.int a2), some (.ref 51), none], [], xSt xG0 hc hr xs g L c z) (.inl (some (.int r.1)), xSt xG0 hc hr xs r.2 L c' z') := by
  unfold f_l_value at H
  obtain ⟨q, hq, H⟩ := xbd H
  have hT := T_w_value (xs := xs) (L := L) (hr := hr) (g := g) hcz a1 a2 hc q hq
  cases q with
  | inl v =>
    replace H := Option.some.inj H
    subst H
    refine ⟨c, z, by omega, ?_⟩
    refine Ex.many (f' := (5, [some (.ref 0), some (.int a1), some (.int a2), some (.ref 51), none], [.int a2, .int a1, .ref 0, .int (0 : Int32), .ref 51], xSt xG0 hc hr xs g L c z)) ?_ 5 (by rfl)
    refine Ex.call (mk := 105) (vs := [.ref 0, .int a1, .int a2]) (rest := [.int (0 : Int32), .ref 51]) (by rfl) (by rfl) (Ex.up hT (by decide)) (xbb c z) ?_
    show Ex _ _ (8, [some (.ref 0), some (.int a1), some (.int a2), some (.ref 51), none], [.int v, .int (0 : Int32), .ref 51], xSt xG0 hc hr xs g L c z) _
    refine Ex.many (f' := (18, [none, none, none, none, none], [.int (0 : Int32)], xSt xG0 hc hr xs (xputL g 51 0 v.toInt64) L c z)) ?_ 4 (by rfl)
    exact Ex.done (by rfl)
  | inr x =>
    by_cases e2 : x = 2
    · replace H := (if_pos e2).symm.trans H
      replace H := Option.some.inj H
      subst H
      subst e2
      refine ⟨c - 1, z - 6, by omega, ?_⟩
      refine Ex.many (f' := (5, [some (.ref 0), some (.int a1), some (.int a2), some (.ref 51), none], [.int a2, .int a1, .ref 0, .int (0 : Int32), .ref 51], xSt xG0 hc hr xs g L c z)) ?_ 5 (by rfl)
      refine Ex.caught (mk := 105) (q := (15, 4)) (x := 2) (vs := [.ref 0, .int a1, .int a2]) (rest := [.int (0 : Int32), .ref 51]) (by rfl) (by rfl) (by rfl) (by rfl) (Ex.up hT (by decide)) (xbt c z) (by rfl) (by rfl) ?_
      show Ex _ _ (15, [some (.ref 0), some (.int a1), some (.int a2), some (.ref 51), none], [], xSt xG0 hc hr xs g L (c - 1) (z - 6)) _
      refine Ex.many (f' := (16, [some (.ref 0), some (.int a1), some (.int a2), some (.ref 51), none], [.int (1 : Int32)], xSt xG0 hc hr xs g L (c - 1) (z - 6))) ?_ 1 (by rfl)
      exact Ex.done (by rfl)
    · replace H := (if_neg e2).symm.trans H
      cases H
def f_l_law_726 (xs : Nat → Int32) (L : Nat) (k : Int32 → xI → xI → xJ → Option Int32) (v4 : Int32) (hc : xI) (hr : xI) (g : xJ) : Option Int32 :=
  k (v4 + (4 : Int32)) hc hr g
set_option maxRecDepth 100000 in
theorem T_l_law_726 {xs : Nat → Int32} {L : Nat} (k : Int32 → xI → xI → xJ → Option Int32) (n : Nat) (hk : ∀ (v4 : Int32) (hc : xI) (hr : xI) (g : xJ) (c z : Nat) (r : Int32), n ≤ c ∧ 6 * n ≤ z → k v4 hc hr g = some r → ExI 9 999 (23, [some (.ref 1000), some (.ref 0), some (.ref 27), some (.ref 51), some (.int v4), none, none], [], xSt xG0 hc hr xs g L c z) r) (v4 : Int32) (hc : xI) (hr : xI) (g : xJ) (c z : Nat) (r : Int32) (hb : n ≤ c ∧ 6 * n ≤ z) (H : f_l_law_726 xs L k v4 hc hr g = some r) : ExI 9 999 (726, [some (.ref 1000), some (.ref 0), some (.ref 27), some (.ref 51), some (.int v4), none, none], [], xSt xG0 hc hr xs g L c z) r := by
  unfold f_l_law_726 at H
  refine ExI.of (fun _ e => Ex.many (f' := (23, [some (.ref 1000), some (.ref 0), some (.ref 27), some (.ref 51), some (.int (v4 + (4 : Int32))), none, none], [], xSt xG0 hc hr xs g L c z)) e 2 (by rfl)) ?_
  exact hk (v4 + (4 : Int32)) hc hr g c z r (by omega) H
def f_l_law_209 (xs : Nat → Int32) (L : Nat) (k : Int32 → xI → xI → xJ → Option Int32) (v4 : Int32) (hc : xI) (hr : xI) (g : xJ) : Option Int32 :=
  f_l_law_726 xs L k v4 hc hr g
set_option maxRecDepth 100000 in
theorem T_l_law_209 {xs : Nat → Int32} {L : Nat} (k : Int32 → xI → xI → xJ → Option Int32) (n : Nat) (hk : ∀ (v4 : Int32) (hc : xI) (hr : xI) (g : xJ) (c z : Nat) (r : Int32), n ≤ c ∧ 6 * n ≤ z → k v4 hc hr g = some r → ExI 9 999 (23, [some (.ref 1000), some (.ref 0), some (.ref 27), some (.ref 51), some (.int v4), none, none], [], xSt xG0 hc hr xs g L c z) r) (v4 : Int32) (hc : xI) (hr : xI) (g : xJ) (c z : Nat) (r : Int32) (hb : n ≤ c ∧ 6 * n ≤ z) (H : f_l_law_209 xs L k v4 hc hr g = some r) : ExI 9 999 (209, [some (.ref 1000), some (.ref 0), some (.ref 27), some (.ref 51), some (.int v4), none, none], [], xSt xG0 hc hr xs g L c z) r := by
  unfold f_l_law_209 at H
  refine ExI.of (fun _ e => Ex.many (f' := (726, [some (.ref 1000), some (.ref 0), some (.ref 27), some (.ref 51), some (.int v4), none, none], [], xSt xG0 hc hr xs g L c z)) e 1 (by rfl)) ?_
  exact T_l_law_726 k n hk v4 hc hr g c z r (by omega) H
def f_l_law_265 (xs : Nat → Int32) (L : Nat) (k : Int32 → xI → xI → xJ → Option Int32) (v4 : Int32) (hc : xI) (hr : xI) (g : xJ) : Option Int32 :=
  f_l_law_726 xs L k v4 hc hr g
set_option maxRecDepth 100000 in
theorem T_l_law_265 {xs : Nat → Int32} {L : Nat} (k : Int32 → xI → xI → xJ → Option Int32) (n : Nat) (hk : ∀ (v4 : Int32) (hc : xI) (hr : xI) (g : xJ) (c z : Nat) (r : Int32), n ≤ c ∧ 6 * n ≤ z → k v4 hc hr g = some r → ExI 9 999 (23, [some (.ref 1000), some (.ref 0), some (.ref 27), some (.ref 51), some (.int v4), none, none], [], xSt xG0 hc hr xs g L c z) r) (v4 : Int32) (hc : xI) (hr : xI) (g : xJ) (c z : Nat) (r : Int32) (hb : n ≤ c ∧ 6 * n ≤ z) (H : f_l_law_265 xs L k v4 hc hr g = some r) : ExI 9 999 (265, [some (.ref 1000), some (.ref 0), some (.ref 27), some (.ref 51), some (.int v4), none, none], [], xSt xG0 hc hr xs g L c z) r := by
  unfold f_l_law_265 at H
  refine ExI.of (fun _ e => Ex.many (f' := (726, [some (.ref 1000), some (.ref 0), some (.ref 27), some (.ref 51), some (.int v4), none, none], [], xSt xG0 hc hr xs g L c z)) e 1 (by rfl)) ?_
  exact T_l_law_726 k n hk v4 hc hr g c z r (by omega) H
def f_l_law_345 (xs : Nat → Int32) (L : Nat) (k : Int32 → xI → xI → xJ → Option Int32) (v4 : Int32) (hc : xI) (hr : xI) (g : xJ) : Option Int32 :=
  f_l_law_726 xs L k v4 hc hr g
set_option maxRecDepth 100000 in
theorem T_l_law_345 {xs : Nat → Int32} {L : Nat} (k : Int32 → xI → xI → xJ → Option Int32) (n : Nat) (hk : ∀ (v4 : Int32) (hc : xI) (hr : xI) (g : xJ) (c z : Nat) (r : Int32), n ≤ c ∧ 6 * n ≤ z → k v4 hc hr g = some r → ExI 9 999 (23, [some (.ref 1000), some (.ref 0), some (.ref 27), some (.ref 51), some (.int v4), none, none], [], xSt xG0 hc hr xs g L c z) r) (v4 : Int32) (hc : xI) (hr : xI) (g : xJ) (c z : Nat) (r : Int32) (hb : n ≤ c ∧ 6 * n ≤ z) (H : f_l_law_345 xs L k v4 hc hr g = some r) : ExI 9 999 (345, [some (.ref 1000), some (.ref 0), some (.ref 27), some (.ref 51), some (.int v4), none, none], [], xSt xG0 hc hr xs g L c z) r := by
  unfold f_l_law_345 at H
  refine ExI.of (fun _ e => Ex.many (f' := (726, [some (.ref 1000), some (.ref 0), some (.ref 27), some (.ref 51), some (.int v4), none, none], [], xSt xG0 hc hr xs g L c z)) e 1 (by rfl)) ?_
  exact T_l_law_726 k n hk v4 hc hr g c z r (by omega) H
def f_l_law_389 (xs : Nat → Int32) (L : Nat) (k : Int32 → xI → xI → xJ → Option Int32) (v4 : Int32) (hc : xI) (hr : xI) (g : xJ) : Option Int32 :=
  f_l_law_726 xs L k v4 hc hr g
set_option maxRecDepth 100000 in
theorem T_l_law_389 {xs : Nat → Int32} {L : Nat} (k : Int32 → xI → xI → xJ → Option Int32) (n : Nat) (hk : ∀ (v4 : Int32) (hc : xI) (hr : xI) (g : xJ) (c z : Nat) (r : Int32), n ≤ c ∧ 6 * n ≤ z → k v4 hc hr g = some r → ExI 9 999 (23, [some (.ref 1000), some (.ref 0), some (.ref 27), some (.ref 51), some (.int v4), none, none], [], xSt xG0 hc hr xs g L c z) r) (v4 : Int32) (hc : xI) (hr : xI) (g : xJ) (c z : Nat) (r : Int32) (hb : n ≤ c ∧ 6 * n ≤ z) (H : f_l_law_389 xs L k v4 hc hr g = some r) : ExI 9 999 (389, [some (.ref 1000), some (.ref 0), some (.ref 27), some (.ref 51), some (.int v4), none, none], [], xSt xG0 hc hr xs g L c z) r := by
  unfold f_l_law_389 at H
  refine ExI.of (fun _ e => Ex.many (f' := (726, [some (.ref 1000), some (.ref 0), some (.ref 27), some (.ref 51), some (.int v4), none, none], [], xSt xG0 hc hr xs g L c z)) e 1 (by rfl)) ?_
  exact T_l_law_726 k n hk v4 hc hr g c z r (by omega) H
def f_l_law_568 (xs : Nat → Int32) (L : Nat) (k : Int32 → xI → xI → xJ → Option Int32) (v4 : Int32) (hc : xI) (hr : xI) (g : xJ) : Option Int32 :=
  f_l_law_726 xs L k v4 hc hr g
set_option maxRecDepth 100000 in
theorem T_l_law_568 {xs : Nat → Int32} {L : Nat} (k : Int32 → xI → xI → xJ → Option Int32) (n : Nat) (hk : ∀ (v4 : Int32) (hc : xI) (hr : xI) (g : xJ) (c z : Nat) (r : Int32), n ≤ c ∧ 6 * n ≤ z → k v4 hc hr g = some r → ExI 9 999 (23, [some (.ref 1000), some (.ref 0), some (.ref 27), some (.ref 51), some (.int v4), none, none], [], xSt xG0 hc hr xs g L c z) r) (v4 : Int32) (hc : xI) (hr : xI) (g : xJ) (c z : Nat) (r : Int32) (hb : n ≤ c ∧ 6 * n ≤ z) (H : f_l_law_568 xs L k v4 hc hr g = some r) : ExI 9 999 (568, [some (.ref 1000), some (.ref 0), some (.ref 27), some (.ref 51), some (.int v4), none, none], [], xSt xG0 hc hr xs g L c z) r := by
  unfold f_l_law_568 at H
  refine ExI.of (fun _ e => Ex.many (f' := (726, [some (.ref 1000), some (.ref 0), some (.ref 27), some (.ref 51), some (.int v4), none, none], [], xSt xG0 hc hr xs g L c z)) e 1 (by rfl)) ?_
  exact T_l_law_726 k n hk v4 hc hr g c z r (by omega) H
def f_l_law_661 (xs : Nat → Int32) (L : Nat) (k : Int32 → xI → xI → xJ → Option Int32) (v4 : Int32) (hc : xI) (hr : xI) (g : xJ) : Option Int32 :=
  f_l_law_726 xs L k v4 hc hr g
set_option maxRecDepth 100000 in
theorem T_l_law_661 {xs : Nat → Int32} {L : Nat} (k : Int32 → xI → xI → xJ → Option Int32) (n : Nat) (hk : ∀ (v4 : Int32) (hc : xI) (hr : xI) (g : xJ) (c z : Nat) (r : Int32), n ≤ c ∧ 6 * n ≤ z → k v4 hc hr g = some r → ExI 9 999 (23, [some (.ref 1000), some (.ref 0), some (.ref 27), some (.ref 51), some (.int v4), none, none], [], xSt xG0 hc hr xs g L c z) r) (v4 : Int32) (hc : xI) (hr : xI) (g : xJ) (c z : Nat) (r : Int32) (hb : n ≤ c ∧ 6 * n ≤ z) (H : f_l_law_661 xs L k v4 hc hr g = some r) : ExI 9 999 (661, [some (.ref 1000), some (.ref 0), some (.ref 27), some (.ref 51), some (.int v4), none, none], [], xSt xG0 hc hr xs g L c z) r := by
  unfold f_l_law_661 at H
  refine ExI.of (fun _ e => Ex.many (f' := (726, [some (.ref 1000), some (.ref 0), some (.ref 27), some (.ref 51), some (.int v4), none, none], [], xSt xG0 hc hr xs g L c z)) e 1 (by rfl)) ?_
  exact T_l_law_726 k n hk v4 hc hr g c z r (by omega) H
def f_l_law_23 (xs : Nat → Int32) (L : Nat) : Nat → Int32 → xI → xI → xJ → Option Int32
  | 0, _, _, _, _ => none
  | n + 1, v4, hc, hr, g => if ((Int32.ofNat L) - (4 : Int32)) < v4 then (some (1 : Int32)) else (xgd v4 L (if ((xs v4.toNatClampNeg) &&& (15 : Int32)) = (0 : Int32) then (xgd (v4 + (1 : Int32)) L (xgd (v4 + (2 : Int32)) L (xgd (v4 + (3 : Int32)) L ((f_l_feed (xs (v4 + (1 : Int32)).toNatClampNeg) (((xs (v4 + (2 : Int32)).toNatClampNeg).toInt64 <<< ((32 : Int32).toInt64 &&& 63)) ||| ((xs (v4 + (3 : Int32)).toNatClampNeg).toInt64 &&& (4294967295 : Int64))) hc g).bind fun q7 => xgd (v4 + (1 : Int32)) L (xgd (v4 + (2 : Int32)) L (xgd (v4 + (3 : Int32)) L ((f_m_feed (xs (v4 + (1 : Int32)).toNatClampNeg) (((xs (v4 + (2 : Int32)).toNatClampNeg).toInt64 <<< ((32 : Int32).toInt64 &&& 63)) ||| ((xs (v4 + (3 : Int32)).toNatClampNeg).toInt64 &&& (4294967295 : Int64))) hr).bind fun q11 => if (f_m_thrown q11.2) = q7.1 then (if q7.1 = 0 then (if (lg_cmp (q7.2.2 51 0) q11.1.toInt64) = 0 then (f_l_law_209 xs L (f_l_law_23 xs L n) v4 q7.2.1 q11.2 q7.2.2) else (some (0 : Int32))) else (f_l_law_209 xs L (f_l_law_23 xs L n) v4 q7.2.1 q11.2 q7.2.2)) else (some (0 : Int32))))))))) else (if ((xs v4.toNatClampNeg) &&& (15 : Int32)) = (1 : Int32) then (xgd (v4 + (1 : Int32)) L ((f_l_word (xs (v4 + (1 : Int32)).toNatClampNeg) hc g).bind fun q18 => xgd (v4 + (1 : Int32)) L ((f_m_word (xs (v4 + (1 : Int32)).toNatClampNeg) hr).bind fun q20 => if (f_m_thrown q20.2) = q18.1 then (if q18.1 = 0 then (if (lg_cmp (q18.2.2 51 0) q20.1.toInt64) = 0 then (f_l_law_265 xs L (f_l_law_23 xs L n) v4 q18.2.1 q20.2 q18.2.2) else (some (0 : Int32))) else (f_l_law_265 xs L (f_l_law_23 xs L n) v4 q18.2.1 q20.2 q18.2.2)) else (some (0 : Int32))))) else (if ((xs v4.toNatClampNeg) &&& (15 : Int32)) = (2 : Int32) then (xgd (v4 + (1 : Int32)) L (xgd (v4 + (2 : Int32)) L (xgd (v4 + (3 : Int32)) L ((f_l_declare (xs (v4 + (1 : Int32)).toNatClampNeg) (xs (v4 + (2 : Int32)).toNatClampNeg) (xs (v4 + (3 : Int32)).toNatClampNeg) hc g).bind fun q29 => xgd (v4 + (1 : Int32)) L (xgd (v4 + (2 : Int32)) L (xgd (v4 + (3 : Int32)) L ((f_m_declare (xs (v4 + (1 : Int32)).toNatClampNeg) (xs (v4 + (2 : Int32)).toNatClampNeg) (xs (v4 + (3 : Int32)).toNatClampNeg) hr).bind fun q33 => if (f_m_thrown q33.2) = q29.1 then (if q29.1 = 0 then (if (lg_cmp (q29.2.2 51 0) q33.1.toInt64) = 0 then (f_l_law_345 xs L (f_l_law_23 xs L n) v4 q29.2.1 q33.2 q29.2.2) else (some (0 : Int32))) else (f_l_law_345 xs L (f_l_law_23 xs L n) v4 q29.2.1 q33.2 q29.2.2)) else (some (0 : Int32))))))))) else (if ((xs v4.toNatClampNeg) &&& (15 : Int32)) = (3 : Int32) then ((f_l_validate hc g).bind fun q39 => (f_m_validate hr).bind fun q40 => if (f_m_thrown q40.2) = q39.1 then (if q39.1 = 0 then (if (lg_cmp (q39.2.2 51 0) q40.1.toInt64) = 0 then (f_l_law_389 xs L (f_l_law_23 xs L n) v4 q39.2.1 q40.2 q39.2.2) else (some (0 : Int32))) else (f_l_law_389 xs L (f_l_law_23 xs L n) v4 q39.2.1 q40.2 q39.2.2)) else (some (0 : Int32))) else (if ((xs v4.toNatClampNeg) &&& (15 : Int32)) = (4 : Int32) then (xgd (v4 + (1 : Int32)) L (xgd (v4 + (1 : Int32)) L ((f_m_fault (xs (v4 + (1 : Int32)).toNatClampNeg) hr).bind fun q49 => if (f_w_fault (xs (v4 + (1 : Int32)).toNatClampNeg) hc) = q49.1 then (f_l_law_726 xs L (f_l_law_23 xs L n) v4 hc q49.2 g) else (some (0 : Int32))))) else (if ((xs v4.toNatClampNeg) &&& (15 : Int32)) = (5 : Int32) then ((f_w_clear hc).bind fun q52 => (f_m_clear hr).bind fun q53 => f_l_law_726 xs L (f_l_law_23 xs L n) v4 q52 q53 g) else (if ((xs v4.toNatClampNeg) &&& (15 : Int32)) = (6 : Int32) then (xgd (v4 + (1 : Int32)) L ((f_w_argument (xs (v4 + (1 : Int32)).toNatClampNeg) hc).bind fun q56 => xgd (v4 + (1 : Int32)) L ((f_m_argument (xs (v4 + (1 : Int32)).toNatClampNeg) hr).bind fun q58 => if q56.1 = q58.1 then (f_l_law_726 xs L (f_l_law_23 xs L n) v4 q56.2 q58.2 g) else (some (0 : Int32))))) else (if ((xs v4.toNatClampNeg) &&& (15 : Int32)) = (7 : Int32) then (xgd (v4 + (1 : Int32)) L ((f_l_invoke (xs (v4 + (1 : Int32)).toNatClampNeg) hc).bind fun q62 => xgd (v4 + (1 : Int32)) L ((f_m_invoke (xs (v4 + (1 : Int32)).toNatClampNeg) hr).bind fun q64 => if (f_m_thrown q64) = q62.1 then (f_l_law_726 xs L (f_l_law_23 xs L n) v4 q62.2 q64 g) else (some (0 : Int32))))) else (if ((xs v4.toNatClampNeg) &&& (15 : Int32)) = (8 : Int32) then (xgd (v4 + (1 : Int32)) L ((f_w_run (xs (v4 + (1 : Int32)).toNatClampNeg) hc).bind fun q69 => xgd (v4 + (1 : Int32)) L ((f_m_run (xs (v4 + (1 : Int32)).toNatClampNeg) hr).bind fun q71 => if q69.1 = q71.1 then (f_l_law_726 xs L (f_l_law_23 xs L n) v4 q69.2 q71.2 g) else (some (0 : Int32))))) else (if ((xs v4.toNatClampNeg) &&& (15 : Int32)) = (9 : Int32) then ((f_w_stop hc).bind fun q74 => (f_m_stop hr).bind fun q75 => if q74.1 = q75.1 then (f_l_law_726 xs L (f_l_law_23 xs L n) v4 q74.2 q75.2 g) else (some (0 : Int32))) else (if ((xs v4.toNatClampNeg) &&& (15 : Int32)) = (10 : Int32) then ((f_l_result hc g).bind fun q78 => (f_m_result hr).bind fun q79 => if (f_m_thrown q79.2) = q78.1 then (if q78.1 = 0 then (if (lg_cmp (q78.2 51 0) q79.1.toInt64) = 0 then (f_l_law_568 xs L (f_l_law_23 xs L n) v4 hc q79.2 q78.2) else (some (0 : Int32))) else (f_l_law_568 xs L (f_l_law_23 xs L n) v4 hc q79.2 q78.2)) else (some (0 : Int32))) else (if ((xs v4.toNatClampNeg) &&& (15 : Int32)) = (11 : Int32) then (xgd (v4 + (1 : Int32)) L (xgd (v4 + (1 : Int32)) L ((f_m_look (xs (v4 + (1 : Int32)).toNatClampNeg) hr).bind fun q88 => if (f_w_look (xs (v4 + (1 : Int32)).toNatClampNeg) hc) = q88.1 then (f_l_law_726 xs L (f_l_law_23 xs L n) v4 hc q88.2 g) else (some (0 : Int32))))) else (if ((xs v4.toNatClampNeg) &&& (15 : Int32)) = (12 : Int32) then (xgd (v4 + (1 : Int32)) L (xgd (v4 + (2 : Int32)) L ((f_l_value (xs (v4 + (1 : Int32)).toNatClampNeg) (xs (v4 + (2 : Int32)).toNatClampNeg) hc g).bind fun q93 => xgd (v4 + (1 : Int32)) L (xgd (v4 + (2 : Int32)) L ((f_m_value (xs (v4 + (1 : Int32)).toNatClampNeg) (xs (v4 + (2 : Int32)).toNatClampNeg) hr).bind fun q96 => if (f_m_thrown q96.2) = q93.1 then (if q93.1 = 0 then (if (lg_cmp (q93.2 51 0) q96.1.toInt64) = 0 then (f_l_law_661 xs L (f_l_law_23 xs L n) v4 hc q96.2 q93.2) else (some (0 : Int32))) else (f_l_law_661 xs L (f_l_law_23 xs L n) v4 hc q96.2 q93.2)) else (some (0 : Int32))))))) else (if ((xs v4.toNatClampNeg) &&& (15 : Int32)) = (13 : Int32) then (xgd (v4 + (1 : Int32)) L ((f_w_peek (xs (v4 + (1 : Int32)).toNatClampNeg) hc).bind fun q103 => xgd (v4 + (1 : Int32)) L ((f_m_peek (xs (v4 + (1 : Int32)).toNatClampNeg) hr).bind fun q105 => if q103 = q105.1 then (f_l_law_726 xs L (f_l_law_23 xs L n) v4 hc q105.2 g) else (some (0 : Int32))))) else (if ((xs v4.toNatClampNeg) &&& (15 : Int32)) = (14 : Int32) then (xgd (v4 + (1 : Int32)) L (xgd (v4 + (2 : Int32)) L ((f_w_poke (xs (v4 + (1 : Int32)).toNatClampNeg) (xs (v4 + (2 : Int32)).toNatClampNeg) hc).bind fun q110 => xgd (v4 + (1 : Int32)) L (xgd (v4 + (2 : Int32)) L ((f_m_poke (xs (v4 + (1 : Int32)).toNatClampNeg) (xs (v4 + (2 : Int32)).toNatClampNeg) hr).bind fun q113 => if q110.1 = q113.1 then (f_l_law_726 xs L (f_l_law_23 xs L n) v4 q110.2 q113.2 g) else (some (0 : Int32))))))) else (f_l_law_726 xs L (f_l_law_23 xs L n) v4 hc hr g)))))))))))))))))
set_option maxRecDepth 100000 in
theorem T_l_law_23 {xs : Nat → Int32} {L : Nat} (n : Nat) : ∀ (v4 : Int32) (hc : xI) (hr : xI) (g : xJ) (c z : Nat) (r : Int32), n ≤ c ∧ 6 * n ≤ z → f_l_law_23 xs L n v4 hc hr g = some r → ExI 9 999 (23, [some (.ref 1000), some (.ref 0), some (.ref 27), some (.ref 51), some (.int v4), none, none], [], xSt xG0 hc hr xs g L c z) r := by
  induction n with
  | zero =>
    intro v4 hc hr g c z r hb H
    unfold f_l_law_23 at H
    cases H
  | succ n ih =>
    intro v4 hc hr g c z r hb H
    unfold f_l_law_23 at H
    refine ExI.of (fun _ e => Ex.many (f' := (29, [some (.ref 1000), some (.ref 0), some (.ref 27), some (.ref 51), some (.int v4), none, none], [.int ((Int32.ofNat L) - (4 : Int32)), .int v4], xSt xG0 hc hr xs g L c z)) e 5 (by rfl)) ?_
    by_cases q1 : ((Int32.ofNat L) - (4 : Int32)) < v4
    · replace H := (if_pos q1).symm.trans H
      refine ExI.of (fun _ e => Ex.itep (a := 732) (b := 32) (ls := [some (.ref 1000), some (.ref 0), some (.ref 27), some (.ref 51), some (.int v4), none, none]) (st := []) (S := xSt xG0 hc hr xs g L c z) (by rfl) q1 e) ?_
      refine ExI.of (fun _ e => Ex.many (f' := (733, [none, none, none, none, none, none, none], [.int (1 : Int32)], xSt xG0 hc hr xs g L c z)) e 1 (by rfl)) ?_
      replace H := Option.some.inj H
      subst H
      exact ⟨_, Ex.done (by rfl)⟩
    · replace H := (if_neg q1).symm.trans H
      refine ExI.of (fun _ e => Ex.iten (a := 732) (b := 32) (ls := [some (.ref 1000), some (.ref 0), some (.ref 27), some (.ref 51), some (.int v4), none, none]) (st := []) (S := xSt xG0 hc hr xs g L c z) (by rfl) q1 e) ?_
      refine ExI.of (fun _ e => Ex.many (f' := (35, [some (.ref 1000), some (.ref 0), some (.ref 27), some (.ref 51), some (.int v4), none, none], [.int v4, .ref 1000], xSt xG0 hc hr xs g L c z)) e 2 (by rfl)) ?_
      obtain ⟨g2, H⟩ := xgd_some H
      refine ExI.of (fun _ e => Ex.guard (f' := (36, [some (.ref 1000), some (.ref 0), some (.ref 27), some (.ref 51), some (.int v4), none, none], [.int (xs v4.toNatClampNeg)], xSt xG0 hc hr xs g L c z)) (by rfl) g2 e) ?_
      refine ExI.of (fun _ e => Ex.many (f' := (39, [some (.ref 1000), some (.ref 0), some (.ref 27), some (.ref 51), some (.int v4), none, none], [.int ((xs v4.toNatClampNeg) &&& (15 : Int32))], xSt xG0 hc hr xs g L c z)) e 2 (by rfl)) ?_
      by_cases q3 : ((xs v4.toNatClampNeg) &&& (15 : Int32)) = (0 : Int32)
      · replace H := (if_pos q3).symm.trans H
        refine ExI.of (fun _ e => Ex.sw (t := 112) (ls := [some (.ref 1000), some (.ref 0), some (.ref 27), some (.ref 51), some (.int v4), none, none]) (st := []) (S := xSt xG0 hc hr xs g L c z) e (by rfl) (by rw [q3]; rfl)) ?_
        refine ExI.of (fun _ e => Ex.many (f' := (118, [some (.ref 1000), some (.ref 0), some (.ref 27), some (.ref 51), some (.int v4), none, none], [.int (v4 + (1 : Int32)), .ref 1000, .ref 0], xSt xG0 hc hr xs g L c z)) e 5 (by rfl)) ?_
        obtain ⟨g4, H⟩ := xgd_some H
        refine ExI.of (fun _ e => Ex.guard (f' := (119, [some (.ref 1000), some (.ref 0), some (.ref 27), some (.ref 51), some (.int v4), none, none], [.int (xs (v4 + (1 : Int32)).toNatClampNeg), .ref 0], xSt xG0 hc hr xs g L c z)) (by rfl) g4 e) ?_
        refine ExI.of (fun _ e => Ex.many (f' := (124, [some (.ref 1000), some (.ref 0), some (.ref 27), some (.ref 51), some (.int v4), none, none], [.int (v4 + (2 : Int32)), .ref 1000, .int (xs (v4 + (1 : Int32)).toNatClampNeg), .ref 0], xSt xG0 hc hr xs g L c z)) e 4 (by rfl)) ?_
        obtain ⟨g5, H⟩ := xgd_some H
        refine ExI.of (fun _ e => Ex.guard (f' := (125, [some (.ref 1000), some (.ref 0), some (.ref 27), some (.ref 51), some (.int v4), none, none], [.int (xs (v4 + (2 : Int32)).toNatClampNeg), .int (xs (v4 + (1 : Int32)).toNatClampNeg), .ref 0], xSt xG0 hc hr xs g L c z)) (by rfl) g5 e) ?_
        refine ExI.of (fun _ e => Ex.many (f' := (134, [some (.ref 1000), some (.ref 0), some (.ref 27), some (.ref 51), some (.int v4), none, none], [.int (v4 + (3 : Int32)), .ref 1000, .long ((xs (v4 + (2 : Int32)).toNatClampNeg).toInt64 <<< ((32 : Int32).toInt64 &&& 63)), .int (xs (v4 + (1 : Int32)).toNatClampNeg), .ref 0], xSt xG0 hc hr xs g L c z)) e 7 (by rfl)) ?_
        obtain ⟨g6, H⟩ := xgd_some H
        refine ExI.of (fun _ e => Ex.guard (f' := (135, [some (.ref 1000), some (.ref 0), some (.ref 27), some (.ref 51), some (.int v4), none, none], [.int (xs (v4 + (3 : Int32)).toNatClampNeg), .long ((xs (v4 + (2 : Int32)).toNatClampNeg).toInt64 <<< ((32 : Int32).toInt64 &&& 63)), .int (xs (v4 + (1 : Int32)).toNatClampNeg), .ref 0], xSt xG0 hc hr xs g L c z)) (by rfl) g6 e) ?_
        refine ExI.of (fun _ e => Ex.many (f' := (142, [some (.ref 1000), some (.ref 0), some (.ref 27), some (.ref 51), some (.int v4), none, none], [.ref 51, .long (((xs (v4 + (2 : Int32)).toNatClampNeg).toInt64 <<< ((32 : Int32).toInt64 &&& 63)) ||| ((xs (v4 + (3 : Int32)).toNatClampNeg).toInt64 &&& (4294967295 : Int64))), .int (xs (v4 + (1 : Int32)).toNatClampNeg), .ref 0], xSt xG0 hc hr xs g L c z)) e 5 (by rfl)) ?_
        obtain ⟨q7, hq7, H⟩ := xbd H
        obtain ⟨c7, z7, hb7, hT7⟩ := T_l_feed (c := c) (z := z) (by omega) (xs (v4 + (1 : Int32)).toNatClampNeg) (((xs (v4 + (2 : Int32)).toNatClampNeg).toInt64 <<< ((32 : Int32).toInt64 &&& 63)) ||| ((xs (v4 + (3 : Int32)).toNatClampNeg).toInt64 &&& (4294967295 : Int64))) hc g q7 hq7
        refine ExI.of (fun _ e => Ex.call (mk := 62) (vs := [.ref 0, .int (xs (v4 + (1 : Int32)).toNatClampNeg), .long (((xs (v4 + (2 : Int32)).toNatClampNeg).toInt64 <<< ((32 : Int32).toInt64 &&& 63)) ||| ((xs (v4 + (3 : Int32)).toNatClampNeg).toInt64 &&& (4294967295 : Int64))), .ref 51]) (rest := []) (by rfl) (by rfl) (Ex.up (hT7) (by decide)) (xbl hb7) e) ?_
        show ExI _ _ (145, [some (.ref 1000), some (.ref 0), some (.ref 27), some (.ref 51), some (.int v4), none, none], [.int q7.1], xSt xG0 q7.2.1 hr xs q7.2.2 L c7 z7) _
        refine ExI.of (fun _ e => Ex.many (f' := (153, [some (.ref 1000), some (.ref 0), some (.ref 27), some (.ref 51), some (.int v4), some (.int q7.1), none], [.int (v4 + (1 : Int32)), .ref 1000, .ref 27], xSt xG0 q7.2.1 hr xs q7.2.2 L c7 z7)) e 6 (by rfl)) ?_
        obtain ⟨g8, H⟩ := xgd_some H
        refine ExI.of (fun _ e => Ex.guard (f' := (154, [some (.ref 1000), some (.ref 0), some (.ref 27), some (.ref 51), some (.int v4), some (.int q7.1), none], [.int (xs (v4 + (1 : Int32)).toNatClampNeg), .ref 27], xSt xG0 q7.2.1 hr xs q7.2.2 L c7 z7)) (by rfl) g8 e) ?_
        refine ExI.of (fun _ e => Ex.many (f' := (159, [some (.ref 1000), some (.ref 0), some (.ref 27), some (.ref 51), some (.int v4), some (.int q7.1), none], [.int (v4 + (2 : Int32)), .ref 1000, .int (xs (v4 + (1 : Int32)).toNatClampNeg), .ref 27], xSt xG0 q7.2.1 hr xs q7.2.2 L c7 z7)) e 4 (by rfl)) ?_
        obtain ⟨g9, H⟩ := xgd_some H
        refine ExI.of (fun _ e => Ex.guard (f' := (160, [some (.ref 1000), some (.ref 0), some (.ref 27), some (.ref 51), some (.int v4), some (.int q7.1), none], [.int (xs (v4 + (2 : Int32)).toNatClampNeg), .int (xs (v4 + (1 : Int32)).toNatClampNeg), .ref 27], xSt xG0 q7.2.1 hr xs q7.2.2 L c7 z7)) (by rfl) g9 e) ?_
        refine ExI.of (fun _ e => Ex.many (f' := (169, [some (.ref 1000), some (.ref 0), some (.ref 27), some (.ref 51), some (.int v4), some (.int q7.1), none], [.int (v4 + (3 : Int32)), .ref 1000, .long ((xs (v4 + (2 : Int32)).toNatClampNeg).toInt64 <<< ((32 : Int32).toInt64 &&& 63)), .int (xs (v4 + (1 : Int32)).toNatClampNeg), .ref 27], xSt xG0 q7.2.1 hr xs q7.2.2 L c7 z7)) e 7 (by rfl)) ?_
        obtain ⟨g10, H⟩ := xgd_some H
        refine ExI.of (fun _ e => Ex.guard (f' := (170, [some (.ref 1000), some (.ref 0), some (.ref 27), some (.ref 51), some (.int v4), some (.int q7.1), none], [.int (xs (v4 + (3 : Int32)).toNatClampNeg), .long ((xs (v4 + (2 : Int32)).toNatClampNeg).toInt64 <<< ((32 : Int32).toInt64 &&& 63)), .int (xs (v4 + (1 : Int32)).toNatClampNeg), .ref 27], xSt xG0 q7.2.1 hr xs q7.2.2 L c7 z7)) (by rfl) g10 e) ?_
        refine ExI.of (fun _ e => Ex.many (f' := (176, [some (.ref 1000), some (.ref 0), some (.ref 27), some (.ref 51), some (.int v4), some (.int q7.1), none], [.long (((xs (v4 + (2 : Int32)).toNatClampNeg).toInt64 <<< ((32 : Int32).toInt64 &&& 63)) ||| ((xs (v4 + (3 : Int32)).toNatClampNeg).toInt64 &&& (4294967295 : Int64))), .int (xs (v4 + (1 : Int32)).toNatClampNeg), .ref 27], xSt xG0 q7.2.1 hr xs q7.2.2 L c7 z7)) e 4 (by rfl)) ?_
        obtain ⟨q11, hq11, H⟩ := xbd H
        refine ExI.of (fun _ e => Ex.call (mk := 111) (vs := [.ref 27, .int (xs (v4 + (1 : Int32)).toNatClampNeg), .long (((xs (v4 + (2 : Int32)).toNatClampNeg).toInt64 <<< ((32 : Int32).toInt64 &&& 63)) ||| ((xs (v4 + (3 : Int32)).toNatClampNeg).toInt64 &&& (4294967295 : Int64)))]) (rest := []) (by rfl) (by rfl) (Ex.up (T_m_feed (xs (v4 + (1 : Int32)).toNatClampNeg) (((xs (v4 + (2 : Int32)).toNatClampNeg).toInt64 <<< ((32 : Int32).toInt64 &&& 63)) ||| ((xs (v4 + (3 : Int32)).toNatClampNeg).toInt64 &&& (4294967295 : Int64))) hr q11 hq11) (by decide)) (xbb c7 z7) e) ?_
        show ExI _ _ (179, [some (.ref 1000), some (.ref 0), some (.ref 27), some (.ref 51), some (.int v4), some (.int q7.1), none], [.int q11.1], xSt xG0 q7.2.1 q11.2 xs q7.2.2 L c7 z7) _
        refine ExI.of (fun _ e => Ex.many (f' := (182, [some (.ref 1000), some (.ref 0), some (.ref 27), some (.ref 51), some (.int v4), some (.int q7.1), some (.int q11.1)], [.ref 27], xSt xG0 q7.2.1 q11.2 xs q7.2.2 L c7 z7)) e 2 (by rfl)) ?_
        refine ExI.of (fun _ e => Ex.call (mk := 110) (vs := [.ref 27]) (rest := []) (by rfl) (by rfl) (Ex.up (T_m_thrown q11.2 _ rfl) (by decide)) (xbb c7 z7) e) ?_
        show ExI _ _ (185, [some (.ref 1000), some (.ref 0), some (.ref 27), some (.ref 51), some (.int v4), some (.int q7.1), some (.int q11.1)], [.int (f_m_thrown q11.2)], xSt xG0 q7.2.1 q11.2 xs q7.2.2 L c7 z7) _
        refine ExI.of (fun _ e => Ex.many (f' := (187, [some (.ref 1000), some (.ref 0), some (.ref 27), some (.ref 51), some (.int v4), some (.int q7.1), some (.int q11.1)], [.int q7.1, .int (f_m_thrown q11.2)], xSt xG0 q7.2.1 q11.2 xs q7.2.2 L c7 z7)) e 1 (by rfl)) ?_
        by_cases q13 : (f_m_thrown q11.2) = q7.1
        · replace H := (if_pos q13).symm.trans H
          refine ExI.of (fun _ e => Ex.itep (a := 192) (b := 190) (ls := [some (.ref 1000), some (.ref 0), some (.ref 27), some (.ref 51), some (.int v4), some (.int q7.1), some (.int q11.1)]) (st := []) (S := xSt xG0 q7.2.1 q11.2 xs q7.2.2 L c7 z7) (by rfl) q13 e) ?_
          refine ExI.of (fun _ e => Ex.many (f' := (194, [some (.ref 1000), some (.ref 0), some (.ref 27), some (.ref 51), some (.int v4), some (.int q7.1), some (.int q11.1)], [.int q7.1], xSt xG0 q7.2.1 q11.2 xs q7.2.2 L c7 z7)) e 1 (by rfl)) ?_
          by_cases q14 : q7.1 = 0
          · replace H := (if_pos q14).symm.trans H
            refine ExI.of (fun _ e => Ex.itep (a := 197) (b := 209) (ls := [some (.ref 1000), some (.ref 0), some (.ref 27), some (.ref 51), some (.int v4), some (.int q7.1), some (.int q11.1)]) (st := []) (S := xSt xG0 q7.2.1 q11.2 xs q7.2.2 L c7 z7) (by rfl) q14 e) ?_
            refine ExI.of (fun _ e => Ex.many (f' := (204, [some (.ref 1000), some (.ref 0), some (.ref 27), some (.ref 51), some (.int v4), none, some (.int q11.1)], [.int (lg_cmp (q7.2.2 51 0) q11.1.toInt64)], xSt xG0 q7.2.1 q11.2 xs q7.2.2 L c7 z7)) e 6 (by rfl)) ?_
            by_cases q15 : (lg_cmp (q7.2.2 51 0) q11.1.toInt64) = 0
            · replace H := (if_pos q15).symm.trans H
              refine ExI.of (fun _ e => Ex.itep (a := 209) (b := 207) (ls := [some (.ref 1000), some (.ref 0), some (.ref 27), some (.ref 51), some (.int v4), none, some (.int q11.1)]) (st := []) (S := xSt xG0 q7.2.1 q11.2 xs q7.2.2 L c7 z7) (by rfl) q15 e) ?_
              refine ExI.of (fun _ e => Ex.kill (ls' := [some (.ref 1000), some (.ref 0), some (.ref 27), some (.ref 51), some (.int v4), none, none]) (by rfl) e) ?_
              exact T_l_law_209 (f_l_law_23 xs L n) n ih v4 q7.2.1 q11.2 q7.2.2 c7 z7 r (by omega) H
            · replace H := (if_neg q15).symm.trans H
              refine ExI.of (fun _ e => Ex.iten (a := 209) (b := 207) (ls := [some (.ref 1000), some (.ref 0), some (.ref 27), some (.ref 51), some (.int v4), none, some (.int q11.1)]) (st := []) (S := xSt xG0 q7.2.1 q11.2 xs q7.2.2 L c7 z7) (by rfl) q15 e) ?_
              refine ExI.of (fun _ e => Ex.many (f' := (208, [none, none, none, none, none, none, none], [.int (0 : Int32)], xSt xG0 q7.2.1 q11.2 xs q7.2.2 L c7 z7)) e 1 (by rfl)) ?_
              replace H := Option.some.inj H
              subst H
              exact ⟨_, Ex.done (by rfl)⟩
          · replace H := (if_neg q14).symm.trans H
            refine ExI.of (fun _ e => Ex.iten (a := 197) (b := 209) (ls := [some (.ref 1000), some (.ref 0), some (.ref 27), some (.ref 51), some (.int v4), some (.int q7.1), some (.int q11.1)]) (st := []) (S := xSt xG0 q7.2.1 q11.2 xs q7.2.2 L c7 z7) (by rfl) q14 e) ?_
            refine ExI.of (fun _ e => Ex.kill (ls' := [some (.ref 1000), some (.ref 0), some (.ref 27), some (.ref 51), some (.int v4), none, none]) (by rfl) e) ?_
            exact T_l_law_209 (f_l_law_23 xs L n) n ih v4 q7.2.1 q11.2 q7.2.2 c7 z7 r (by omega) H
        · replace H := (if_neg q13).symm.trans H
          refine ExI.of (fun _ e => Ex.iten (a := 192) (b := 190) (ls := [some (.ref 1000), some (.ref 0), some (.ref 27), some (.ref 51), some (.int v4), some (.int q7.1), some (.int q11.1)]) (st := []) (S := xSt xG0 q7.2.1 q11.2 xs q7.2.2 L c7 z7) (by rfl) q13 e) ?_
          refine ExI.of (fun _ e => Ex.many (f' := (191, [none, none, none, none, none, none, none], [.int (0 : Int32)], xSt xG0 q7.2.1 q11.2 xs q7.2.2 L c7 z7)) e 1 (by rfl)) ?_
          replace H := Option.some.inj H
          subst H
          exact ⟨_, Ex.done (by rfl)⟩
      · replace H := (if_neg q3).symm.trans H
        by_cases q16 : ((xs v4.toNatClampNeg) &&& (15 : Int32)) = (1 : Int32)
        · replace H := (if_pos q16).symm.trans H
          refine ExI.of (fun _ e => Ex.sw (t := 212) (ls := [some (.ref 1000), some (.ref 0), some (.ref 27), some (.ref 51), some (.int v4), none, none]) (st := []) (S := xSt xG0 hc hr xs g L c z) e (by rfl) (by rw [q16]; rfl)) ?_
          refine ExI.of (fun _ e => Ex.many (f' := (218, [some (.ref 1000), some (.ref 0), some (.ref 27), some (.ref 51), some (.int v4), none, none], [.int (v4 + (1 : Int32)), .ref 1000, .ref 0], xSt xG0 hc hr xs g L c z)) e 5 (by rfl)) ?_
          obtain ⟨g17, H⟩ := xgd_some H
          refine ExI.of (fun _ e => Ex.guard (f' := (219, [some (.ref 1000), some (.ref 0), some (.ref 27), some (.ref 51), some (.int v4), none, none], [.int (xs (v4 + (1 : Int32)).toNatClampNeg), .ref 0], xSt xG0 hc hr xs g L c z)) (by rfl) g17 e) ?_
          refine ExI.of (fun _ e => Ex.many (f' := (220, [some (.ref 1000), some (.ref 0), some (.ref 27), some (.ref 51), some (.int v4), none, none], [.ref 51, .int (xs (v4 + (1 : Int32)).toNatClampNeg), .ref 0], xSt xG0 hc hr xs g L c z)) e 1 (by rfl)) ?_
          obtain ⟨q18, hq18, H⟩ := xbd H
          obtain ⟨c18, z18, hb18, hT18⟩ := T_l_word (c := c) (z := z) (by omega) (xs (v4 + (1 : Int32)).toNatClampNeg) hc g q18 hq18
          refine ExI.of (fun _ e => Ex.call (mk := 66) (vs := [.ref 0, .int (xs (v4 + (1 : Int32)).toNatClampNeg), .ref 51]) (rest := []) (by rfl) (by rfl) (Ex.up (hT18) (by decide)) (xbl hb18) e) ?_
          show ExI _ _ (223, [some (.ref 1000), some (.ref 0), some (.ref 27), some (.ref 51), some (.int v4), none, none], [.int q18.1], xSt xG0 q18.2.1 hr xs q18.2.2 L c18 z18) _
          refine ExI.of (fun _ e => Ex.many (f' := (231, [some (.ref 1000), some (.ref 0), some (.ref 27), some (.ref 51), some (.int v4), some (.int q18.1), none], [.int (v4 + (1 : Int32)), .ref 1000, .ref 27], xSt xG0 q18.2.1 hr xs q18.2.2 L c18 z18)) e 6 (by rfl)) ?_
          obtain ⟨g19, H⟩ := xgd_some H
          refine ExI.of (fun _ e => Ex.guard (f' := (232, [some (.ref 1000), some (.ref 0), some (.ref 27), some (.ref 51), some (.int v4), some (.int q18.1), none], [.int (xs (v4 + (1 : Int32)).toNatClampNeg), .ref 27], xSt xG0 q18.2.1 hr xs q18.2.2 L c18 z18)) (by rfl) g19 e) ?_
          obtain ⟨q20, hq20, H⟩ := xbd H
          refine ExI.of (fun _ e => Ex.call (mk := 112) (vs := [.ref 27, .int (xs (v4 + (1 : Int32)).toNatClampNeg)]) (rest := []) (by rfl) (by rfl) (Ex.up (T_m_word (xs (v4 + (1 : Int32)).toNatClampNeg) hr q20 hq20) (by decide)) (xbb c18 z18) e) ?_
          show ExI _ _ (235, [some (.ref 1000), some (.ref 0), some (.ref 27), some (.ref 51), some (.int v4), some (.int q18.1), none], [.int q20.1], xSt xG0 q18.2.1 q20.2 xs q18.2.2 L c18 z18) _
          refine ExI.of (fun _ e => Ex.many (f' := (238, [some (.ref 1000), some (.ref 0), some (.ref 27), some (.ref 51), some (.int v4), some (.int q18.1), some (.int q20.1)], [.ref 27], xSt xG0 q18.2.1 q20.2 xs q18.2.2 L c18 z18)) e 2 (by rfl)) ?_
          refine ExI.of (fun _ e => Ex.call (mk := 110) (vs := [.ref 27]) (rest := []) (by rfl) (by rfl) (Ex.up (T_m_thrown q20.2 _ rfl) (by decide)) (xbb c18 z18) e) ?_
          show ExI _ _ (241, [some (.ref 1000), some (.ref 0), some (.ref 27), some (.ref 51), some (.int v4), some (.int q18.1), some (.int q20.1)], [.int (f_m_thrown q20.2)], xSt xG0 q18.2.1 q20.2 xs q18.2.2 L c18 z18) _
          refine ExI.of (fun _ e => Ex.many (f' := (243, [some (.ref 1000), some (.ref 0), some (.ref 27), some (.ref 51), some (.int v4), some (.int q18.1), some (.int q20.1)], [.int q18.1, .int (f_m_thrown q20.2)], xSt xG0 q18.2.1 q20.2 xs q18.2.2 L c18 z18)) e 1 (by rfl)) ?_
          by_cases q22 : (f_m_thrown q20.2) = q18.1
          · replace H := (if_pos q22).symm.trans H
            refine ExI.of (fun _ e => Ex.itep (a := 248) (b := 246) (ls := [some (.ref 1000), some (.ref 0), some (.ref 27), some (.ref 51), some (.int v4), some (.int q18.1), some (.int q20.1)]) (st := []) (S := xSt xG0 q18.2.1 q20.2 xs q18.2.2 L c18 z18) (by rfl) q22 e) ?_
            refine ExI.of (fun _ e => Ex.many (f' := (250, [some (.ref 1000), some (.ref 0), some (.ref 27), some (.ref 51), some (.int v4), some (.int q18.1), some (.int q20.1)], [.int q18.1], xSt xG0 q18.2.1 q20.2 xs q18.2.2 L c18 z18)) e 1 (by rfl)) ?_
            by_cases q23 : q18.1 = 0
            · replace H := (if_pos q23).symm.trans H
              refine ExI.of (fun _ e => Ex.itep (a := 253) (b := 265) (ls := [some (.ref 1000), some (.ref 0), some (.ref 27), some (.ref 51), some (.int v4), some (.int q18.1), some (.int q20.1)]) (st := []) (S := xSt xG0 q18.2.1 q20.2 xs q18.2.2 L c18 z18) (by rfl) q23 e) ?_
              refine ExI.of (fun _ e => Ex.many (f' := (260, [some (.ref 1000), some (.ref 0), some (.ref 27), some (.ref 51), some (.int v4), none, some (.int q20.1)], [.int (lg_cmp (q18.2.2 51 0) q20.1.toInt64)], xSt xG0 q18.2.1 q20.2 xs q18.2.2 L c18 z18)) e 6 (by rfl)) ?_
              by_cases q24 : (lg_cmp (q18.2.2 51 0) q20.1.toInt64) = 0
              · replace H := (if_pos q24).symm.trans H
                refine ExI.of (fun _ e => Ex.itep (a := 265) (b := 263) (ls := [some (.ref 1000), some (.ref 0), some (.ref 27), some (.ref 51), some (.int v4), none, some (.int q20.1)]) (st := []) (S := xSt xG0 q18.2.1 q20.2 xs q18.2.2 L c18 z18) (by rfl) q24 e) ?_
                refine ExI.of (fun _ e => Ex.kill (ls' := [some (.ref 1000), some (.ref 0), some (.ref 27), some (.ref 51), some (.int v4), none, none]) (by rfl) e) ?_
                exact T_l_law_265 (f_l_law_23 xs L n) n ih v4 q18.2.1 q20.2 q18.2.2 c18 z18 r (by omega) H
              · replace H := (if_neg q24).symm.trans H
                refine ExI.of (fun _ e => Ex.iten (a := 265) (b := 263) (ls := [some (.ref 1000), some (.ref 0), some (.ref 27), some (.ref 51), some (.int v4), none, some (.int q20.1)]) (st := []) (S := xSt xG0 q18.2.1 q20.2 xs q18.2.2 L c18 z18) (by rfl) q24 e) ?_
                refine ExI.of (fun _ e => Ex.many (f' := (264, [none, none, none, none, none, none, none], [.int (0 : Int32)], xSt xG0 q18.2.1 q20.2 xs q18.2.2 L c18 z18)) e 1 (by rfl)) ?_
                replace H := Option.some.inj H
                subst H
                exact ⟨_, Ex.done (by rfl)⟩
            · replace H := (if_neg q23).symm.trans H
              refine ExI.of (fun _ e => Ex.iten (a := 253) (b := 265) (ls := [some (.ref 1000), some (.ref 0), some (.ref 27), some (.ref 51), some (.int v4), some (.int q18.1), some (.int q20.1)]) (st := []) (S := xSt xG0 q18.2.1 q20.2 xs q18.2.2 L c18 z18) (by rfl) q23 e) ?_
              refine ExI.of (fun _ e => Ex.kill (ls' := [some (.ref 1000), some (.ref 0), some (.ref 27), some (.ref 51), some (.int v4), none, none]) (by rfl) e) ?_
              exact T_l_law_265 (f_l_law_23 xs L n) n ih v4 q18.2.1 q20.2 q18.2.2 c18 z18 r (by omega) H
          · replace H := (if_neg q22).symm.trans H
            refine ExI.of (fun _ e => Ex.iten (a := 248) (b := 246) (ls := [some (.ref 1000), some (.ref 0), some (.ref 27), some (.ref 51), some (.int v4), some (.int q18.1), some (.int q20.1)]) (st := []) (S := xSt xG0 q18.2.1 q20.2 xs q18.2.2 L c18 z18) (by rfl) q22 e) ?_
            refine ExI.of (fun _ e => Ex.many (f' := (247, [none, none, none, none, none, none, none], [.int (0 : Int32)], xSt xG0 q18.2.1 q20.2 xs q18.2.2 L c18 z18)) e 1 (by rfl)) ?_
            replace H := Option.some.inj H
            subst H
            exact ⟨_, Ex.done (by rfl)⟩
        · replace H := (if_neg q16).symm.trans H
          by_cases q25 : ((xs v4.toNatClampNeg) &&& (15 : Int32)) = (2 : Int32)
          · replace H := (if_pos q25).symm.trans H
            refine ExI.of (fun _ e => Ex.sw (t := 268) (ls := [some (.ref 1000), some (.ref 0), some (.ref 27), some (.ref 51), some (.int v4), none, none]) (st := []) (S := xSt xG0 hc hr xs g L c z) e (by rfl) (by rw [q25]; rfl)) ?_
            refine ExI.of (fun _ e => Ex.many (f' := (274, [some (.ref 1000), some (.ref 0), some (.ref 27), some (.ref 51), some (.int v4), none, none], [.int (v4 + (1 : Int32)), .ref 1000, .ref 0], xSt xG0 hc hr xs g L c z)) e 5 (by rfl)) ?_
            obtain ⟨g26, H⟩ := xgd_some H
            refine ExI.of (fun _ e => Ex.guard (f' := (275, [some (.ref 1000), some (.ref 0), some (.ref 27), some (.ref 51), some (.int v4), none, none], [.int (xs (v4 + (1 : Int32)).toNatClampNeg), .ref 0], xSt xG0 hc hr xs g L c z)) (by rfl) g26 e) ?_
            refine ExI.of (fun _ e => Ex.many (f' := (280, [some (.ref 1000), some (.ref 0), some (.ref 27), some (.ref 51), some (.int v4), none, none], [.int (v4 + (2 : Int32)), .ref 1000, .int (xs (v4 + (1 : Int32)).toNatClampNeg), .ref 0], xSt xG0 hc hr xs g L c z)) e 4 (by rfl)) ?_
            obtain ⟨g27, H⟩ := xgd_some H
            refine ExI.of (fun _ e => Ex.guard (f' := (281, [some (.ref 1000), some (.ref 0), some (.ref 27), some (.ref 51), some (.int v4), none, none], [.int (xs (v4 + (2 : Int32)).toNatClampNeg), .int (xs (v4 + (1 : Int32)).toNatClampNeg), .ref 0], xSt xG0 hc hr xs g L c z)) (by rfl) g27 e) ?_
            refine ExI.of (fun _ e => Ex.many (f' := (286, [some (.ref 1000), some (.ref 0), some (.ref 27), some (.ref 51), some (.int v4), none, none], [.int (v4 + (3 : Int32)), .ref 1000, .int (xs (v4 + (2 : Int32)).toNatClampNeg), .int (xs (v4 + (1 : Int32)).toNatClampNeg), .ref 0], xSt xG0 hc hr xs g L c z)) e 4 (by rfl)) ?_
            obtain ⟨g28, H⟩ := xgd_some H
            refine ExI.of (fun _ e => Ex.guard (f' := (287, [some (.ref 1000), some (.ref 0), some (.ref 27), some (.ref 51), some (.int v4), none, none], [.int (xs (v4 + (3 : Int32)).toNatClampNeg), .int (xs (v4 + (2 : Int32)).toNatClampNeg), .int (xs (v4 + (1 : Int32)).toNatClampNeg), .ref 0], xSt xG0 hc hr xs g L c z)) (by rfl) g28 e) ?_
            refine ExI.of (fun _ e => Ex.many (f' := (288, [some (.ref 1000), some (.ref 0), some (.ref 27), some (.ref 51), some (.int v4), none, none], [.ref 51, .int (xs (v4 + (3 : Int32)).toNatClampNeg), .int (xs (v4 + (2 : Int32)).toNatClampNeg), .int (xs (v4 + (1 : Int32)).toNatClampNeg), .ref 0], xSt xG0 hc hr xs g L c z)) e 1 (by rfl)) ?_
            obtain ⟨q29, hq29, H⟩ := xbd H
            obtain ⟨c29, z29, hb29, hT29⟩ := T_l_declare (c := c) (z := z) (by omega) (xs (v4 + (1 : Int32)).toNatClampNeg) (xs (v4 + (2 : Int32)).toNatClampNeg) (xs (v4 + (3 : Int32)).toNatClampNeg) hc g q29 hq29
            refine ExI.of (fun _ e => Ex.call (mk := 68) (vs := [.ref 0, .int (xs (v4 + (1 : Int32)).toNatClampNeg), .int (xs (v4 + (2 : Int32)).toNatClampNeg), .int (xs (v4 + (3 : Int32)).toNatClampNeg), .ref 51]) (rest := []) (by rfl) (by rfl) (Ex.up (hT29) (by decide)) (xbl hb29) e) ?_
            show ExI _ _ (291, [some (.ref 1000), some (.ref 0), some (.ref 27), some (.ref 51), some (.int v4), none, none], [.int q29.1], xSt xG0 q29.2.1 hr xs q29.2.2 L c29 z29) _
            refine ExI.of (fun _ e => Ex.many (f' := (299, [some (.ref 1000), some (.ref 0), some (.ref 27), some (.ref 51), some (.int v4), some (.int q29.1), none], [.int (v4 + (1 : Int32)), .ref 1000, .ref 27], xSt xG0 q29.2.1 hr xs q29.2.2 L c29 z29)) e 6 (by rfl)) ?_
            obtain ⟨g30, H⟩ := xgd_some H
            refine ExI.of (fun _ e => Ex.guard (f' := (300, [some (.ref 1000), some (.ref 0), some (.ref 27), some (.ref 51), some (.int v4), some (.int q29.1), none], [.int (xs (v4 + (1 : Int32)).toNatClampNeg), .ref 27], xSt xG0 q29.2.1 hr xs q29.2.2 L c29 z29)) (by rfl) g30 e) ?_
            refine ExI.of (fun _ e => Ex.many (f' := (305, [some (.ref 1000), some (.ref 0), some (.ref 27), some (.ref 51), some (.int v4), some (.int q29.1), none], [.int (v4 + (2 : Int32)), .ref 1000, .int (xs (v4 + (1 : Int32)).toNatClampNeg), .ref 27], xSt xG0 q29.2.1 hr xs q29.2.2 L c29 z29)) e 4 (by rfl)) ?_
            obtain ⟨g31, H⟩ := xgd_some H
            refine ExI.of (fun _ e => Ex.guard (f' := (306, [some (.ref 1000), some (.ref 0), some (.ref 27), some (.ref 51), some (.int v4), some (.int q29.1), none], [.int (xs (v4 + (2 : Int32)).toNatClampNeg), .int (xs (v4 + (1 : Int32)).toNatClampNeg), .ref 27], xSt xG0 q29.2.1 hr xs q29.2.2 L c29 z29)) (by rfl) g31 e) ?_
            refine ExI.of (fun _ e => Ex.many (f' := (311, [some (.ref 1000), some (.ref 0), some (.ref 27), some (.ref 51), some (.int v4), some (.int q29.1), none], [.int (v4 + (3 : Int32)), .ref 1000, .int (xs (v4 + (2 : Int32)).toNatClampNeg), .int (xs (v4 + (1 : Int32)).toNatClampNeg), .ref 27], xSt xG0 q29.2.1 hr xs q29.2.2 L c29 z29)) e 4 (by rfl)) ?_
            obtain ⟨g32, H⟩ := xgd_some H
            refine ExI.of (fun _ e => Ex.guard (f' := (312, [some (.ref 1000), some (.ref 0), some (.ref 27), some (.ref 51), some (.int v4), some (.int q29.1), none], [.int (xs (v4 + (3 : Int32)).toNatClampNeg), .int (xs (v4 + (2 : Int32)).toNatClampNeg), .int (xs (v4 + (1 : Int32)).toNatClampNeg), .ref 27], xSt xG0 q29.2.1 hr xs q29.2.2 L c29 z29)) (by rfl) g32 e) ?_
            obtain ⟨q33, hq33, H⟩ := xbd H
            refine ExI.of (fun _ e => Ex.call (mk := 113) (vs := [.ref 27, .int (xs (v4 + (1 : Int32)).toNatClampNeg), .int (xs (v4 + (2 : Int32)).toNatClampNeg), .int (xs (v4 + (3 : Int32)).toNatClampNeg)]) (rest := []) (by rfl) (by rfl) (Ex.up (T_m_declare (xs (v4 + (1 : Int32)).toNatClampNeg) (xs (v4 + (2 : Int32)).toNatClampNeg) (xs (v4 + (3 : Int32)).toNatClampNeg) hr q33 hq33) (by decide)) (xbb c29 z29) e) ?_
            show ExI _ _ (315, [some (.ref 1000), some (.ref 0), some (.ref 27), some (.ref 51), some (.int v4), some (.int q29.1), none], [.int q33.1], xSt xG0 q29.2.1 q33.2 xs q29.2.2 L c29 z29) _
            refine ExI.of (fun _ e => Ex.many (f' := (318, [some (.ref 1000), some (.ref 0), some (.ref 27), some (.ref 51), some (.int v4), some (.int q29.1), some (.int q33.1)], [.ref 27], xSt xG0 q29.2.1 q33.2 xs q29.2.2 L c29 z29)) e 2 (by rfl)) ?_
            refine ExI.of (fun _ e => Ex.call (mk := 110) (vs := [.ref 27]) (rest := []) (by rfl) (by rfl) (Ex.up (T_m_thrown q33.2 _ rfl) (by decide)) (xbb c29 z29) e) ?_
            show ExI _ _ (321, [some (.ref 1000), some (.ref 0), some (.ref 27), some (.ref 51), some (.int v4), some (.int q29.1), some (.int q33.1)], [.int (f_m_thrown q33.2)], xSt xG0 q29.2.1 q33.2 xs q29.2.2 L c29 z29) _
            refine ExI.of (fun _ e => Ex.many (f' := (323, [some (.ref 1000), some (.ref 0), some (.ref 27), some (.ref 51), some (.int v4), some (.int q29.1), some (.int q33.1)], [.int q29.1, .int (f_m_thrown q33.2)], xSt xG0 q29.2.1 q33.2 xs q29.2.2 L c29 z29)) e 1 (by rfl)) ?_
            by_cases q35 : (f_m_thrown q33.2) = q29.1
            · replace H := (if_pos q35).symm.trans H
              refine ExI.of (fun _ e => Ex.itep (a := 328) (b := 326) (ls := [some (.ref 1000), some (.ref 0), some (.ref 27), some (.ref 51), some (.int v4), some (.int q29.1), some (.int q33.1)]) (st := []) (S := xSt xG0 q29.2.1 q33.2 xs q29.2.2 L c29 z29) (by rfl) q35 e) ?_
              refine ExI.of (fun _ e => Ex.many (f' := (330, [some (.ref 1000), some (.ref 0), some (.ref 27), some (.ref 51), some (.int v4), some (.int q29.1), some (.int q33.1)], [.int q29.1], xSt xG0 q29.2.1 q33.2 xs q29.2.2 L c29 z29)) e 1 (by rfl)) ?_
              by_cases q36 : q29.1 = 0
              · replace H := (if_pos q36).symm.trans H
                refine ExI.of (fun _ e => Ex.itep (a := 333) (b := 345) (ls := [some (.ref 1000), some (.ref 0), some (.ref 27), some (.ref 51), some (.int v4), some (.int q29.1), some (.int q33.1)]) (st := []) (S := xSt xG0 q29.2.1 q33.2 xs q29.2.2 L c29 z29) (by rfl) q36 e) ?_
                refine ExI.of (fun _ e => Ex.many (f' := (340, [some (.ref 1000), some (.ref 0), some (.ref 27), some (.ref 51), some (.int v4), none, some (.int q33.1)], [.int (lg_cmp (q29.2.2 51 0) q33.1.toInt64)], xSt xG0 q29.2.1 q33.2 xs q29.2.2 L c29 z29)) e 6 (by rfl)) ?_
                by_cases q37 : (lg_cmp (q29.2.2 51 0) q33.1.toInt64) = 0
                · replace H := (if_pos q37).symm.trans H
                  refine ExI.of (fun _ e => Ex.itep (a := 345) (b := 343) (ls := [some (.ref 1000), some (.ref 0), some (.ref 27), some (.ref 51), some (.int v4), none, some (.int q33.1)]) (st := []) (S := xSt xG0 q29.2.1 q33.2 xs q29.2.2 L c29 z29) (by rfl) q37 e) ?_
                  refine ExI.of (fun _ e => Ex.kill (ls' := [some (.ref 1000), some (.ref 0), some (.ref 27), some (.ref 51), some (.int v4), none, none]) (by rfl) e) ?_
                  exact T_l_law_345 (f_l_law_23 xs L n) n ih v4 q29.2.1 q33.2 q29.2.2 c29 z29 r (by omega) H
                · replace H := (if_neg q37).symm.trans H
                  refine ExI.of (fun _ e => Ex.iten (a := 345) (b := 343) (ls := [some (.ref 1000), some (.ref 0), some (.ref 27), some (.ref 51), some (.int v4), none, some (.int q33.1)]) (st := []) (S := xSt xG0 q29.2.1 q33.2 xs q29.2.2 L c29 z29) (by rfl) q37 e) ?_
                  refine ExI.of (fun _ e => Ex.many (f' := (344, [none, none, none, none, none, none, none], [.int (0 : Int32)], xSt xG0 q29.2.1 q33.2 xs q29.2.2 L c29 z29)) e 1 (by rfl)) ?_
                  replace H := Option.some.inj H
                  subst H
                  exact ⟨_, Ex.done (by rfl)⟩
              · replace H := (if_neg q36).symm.trans H
                refine ExI.of (fun _ e => Ex.iten (a := 333) (b := 345) (ls := [some (.ref 1000), some (.ref 0), some (.ref 27), some (.ref 51), some (.int v4), some (.int q29.1), some (.int q33.1)]) (st := []) (S := xSt xG0 q29.2.1 q33.2 xs q29.2.2 L c29 z29) (by rfl) q36 e) ?_
                refine ExI.of (fun _ e => Ex.kill (ls' := [some (.ref 1000), some (.ref 0), some (.ref 27), some (.ref 51), some (.int v4), none, none]) (by rfl) e) ?_
                exact T_l_law_345 (f_l_law_23 xs L n) n ih v4 q29.2.1 q33.2 q29.2.2 c29 z29 r (by omega) H
            · replace H := (if_neg q35).symm.trans H
              refine ExI.of (fun _ e => Ex.iten (a := 328) (b := 326) (ls := [some (.ref 1000), some (.ref 0), some (.ref 27), some (.ref 51), some (.int v4), some (.int q29.1), some (.int q33.1)]) (st := []) (S := xSt xG0 q29.2.1 q33.2 xs q29.2.2 L c29 z29) (by rfl) q35 e) ?_
              refine ExI.of (fun _ e => Ex.many (f' := (327, [none, none, none, none, none, none, none], [.int (0 : Int32)], xSt xG0 q29.2.1 q33.2 xs q29.2.2 L c29 z29)) e 1 (by rfl)) ?_
              replace H := Option.some.inj H
              subst H
              exact ⟨_, Ex.done (by rfl)⟩
          · replace H := (if_neg q25).symm.trans H
            by_cases q38 : ((xs v4.toNatClampNeg) &&& (15 : Int32)) = (3 : Int32)
            · replace H := (if_pos q38).symm.trans H
              refine ExI.of (fun _ e => Ex.sw (t := 348) (ls := [some (.ref 1000), some (.ref 0), some (.ref 27), some (.ref 51), some (.int v4), none, none]) (st := []) (S := xSt xG0 hc hr xs g L c z) e (by rfl) (by rw [q38]; rfl)) ?_
              refine ExI.of (fun _ e => Ex.many (f' := (350, [some (.ref 1000), some (.ref 0), some (.ref 27), some (.ref 51), some (.int v4), none, none], [.ref 51, .ref 0], xSt xG0 hc hr xs g L c z)) e 2 (by rfl)) ?_
              obtain ⟨q39, hq39, H⟩ := xbd H
              obtain ⟨c39, z39, hb39, hT39⟩ := T_l_validate (c := c) (z := z) (by omega) hc g q39 hq39
              refine ExI.of (fun _ e => Ex.call (mk := 74) (vs := [.ref 0, .ref 51]) (rest := []) (by rfl) (by rfl) (Ex.up (hT39) (by decide)) (xbl hb39) e) ?_
              show ExI _ _ (353, [some (.ref 1000), some (.ref 0), some (.ref 27), some (.ref 51), some (.int v4), none, none], [.int q39.1], xSt xG0 q39.2.1 hr xs q39.2.2 L c39 z39) _
              refine ExI.of (fun _ e => Ex.many (f' := (356, [some (.ref 1000), some (.ref 0), some (.ref 27), some (.ref 51), some (.int v4), some (.int q39.1), none], [.ref 27], xSt xG0 q39.2.1 hr xs q39.2.2 L c39 z39)) e 2 (by rfl)) ?_
              obtain ⟨q40, hq40, H⟩ := xbd H
              refine ExI.of (fun _ e => Ex.call (mk := 115) (vs := [.ref 27]) (rest := []) (by rfl) (by rfl) (Ex.up (T_m_validate hr q40 hq40) (by decide)) (xbb c39 z39) e) ?_
              show ExI _ _ (359, [some (.ref 1000), some (.ref 0), some (.ref 27), some (.ref 51), some (.int v4), some (.int q39.1), none], [.int q40.1], xSt xG0 q39.2.1 q40.2 xs q39.2.2 L c39 z39) _
              refine ExI.of (fun _ e => Ex.many (f' := (362, [some (.ref 1000), some (.ref 0), some (.ref 27), some (.ref 51), some (.int v4), some (.int q39.1), some (.int q40.1)], [.ref 27], xSt xG0 q39.2.1 q40.2 xs q39.2.2 L c39 z39)) e 2 (by rfl)) ?_
              refine ExI.of (fun _ e => Ex.call (mk := 110) (vs := [.ref 27]) (rest := []) (by rfl) (by rfl) (Ex.up (T_m_thrown q40.2 _ rfl) (by decide)) (xbb c39 z39) e) ?_
              show ExI _ _ (365, [some (.ref 1000), some (.ref 0), some (.ref 27), some (.ref 51), some (.int v4), some (.int q39.1), some (.int q40.1)], [.int (f_m_thrown q40.2)], xSt xG0 q39.2.1 q40.2 xs q39.2.2 L c39 z39) _
              refine ExI.of (fun _ e => Ex.many (f' := (367, [some (.ref 1000), some (.ref 0), some (.ref 27), some (.ref 51), some (.int v4), some (.int q39.1), some (.int q40.1)], [.int q39.1, .int (f_m_thrown q40.2)], xSt xG0 q39.2.1 q40.2 xs q39.2.2 L c39 z39)) e 1 (by rfl)) ?_
              by_cases q42 : (f_m_thrown q40.2) = q39.1
              · replace H := (if_pos q42).symm.trans H
                refine ExI.of (fun _ e => Ex.itep (a := 372) (b := 370) (ls := [some (.ref 1000), some (.ref 0), some (.ref 27), some (.ref 51), some (.int v4), some (.int q39.1), some (.int q40.1)]) (st := []) (S := xSt xG0 q39.2.1 q40.2 xs q39.2.2 L c39 z39) (by rfl) q42 e) ?_
                refine ExI.of (fun _ e => Ex.many (f' := (374, [some (.ref 1000), some (.ref 0), some (.ref 27), some (.ref 51), some (.int v4), some (.int q39.1), some (.int q40.1)], [.int q39.1], xSt xG0 q39.2.1 q40.2 xs q39.2.2 L c39 z39)) e 1 (by rfl)) ?_
                by_cases q43 : q39.1 = 0
                · replace H := (if_pos q43).symm.trans H
                  refine ExI.of (fun _ e => Ex.itep (a := 377) (b := 389) (ls := [some (.ref 1000), some (.ref 0), some (.ref 27), some (.ref 51), some (.int v4), some (.int q39.1), some (.int q40.1)]) (st := []) (S := xSt xG0 q39.2.1 q40.2 xs q39.2.2 L c39 z39) (by rfl) q43 e) ?_
                  refine ExI.of (fun _ e => Ex.many (f' := (384, [some (.ref 1000), some (.ref 0), some (.ref 27), some (.ref 51), some (.int v4), none, some (.int q40.1)], [.int (lg_cmp (q39.2.2 51 0) q40.1.toInt64)], xSt xG0 q39.2.1 q40.2 xs q39.2.2 L c39 z39)) e 6 (by rfl)) ?_
                  by_cases q44 : (lg_cmp (q39.2.2 51 0) q40.1.toInt64) = 0
                  · replace H := (if_pos q44).symm.trans H
                    refine ExI.of (fun _ e => Ex.itep (a := 389) (b := 387) (ls := [some (.ref 1000), some (.ref 0), some (.ref 27), some (.ref 51), some (.int v4), none, some (.int q40.1)]) (st := []) (S := xSt xG0 q39.2.1 q40.2 xs q39.2.2 L c39 z39) (by rfl) q44 e) ?_
                    refine ExI.of (fun _ e => Ex.kill (ls' := [some (.ref 1000), some (.ref 0), some (.ref 27), some (.ref 51), some (.int v4), none, none]) (by rfl) e) ?_
                    exact T_l_law_389 (f_l_law_23 xs L n) n ih v4 q39.2.1 q40.2 q39.2.2 c39 z39 r (by omega) H
                  · replace H := (if_neg q44).symm.trans H
                    refine ExI.of (fun _ e => Ex.iten (a := 389) (b := 387) (ls := [some (.ref 1000), some (.ref 0), some (.ref 27), some (.ref 51), some (.int v4), none, some (.int q40.1)]) (st := []) (S := xSt xG0 q39.2.1 q40.2 xs q39.2.2 L c39 z39) (by rfl) q44 e) ?_
                    refine ExI.of (fun _ e => Ex.many (f' := (388, [none, none, none, none, none, none, none], [.int (0 : Int32)], xSt xG0 q39.2.1 q40.2 xs q39.2.2 L c39 z39)) e 1 (by rfl)) ?_
                    replace H := Option.some.inj H
                    subst H
                    exact ⟨_, Ex.done (by rfl)⟩
                · replace H := (if_neg q43).symm.trans H
                  refine ExI.of (fun _ e => Ex.iten (a := 377) (b := 389) (ls := [some (.ref 1000), some (.ref 0), some (.ref 27), some (.ref 51), some (.int v4), some (.int q39.1), some (.int q40.1)]) (st := []) (S := xSt xG0 q39.2.1 q40.2 xs q39.2.2 L c39 z39) (by rfl) q43 e) ?_
                  refine ExI.of (fun _ e => Ex.kill (ls' := [some (.ref 1000), some (.ref 0), some (.ref 27), some (.ref 51), some (.int v4), none, none]) (by rfl) e) ?_
                  exact T_l_law_389 (f_l_law_23 xs L n) n ih v4 q39.2.1 q40.2 q39.2.2 c39 z39 r (by omega) H
              · replace H := (if_neg q42).symm.trans H
                refine ExI.of (fun _ e => Ex.iten (a := 372) (b := 370) (ls := [some (.ref 1000), some (.ref 0), some (.ref 27), some (.ref 51), some (.int v4), some (.int q39.1), some (.int q40.1)]) (st := []) (S := xSt xG0 q39.2.1 q40.2 xs q39.2.2 L c39 z39) (by rfl) q42 e) ?_
                refine ExI.of (fun _ e => Ex.many (f' := (371, [none, none, none, none, none, none, none], [.int (0 : Int32)], xSt xG0 q39.2.1 q40.2 xs q39.2.2 L c39 z39)) e 1 (by rfl)) ?_
                replace H := Option.some.inj H
                subst H
                exact ⟨_, Ex.done (by rfl)⟩
            · replace H := (if_neg q38).symm.trans H
              by_cases q45 : ((xs v4.toNatClampNeg) &&& (15 : Int32)) = (4 : Int32)
              · replace H := (if_pos q45).symm.trans H
                refine ExI.of (fun _ e => Ex.sw (t := 392) (ls := [some (.ref 1000), some (.ref 0), some (.ref 27), some (.ref 51), some (.int v4), none, none]) (st := []) (S := xSt xG0 hc hr xs g L c z) e (by rfl) (by rw [q45]; rfl)) ?_
                refine ExI.of (fun _ e => Ex.many (f' := (398, [some (.ref 1000), some (.ref 0), some (.ref 27), some (.ref 51), some (.int v4), none, none], [.int (v4 + (1 : Int32)), .ref 1000, .ref 0], xSt xG0 hc hr xs g L c z)) e 5 (by rfl)) ?_
                obtain ⟨g46, H⟩ := xgd_some H
                refine ExI.of (fun _ e => Ex.guard (f' := (399, [some (.ref 1000), some (.ref 0), some (.ref 27), some (.ref 51), some (.int v4), none, none], [.int (xs (v4 + (1 : Int32)).toNatClampNeg), .ref 0], xSt xG0 hc hr xs g L c z)) (by rfl) g46 e) ?_
                refine ExI.of (fun _ e => Ex.call (mk := 5) (vs := [.ref 0, .int (xs (v4 + (1 : Int32)).toNatClampNeg)]) (rest := []) (by rfl) (by rfl) (Ex.up (T_w_fault (xs (v4 + (1 : Int32)).toNatClampNeg) hc _ rfl) (by decide)) (xbb c z) e) ?_
                show ExI _ _ (402, [some (.ref 1000), some (.ref 0), some (.ref 27), some (.ref 51), some (.int v4), none, none], [.int (f_w_fault (xs (v4 + (1 : Int32)).toNatClampNeg) hc)], xSt xG0 hc hr xs g L c z) _
                refine ExI.of (fun _ e => Ex.many (f' := (408, [some (.ref 1000), some (.ref 0), some (.ref 27), some (.ref 51), some (.int v4), none, none], [.int (v4 + (1 : Int32)), .ref 1000, .ref 27, .int (f_w_fault (xs (v4 + (1 : Int32)).toNatClampNeg) hc)], xSt xG0 hc hr xs g L c z)) e 5 (by rfl)) ?_
                obtain ⟨g48, H⟩ := xgd_some H
                refine ExI.of (fun _ e => Ex.guard (f' := (409, [some (.ref 1000), some (.ref 0), some (.ref 27), some (.ref 51), some (.int v4), none, none], [.int (xs (v4 + (1 : Int32)).toNatClampNeg), .ref 27, .int (f_w_fault (xs (v4 + (1 : Int32)).toNatClampNeg) hc)], xSt xG0 hc hr xs g L c z)) (by rfl) g48 e) ?_
                obtain ⟨q49, hq49, H⟩ := xbd H
                refine ExI.of (fun _ e => Ex.call (mk := 136) (vs := [.ref 27, .int (xs (v4 + (1 : Int32)).toNatClampNeg)]) (rest := [.int (f_w_fault (xs (v4 + (1 : Int32)).toNatClampNeg) hc)]) (by rfl) (by rfl) (Ex.up (T_m_fault (xs (v4 + (1 : Int32)).toNatClampNeg) hr q49 hq49) (by decide)) (xbb c z) e) ?_
                show ExI _ _ (412, [some (.ref 1000), some (.ref 0), some (.ref 27), some (.ref 51), some (.int v4), none, none], [.int q49.1, .int (f_w_fault (xs (v4 + (1 : Int32)).toNatClampNeg) hc)], xSt xG0 hc q49.2 xs g L c z) _
                by_cases q50 : (f_w_fault (xs (v4 + (1 : Int32)).toNatClampNeg) hc) = q49.1
                · replace H := (if_pos q50).symm.trans H
                  refine ExI.of (fun _ e => Ex.itep (a := 726) (b := 415) (ls := [some (.ref 1000), some (.ref 0), some (.ref 27), some (.ref 51), some (.int v4), none, none]) (st := []) (S := xSt xG0 hc q49.2 xs g L c z) (by rfl) q50 e) ?_
                  exact T_l_law_726 (f_l_law_23 xs L n) n ih v4 hc q49.2 g c z r (by omega) H
                · replace H := (if_neg q50).symm.trans H
                  refine ExI.of (fun _ e => Ex.iten (a := 726) (b := 415) (ls := [some (.ref 1000), some (.ref 0), some (.ref 27), some (.ref 51), some (.int v4), none, none]) (st := []) (S := xSt xG0 hc q49.2 xs g L c z) (by rfl) q50 e) ?_
                  refine ExI.of (fun _ e => Ex.many (f' := (416, [none, none, none, none, none, none, none], [.int (0 : Int32)], xSt xG0 hc q49.2 xs g L c z)) e 1 (by rfl)) ?_
                  replace H := Option.some.inj H
                  subst H
                  exact ⟨_, Ex.done (by rfl)⟩
              · replace H := (if_neg q45).symm.trans H
                by_cases q51 : ((xs v4.toNatClampNeg) &&& (15 : Int32)) = (5 : Int32)
                · replace H := (if_pos q51).symm.trans H
                  refine ExI.of (fun _ e => Ex.sw (t := 417) (ls := [some (.ref 1000), some (.ref 0), some (.ref 27), some (.ref 51), some (.int v4), none, none]) (st := []) (S := xSt xG0 hc hr xs g L c z) e (by rfl) (by rw [q51]; rfl)) ?_
                  refine ExI.of (fun _ e => Ex.many (f' := (418, [some (.ref 1000), some (.ref 0), some (.ref 27), some (.ref 51), some (.int v4), none, none], [.ref 0], xSt xG0 hc hr xs g L c z)) e 1 (by rfl)) ?_
                  obtain ⟨q52, hq52, H⟩ := xbd H
                  refine ExI.of (fun _ e => Ex.call (mk := 6) (vs := [.ref 0]) (rest := []) (by rfl) (by rfl) (Ex.up (T_w_clear hc q52 hq52) (by decide)) (xbb c z) e) ?_
                  show ExI _ _ (421, [some (.ref 1000), some (.ref 0), some (.ref 27), some (.ref 51), some (.int v4), none, none], [], xSt xG0 q52 hr xs g L c z) _
                  refine ExI.of (fun _ e => Ex.many (f' := (422, [some (.ref 1000), some (.ref 0), some (.ref 27), some (.ref 51), some (.int v4), none, none], [.ref 27], xSt xG0 q52 hr xs g L c z)) e 1 (by rfl)) ?_
                  obtain ⟨q53, hq53, H⟩ := xbd H
                  refine ExI.of (fun _ e => Ex.call (mk := 114) (vs := [.ref 27]) (rest := []) (by rfl) (by rfl) (Ex.up (T_m_clear hr q53 hq53) (by decide)) (xbb c z) e) ?_
                  show ExI _ _ (425, [some (.ref 1000), some (.ref 0), some (.ref 27), some (.ref 51), some (.int v4), none, none], [], xSt xG0 q52 q53 xs g L c z) _
                  refine ExI.of (fun _ e => Ex.many (f' := (726, [some (.ref 1000), some (.ref 0), some (.ref 27), some (.ref 51), some (.int v4), none, none], [], xSt xG0 q52 q53 xs g L c z)) e 1 (by rfl)) ?_
                  exact T_l_law_726 (f_l_law_23 xs L n) n ih v4 q52 q53 g c z r (by omega) H
                · replace H := (if_neg q51).symm.trans H
                  by_cases q54 : ((xs v4.toNatClampNeg) &&& (15 : Int32)) = (6 : Int32)
                  · replace H := (if_pos q54).symm.trans H
                    refine ExI.of (fun _ e => Ex.sw (t := 428) (ls := [some (.ref 1000), some (.ref 0), some (.ref 27), some (.ref 51), some (.int v4), none, none]) (st := []) (S := xSt xG0 hc hr xs g L c z) e (by rfl) (by rw [q54]; rfl)) ?_
                    refine ExI.of (fun _ e => Ex.many (f' := (434, [some (.ref 1000), some (.ref 0), some (.ref 27), some (.ref 51), some (.int v4), none, none], [.int (v4 + (1 : Int32)), .ref 1000, .ref 0], xSt xG0 hc hr xs g L c z)) e 5 (by rfl)) ?_
                    obtain ⟨g55, H⟩ := xgd_some H
                    refine ExI.of (fun _ e => Ex.guard (f' := (435, [some (.ref 1000), some (.ref 0), some (.ref 27), some (.ref 51), some (.int v4), none, none], [.int (xs (v4 + (1 : Int32)).toNatClampNeg), .ref 0], xSt xG0 hc hr xs g L c z)) (by rfl) g55 e) ?_
                    obtain ⟨q56, hq56, H⟩ := xbd H
                    refine ExI.of (fun _ e => Ex.call (mk := 12) (vs := [.ref 0, .int (xs (v4 + (1 : Int32)).toNatClampNeg)]) (rest := []) (by rfl) (by rfl) (Ex.up (T_w_argument (xs (v4 + (1 : Int32)).toNatClampNeg) hc q56 hq56) (by decide)) (xbb c z) e) ?_
                    show ExI _ _ (438, [some (.ref 1000), some (.ref 0), some (.ref 27), some (.ref 51), some (.int v4), none, none], [.int q56.1], xSt xG0 q56.2 hr xs g L c z) _
                    refine ExI.of (fun _ e => Ex.many (f' := (444, [some (.ref 1000), some (.ref 0), some (.ref 27), some (.ref 51), some (.int v4), none, none], [.int (v4 + (1 : Int32)), .ref 1000, .ref 27, .int q56.1], xSt xG0 q56.2 hr xs g L c z)) e 5 (by rfl)) ?_
                    obtain ⟨g57, H⟩ := xgd_some H
                    refine ExI.of (fun _ e => Ex.guard (f' := (445, [some (.ref 1000), some (.ref 0), some (.ref 27), some (.ref 51), some (.int v4), none, none], [.int (xs (v4 + (1 : Int32)).toNatClampNeg), .ref 27, .int q56.1], xSt xG0 q56.2 hr xs g L c z)) (by rfl) g57 e) ?_
                    obtain ⟨q58, hq58, H⟩ := xbd H
                    refine ExI.of (fun _ e => Ex.call (mk := 137) (vs := [.ref 27, .int (xs (v4 + (1 : Int32)).toNatClampNeg)]) (rest := [.int q56.1]) (by rfl) (by rfl) (Ex.up (T_m_argument (xs (v4 + (1 : Int32)).toNatClampNeg) hr q58 hq58) (by decide)) (xbb c z) e) ?_
                    show ExI _ _ (448, [some (.ref 1000), some (.ref 0), some (.ref 27), some (.ref 51), some (.int v4), none, none], [.int q58.1, .int q56.1], xSt xG0 q56.2 q58.2 xs g L c z) _
                    by_cases q59 : q56.1 = q58.1
                    · replace H := (if_pos q59).symm.trans H
                      refine ExI.of (fun _ e => Ex.itep (a := 726) (b := 451) (ls := [some (.ref 1000), some (.ref 0), some (.ref 27), some (.ref 51), some (.int v4), none, none]) (st := []) (S := xSt xG0 q56.2 q58.2 xs g L c z) (by rfl) q59 e) ?_
                      exact T_l_law_726 (f_l_law_23 xs L n) n ih v4 q56.2 q58.2 g c z r (by omega) H
                    · replace H := (if_neg q59).symm.trans H
                      refine ExI.of (fun _ e => Ex.iten (a := 726) (b := 451) (ls := [some (.ref 1000), some (.ref 0), some (.ref 27), some (.ref 51), some (.int v4), none, none]) (st := []) (S := xSt xG0 q56.2 q58.2 xs g L c z) (by rfl) q59 e) ?_
                      refine ExI.of (fun _ e => Ex.many (f' := (452, [none, none, none, none, none, none, none], [.int (0 : Int32)], xSt xG0 q56.2 q58.2 xs g L c z)) e 1 (by rfl)) ?_
                      replace H := Option.some.inj H
                      subst H
                      exact ⟨_, Ex.done (by rfl)⟩
                  · replace H := (if_neg q54).symm.trans H
                    by_cases q60 : ((xs v4.toNatClampNeg) &&& (15 : Int32)) = (7 : Int32)
                    · replace H := (if_pos q60).symm.trans H
                      refine ExI.of (fun _ e => Ex.sw (t := 453) (ls := [some (.ref 1000), some (.ref 0), some (.ref 27), some (.ref 51), some (.int v4), none, none]) (st := []) (S := xSt xG0 hc hr xs g L c z) e (by rfl) (by rw [q60]; rfl)) ?_
                      refine ExI.of (fun _ e => Ex.many (f' := (459, [some (.ref 1000), some (.ref 0), some (.ref 27), some (.ref 51), some (.int v4), none, none], [.int (v4 + (1 : Int32)), .ref 1000, .ref 0], xSt xG0 hc hr xs g L c z)) e 5 (by rfl)) ?_
                      obtain ⟨g61, H⟩ := xgd_some H
                      refine ExI.of (fun _ e => Ex.guard (f' := (460, [some (.ref 1000), some (.ref 0), some (.ref 27), some (.ref 51), some (.int v4), none, none], [.int (xs (v4 + (1 : Int32)).toNatClampNeg), .ref 0], xSt xG0 hc hr xs g L c z)) (by rfl) g61 e) ?_
                      obtain ⟨q62, hq62, H⟩ := xbd H
                      obtain ⟨c62, z62, hb62, hT62⟩ := T_l_invoke (c := c) (z := z) (by omega) (xs (v4 + (1 : Int32)).toNatClampNeg) hc q62 hq62
                      refine ExI.of (fun _ e => Ex.call (mk := 99) (vs := [.ref 0, .int (xs (v4 + (1 : Int32)).toNatClampNeg)]) (rest := []) (by rfl) (by rfl) (Ex.up (hT62) (by decide)) (xbl hb62) e) ?_
                      show ExI _ _ (463, [some (.ref 1000), some (.ref 0), some (.ref 27), some (.ref 51), some (.int v4), none, none], [.int q62.1], xSt xG0 q62.2 hr xs g L c62 z62) _
                      refine ExI.of (fun _ e => Ex.many (f' := (471, [some (.ref 1000), some (.ref 0), some (.ref 27), some (.ref 51), some (.int v4), some (.int q62.1), none], [.int (v4 + (1 : Int32)), .ref 1000, .ref 27], xSt xG0 q62.2 hr xs g L c62 z62)) e 6 (by rfl)) ?_
                      obtain ⟨g63, H⟩ := xgd_some H
                      refine ExI.of (fun _ e => Ex.guard (f' := (472, [some (.ref 1000), some (.ref 0), some (.ref 27), some (.ref 51), some (.int v4), some (.int q62.1), none], [.int (xs (v4 + (1 : Int32)).toNatClampNeg), .ref 27], xSt xG0 q62.2 hr xs g L c62 z62)) (by rfl) g63 e) ?_
                      obtain ⟨q64, hq64, H⟩ := xbd H
                      refine ExI.of (fun _ e => Ex.call (mk := 138) (vs := [.ref 27, .int (xs (v4 + (1 : Int32)).toNatClampNeg)]) (rest := []) (by rfl) (by rfl) (Ex.up (T_m_invoke (xs (v4 + (1 : Int32)).toNatClampNeg) hr q64 hq64) (by decide)) (xbb c62 z62) e) ?_
                      show ExI _ _ (475, [some (.ref 1000), some (.ref 0), some (.ref 27), some (.ref 51), some (.int v4), some (.int q62.1), none], [], xSt xG0 q62.2 q64 xs g L c62 z62) _
                      refine ExI.of (fun _ e => Ex.many (f' := (476, [some (.ref 1000), some (.ref 0), some (.ref 27), some (.ref 51), some (.int v4), some (.int q62.1), none], [.ref 27], xSt xG0 q62.2 q64 xs g L c62 z62)) e 1 (by rfl)) ?_
                      refine ExI.of (fun _ e => Ex.call (mk := 110) (vs := [.ref 27]) (rest := []) (by rfl) (by rfl) (Ex.up (T_m_thrown q64 _ rfl) (by decide)) (xbb c62 z62) e) ?_
                      show ExI _ _ (479, [some (.ref 1000), some (.ref 0), some (.ref 27), some (.ref 51), some (.int v4), some (.int q62.1), none], [.int (f_m_thrown q64)], xSt xG0 q62.2 q64 xs g L c62 z62) _
                      refine ExI.of (fun _ e => Ex.many (f' := (481, [some (.ref 1000), some (.ref 0), some (.ref 27), some (.ref 51), some (.int v4), some (.int q62.1), none], [.int q62.1, .int (f_m_thrown q64)], xSt xG0 q62.2 q64 xs g L c62 z62)) e 1 (by rfl)) ?_
                      by_cases q66 : (f_m_thrown q64) = q62.1
                      · replace H := (if_pos q66).symm.trans H
                        refine ExI.of (fun _ e => Ex.itep (a := 486) (b := 484) (ls := [some (.ref 1000), some (.ref 0), some (.ref 27), some (.ref 51), some (.int v4), some (.int q62.1), none]) (st := []) (S := xSt xG0 q62.2 q64 xs g L c62 z62) (by rfl) q66 e) ?_
                        refine ExI.of (fun _ e => Ex.many (f' := (726, [some (.ref 1000), some (.ref 0), some (.ref 27), some (.ref 51), some (.int v4), none, none], [], xSt xG0 q62.2 q64 xs g L c62 z62)) e 1 (by rfl)) ?_
                        exact T_l_law_726 (f_l_law_23 xs L n) n ih v4 q62.2 q64 g c62 z62 r (by omega) H
                      · replace H := (if_neg q66).symm.trans H
                        refine ExI.of (fun _ e => Ex.iten (a := 486) (b := 484) (ls := [some (.ref 1000), some (.ref 0), some (.ref 27), some (.ref 51), some (.int v4), some (.int q62.1), none]) (st := []) (S := xSt xG0 q62.2 q64 xs g L c62 z62) (by rfl) q66 e) ?_
                        refine ExI.of (fun _ e => Ex.many (f' := (485, [none, none, none, none, none, none, none], [.int (0 : Int32)], xSt xG0 q62.2 q64 xs g L c62 z62)) e 1 (by rfl)) ?_
                        replace H := Option.some.inj H
                        subst H
                        exact ⟨_, Ex.done (by rfl)⟩
                    · replace H := (if_neg q60).symm.trans H
                      by_cases q67 : ((xs v4.toNatClampNeg) &&& (15 : Int32)) = (8 : Int32)
                      · replace H := (if_pos q67).symm.trans H
                        refine ExI.of (fun _ e => Ex.sw (t := 489) (ls := [some (.ref 1000), some (.ref 0), some (.ref 27), some (.ref 51), some (.int v4), none, none]) (st := []) (S := xSt xG0 hc hr xs g L c z) e (by rfl) (by rw [q67]; rfl)) ?_
                        refine ExI.of (fun _ e => Ex.many (f' := (495, [some (.ref 1000), some (.ref 0), some (.ref 27), some (.ref 51), some (.int v4), none, none], [.int (v4 + (1 : Int32)), .ref 1000, .ref 0], xSt xG0 hc hr xs g L c z)) e 5 (by rfl)) ?_
                        obtain ⟨g68, H⟩ := xgd_some H
                        refine ExI.of (fun _ e => Ex.guard (f' := (496, [some (.ref 1000), some (.ref 0), some (.ref 27), some (.ref 51), some (.int v4), none, none], [.int (xs (v4 + (1 : Int32)).toNatClampNeg), .ref 0], xSt xG0 hc hr xs g L c z)) (by rfl) g68 e) ?_
                        obtain ⟨q69, hq69, H⟩ := xbd H
                        refine ExI.of (fun _ e => Ex.call (mk := 13) (vs := [.ref 0, .int (xs (v4 + (1 : Int32)).toNatClampNeg)]) (rest := []) (by rfl) (by rfl) (Ex.up (T_w_run (xs (v4 + (1 : Int32)).toNatClampNeg) hc q69 hq69) (by decide)) (xbb c z) e) ?_
                        show ExI _ _ (499, [some (.ref 1000), some (.ref 0), some (.ref 27), some (.ref 51), some (.int v4), none, none], [.int q69.1], xSt xG0 q69.2 hr xs g L c z) _
                        refine ExI.of (fun _ e => Ex.many (f' := (505, [some (.ref 1000), some (.ref 0), some (.ref 27), some (.ref 51), some (.int v4), none, none], [.int (v4 + (1 : Int32)), .ref 1000, .ref 27, .int q69.1], xSt xG0 q69.2 hr xs g L c z)) e 5 (by rfl)) ?_
                        obtain ⟨g70, H⟩ := xgd_some H
                        refine ExI.of (fun _ e => Ex.guard (f' := (506, [some (.ref 1000), some (.ref 0), some (.ref 27), some (.ref 51), some (.int v4), none, none], [.int (xs (v4 + (1 : Int32)).toNatClampNeg), .ref 27, .int q69.1], xSt xG0 q69.2 hr xs g L c z)) (by rfl) g70 e) ?_
                        obtain ⟨q71, hq71, H⟩ := xbd H
                        refine ExI.of (fun _ e => Ex.call (mk := 140) (vs := [.ref 27, .int (xs (v4 + (1 : Int32)).toNatClampNeg)]) (rest := [.int q69.1]) (by rfl) (by rfl) (Ex.up (T_m_run (xs (v4 + (1 : Int32)).toNatClampNeg) hr q71 hq71) (by decide)) (xbb c z) e) ?_
                        show ExI _ _ (509, [some (.ref 1000), some (.ref 0), some (.ref 27), some (.ref 51), some (.int v4), none, none], [.int q71.1, .int q69.1], xSt xG0 q69.2 q71.2 xs g L c z) _
                        by_cases q72 : q69.1 = q71.1
                        · replace H := (if_pos q72).symm.trans H
                          refine ExI.of (fun _ e => Ex.itep (a := 726) (b := 512) (ls := [some (.ref 1000), some (.ref 0), some (.ref 27), some (.ref 51), some (.int v4), none, none]) (st := []) (S := xSt xG0 q69.2 q71.2 xs g L c z) (by rfl) q72 e) ?_
                          exact T_l_law_726 (f_l_law_23 xs L n) n ih v4 q69.2 q71.2 g c z r (by omega) H
                        · replace H := (if_neg q72).symm.trans H
                          refine ExI.of (fun _ e => Ex.iten (a := 726) (b := 512) (ls := [some (.ref 1000), some (.ref 0), some (.ref 27), some (.ref 51), some (.int v4), none, none]) (st := []) (S := xSt xG0 q69.2 q71.2 xs g L c z) (by rfl) q72 e) ?_
                          refine ExI.of (fun _ e => Ex.many (f' := (513, [none, none, none, none, none, none, none], [.int (0 : Int32)], xSt xG0 q69.2 q71.2 xs g L c z)) e 1 (by rfl)) ?_
                          replace H := Option.some.inj H
                          subst H
                          exact ⟨_, Ex.done (by rfl)⟩
                      · replace H := (if_neg q67).symm.trans H
                        by_cases q73 : ((xs v4.toNatClampNeg) &&& (15 : Int32)) = (9 : Int32)
                        · replace H := (if_pos q73).symm.trans H
                          refine ExI.of (fun _ e => Ex.sw (t := 514) (ls := [some (.ref 1000), some (.ref 0), some (.ref 27), some (.ref 51), some (.int v4), none, none]) (st := []) (S := xSt xG0 hc hr xs g L c z) e (by rfl) (by rw [q73]; rfl)) ?_
                          refine ExI.of (fun _ e => Ex.many (f' := (515, [some (.ref 1000), some (.ref 0), some (.ref 27), some (.ref 51), some (.int v4), none, none], [.ref 0], xSt xG0 hc hr xs g L c z)) e 1 (by rfl)) ?_
                          obtain ⟨q74, hq74, H⟩ := xbd H
                          refine ExI.of (fun _ e => Ex.call (mk := 58) (vs := [.ref 0]) (rest := []) (by rfl) (by rfl) (Ex.up (T_w_stop hc q74 hq74) (by decide)) (xbb c z) e) ?_
                          show ExI _ _ (518, [some (.ref 1000), some (.ref 0), some (.ref 27), some (.ref 51), some (.int v4), none, none], [.int q74.1], xSt xG0 q74.2 hr xs g L c z) _
                          refine ExI.of (fun _ e => Ex.many (f' := (519, [some (.ref 1000), some (.ref 0), some (.ref 27), some (.ref 51), some (.int v4), none, none], [.ref 27, .int q74.1], xSt xG0 q74.2 hr xs g L c z)) e 1 (by rfl)) ?_
                          obtain ⟨q75, hq75, H⟩ := xbd H
                          refine ExI.of (fun _ e => Ex.call (mk := 163) (vs := [.ref 27]) (rest := [.int q74.1]) (by rfl) (by rfl) (Ex.up (T_m_stop hr q75 hq75) (by decide)) (xbb c z) e) ?_
                          show ExI _ _ (522, [some (.ref 1000), some (.ref 0), some (.ref 27), some (.ref 51), some (.int v4), none, none], [.int q75.1, .int q74.1], xSt xG0 q74.2 q75.2 xs g L c z) _
                          by_cases q76 : q74.1 = q75.1
                          · replace H := (if_pos q76).symm.trans H
                            refine ExI.of (fun _ e => Ex.itep (a := 726) (b := 525) (ls := [some (.ref 1000), some (.ref 0), some (.ref 27), some (.ref 51), some (.int v4), none, none]) (st := []) (S := xSt xG0 q74.2 q75.2 xs g L c z) (by rfl) q76 e) ?_
                            exact T_l_law_726 (f_l_law_23 xs L n) n ih v4 q74.2 q75.2 g c z r (by omega) H
                          · replace H := (if_neg q76).symm.trans H
                            refine ExI.of (fun _ e => Ex.iten (a := 726) (b := 525) (ls := [some (.ref 1000), some (.ref 0), some (.ref 27), some (.ref 51), some (.int v4), none, none]) (st := []) (S := xSt xG0 q74.2 q75.2 xs g L c z) (by rfl) q76 e) ?_
                            refine ExI.of (fun _ e => Ex.many (f' := (526, [none, none, none, none, none, none, none], [.int (0 : Int32)], xSt xG0 q74.2 q75.2 xs g L c z)) e 1 (by rfl)) ?_
                            replace H := Option.some.inj H
                            subst H
                            exact ⟨_, Ex.done (by rfl)⟩
                        · replace H := (if_neg q73).symm.trans H
                          by_cases q77 : ((xs v4.toNatClampNeg) &&& (15 : Int32)) = (10 : Int32)
                          · replace H := (if_pos q77).symm.trans H
                            refine ExI.of (fun _ e => Ex.sw (t := 527) (ls := [some (.ref 1000), some (.ref 0), some (.ref 27), some (.ref 51), some (.int v4), none, none]) (st := []) (S := xSt xG0 hc hr xs g L c z) e (by rfl) (by rw [q77]; rfl)) ?_
                            refine ExI.of (fun _ e => Ex.many (f' := (529, [some (.ref 1000), some (.ref 0), some (.ref 27), some (.ref 51), some (.int v4), none, none], [.ref 51, .ref 0], xSt xG0 hc hr xs g L c z)) e 2 (by rfl)) ?_
                            obtain ⟨q78, hq78, H⟩ := xbd H
                            obtain ⟨c78, z78, hb78, hT78⟩ := T_l_result (c := c) (z := z) (by omega) hc g q78 hq78
                            refine ExI.of (fun _ e => Ex.call (mk := 102) (vs := [.ref 0, .ref 51]) (rest := []) (by rfl) (by rfl) (Ex.up (hT78) (by decide)) (xbl hb78) e) ?_
                            show ExI _ _ (532, [some (.ref 1000), some (.ref 0), some (.ref 27), some (.ref 51), some (.int v4), none, none], [.int q78.1], xSt xG0 hc hr xs q78.2 L c78 z78) _
                            refine ExI.of (fun _ e => Ex.many (f' := (535, [some (.ref 1000), some (.ref 0), some (.ref 27), some (.ref 51), some (.int v4), some (.int q78.1), none], [.ref 27], xSt xG0 hc hr xs q78.2 L c78 z78)) e 2 (by rfl)) ?_
                            obtain ⟨q79, hq79, H⟩ := xbd H
                            refine ExI.of (fun _ e => Ex.call (mk := 164) (vs := [.ref 27]) (rest := []) (by rfl) (by rfl) (Ex.up (T_m_result hr q79 hq79) (by decide)) (xbb c78 z78) e) ?_
                            show ExI _ _ (538, [some (.ref 1000), some (.ref 0), some (.ref 27), some (.ref 51), some (.int v4), some (.int q78.1), none], [.int q79.1], xSt xG0 hc q79.2 xs q78.2 L c78 z78) _
                            refine ExI.of (fun _ e => Ex.many (f' := (541, [some (.ref 1000), some (.ref 0), some (.ref 27), some (.ref 51), some (.int v4), some (.int q78.1), some (.int q79.1)], [.ref 27], xSt xG0 hc q79.2 xs q78.2 L c78 z78)) e 2 (by rfl)) ?_
                            refine ExI.of (fun _ e => Ex.call (mk := 110) (vs := [.ref 27]) (rest := []) (by rfl) (by rfl) (Ex.up (T_m_thrown q79.2 _ rfl) (by decide)) (xbb c78 z78) e) ?_
                            show ExI _ _ (544, [some (.ref 1000), some (.ref 0), some (.ref 27), some (.ref 51), some (.int v4), some (.int q78.1), some (.int q79.1)], [.int (f_m_thrown q79.2)], xSt xG0 hc q79.2 xs q78.2 L c78 z78) _
                            refine ExI.of (fun _ e => Ex.many (f' := (546, [some (.ref 1000), some (.ref 0), some (.ref 27), some (.ref 51), some (.int v4), some (.int q78.1), some (.int q79.1)], [.int q78.1, .int (f_m_thrown q79.2)], xSt xG0 hc q79.2 xs q78.2 L c78 z78)) e 1 (by rfl)) ?_
                            by_cases q81 : (f_m_thrown q79.2) = q78.1
                            · replace H := (if_pos q81).symm.trans H
                              refine ExI.of (fun _ e => Ex.itep (a := 551) (b := 549) (ls := [some (.ref 1000), some (.ref 0), some (.ref 27), some (.ref 51), some (.int v4), some (.int q78.1), some (.int q79.1)]) (st := []) (S := xSt xG0 hc q79.2 xs q78.2 L c78 z78) (by rfl) q81 e) ?_
                              refine ExI.of (fun _ e => Ex.many (f' := (553, [some (.ref 1000), some (.ref 0), some (.ref 27), some (.ref 51), some (.int v4), some (.int q78.1), some (.int q79.1)], [.int q78.1], xSt xG0 hc q79.2 xs q78.2 L c78 z78)) e 1 (by rfl)) ?_
                              by_cases q82 : q78.1 = 0
                              · replace H := (if_pos q82).symm.trans H
                                refine ExI.of (fun _ e => Ex.itep (a := 556) (b := 568) (ls := [some (.ref 1000), some (.ref 0), some (.ref 27), some (.ref 51), some (.int v4), some (.int q78.1), some (.int q79.1)]) (st := []) (S := xSt xG0 hc q79.2 xs q78.2 L c78 z78) (by rfl) q82 e) ?_
                                refine ExI.of (fun _ e => Ex.many (f' := (563, [some (.ref 1000), some (.ref 0), some (.ref 27), some (.ref 51), some (.int v4), none, some (.int q79.1)], [.int (lg_cmp (q78.2 51 0) q79.1.toInt64)], xSt xG0 hc q79.2 xs q78.2 L c78 z78)) e 6 (by rfl)) ?_
                                by_cases q83 : (lg_cmp (q78.2 51 0) q79.1.toInt64) = 0
                                · replace H := (if_pos q83).symm.trans H
                                  refine ExI.of (fun _ e => Ex.itep (a := 568) (b := 566) (ls := [some (.ref 1000), some (.ref 0), some (.ref 27), some (.ref 51), some (.int v4), none, some (.int q79.1)]) (st := []) (S := xSt xG0 hc q79.2 xs q78.2 L c78 z78) (by rfl) q83 e) ?_
                                  refine ExI.of (fun _ e => Ex.kill (ls' := [some (.ref 1000), some (.ref 0), some (.ref 27), some (.ref 51), some (.int v4), none, none]) (by rfl) e) ?_
                                  exact T_l_law_568 (f_l_law_23 xs L n) n ih v4 hc q79.2 q78.2 c78 z78 r (by omega) H
                                · replace H := (if_neg q83).symm.trans H
                                  refine ExI.of (fun _ e => Ex.iten (a := 568) (b := 566) (ls := [some (.ref 1000), some (.ref 0), some (.ref 27), some (.ref 51), some (.int v4), none, some (.int q79.1)]) (st := []) (S := xSt xG0 hc q79.2 xs q78.2 L c78 z78) (by rfl) q83 e) ?_
                                  refine ExI.of (fun _ e => Ex.many (f' := (567, [none, none, none, none, none, none, none], [.int (0 : Int32)], xSt xG0 hc q79.2 xs q78.2 L c78 z78)) e 1 (by rfl)) ?_
                                  replace H := Option.some.inj H
                                  subst H
                                  exact ⟨_, Ex.done (by rfl)⟩
                              · replace H := (if_neg q82).symm.trans H
                                refine ExI.of (fun _ e => Ex.iten (a := 556) (b := 568) (ls := [some (.ref 1000), some (.ref 0), some (.ref 27), some (.ref 51), some (.int v4), some (.int q78.1), some (.int q79.1)]) (st := []) (S := xSt xG0 hc q79.2 xs q78.2 L c78 z78) (by rfl) q82 e) ?_
                                refine ExI.of (fun _ e => Ex.kill (ls' := [some (.ref 1000), some (.ref 0), some (.ref 27), some (.ref 51), some (.int v4), none, none]) (by rfl) e) ?_
                                exact T_l_law_568 (f_l_law_23 xs L n) n ih v4 hc q79.2 q78.2 c78 z78 r (by omega) H
                            · replace H := (if_neg q81).symm.trans H
                              refine ExI.of (fun _ e => Ex.iten (a := 551) (b := 549) (ls := [some (.ref 1000), some (.ref 0), some (.ref 27), some (.ref 51), some (.int v4), some (.int q78.1), some (.int q79.1)]) (st := []) (S := xSt xG0 hc q79.2 xs q78.2 L c78 z78) (by rfl) q81 e) ?_
                              refine ExI.of (fun _ e => Ex.many (f' := (550, [none, none, none, none, none, none, none], [.int (0 : Int32)], xSt xG0 hc q79.2 xs q78.2 L c78 z78)) e 1 (by rfl)) ?_
                              replace H := Option.some.inj H
                              subst H
                              exact ⟨_, Ex.done (by rfl)⟩
                          · replace H := (if_neg q77).symm.trans H
                            by_cases q84 : ((xs v4.toNatClampNeg) &&& (15 : Int32)) = (11 : Int32)
                            · replace H := (if_pos q84).symm.trans H
                              refine ExI.of (fun _ e => Ex.sw (t := 571) (ls := [some (.ref 1000), some (.ref 0), some (.ref 27), some (.ref 51), some (.int v4), none, none]) (st := []) (S := xSt xG0 hc hr xs g L c z) e (by rfl) (by rw [q84]; rfl)) ?_
                              refine ExI.of (fun _ e => Ex.many (f' := (577, [some (.ref 1000), some (.ref 0), some (.ref 27), some (.ref 51), some (.int v4), none, none], [.int (v4 + (1 : Int32)), .ref 1000, .ref 0], xSt xG0 hc hr xs g L c z)) e 5 (by rfl)) ?_
                              obtain ⟨g85, H⟩ := xgd_some H
                              refine ExI.of (fun _ e => Ex.guard (f' := (578, [some (.ref 1000), some (.ref 0), some (.ref 27), some (.ref 51), some (.int v4), none, none], [.int (xs (v4 + (1 : Int32)).toNatClampNeg), .ref 0], xSt xG0 hc hr xs g L c z)) (by rfl) g85 e) ?_
                              refine ExI.of (fun _ e => Ex.call (mk := 59) (vs := [.ref 0, .int (xs (v4 + (1 : Int32)).toNatClampNeg)]) (rest := []) (by rfl) (by rfl) (Ex.up (T_w_look (xs (v4 + (1 : Int32)).toNatClampNeg) hc _ rfl) (by decide)) (xbb c z) e) ?_
                              show ExI _ _ (581, [some (.ref 1000), some (.ref 0), some (.ref 27), some (.ref 51), some (.int v4), none, none], [.int (f_w_look (xs (v4 + (1 : Int32)).toNatClampNeg) hc)], xSt xG0 hc hr xs g L c z) _
                              refine ExI.of (fun _ e => Ex.many (f' := (587, [some (.ref 1000), some (.ref 0), some (.ref 27), some (.ref 51), some (.int v4), none, none], [.int (v4 + (1 : Int32)), .ref 1000, .ref 27, .int (f_w_look (xs (v4 + (1 : Int32)).toNatClampNeg) hc)], xSt xG0 hc hr xs g L c z)) e 5 (by rfl)) ?_
                              obtain ⟨g87, H⟩ := xgd_some H
                              refine ExI.of (fun _ e => Ex.guard (f' := (588, [some (.ref 1000), some (.ref 0), some (.ref 27), some (.ref 51), some (.int v4), none, none], [.int (xs (v4 + (1 : Int32)).toNatClampNeg), .ref 27, .int (f_w_look (xs (v4 + (1 : Int32)).toNatClampNeg) hc)], xSt xG0 hc hr xs g L c z)) (by rfl) g87 e) ?_
                              obtain ⟨q88, hq88, H⟩ := xbd H
                              refine ExI.of (fun _ e => Ex.call (mk := 165) (vs := [.ref 27, .int (xs (v4 + (1 : Int32)).toNatClampNeg)]) (rest := [.int (f_w_look (xs (v4 + (1 : Int32)).toNatClampNeg) hc)]) (by rfl) (by rfl) (Ex.up (T_m_look (xs (v4 + (1 : Int32)).toNatClampNeg) hr q88 hq88) (by decide)) (xbb c z) e) ?_
                              show ExI _ _ (591, [some (.ref 1000), some (.ref 0), some (.ref 27), some (.ref 51), some (.int v4), none, none], [.int q88.1, .int (f_w_look (xs (v4 + (1 : Int32)).toNatClampNeg) hc)], xSt xG0 hc q88.2 xs g L c z) _
                              by_cases q89 : (f_w_look (xs (v4 + (1 : Int32)).toNatClampNeg) hc) = q88.1
                              · replace H := (if_pos q89).symm.trans H
                                refine ExI.of (fun _ e => Ex.itep (a := 726) (b := 594) (ls := [some (.ref 1000), some (.ref 0), some (.ref 27), some (.ref 51), some (.int v4), none, none]) (st := []) (S := xSt xG0 hc q88.2 xs g L c z) (by rfl) q89 e) ?_
                                exact T_l_law_726 (f_l_law_23 xs L n) n ih v4 hc q88.2 g c z r (by omega) H
                              · replace H := (if_neg q89).symm.trans H
                                refine ExI.of (fun _ e => Ex.iten (a := 726) (b := 594) (ls := [some (.ref 1000), some (.ref 0), some (.ref 27), some (.ref 51), some (.int v4), none, none]) (st := []) (S := xSt xG0 hc q88.2 xs g L c z) (by rfl) q89 e) ?_
                                refine ExI.of (fun _ e => Ex.many (f' := (595, [none, none, none, none, none, none, none], [.int (0 : Int32)], xSt xG0 hc q88.2 xs g L c z)) e 1 (by rfl)) ?_
                                replace H := Option.some.inj H
                                subst H
                                exact ⟨_, Ex.done (by rfl)⟩
                            · replace H := (if_neg q84).symm.trans H
                              by_cases q90 : ((xs v4.toNatClampNeg) &&& (15 : Int32)) = (12 : Int32)
                              · replace H := (if_pos q90).symm.trans H
                                refine ExI.of (fun _ e => Ex.sw (t := 596) (ls := [some (.ref 1000), some (.ref 0), some (.ref 27), some (.ref 51), some (.int v4), none, none]) (st := []) (S := xSt xG0 hc hr xs g L c z) e (by rfl) (by rw [q90]; rfl)) ?_
                                refine ExI.of (fun _ e => Ex.many (f' := (602, [some (.ref 1000), some (.ref 0), some (.ref 27), some (.ref 51), some (.int v4), none, none], [.int (v4 + (1 : Int32)), .ref 1000, .ref 0], xSt xG0 hc hr xs g L c z)) e 5 (by rfl)) ?_
                                obtain ⟨g91, H⟩ := xgd_some H
                                refine ExI.of (fun _ e => Ex.guard (f' := (603, [some (.ref 1000), some (.ref 0), some (.ref 27), some (.ref 51), some (.int v4), none, none], [.int (xs (v4 + (1 : Int32)).toNatClampNeg), .ref 0], xSt xG0 hc hr xs g L c z)) (by rfl) g91 e) ?_
                                refine ExI.of (fun _ e => Ex.many (f' := (608, [some (.ref 1000), some (.ref 0), some (.ref 27), some (.ref 51), some (.int v4), none, none], [.int (v4 + (2 : Int32)), .ref 1000, .int (xs (v4 + (1 : Int32)).toNatClampNeg), .ref 0], xSt xG0 hc hr xs g L c z)) e 4 (by rfl)) ?_
                                obtain ⟨g92, H⟩ := xgd_some H
                                refine ExI.of (fun _ e => Ex.guard (f' := (609, [some (.ref 1000), some (.ref 0), some (.ref 27), some (.ref 51), some (.int v4), none, none], [.int (xs (v4 + (2 : Int32)).toNatClampNeg), .int (xs (v4 + (1 : Int32)).toNatClampNeg), .ref 0], xSt xG0 hc hr xs g L c z)) (by rfl) g92 e) ?_
                                refine ExI.of (fun _ e => Ex.many (f' := (610, [some (.ref 1000), some (.ref 0), some (.ref 27), some (.ref 51), some (.int v4), none, none], [.ref 51, .int (xs (v4 + (2 : Int32)).toNatClampNeg), .int (xs (v4 + (1 : Int32)).toNatClampNeg), .ref 0], xSt xG0 hc hr xs g L c z)) e 1 (by rfl)) ?_
                                obtain ⟨q93, hq93, H⟩ := xbd H
                                obtain ⟨c93, z93, hb93, hT93⟩ := T_l_value (c := c) (z := z) (by omega) (xs (v4 + (1 : Int32)).toNatClampNeg) (xs (v4 + (2 : Int32)).toNatClampNeg) hc g q93 hq93
                                refine ExI.of (fun _ e => Ex.call (mk := 104) (vs := [.ref 0, .int (xs (v4 + (1 : Int32)).toNatClampNeg), .int (xs (v4 + (2 : Int32)).toNatClampNeg), .ref 51]) (rest := []) (by rfl) (by rfl) (Ex.up (hT93) (by decide)) (xbl hb93) e) ?_
                                show ExI _ _ (613, [some (.ref 1000), some (.ref 0), some (.ref 27), some (.ref 51), some (.int v4), none, none], [.int q93.1], xSt xG0 hc hr xs q93.2 L c93 z93) _
                                refine ExI.of (fun _ e => Ex.many (f' := (621, [some (.ref 1000), some (.ref 0), some (.ref 27), some (.ref 51), some (.int v4), some (.int q93.1), none], [.int (v4 + (1 : Int32)), .ref 1000, .ref 27], xSt xG0 hc hr xs q93.2 L c93 z93)) e 6 (by rfl)) ?_
                                obtain ⟨g94, H⟩ := xgd_some H
                                refine ExI.of (fun _ e => Ex.guard (f' := (622, [some (.ref 1000), some (.ref 0), some (.ref 27), some (.ref 51), some (.int v4), some (.int q93.1), none], [.int (xs (v4 + (1 : Int32)).toNatClampNeg), .ref 27], xSt xG0 hc hr xs q93.2 L c93 z93)) (by rfl) g94 e) ?_
                                refine ExI.of (fun _ e => Ex.many (f' := (627, [some (.ref 1000), some (.ref 0), some (.ref 27), some (.ref 51), some (.int v4), some (.int q93.1), none], [.int (v4 + (2 : Int32)), .ref 1000, .int (xs (v4 + (1 : Int32)).toNatClampNeg), .ref 27], xSt xG0 hc hr xs q93.2 L c93 z93)) e 4 (by rfl)) ?_
                                obtain ⟨g95, H⟩ := xgd_some H
                                refine ExI.of (fun _ e => Ex.guard (f' := (628, [some (.ref 1000), some (.ref 0), some (.ref 27), some (.ref 51), some (.int v4), some (.int q93.1), none], [.int (xs (v4 + (2 : Int32)).toNatClampNeg), .int (xs (v4 + (1 : Int32)).toNatClampNeg), .ref 27], xSt xG0 hc hr xs q93.2 L c93 z93)) (by rfl) g95 e) ?_
                                obtain ⟨q96, hq96, H⟩ := xbd H
                                refine ExI.of (fun _ e => Ex.call (mk := 166) (vs := [.ref 27, .int (xs (v4 + (1 : Int32)).toNatClampNeg), .int (xs (v4 + (2 : Int32)).toNatClampNeg)]) (rest := []) (by rfl) (by rfl) (Ex.up (T_m_value (xs (v4 + (1 : Int32)).toNatClampNeg) (xs (v4 + (2 : Int32)).toNatClampNeg) hr q96 hq96) (by decide)) (xbb c93 z93) e) ?_
                                show ExI _ _ (631, [some (.ref 1000), some (.ref 0), some (.ref 27), some (.ref 51), some (.int v4), some (.int q93.1), none], [.int q96.1], xSt xG0 hc q96.2 xs q93.2 L c93 z93) _
                                refine ExI.of (fun _ e => Ex.many (f' := (634, [some (.ref 1000), some (.ref 0), some (.ref 27), some (.ref 51), some (.int v4), some (.int q93.1), some (.int q96.1)], [.ref 27], xSt xG0 hc q96.2 xs q93.2 L c93 z93)) e 2 (by rfl)) ?_
                                refine ExI.of (fun _ e => Ex.call (mk := 110) (vs := [.ref 27]) (rest := []) (by rfl) (by rfl) (Ex.up (T_m_thrown q96.2 _ rfl) (by decide)) (xbb c93 z93) e) ?_
                                show ExI _ _ (637, [some (.ref 1000), some (.ref 0), some (.ref 27), some (.ref 51), some (.int v4), some (.int q93.1), some (.int q96.1)], [.int (f_m_thrown q96.2)], xSt xG0 hc q96.2 xs q93.2 L c93 z93) _
                                refine ExI.of (fun _ e => Ex.many (f' := (639, [some (.ref 1000), some (.ref 0), some (.ref 27), some (.ref 51), some (.int v4), some (.int q93.1), some (.int q96.1)], [.int q93.1, .int (f_m_thrown q96.2)], xSt xG0 hc q96.2 xs q93.2 L c93 z93)) e 1 (by rfl)) ?_
                                by_cases q98 : (f_m_thrown q96.2) = q93.1
                                · replace H := (if_pos q98).symm.trans H
                                  refine ExI.of (fun _ e => Ex.itep (a := 644) (b := 642) (ls := [some (.ref 1000), some (.ref 0), some (.ref 27), some (.ref 51), some (.int v4), some (.int q93.1), some (.int q96.1)]) (st := []) (S := xSt xG0 hc q96.2 xs q93.2 L c93 z93) (by rfl) q98 e) ?_
                                  refine ExI.of (fun _ e => Ex.many (f' := (646, [some (.ref 1000), some (.ref 0), some (.ref 27), some (.ref 51), some (.int v4), some (.int q93.1), some (.int q96.1)], [.int q93.1], xSt xG0 hc q96.2 xs q93.2 L c93 z93)) e 1 (by rfl)) ?_
                                  by_cases q99 : q93.1 = 0
                                  · replace H := (if_pos q99).symm.trans H
                                    refine ExI.of (fun _ e => Ex.itep (a := 649) (b := 661) (ls := [some (.ref 1000), some (.ref 0), some (.ref 27), some (.ref 51), some (.int v4), some (.int q93.1), some (.int q96.1)]) (st := []) (S := xSt xG0 hc q96.2 xs q93.2 L c93 z93) (by rfl) q99 e) ?_
                                    refine ExI.of (fun _ e => Ex.many (f' := (656, [some (.ref 1000), some (.ref 0), some (.ref 27), some (.ref 51), some (.int v4), none, some (.int q96.1)], [.int (lg_cmp (q93.2 51 0) q96.1.toInt64)], xSt xG0 hc q96.2 xs q93.2 L c93 z93)) e 6 (by rfl)) ?_
                                    by_cases q100 : (lg_cmp (q93.2 51 0) q96.1.toInt64) = 0
                                    · replace H := (if_pos q100).symm.trans H
                                      refine ExI.of (fun _ e => Ex.itep (a := 661) (b := 659) (ls := [some (.ref 1000), some (.ref 0), some (.ref 27), some (.ref 51), some (.int v4), none, some (.int q96.1)]) (st := []) (S := xSt xG0 hc q96.2 xs q93.2 L c93 z93) (by rfl) q100 e) ?_
                                      refine ExI.of (fun _ e => Ex.kill (ls' := [some (.ref 1000), some (.ref 0), some (.ref 27), some (.ref 51), some (.int v4), none, none]) (by rfl) e) ?_
                                      exact T_l_law_661 (f_l_law_23 xs L n) n ih v4 hc q96.2 q93.2 c93 z93 r (by omega) H
                                    · replace H := (if_neg q100).symm.trans H
                                      refine ExI.of (fun _ e => Ex.iten (a := 661) (b := 659) (ls := [some (.ref 1000), some (.ref 0), some (.ref 27), some (.ref 51), some (.int v4), none, some (.int q96.1)]) (st := []) (S := xSt xG0 hc q96.2 xs q93.2 L c93 z93) (by rfl) q100 e) ?_
                                      refine ExI.of (fun _ e => Ex.many (f' := (660, [none, none, none, none, none, none, none], [.int (0 : Int32)], xSt xG0 hc q96.2 xs q93.2 L c93 z93)) e 1 (by rfl)) ?_
                                      replace H := Option.some.inj H
                                      subst H
                                      exact ⟨_, Ex.done (by rfl)⟩
                                  · replace H := (if_neg q99).symm.trans H
                                    refine ExI.of (fun _ e => Ex.iten (a := 649) (b := 661) (ls := [some (.ref 1000), some (.ref 0), some (.ref 27), some (.ref 51), some (.int v4), some (.int q93.1), some (.int q96.1)]) (st := []) (S := xSt xG0 hc q96.2 xs q93.2 L c93 z93) (by rfl) q99 e) ?_
                                    refine ExI.of (fun _ e => Ex.kill (ls' := [some (.ref 1000), some (.ref 0), some (.ref 27), some (.ref 51), some (.int v4), none, none]) (by rfl) e) ?_
                                    exact T_l_law_661 (f_l_law_23 xs L n) n ih v4 hc q96.2 q93.2 c93 z93 r (by omega) H
                                · replace H := (if_neg q98).symm.trans H
                                  refine ExI.of (fun _ e => Ex.iten (a := 644) (b := 642) (ls := [some (.ref 1000), some (.ref 0), some (.ref 27), some (.ref 51), some (.int v4), some (.int q93.1), some (.int q96.1)]) (st := []) (S := xSt xG0 hc q96.2 xs q93.2 L c93 z93) (by rfl) q98 e) ?_
                                  refine ExI.of (fun _ e => Ex.many (f' := (643, [none, none, none, none, none, none, none], [.int (0 : Int32)], xSt xG0 hc q96.2 xs q93.2 L c93 z93)) e 1 (by rfl)) ?_
                                  replace H := Option.some.inj H
                                  subst H
                                  exact ⟨_, Ex.done (by rfl)⟩
                              · replace H := (if_neg q90).symm.trans H
                                by_cases q101 : ((xs v4.toNatClampNeg) &&& (15 : Int32)) = (13 : Int32)
                                · replace H := (if_pos q101).symm.trans H
                                  refine ExI.of (fun _ e => Ex.sw (t := 664) (ls := [some (.ref 1000), some (.ref 0), some (.ref 27), some (.ref 51), some (.int v4), none, none]) (st := []) (S := xSt xG0 hc hr xs g L c z) e (by rfl) (by rw [q101]; rfl)) ?_
                                  refine ExI.of (fun _ e => Ex.many (f' := (670, [some (.ref 1000), some (.ref 0), some (.ref 27), some (.ref 51), some (.int v4), none, none], [.int (v4 + (1 : Int32)), .ref 1000, .ref 0], xSt xG0 hc hr xs g L c z)) e 5 (by rfl)) ?_
                                  obtain ⟨g102, H⟩ := xgd_some H
                                  refine ExI.of (fun _ e => Ex.guard (f' := (671, [some (.ref 1000), some (.ref 0), some (.ref 27), some (.ref 51), some (.int v4), none, none], [.int (xs (v4 + (1 : Int32)).toNatClampNeg), .ref 0], xSt xG0 hc hr xs g L c z)) (by rfl) g102 e) ?_
                                  obtain ⟨q103, hq103, H⟩ := xbd H
                                  refine ExI.of (fun _ e => Ex.call (mk := 60) (vs := [.ref 0, .int (xs (v4 + (1 : Int32)).toNatClampNeg)]) (rest := []) (by rfl) (by rfl) (Ex.up (T_w_peek (xs (v4 + (1 : Int32)).toNatClampNeg) hc q103 hq103) (by decide)) (xbb c z) e) ?_
                                  show ExI _ _ (674, [some (.ref 1000), some (.ref 0), some (.ref 27), some (.ref 51), some (.int v4), none, none], [.int q103], xSt xG0 hc hr xs g L c z) _
                                  refine ExI.of (fun _ e => Ex.many (f' := (680, [some (.ref 1000), some (.ref 0), some (.ref 27), some (.ref 51), some (.int v4), none, none], [.int (v4 + (1 : Int32)), .ref 1000, .ref 27, .int q103], xSt xG0 hc hr xs g L c z)) e 5 (by rfl)) ?_
                                  obtain ⟨g104, H⟩ := xgd_some H
                                  refine ExI.of (fun _ e => Ex.guard (f' := (681, [some (.ref 1000), some (.ref 0), some (.ref 27), some (.ref 51), some (.int v4), none, none], [.int (xs (v4 + (1 : Int32)).toNatClampNeg), .ref 27, .int q103], xSt xG0 hc hr xs g L c z)) (by rfl) g104 e) ?_
                                  obtain ⟨q105, hq105, H⟩ := xbd H
                                  refine ExI.of (fun _ e => Ex.call (mk := 167) (vs := [.ref 27, .int (xs (v4 + (1 : Int32)).toNatClampNeg)]) (rest := [.int q103]) (by rfl) (by rfl) (Ex.up (T_m_peek (xs (v4 + (1 : Int32)).toNatClampNeg) hr q105 hq105) (by decide)) (xbb c z) e) ?_
                                  show ExI _ _ (684, [some (.ref 1000), some (.ref 0), some (.ref 27), some (.ref 51), some (.int v4), none, none], [.int q105.1, .int q103], xSt xG0 hc q105.2 xs g L c z) _
                                  by_cases q106 : q103 = q105.1
                                  · replace H := (if_pos q106).symm.trans H
                                    refine ExI.of (fun _ e => Ex.itep (a := 726) (b := 687) (ls := [some (.ref 1000), some (.ref 0), some (.ref 27), some (.ref 51), some (.int v4), none, none]) (st := []) (S := xSt xG0 hc q105.2 xs g L c z) (by rfl) q106 e) ?_
                                    exact T_l_law_726 (f_l_law_23 xs L n) n ih v4 hc q105.2 g c z r (by omega) H
                                  · replace H := (if_neg q106).symm.trans H
                                    refine ExI.of (fun _ e => Ex.iten (a := 726) (b := 687) (ls := [some (.ref 1000), some (.ref 0), some (.ref 27), some (.ref 51), some (.int v4), none, none]) (st := []) (S := xSt xG0 hc q105.2 xs g L c z) (by rfl) q106 e) ?_
                                    refine ExI.of (fun _ e => Ex.many (f' := (688, [none, none, none, none, none, none, none], [.int (0 : Int32)], xSt xG0 hc q105.2 xs g L c z)) e 1 (by rfl)) ?_
                                    replace H := Option.some.inj H
                                    subst H
                                    exact ⟨_, Ex.done (by rfl)⟩
                                · replace H := (if_neg q101).symm.trans H
                                  by_cases q107 : ((xs v4.toNatClampNeg) &&& (15 : Int32)) = (14 : Int32)
                                  · replace H := (if_pos q107).symm.trans H
                                    refine ExI.of (fun _ e => Ex.sw (t := 689) (ls := [some (.ref 1000), some (.ref 0), some (.ref 27), some (.ref 51), some (.int v4), none, none]) (st := []) (S := xSt xG0 hc hr xs g L c z) e (by rfl) (by rw [q107]; rfl)) ?_
                                    refine ExI.of (fun _ e => Ex.many (f' := (695, [some (.ref 1000), some (.ref 0), some (.ref 27), some (.ref 51), some (.int v4), none, none], [.int (v4 + (1 : Int32)), .ref 1000, .ref 0], xSt xG0 hc hr xs g L c z)) e 5 (by rfl)) ?_
                                    obtain ⟨g108, H⟩ := xgd_some H
                                    refine ExI.of (fun _ e => Ex.guard (f' := (696, [some (.ref 1000), some (.ref 0), some (.ref 27), some (.ref 51), some (.int v4), none, none], [.int (xs (v4 + (1 : Int32)).toNatClampNeg), .ref 0], xSt xG0 hc hr xs g L c z)) (by rfl) g108 e) ?_
                                    refine ExI.of (fun _ e => Ex.many (f' := (701, [some (.ref 1000), some (.ref 0), some (.ref 27), some (.ref 51), some (.int v4), none, none], [.int (v4 + (2 : Int32)), .ref 1000, .int (xs (v4 + (1 : Int32)).toNatClampNeg), .ref 0], xSt xG0 hc hr xs g L c z)) e 4 (by rfl)) ?_
                                    obtain ⟨g109, H⟩ := xgd_some H
                                    refine ExI.of (fun _ e => Ex.guard (f' := (702, [some (.ref 1000), some (.ref 0), some (.ref 27), some (.ref 51), some (.int v4), none, none], [.int (xs (v4 + (2 : Int32)).toNatClampNeg), .int (xs (v4 + (1 : Int32)).toNatClampNeg), .ref 0], xSt xG0 hc hr xs g L c z)) (by rfl) g109 e) ?_
                                    obtain ⟨q110, hq110, H⟩ := xbd H
                                    refine ExI.of (fun _ e => Ex.call (mk := 61) (vs := [.ref 0, .int (xs (v4 + (1 : Int32)).toNatClampNeg), .int (xs (v4 + (2 : Int32)).toNatClampNeg)]) (rest := []) (by rfl) (by rfl) (Ex.up (T_w_poke (xs (v4 + (1 : Int32)).toNatClampNeg) (xs (v4 + (2 : Int32)).toNatClampNeg) hc q110 hq110) (by decide)) (xbb c z) e) ?_
                                    show ExI _ _ (705, [some (.ref 1000), some (.ref 0), some (.ref 27), some (.ref 51), some (.int v4), none, none], [.int q110.1], xSt xG0 q110.2 hr xs g L c z) _
                                    refine ExI.of (fun _ e => Ex.many (f' := (711, [some (.ref 1000), some (.ref 0), some (.ref 27), some (.ref 51), some (.int v4), none, none], [.int (v4 + (1 : Int32)), .ref 1000, .ref 27, .int q110.1], xSt xG0 q110.2 hr xs g L c z)) e 5 (by rfl)) ?_
                                    obtain ⟨g111, H⟩ := xgd_some H
                                    refine ExI.of (fun _ e => Ex.guard (f' := (712, [some (.ref 1000), some (.ref 0), some (.ref 27), some (.ref 51), some (.int v4), none, none], [.int (xs (v4 + (1 : Int32)).toNatClampNeg), .ref 27, .int q110.1], xSt xG0 q110.2 hr xs g L c z)) (by rfl) g111 e) ?_
                                    refine ExI.of (fun _ e => Ex.many (f' := (717, [some (.ref 1000), some (.ref 0), some (.ref 27), some (.ref 51), some (.int v4), none, none], [.int (v4 + (2 : Int32)), .ref 1000, .int (xs (v4 + (1 : Int32)).toNatClampNeg), .ref 27, .int q110.1], xSt xG0 q110.2 hr xs g L c z)) e 4 (by rfl)) ?_
                                    obtain ⟨g112, H⟩ := xgd_some H
                                    refine ExI.of (fun _ e => Ex.guard (f' := (718, [some (.ref 1000), some (.ref 0), some (.ref 27), some (.ref 51), some (.int v4), none, none], [.int (xs (v4 + (2 : Int32)).toNatClampNeg), .int (xs (v4 + (1 : Int32)).toNatClampNeg), .ref 27, .int q110.1], xSt xG0 q110.2 hr xs g L c z)) (by rfl) g112 e) ?_
                                    obtain ⟨q113, hq113, H⟩ := xbd H
                                    refine ExI.of (fun _ e => Ex.call (mk := 168) (vs := [.ref 27, .int (xs (v4 + (1 : Int32)).toNatClampNeg), .int (xs (v4 + (2 : Int32)).toNatClampNeg)]) (rest := [.int q110.1]) (by rfl) (by rfl) (Ex.up (T_m_poke (xs (v4 + (1 : Int32)).toNatClampNeg) (xs (v4 + (2 : Int32)).toNatClampNeg) hr q113 hq113) (by decide)) (xbb c z) e) ?_
                                    show ExI _ _ (721, [some (.ref 1000), some (.ref 0), some (.ref 27), some (.ref 51), some (.int v4), none, none], [.int q113.1, .int q110.1], xSt xG0 q110.2 q113.2 xs g L c z) _
                                    by_cases q114 : q110.1 = q113.1
                                    · replace H := (if_pos q114).symm.trans H
                                      refine ExI.of (fun _ e => Ex.itep (a := 726) (b := 724) (ls := [some (.ref 1000), some (.ref 0), some (.ref 27), some (.ref 51), some (.int v4), none, none]) (st := []) (S := xSt xG0 q110.2 q113.2 xs g L c z) (by rfl) q114 e) ?_
                                      exact T_l_law_726 (f_l_law_23 xs L n) n ih v4 q110.2 q113.2 g c z r (by omega) H
                                    · replace H := (if_neg q114).symm.trans H
                                      refine ExI.of (fun _ e => Ex.iten (a := 726) (b := 724) (ls := [some (.ref 1000), some (.ref 0), some (.ref 27), some (.ref 51), some (.int v4), none, none]) (st := []) (S := xSt xG0 q110.2 q113.2 xs g L c z) (by rfl) q114 e) ?_
                                      refine ExI.of (fun _ e => Ex.many (f' := (725, [none, none, none, none, none, none, none], [.int (0 : Int32)], xSt xG0 q110.2 q113.2 xs g L c z)) e 1 (by rfl)) ?_
                                      replace H := Option.some.inj H
                                      subst H
                                      exact ⟨_, Ex.done (by rfl)⟩
                                  · replace H := (if_neg q107).symm.trans H
                                    refine ExI.of (fun _ e => Ex.sw (t := 726) (ls := [some (.ref 1000), some (.ref 0), some (.ref 27), some (.ref 51), some (.int v4), none, none]) (st := []) (S := xSt xG0 hc hr xs g L c z) e (by rfl) (xtsw_d [(0 : Int32), (1 : Int32), (2 : Int32), (3 : Int32), (4 : Int32), (5 : Int32), (6 : Int32), (7 : Int32), (8 : Int32), (9 : Int32), (10 : Int32), (11 : Int32), (12 : Int32), (13 : Int32), (14 : Int32)] (by decide +kernel) (by decide +kernel) (List.forall_mem_cons.mpr ⟨fun e => q3 e, (List.forall_mem_cons.mpr ⟨fun e => q16 e, (List.forall_mem_cons.mpr ⟨fun e => q25 e, (List.forall_mem_cons.mpr ⟨fun e => q38 e, (List.forall_mem_cons.mpr ⟨fun e => q45 e, (List.forall_mem_cons.mpr ⟨fun e => q51 e, (List.forall_mem_cons.mpr ⟨fun e => q54 e, (List.forall_mem_cons.mpr ⟨fun e => q60 e, (List.forall_mem_cons.mpr ⟨fun e => q67 e, (List.forall_mem_cons.mpr ⟨fun e => q73 e, (List.forall_mem_cons.mpr ⟨fun e => q77 e, (List.forall_mem_cons.mpr ⟨fun e => q84 e, (List.forall_mem_cons.mpr ⟨fun e => q90 e, (List.forall_mem_cons.mpr ⟨fun e => q101 e, (List.forall_mem_cons.mpr ⟨fun e => q107 e, (fun _ h => absurd h List.not_mem_nil)⟩)⟩)⟩)⟩)⟩)⟩)⟩)⟩)⟩)⟩)⟩)⟩)⟩)⟩)⟩))) ?_
                                    exact T_l_law_726 (f_l_law_23 xs L n) n ih v4 hc hr g c z r (by omega) H
def f_l_law (xs : Nat → Int32) (L : Nat) (hc : xI) (hr : xI) (g : xJ) : Option Int32 :=
  f_l_law_23 xs L 600 (0 : Int32) hc hr g
set_option maxRecDepth 100000 in
theorem T_l_law {xs : Nat → Int32} {L : Nat} (hc : xI) (hr : xI) (g : xJ) (c z : Nat) (r : Int32) (hb : 600 ≤ c ∧ 6 * 600 ≤ z) (H : f_l_law xs L hc hr g = some r) : ExI 9 999 (20, [some (.ref 1000), some (.ref 0), some (.ref 27), some (.ref 51), none, none, none], [], xSt xG0 hc hr xs g L c z) r := by
  unfold f_l_law at H
  refine ExI.of (fun _ e => Ex.many (f' := (23, [some (.ref 1000), some (.ref 0), some (.ref 27), some (.ref 51), some (.int (0 : Int32)), none, none], [], xSt xG0 hc hr xs g L c z)) e 2 (by rfl)) ?_
  exact T_l_law_23 600 (0 : Int32) hc hr g c z r (by omega) H
