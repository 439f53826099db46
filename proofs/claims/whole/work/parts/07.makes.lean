/-! New cells; calls without a body. -/
def xad (ad : Nat → Nat) (n q : Nat) : Nat → Nat := fun k => if k = n then q else ad k
theorem xad_ne {ad : Nat → Nat} {n q k : Nat} (h : k ≠ n) : xad ad n q k = ad k := if_neg h
theorem xad_self {ad : Nat → Nat} {n q : Nat} : xad ad n q n = q := if_pos rfl
section XM
variable {M : xM} {d : Nat} {p : Program} {l : Launch} {e : Env} {R : Room} {s : State} {m : MethodId} {args : Array Value} {below : List Frame} {meth : Method} {c : Code} {D : va_G} {dA : Nat → ClassId} {A : Nat → Prop} {n0 : Nat} {ad0 : Nat → Nat} {E : xP0} {Q : State → Prop}
variable {pc len dat : Nat} {ls : List (Option Value)} {st : List Value} {S : xS} {f' : xF}
theorem xv_ag {ad ad' : Nat → Nat} {v : Value} (h : ∀ k, v = .ref k → ad' k = ad k) : xv ad' v = xv ad v := by
  cases v with
  | ref k => show Value.ref (ad' k) = Value.ref (ad k); rw [h k rfl]
  | _ => rfl
theorem xE_ag {ad ad' : Nat → Nat} {h h' : xI} {g g' : xJ} {k : Nat} {q : xG} (hh : h' k = h k) (hg : g' k = g k) (hv : ∀ (o : Nat × List (Option Value)) (j v : Nat), q = .inl o → o.2[j]? = some (some (.ref v)) → ad' v = ad v) : xE ad' dA h' g' k q = xE ad dA h g k q := by
  cases q with
  | inl o =>
    show Sum.inr (o.1, xfld ad' h' k o.2) = Sum.inr (o.1, xfld ad h k o.2)
    have : xfld ad' h' k o.2 = xfld ad h k o.2 := by
      apply List.ext_getElem?
      intro j
      simp only [xfld, List.getElem?_mapIdx]
      cases ho : o.2[j]? with
      | none => rfl
      | some w =>
        cases w with
        | none => simp [xfd, hh]
        | some v =>
          simp only [Option.map_some, xfd]
          rw [xv_ag (fun k2 hk2 => hv o j k2 rfl (by rw [ho, hk2]))]
    rw [this]
  | inr a => simp only [xE, hh, hg]
/-- the world behind a new cell -/
theorem xW_push {ad : Nat → Nat} {G : List xG} {h h' : xI} {g g' : xJ} {z z' : Nat × Nat × Nat} {q0 : xG} {a : Nat} {en : va_E} (hw : xwG G) (hh : ∀ k, k ≠ G.length → h' k = h k ∧ g' k = g k) (he : xE (xad ad G.length a) dA h' g' G.length q0 = en) :
    xW (xad ad G.length a) dA (G ++ [q0], h', g', z') = xW ad dA (G, h, g, z) ++ [(a, en)] := by
  subst he
  apply List.ext_getElem?
  intro j
  by_cases hj : j < G.length
  · have hq := List.getElem?_eq_getElem hj
    rw [List.getElem?_append_left (by rw [xW_len]; exact hj), xW_at (S := (G, h, g, z)) hq, xW_at (S := (G ++ [q0], h', g', z')) (q := G[j]) (by show (G ++ [q0])[j]? = _; rw [List.getElem?_append_left hj]; exact hq)]
    obtain ⟨e1, e2⟩ := hh j (by omega)
    show some (xad ad G.length a j, xE (xad ad G.length a) dA h' g' j G[j]) = some (ad j, xE ad dA h g j G[j])
    rw [xad_ne (by omega), xE_ag e1 e2 (fun o i v ho hi => xad_ne (by have := hw j o i v (by rw [hq, ho]) hi; omega))]
  · by_cases hj2 : j = G.length
    · subst hj2
      rw [List.getElem?_append_right (by rw [xW_len]; exact Nat.le_refl _), xW_at (S := (G ++ [q0], h', g', z')) (q := q0) (by show (G ++ [q0])[G.length]? = _; simp)]
      show some (xad ad G.length a G.length, _) = _
      rw [xad_self, xW_len]
      simp
    · rw [List.getElem?_eq_none (by rw [xW_len]; simp; omega), List.getElem?_eq_none (by simp [xW_len]; omega)]
theorem xwG_push {G : List xG} {q0 : xG} (hw : xwG G) (h0 : ∀ (o : Nat × List (Option Value)) (j v : Nat), q0 = .inl o → o.2[j]? ≠ some (some (.ref v))) : xwG (G ++ [q0]) := by
  intro k o j v hk hj
  rw [List.length_append]
  by_cases hl : k < G.length
  · rw [List.getElem?_append_left hl] at hk
    have := hw k o j v hk hj
    omega
  · rw [List.getElem?_append_right (by omega)] at hk
    have hz : k - G.length = 0 := by
      have := (List.getElem?_eq_some_iff.mp hk).1
      simp at this
      omega
    rw [hz] at hk
    cases hk
    exact absurd hj (h0 o j v rfl)
theorem xRel.push {ad : Nat → Nat} {H H1 : Heap} {locs locs1 : List Loc} {cells slots a w : Nat} {h' : xI} {g' : xJ} {q0 : xG} {en : va_E} (hR : xRel D dA A s R n0 ad0 E ad S H locs cells slots) (hlt : S.1.length < 1000) (hh : ∀ k, k ≠ S.1.length → h' k = S.2.1 k ∧ g' k = S.2.2.1 k)
    (h0 : ∀ (o : Nat × List (Option Value)) (j v : Nat), q0 = .inl o → o.2[j]? ≠ some (some (.ref v))) (he : xE (xad ad S.1.length a) dA h' g' S.1.length q0 = en) (hc : S.2.2.2.2.1 ≠ 0) (hz : w ≤ S.2.2.2.2.2)
    (hP : va_P D xcl (xW ad dA S ++ [(a, en)]) H1) (hD : va_D A (xW ad dA S ++ [(a, en)])) (hS : va_S A s.heap H1 locs1) :
    xRel D dA A s R n0 ad0 E (xad ad S.1.length a) (S.1 ++ [q0], h', g', S.2.2.2.1, S.2.2.2.2.1 - 1, S.2.2.2.2.2 - w) H1 locs1 (cells + 1) (slots + w) := by
  obtain ⟨G, h, g, L, cc, zz⟩ := S
  dsimp only at *
  have e1 := xW_push (dA := dA) (z := (L, cc, zz)) (z' := (L, cc - 1, zz - w)) hR.2.2.2.2.2.1 hh he
  rw [← e1] at hP hD
  obtain ⟨-, -, -, h4, h5, h6, h7, h8, h9, h10, h11, h12⟩ := hR
  dsimp only at *
  refine ⟨hP, hD, hS, ?_, ?_, xwG_push h6 h0, ?_, ?_, h9, ?_, ?_, fun k hk => ?_⟩
  · dsimp only; omega
  · dsimp only; omega
  · simp; omega
  · simp; omega
  · dsimp only
    rw [(hh xscr (by show (1000 : Nat) ≠ G.length; omega)).1]
    exact h10
  · rw [xad_ne (by show (1000 : Nat) ≠ G.length; omega)]
    exact h11
  · rw [xad_ne (by omega)]
    exact h12 k hk
theorem xad_ag {ad : Nat → Nat} {n a : Nat} (hlt : n < 1000) : ∀ k, k < n ∨ k = xscr → xad ad n a k = ad k := fun k hk => xad_ne (by have hk : k < n ∨ k = 1000 := hk; omega)
theorem xnb2 {a b : Bool} {α : Type} {f : Option α} {o : α} (h : (bif !(a && b) then none else f) = some o) : a = true ∧ b = true ∧ f = some o := by
  cases a <;> cases b <;> first | exact ⟨rfl, rfl, h⟩ | cases h
set_option maxHeartbeats 4000000 in
set_option maxRecDepth 100000 in
theorem xnext_new {ix : Nat} (X : xCtx M d p l R s m args meth c D dA A E) (hok : xOK M pc (.new ix, len, dat)) (h : xstep d (.new ix, len, dat) pc ls st S = some (.inl f'))
    (k : xGood M p l e R s m args below meth c D dA A n0 ad0 E Q f') : xGood M p l e R s m args below meth c D dA A n0 ad0 E Q (pc, ls, st, S) := by
  obtain ⟨hx, hb, hml, hown, hts, hK, hA, hini, hfr, hlo, -⟩ := X
  obtain ⟨hd, hw⟩ := hok
  intro ad H locs cells slots lsC hR0 hL0
  have hR : xRel D dA A s R n0 ad0 E ad S H locs cells slots := hR0
  have hL : xlv ad lsC M.2.2.2.1 ls := hL0
  dsimp only [xstep] at h
  cases hq : Nat.blt dat 100 with
  | false =>
    rw [hq] at h
    dsimp only [cond] at h
    split at h <;> cases h
  | true =>
    rw [hq] at h
    dsimp only [cond] at h
    obtain ⟨C, T, N, hc, w1, w2, w3, ks, hks, hlen, hkd⟩ := hw.2 (Nat.blt_eq.mp hq)
    dsimp only at hc w1 hks
    subst hlen
    rw [hks] at h
    dsimp only at h
    obtain ⟨hg, h⟩ := xif_inv h
    obtain ⟨o1, o2, h⟩ := xnb2 h
    cases h
    obtain ⟨hP, hD, hS, h4, h5, hwG, h7, h8, h9, h10, h11, h12⟩ := id hR
    have hlt : S.1.length < 1000 := by omega
    have hfs : ∀ (ad' : Nat → Nat), xfld ad' (xset S.2.1 S.1.length (fun _ => 0)) S.1.length ks = ks.map (fun o => match o with
        | none => Value.int 0
        | some _ => Value.null) := by
      intro ad'
      apply List.ext_getElem?
      intro j
      simp only [xfld, List.getElem?_mapIdx, List.getElem?_map]
      by_cases hj : j < ks.length
      · rcases hkd j hj with ⟨e1, -⟩ | ⟨e1, -⟩
        · rw [e1]; simp [xfd, xset]
        · rw [e1]; rfl
      · rw [List.getElem?_eq_none (by omega)]; rfl
    refine va_new (ci := dat) (fs := ks.map (fun o => match o with
        | none => Value.int 0
        | some _ => Value.null)) hx hb hts (xcl_ws hc) _ (xcl_ty hc) hown (hts _ w1) (hts _ w2) (hts _ w3) hK hP hD hS hA hc (fun j hj => ?_) (by omega) (by omega) hd (fun q H1 hP1 hD1 hS1 => ?_)
    · rcases hkd j hj with ⟨e1, e2⟩ | ⟨e1, ty, e2, e3⟩
      · rw [e2]
        simp [vp_V, e1, defaultValue]
      · rw [e2]
        simp [vp_V, e1, e3]
    · have hag := xad_ag (ad := ad) (a := q) hlt
      have e1 := k (xad ad S.1.length q) H1 locs (cells + 1) (slots + ks.length) lsC (by
        have := hR.push (a := q) (w := ks.length) (q0 := .inl (dat, ks)) (h' := xset S.2.1 S.1.length (fun _ => 0)) (g' := S.2.2.1) hlt (fun k hk => ⟨xset_ne hk, rfl⟩) (fun o j v ho hj => by
          cases ho
          by_cases hjN : j < ks.length
          · rcases hkd j hjN with ⟨e1, -⟩ | ⟨e1, -⟩
            · rw [e1] at hj; cases hj
            · rw [e1] at hj; cases hj
          · rw [List.getElem?_eq_none (by dsimp only; omega)] at hj
            cases hj) (by show Sum.inr (dat, xfld _ _ _ ks) = _; rw [hfs]) (by omega) (by omega) hP1 hD1 hS1
        exact this) (hL.ag hag o1)
      dsimp only at e1
      rw [List.map_cons, xoks_map hag (xoks_mem o2)] at e1
      rw [show xv (xad ad S.1.length q) (.ref S.1.length) = .ref q by show Value.ref _ = _; rw [xad_self]] at e1
      exact e1
theorem xcA {cA : ClassId} {ty : FieldType} {t : Nat} (ht : (xtys dA)[t]? = some (dA t, ty)) (hK : va_K D xcl (xtys dA) s) (hK1 : va_K D xcl (xtys dA ++ [(cA, ty)]) s) (hp : ∀ C, ty ≠ .object C) : cA = dA t := by
  have h1 := (hK.2 t _ ht).2
  have h2 := (hK1.2 4 (cA, ty) rfl).2
  cases ty with
  | object C => exact absurd rfl (hp C)
  | _ => exact Option.some.inj (h2.symm.trans h1)
set_option maxHeartbeats 4000000 in
set_option maxRecDepth 100000 in
theorem xnext_newa {t : ArrayType} (X : xCtx M d p l R s m args meth c D dA A E) (hok : xOK M pc (.newarray t, len, dat)) (h : xstep d (.newarray t, len, dat) pc ls st S = some (.inl f'))
    (k : xGood M p l e R s m args below meth c D dA A n0 ad0 E Q f') : xGood M p l e R s m args below meth c D dA A n0 ad0 E Q (pc, ls, st, S) := by
  obtain ⟨hx, hb, hml, hown, hts, hK, hA, hini, hfr, hlo, -⟩ := X
  obtain ⟨hd, hw⟩ := hok
  intro ad H locs cells slots lsC hR0 hL0
  have hR : xRel D dA A s R n0 ad0 E ad S H locs cells slots := hR0
  have hL : xlv ad lsC M.2.2.2.1 ls := hL0
  obtain ⟨n, r, rfl, h'⟩ := xi1_inv h
  clear h
  have h := h'
  obtain ⟨hg, h⟩ := xif_inv h
  obtain ⟨o1, o2, h⟩ := xnb2 h
  obtain ⟨hP, hD, hS, h4, h5, hwG, h7, h8, h9, h10, h11, h12⟩ := id hR
  have hlt : S.1.length < 1000 := by omega
  have ho2 : ∀ v ∈ r, xokv S.1.length v = true := fun v hv => xoks_mem o2 v (List.mem_cons_of_mem _ hv)
  have hn0 : ¬ n < 0 := fun z => hg (Or.inl z)
  have hn1 : n.toNatClampNeg ≤ 4096 := Nat.le_of_not_lt fun z => hg (Or.inr (Or.inl z))
  have hc0 : S.2.2.2.2.1 ≠ 0 := fun z => hg (Or.inr (Or.inr (Or.inl z)))
  have hz0 : n.toNatClampNeg ≤ S.2.2.2.2.2 := Nat.le_of_not_lt fun z => hg (Or.inr (Or.inr (Or.inr (Or.inl z))))
  have noref : ∀ (tt : Nat) (o : Nat × List (Option Value)) (j v : Nat), (Sum.inr (tt, n.toNatClampNeg) : xG) = .inl o → o.2[j]? ≠ some (some (.ref v)) := fun _ _ _ _ z => by cases z
  cases t with
  | int =>
    cases h
    refine va_newa (a0 := (n.toNatClampNeg, .inl (fun _ => 0))) (rest := r.map (xv ad)) hx hb (hts _ hw) rfl hK hP hD hS hA (fun cA => rfl) hn0 rfl (by show _ * 4 ≤ _; omega) (by omega) (by omega) hd (fun q cA H1 hK1 hP1 hD1 hS1 => ?_)
    cases xcA (t := 0) rfl hK hK1 (fun _ z => by cases z)
    have hag := xad_ag (ad := ad) (a := q) hlt
    have e1 := k (xad ad S.1.length q) H1 locs (cells + 1) (slots + n.toNatClampNeg) lsC (hR.push (q0 := .inr (0, n.toNatClampNeg)) hlt (fun k hk => ⟨xset_ne hk, rfl⟩) (noref 0) (by rw [xE_int (by decide), xset_self]) hc0 hz0 hP1 hD1 hS1) (hL.ag hag o1)
    dsimp only at e1
    rw [List.map_cons, xoks_map hag ho2] at e1
    rw [show xv (xad ad S.1.length q) (.ref S.1.length) = .ref q by show Value.ref _ = _; rw [xad_self]] at e1
    exact e1
  | byte =>
    cases h
    refine va_newa (a0 := (n.toNatClampNeg, .inl (fun _ => 0))) (rest := r.map (xv ad)) hx hb (hts _ hw) rfl hK hP hD hS hA (fun cA => rfl) hn0 rfl (by show _ * 1 ≤ _; omega) (by omega) (by omega) hd (fun q cA H1 hK1 hP1 hD1 hS1 => ?_)
    cases xcA (t := 1) rfl hK hK1 (fun _ z => by cases z)
    have hag := xad_ag (ad := ad) (a := q) hlt
    have e1 := k (xad ad S.1.length q) H1 locs (cells + 1) (slots + n.toNatClampNeg) lsC (hR.push (q0 := .inr (1, n.toNatClampNeg)) hlt (fun k hk => ⟨xset_ne hk, rfl⟩) (noref 1) (by rw [xE_int (by decide), xset_self]) hc0 hz0 hP1 hD1 hS1) (hL.ag hag o1)
    dsimp only at e1
    rw [List.map_cons, xoks_map hag ho2] at e1
    rw [show xv (xad ad S.1.length q) (.ref S.1.length) = .ref q by show Value.ref _ = _; rw [xad_self]] at e1
    exact e1
  | boolean =>
    cases h
    refine va_newa (a0 := (n.toNatClampNeg, .inl (fun _ => 0))) (rest := r.map (xv ad)) hx hb (hts _ hw) rfl hK hP hD hS hA (fun cA => rfl) hn0 rfl (by show _ * 1 ≤ _; omega) (by omega) (by omega) hd (fun q cA H1 hK1 hP1 hD1 hS1 => ?_)
    cases xcA (t := 2) rfl hK hK1 (fun _ z => by cases z)
    have hag := xad_ag (ad := ad) (a := q) hlt
    have e1 := k (xad ad S.1.length q) H1 locs (cells + 1) (slots + n.toNatClampNeg) lsC (hR.push (q0 := .inr (2, n.toNatClampNeg)) hlt (fun k hk => ⟨xset_ne hk, rfl⟩) (noref 2) (by rw [xE_int (by decide), xset_self]) hc0 hz0 hP1 hD1 hS1) (hL.ag hag o1)
    dsimp only at e1
    rw [List.map_cons, xoks_map hag ho2] at e1
    rw [show xv (xad ad S.1.length q) (.ref S.1.length) = .ref q by show Value.ref _ = _; rw [xad_self]] at e1
    exact e1
  | long =>
    cases h
    refine va_newa (a0 := (n.toNatClampNeg, .inr (.inl (fun _ => 0)))) (rest := r.map (xv ad)) hx hb (hts _ hw) rfl hK hP hD hS hA (fun cA => rfl) hn0 rfl (by show _ * 8 ≤ _; omega) (by omega) (by omega) hd (fun q cA H1 hK1 hP1 hD1 hS1 => ?_)
    cases xcA (t := 3) rfl hK hK1 (fun _ z => by cases z)
    have hag := xad_ag (ad := ad) (a := q) hlt
    have e1 := k (xad ad S.1.length q) H1 locs (cells + 1) (slots + n.toNatClampNeg) lsC (hR.push (q0 := .inr (3, n.toNatClampNeg)) hlt (fun k hk => ⟨rfl, xsetL_ne hk⟩) (noref 3) (by rw [xE_long, xsetL_self]) hc0 hz0 hP1 hD1 hS1) (hL.ag hag o1)
    dsimp only at e1
    rw [List.map_cons, xoks_map hag ho2] at e1
    rw [show xv (xad ad S.1.length q) (.ref S.1.length) = .ref q by show Value.ref _ = _; rw [xad_self]] at e1
    exact e1
  | _ => cases h
end XM
