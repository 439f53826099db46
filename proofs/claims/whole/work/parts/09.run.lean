/-! Every run of the small machine is the machine's. -/
section XR
variable {M : xM} {d : Nat} {p : Program} {l : Launch} {e : Env} {R : Room} {s : State} {m : MethodId} {args : Array Value} {below : List Frame} {meth : Method} {c : Code} {D : va_G} {dA : Nat → ClassId} {A : Nat → Prop} {n0 : Nat} {ad0 : Nat → Nat} {E : xP0} {Q : State → Prop}
variable {pc len dat : Nat} {ls : List (Option Value)} {st : List Value} {S : xS} {f' : xF}
set_option maxHeartbeats 4000000 in
set_option maxRecDepth 100000 in
/-- Object's constructor -/
theorem xnext_obj {ix : Nat} (X : xCtx M d p l R s m args meth c D dA A E) (hok : xOK M pc (.invokespecial ix, len, dat)) (h : xstep d (.invokespecial ix, len, dat) pc ls st S = some (.inl f'))
    (k : xGood M p l e R s m args below meth c D dA A n0 ad0 E Q f') : xGood M p l e R s m args below meth c D dA A n0 ad0 E Q (pc, ls, st, S) := by
  obtain ⟨hx, hb, hml, hown, hts, hK, hA, hini, hfr, hlo, -⟩ := X
  obtain ⟨hd, hw⟩ := hok
  intro ad H locs cells slots lsC hR0 hL0
  have hR : xRel D dA A s R n0 ad0 E ad S H locs cells slots := hR0
  have hL : xlv ad lsC M.2.2.2.1 ls := hL0
  dsimp only [xstep] at h
  cases hq : Nat.beq dat 14401 with
  | true =>
    rw [hq] at h
    dsimp only [cond] at h
    obtain ⟨kc, r, rfl, h'⟩ := xr1_inv h
    clear h
    have h := h'
    cases hc : (Nat.blt 0 d && Nat.ble (xcat r) 8) with
    | false => rw [hc] at h; cases h
    | true =>
    rw [hc] at h
    cases h
    rw [Bool.and_eq_true] at hc
    have h1 : 0 < d := Nat.blt_eq.mp hc.1
    have h2 : xcat r ≤ 8 := Nat.le_of_ble_eq_true hc.2
    cases Nat.eq_of_beq_eq_true hq
    dsimp only at hw
    rw [if_pos rfl] at hw
    refine W.objInit hx hb hown (hts _ hw) (hts _ xw_obj1) (hts _ xw_obj2) rfl (by rw [hml]; exact hL.1) (rest := r.map (xv ad)) rfl hd (by omega) ?_ (k ad H locs cells slots lsC hR hL)
    have := lv_room (m := m) (pc := pc) (ls := lsC) (rest := []) (st := r.map (xv ad)) (by rw [xcat_sum]; exact h2)
    show 2 * (F0 m pc lsC []).monitorRoom + _ + 12 ≤ _
    omega
  | false =>
    rw [hq] at h
    exfalso
    dsimp only [cond] at h
    simp only [xcall, Bool.cond_eq_ite] at h
    repeat' split at h
    all_goals cases h
set_option maxHeartbeats 4000000 in
set_option maxRecDepth 100000 in
/-- System.arraycopy -/
theorem xnext_copy {ix : Nat} (X : xCtx M d p l R s m args meth c D dA A E) (hok : xOK M pc (.invokestatic ix, len, dat)) (h : xstep d (.invokestatic ix, len, dat) pc ls st S = some (.inl f'))
    (k : xGood M p l e R s m args below meth c D dA A n0 ad0 E Q f') : xGood M p l e R s m args below meth c D dA A n0 ad0 E Q (pc, ls, st, S) := by
  obtain ⟨hx, hb, hml, hown, hts, hK, hA, hini, hfr, hlo, -⟩ := X
  obtain ⟨hd, hw⟩ := hok
  intro ad H locs cells slots lsC hR0 hL0
  have hR : xRel D dA A s R n0 ad0 E ad S H locs cells slots := hR0
  have hL : xlv ad lsC M.2.2.2.1 ls := hL0
  dsimp only [xstep] at h
  cases hq : Nat.beq dat 14421 with
  | true =>
    rw [hq] at h
    dsimp only [cond, xcopy] at h
    split at h
    · rename_i n dp a sp b r
      obtain ⟨n0', hg0, h⟩ := xarr_inv h
      obtain ⟨n1', hg1, h⟩ := xarr_inv h
      obtain ⟨hc, h⟩ := xif_inv h
      cases h
      cases Nat.eq_of_beq_eq_true hq
      dsimp only at hw
      rw [if_pos rfl] at hw
      obtain ⟨hP, hD, hS, h4, h5, hwG, h7, h8, h9, h10, h11, h12⟩ := id hR
      have c1 : ¬ sp < 0 := fun z => hc (Or.inl z)
      have c2 : ¬ dp < 0 := fun z => hc (Or.inr (Or.inl z))
      have c3 : ¬ n < 0 := fun z => hc (Or.inr (Or.inr (Or.inl z)))
      have c4 : sp.toNatClampNeg + n.toNatClampNeg ≤ n0' := Nat.le_of_not_lt fun z => hc (Or.inr (Or.inr (Or.inr (Or.inl z))))
      have c5 : dp.toNatClampNeg + n.toNatClampNeg ≤ n1' := Nat.le_of_not_lt fun z => hc (Or.inr (Or.inr (Or.inr (Or.inr (Or.inl z)))))
      have c6 : 3 ≤ d := Nat.le_of_not_lt fun z => hc (Or.inr (Or.inr (Or.inr (Or.inr (Or.inr (Or.inl z))))))
      have c7 : xcat r ≤ 8 := Nat.le_of_not_lt fun z => hc (Or.inr (Or.inr (Or.inr (Or.inr (Or.inr (Or.inr z))))))
      have c8 : nativeFrameWords "java/lang/System" "arraycopy" 5 ≤ 80 := by decide +kernel
      refine va_copyi (rest := r.map (xv ad)) hx hb (by rw [hml]; exact hL.1.symm) hown (hts _ hw) (hts _ xw_cp1) (hts _ xw_cp2) (hts _ xw_cp3) hK hP hD hS b a 0 0 (xW_ints (by decide) hg0) (xW_ints (by decide) hg1) rfl rfl rfl c1 c2 c3 c4 c5 (fun _ _ => rfl) (by omega) ?_ hd
        (fun H1 locs1 hP1 hD1 hS1 => k ad H1 locs1 cells slots lsC (hR.arr (by decide) hg1 xset_self (fun j hj => xset_ne hj) hP1 hD1 hS1) hL)
      rw [xcat_sum]
      omega
    · cases h
  | false =>
    rw [hq] at h
    exfalso
    dsimp only [cond] at h
    simp only [xcall, Bool.cond_eq_ite] at h
    repeat' split at h
    all_goals cases h
set_option maxHeartbeats 4000000 in
set_option maxRecDepth 100000 in
theorem xnext {i : xC} (X : xCtx M d p l R s m args meth c D dA A E) (hok : xOK M pc i) (h : xstep d i pc ls st S = some (.inl f'))
    (k : xGood M p l e R s m args below meth c D dA A n0 ad0 E Q f') : xGood M p l e R s m args below meth c D dA A n0 ad0 E Q (pc, ls, st, S) := by
  obtain ⟨ins, len, dat⟩ := i
  cases ins with
  | getfield j => exact xnext_get X hok h k
  | putfield j => exact xnext_put X hok h k
  | iaload => exact xnext_arr X hok h rfl k
  | iastore => exact xnext_arr X hok h rfl k
  | baload => exact xnext_arr X hok h rfl k
  | bastore => exact xnext_arr X hok h rfl k
  | laload => exact xnext_arr X hok h rfl k
  | lastore => exact xnext_arr X hok h rfl k
  | arraylength => exact xnext_arr X hok h rfl k
  | newarray t => exact xnext_newa X hok h k
  | new j => exact xnext_new X hok h k
  | invokestatic j => exact xnext_copy X hok h k
  | invokespecial j => exact xnext_obj X hok h k
  | invokevirtual j =>
    exfalso
    simp only [xstep, xobj, xcall, Bool.cond_eq_ite] at h
    repeat' split at h
    all_goals cases h
  | _ => exact xnext_1 X hok h rfl k
end XR
