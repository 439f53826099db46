/-! The check of the immediates: both sides. -/
def xImm (hc hr : xI) (d f v : Nat) (a : Option xI) (b : Option Int32) : Prop :=
  ∃ E hc1, a = some hc1 ∧ b = some E ∧ hc1 13 9 = E ∧ 0 ≤ E.toInt ∧ (∀ k, k ≠ 10 → k ≠ 13 → hc1 k = hc k) ∧ (∀ j, j ≠ 9 → hc1 13 j = hc 13 j) ∧ (∀ b, b ≤ v → hc1 10 b = hc 10 b) ∧
    (E = 0 → xWd hr f v ∧ (hr 28 v = 12 ∨ hr 28 v = 13 → xLab hc1 hc hr d (v + 1)) ∧ (hr 28 v = 14 → ∀ i : Nat, (i : Int) ≤ (hr 28 (v + 1)).toInt → xLab hc1 hc hr d (v + 2 + i)))
theorem xImm.bad {hc hr : xI} {d f v : Nat} (er : hc 13 9 = 0) (e : Int32) (he : 0 < e.toInt) : xImm hc hr d f v (f_k_fail e hc) (some e) := by
  have k : f_k_fail e hc = some (xput hc 13 9 e) := by unfold f_k_fail; rw [if_pos er]
  refine ⟨e, xput hc 13 9 e, k, rfl, by simp [xput_at], by omega, fun k a b => xput_off b, fun j a => by simp [xput_at, a], fun b _ => by rw [xput_off (by omega)], fun z => ?_⟩
  rw [z] at he
  exact absurd he (by decide)
theorem xImm.good {hc hr : xI} {d f v : Nat} (er : hc 13 9 = 0) (W : xWd hr f v) (h : hr 28 v ≠ 12 ∧ hr 28 v ≠ 13 ∧ hr 28 v ≠ 14) : xImm hc hr d f v (some hc) (some 0) :=
  ⟨0, hc, rfl, rfl, er, by decide, fun _ _ _ => rfl, fun _ _ => rfl, fun _ _ => rfl, fun _ => ⟨W, fun e => e.elim (fun e => absurd e h.1) (fun e => absurd e h.2.1), fun e => absurd e h.2.2⟩⟩
set_option maxHeartbeats 4000000 in
theorem ximms {hc hr : xI} {d f v : Nat} (R : RB hc hr) (hd : (hr 27 23).toInt = d) (hd9 : d ≤ 9) (fr : hc 13 6 = hr 27 23) (hff : (f : Int) < (hr 27 4).toInt) (hend : (v : Int) < (hr 29 (f + 1)).toInt) (er : hc 13 9 = 0) (fn : (hc 13 10).toInt = f) (pl : (hc 13 11).toInt = v) (be : hc 13 8 = hr 29 (f + 1)) {F V3 : Int32} (hF : F.toInt = f) (hV : V3.toInt = v) : xImm hc hr d f v (f_k_checkImmediates (f_o_shapeOf (hr 28 v)) hc) (f_m_flaw F V3 hr) := by
  have e0 : (0 : Int32).toInt = 0 := rfl
  have e1 : (1 : Int32).toInt = 1 := rfl
  have e2 : (2 : Int32).toInt = 2 := rfl
  have e3 : (3 : Int32).toInt = 3 := rfl
  have e4 : (4 : Int32).toInt = 4 := rfl
  have e8 : (8 : Int32).toInt = 8 := rfl
  have e32 : (32 : Int32).toInt = 32 := rfl
  have e34 : (34 : Int32).toInt = 34 := rfl
  have e40 : (40 : Int32).toInt = 40 := rfl
  have e59 : (59 : Int32).toInt = 59 := rfl
  have fb := R.fnsB
  have eb := R.fromB (f + 1) (by omega)
  obtain ⟨F1, F2⟩ := xi_cl1 hF (by omega)
  obtain ⟨V1, V2⟩ := xi_cl1 hV (by omega)
  obtain ⟨P1, P2⟩ := xi_cl1 pl (by omega)
  have ops := xops (hr 28 v)
  have gF : ∀ {α : Type} (x : Option α), xgd (F + 1) 7 x = x := fun x => xgd_ok (by omega) (by omega)
  have gV : ∀ {α : Type} (x : Option α), xgd V3 240 x = x := fun x => xgd_ok (by omega) (by omega)
  by_cases hk : f_o_shapeOf (hr 28 v) = -1
  · unfold f_k_checkImmediates f_m_flaw f_k_checkImmediates_23
    rw [hk, if_neg (by decide), if_pos rfl, gF, gV, xi_cl hV, ops.1, if_pos hk, if_pos rfl, xbs]
    exact xImm.bad er 1 (by decide)
  have kn : f_m_isKnown (hr 28 v) = 1 := by rw [ops.1, if_neg hk]
  by_cases hz : f_o_shapeOf (hr 28 v) = 0
  · -- a bare word
    have im : f_m_immediates (hr 28 v) = 0 := by rw [ops.2, if_pos (.inl hz)]
    have W := xwd_bare (f := f) hz
    rcases xshapes _ hk with ⟨-, q1, q2, q3, q4, q5, q6, q7, q8, q9⟩ | h | h | h | h | h | h | h | h
    · unfold f_k_checkImmediates f_m_flaw f_m_flaw_60
      have su : f_m_suits F (hr 28 v) 0 hr = some 1 := by
        unfold f_m_suits f_m_suits_25 f_m_suits_110
        rw [if_neg q4, if_neg q5, if_neg q7, if_neg q8]
        have k40 : (if hr 28 v < 40 then (some (1 : Int32)) else (if (59 : Int32) < hr 28 v then (some (1 : Int32)) else (if (0 : Int32) < 0 then (some (0 : Int32)) else (some (1 : Int32))))) = some 1 := by
          by_cases c : hr 28 v < 40
          · rw [if_pos c]
          · rw [if_neg c, if_pos (by rw [xi_lt] at c ⊢; omega)]
        rw [k40]
        have k32 : ∀ x : Option Int32, (if hr 28 v < 32 then (some (1 : Int32)) else (if (34 : Int32) < hr 28 v then (some (1 : Int32)) else x)) = some 1 := by
          intro x
          by_cases c : hr 28 v < 32
          · rw [if_pos c]
          · rw [if_neg c, if_pos (by rw [xi_lt] at c ⊢; omega)]
        rw [k32]
        by_cases c : hr 28 v < 2
        · rw [if_pos c]
        · rw [if_neg c, if_pos (by rw [xi_lt] at c ⊢; omega)]
      have ad : (V3 + 1 + 0).toInt = v + 1 := by rw [Int32.add_zero]; exact V1
      rw [hz, if_pos rfl, gF, gV, xi_cl hV, kn, if_neg (by decide), im, F2, if_pos (by rw [xi_le]; omega), if_pos (by decide), su, Option.bind_some, if_neg (by decide), if_neg q4]
      unfold f_m_flaw_131
      rw [if_neg q2, if_neg q3]
      exact xImm.good er W ⟨q2, q3, q4⟩
    · rcases h with h | h | h <;> rw [h] at hz <;> exact absurd hz (by decide)
    · rcases h with h | h <;> rw [h] at hz <;> exact absurd hz (by decide)
    · rw [h] at hz; exact absurd hz (by decide)
    · rw [h] at hz; exact absurd hz (by decide)
    · rcases h with h | h | h <;> rw [h] at hz <;> exact absurd hz (by decide)
    · rcases h with h | h <;> rw [h] at hz <;> exact absurd hz (by decide)
    · rcases h with h | h | h | h | h | h | h | h <;> rw [h] at hz <;> exact absurd hz (by decide)
    · rw [h] at hz; exact absurd hz (by decide)
  have im : f_m_immediates (hr 28 v) = 1 := by rw [ops.2, if_neg (fun c => c.elim hz hk)]
  have ad : (V3 + 1 + 1).toInt = v + 2 := by rw [xi_add (by omega) (by omega), V1, e1]; omega
  by_cases hin : (v : Int) + 2 ≤ (hr 29 (f + 1)).toInt
  · have gV1 : ∀ {α : Type} (x : Option α), xgd (V3 + 1) 240 x = x := fun x => xgd_ok (by omega) (by omega)
    have gP1 : ∀ {α : Type} (x : Option α), xgd (hc 13 11 + 1) 240 x = x := fun x => xgd_ok (by omega) (by omega)
    have fl : f_m_flaw F V3 hr = f_m_flaw_60 F V3 (hr 29 (f + 1)) (hr 28 v) (hr 28 (v + 1)) hr := by
      unfold f_m_flaw
      rw [gF, gV, xi_cl hV, kn, if_neg (by decide), im, F2, if_pos (by rw [xi_le]; omega), if_neg (by decide), gV1, V2]
    have imd : f_k_immediate hc = some (hr 28 (v + 1)) := by
      unfold f_k_immediate
      rw [gP1, P2, R.words]
    have ck : f_k_checkImmediates (f_o_shapeOf (hr 28 v)) hc = if f_o_shapeOf (hr 28 v) = 3 then f_k_checkTable (hr 28 (v + 1)) hc else if f_o_shapeOf (hr 28 v) = 2 then f_k_checkLabel (hc 13 11 + 1) hc else (f_k_isAllowed (f_o_shapeOf (hr 28 v)) (hr 28 (v + 1)) hc).bind fun q10 => if q10 = 0 then f_k_fail 5 hc else some hc := by
      unfold f_k_checkImmediates
      rw [if_neg hz, if_neg hk, be, if_pos (by rw [xi_lt]; omega), imd]
      simp only [Option.bind_some, xbs]
    rw [fl, ck]
    -- a word whose immediate is allowed or not
    have plain : f_o_shapeOf (hr 28 v) ≠ 3 → f_o_shapeOf (hr 28 v) ≠ 2 → hr 28 v ≠ 12 ∧ hr 28 v ≠ 13 ∧ hr 28 v ≠ 14 → ∀ b : Prop, [Decidable b] → f_k_isAllowed (f_o_shapeOf (hr 28 v)) (hr 28 (v + 1)) hc = some (if b then 1 else 0) → f_m_suits F (hr 28 v) (hr 28 (v + 1)) hr = some (if b then 1 else 0) → (b → xWd hr f v) → xImm hc hr d f v (if f_o_shapeOf (hr 28 v) = 3 then f_k_checkTable (hr 28 (v + 1)) hc else if f_o_shapeOf (hr 28 v) = 2 then f_k_checkLabel (hc 13 11 + 1) hc else (f_k_isAllowed (f_o_shapeOf (hr 28 v)) (hr 28 (v + 1)) hc).bind fun q10 => if q10 = 0 then f_k_fail 5 hc else some hc) (f_m_flaw_60 F V3 (hr 29 (f + 1)) (hr 28 v) (hr 28 (v + 1)) hr) := by
      intro n3 n2 nl b _ al su W
      unfold f_m_flaw_60
      rw [if_neg n3, if_neg n2, al, su, Option.bind_some, Option.bind_some]
      by_cases c : b
      · rw [if_pos c, if_neg (by decide), if_neg (by decide), if_neg nl.2.2]
        unfold f_m_flaw_131
        rw [if_neg nl.1, if_neg nl.2.1]
        exact xImm.good er (W c) nl
      · rw [if_neg c, if_pos rfl, if_pos rfl]
        exact xImm.bad er 5 (by decide)
    have two : ∀ {p q : Prop} [Decidable p] [Decidable q], (if p then some (0 : Int32) else if q then some 0 else some 1) = some (if ¬ p ∧ ¬ q then 1 else 0) := by
      intro p q _ _
      by_cases a : p
      · rw [if_pos a, if_neg (fun c => c.1 a)]
      · rw [if_neg a]
        by_cases b : q
        · rw [if_pos b, if_neg (fun c => c.2 b)]
        · rw [if_neg b, if_pos ⟨a, b⟩]
    rcases xshapes _ hk with ⟨h, -⟩ | h | h | h | h | h | h | h | h
    · exact absurd h hz
    · -- a type
      have sh : f_o_shapeOf (hr 28 v) = 1 := by rcases h with h | h | h <;> rw [h] <;> decide
      have nl : hr 28 v ≠ 12 ∧ hr 28 v ≠ 13 ∧ hr 28 v ≠ 14 := by rcases h with h | h | h <;> rw [h] <;> decide
      refine plain (by rw [sh]; decide) (by rw [sh]; decide) nl (hr 28 (v + 1) = 0 ∨ hr 28 (v + 1) = 1) ?_ ?_ (fun b => ?_)
      · rw [sh]
        show (if hr 28 (v + 1) = 0 then some (1 : Int32) else if hr 28 (v + 1) = 1 then some 1 else some 0) = _
        by_cases a : hr 28 (v + 1) = 0
        · rw [if_pos a, if_pos (.inl a)]
        · rw [if_neg a]
          by_cases b : hr 28 (v + 1) = 1
          · rw [if_pos b, if_pos (.inr b)]
          · rw [if_neg b, if_neg (fun c => c.elim a b)]
      · have t : f_m_suits F (hr 28 v) (hr 28 (v + 1)) hr = (if hr 28 (v + 1) = 0 then some (1 : Int32) else if hr 28 (v + 1) = 1 then some 1 else some 0) := by rcases h with h | h | h <;> rw [h] <;> rfl
        rw [t]
        by_cases a : hr 28 (v + 1) = 0
        · rw [if_pos a, if_pos (.inl a)]
        · rw [if_neg a]
          by_cases b : hr 28 (v + 1) = 1
          · rw [if_pos b, if_pos (.inr b)]
          · rw [if_neg b, if_neg (fun c => c.elim a b)]
      · refine ⟨hk, fun _ => hin, fun _ => b, fun e => absurd e nl.2.2, ?_, ?_, ?_, ?_⟩
        · intro e; rcases h with h | h | h <;> rw [h] at e <;> exact absurd e (by decide)
        · intro e; rcases h with h | h | h <;> rw [h] at e <;> exact absurd e (by decide)
        · intro e; rcases h with h | h | h <;> rw [h] at e <;> exact absurd e (by decide)
        · intro e; rw [sh] at e; exact absurd e (by decide)
    · -- a label
      have sh : f_o_shapeOf (hr 28 v) = 2 := by rcases h with h | h <;> rw [h] <;> decide
      have n14 : hr 28 v ≠ 14 := by rcases h with h | h <;> rw [h] <;> decide
      have su : f_m_suits F (hr 28 v) (hr 28 (v + 1)) hr = some 1 := by rcases h with h | h <;> rw [h] <;> rfl
      have fl2 : f_m_flaw_60 F V3 (hr 29 (f + 1)) (hr 28 v) (hr 28 (v + 1)) hr = if f_m_isLabel (hr 28 (v + 1)) hr = 0 then some 4 else some 0 := by
        unfold f_m_flaw_60 f_m_flaw_131 f_m_flaw_145
        rw [su, Option.bind_some, if_neg (by decide), if_neg n14]
        rcases h with h | h
        · rw [if_pos h]
        · rw [if_neg (by rw [h]; decide), if_pos h]
      rw [fl2, if_neg (by rw [sh]; decide), if_pos sh]
      rcases xlabel (lp := v + 1) R.words hd hd9 fr P1 (by omega) with ⟨l1, l2⟩ | ⟨l1, l, l2, l3, l4⟩
      · rw [l1, if_pos rfl, l2]
        exact xImm.bad er 4 (by decide)
      · rw [l1, if_neg (by decide), l4]
        refine ⟨0, _, rfl, rfl, by simp only [xput_at, Nat.reduceEqDiff, reduceIte]; exact er, by decide, fun k a b => xput_off a, fun j a => by rw [xput_off (by omega)], fun b hb => by rw [xput_at, if_pos rfl, if_neg (by omega)], fun _ => ⟨⟨hk, fun _ => hin, ?_, fun e => absurd e n14, ?_, ?_, ?_, ?_⟩, fun _ => ⟨l, l2, l3, by rw [xput_at, if_pos rfl, if_pos rfl]⟩, fun e => absurd e n14⟩⟩
        · intro e; rcases h with h | h <;> rw [h] at e <;> exact absurd e (by decide)
        · intro e; rcases h with h | h <;> rw [h] at e <;> exact absurd e (by decide)
        · intro e; rcases h with h | h <;> rw [h] at e <;> exact absurd e (by decide)
        · intro e; rcases h with h | h <;> rw [h] at e <;> exact absurd e (by decide)
        · intro e; rw [sh] at e; exact absurd e (by decide)
    · -- a table
      have sh : f_o_shapeOf (hr 28 v) = 3 := by rw [h]; decide
      rw [if_pos sh]
      have su : f_m_suits F (hr 28 v) (hr 28 (v + 1)) hr = (if hr 28 (v + 1) < 0 then (some (0 : Int32)) else (if (8 : Int32) < hr 28 (v + 1) then (some (0 : Int32)) else (some (1 : Int32)))) := by rw [h]; rfl
      unfold f_m_flaw_60 f_k_checkTable f_k_checkTable_10
      rw [su]
      by_cases z0 : hr 28 (v + 1) < 0
      · rw [if_pos z0, if_pos z0, Option.bind_some, if_pos rfl, xbs]
        exact xImm.bad er 5 (by decide)
      rw [if_neg z0, if_neg z0]
      by_cases z8 : (8 : Int32) < hr 28 (v + 1)
      · rw [if_pos z8, Option.bind_some, if_pos rfl, if_neg (by rw [xi_lt] at z8; rw [xi_le]; omega), xbs]
        exact xImm.bad er 5 (by decide)
      have l8 : hr 28 (v + 1) ≤ 8 := by rw [xi_lt] at z8; rw [xi_le]; omega
      rw [if_neg z8, Option.bind_some, if_pos l8, if_neg (show ¬ (1 : Int32) = 0 by decide), if_pos h, be, xbs]
      rw [xi_lt] at z0 z8
      have p2 : (hc 13 11 + 2).toInt = v + 2 := by rw [xi_add (by omega) (by omega), pl, e2]
      have p3 : (hc 13 11 + 2 + hr 28 (v + 1)).toInt = v + 2 + (hr 28 (v + 1)).toInt := by rw [xi_add (by omega) (by omega), p2]
      have v2 : (V3 + 3).toInt = v + 3 := by rw [xi_add (by omega) (by omega), hV, e3]
      have v3 : (V3 + 3 + hr 28 (v + 1)).toInt = v + 3 + (hr 28 (v + 1)).toInt := by rw [xi_add (by omega) (by omega), v2]
      by_cases zt : (v : Int) + 3 + (hr 28 (v + 1)).toInt ≤ (hr 29 (f + 1)).toInt
      · rw [if_pos (by rw [xi_lt]; omega), if_pos (by rw [xi_le]; omega)]
        obtain ⟨nn, hnn⟩ : ∃ nn : Nat, (hr 28 (v + 1)).toInt = nn := ⟨(hr 28 (v + 1)).toInt.toNat, by omega⟩
        obtain ⟨hc', a1, a2, a3, a4, a5⟩ := xlabels (hr := hr) (d := d) (v := v) pl hV hd hd9 hnn (by omega) (by omega) (fun r => rfl) 1000 0 hc R.words fr rfl (by omega) (by omega)
        rcases a5 with ⟨a5, -⟩ | ⟨-, a5, a6, a7⟩
        · exact absurd er a5
        · have z0' : Int32.ofNat 0 = 0 := rfl
          rw [z0'] at a1 a5
          rw [a1, h, a5]
          refine ⟨_, hc', rfl, rfl, rfl, by rcases a6 with e | e <;> rw [e] <;> decide, a2, a3, fun b hb => a4 b (by omega), fun e => ⟨⟨hk, fun _ => hin, ?_, fun _ => ⟨by omega, by omega, zt⟩, ?_, ?_, ?_, ?_⟩, ?_, fun _ i hi => a7 e i (by omega) (by omega)⟩⟩
          · intro e; rw [h] at e; exact absurd e (by decide)
          · intro e; rw [h] at e; exact absurd e (by decide)
          · intro e; rw [h] at e; exact absurd e (by decide)
          · intro e; rw [h] at e; exact absurd e (by decide)
          · intro e; rw [sh] at e; exact absurd e (by decide)
          · intro e; rw [h] at e; exact absurd e (by decide)
      · rw [if_neg (by rw [xi_lt]; omega), if_neg (by rw [xi_le]; omega)]
        exact xImm.bad er 1 (by decide)
    · -- a function
      have sh : f_o_shapeOf (hr 28 v) = 4 := by rw [h]; decide
      have nl : hr 28 v ≠ 12 ∧ hr 28 v ≠ 13 ∧ hr 28 v ≠ 14 := by rw [h]; decide
      refine plain (by rw [sh]; decide) (by rw [sh]; decide) nl (¬ hr 28 (v + 1) < 0 ∧ ¬ hr 27 4 ≤ hr 28 (v + 1)) ?_ ?_ (fun b => ?_)
      · rw [sh]
        have hfn : f_c_hasFunction (hr 28 (v + 1)) hc = if ¬ hr 28 (v + 1) < 0 ∧ ¬ hr 27 4 ≤ hr 28 (v + 1) then 1 else 0 := by
          unfold f_c_hasFunction
          rw [R.fns]
          by_cases a : hr 28 (v + 1) < 0
          · rw [if_pos a, if_neg (fun c => c.1 a)]
          · rw [if_neg a]
            by_cases b : hr 27 4 ≤ hr 28 (v + 1)
            · rw [if_pos b, if_neg (fun c => c.2 b)]
            · rw [if_neg b, if_pos ⟨a, b⟩]
        show xb01 (f_c_hasFunction (hr 28 (v + 1)) hc) (some (f_c_hasFunction (hr 28 (v + 1)) hc)) = _
        rw [hfn]
        unfold xb01
        by_cases b : ¬ hr 28 (v + 1) < 0 ∧ ¬ hr 27 4 ≤ hr 28 (v + 1)
        · rw [if_pos b, if_pos (.inr rfl)]
        · rw [if_neg b, if_pos (.inl rfl)]
      · have t : f_m_suits F (hr 28 v) (hr 28 (v + 1)) hr = (if hr 28 (v + 1) < 0 then (some (0 : Int32)) else (if (hr 27 4) ≤ hr 28 (v + 1) then (some (0 : Int32)) else (some (1 : Int32)))) := by rw [h]; rfl
        rw [t, two]
      · rw [xi_lt, xi_le] at b
        refine ⟨hk, fun _ => hin, ?_, fun e => absurd e nl.2.2, fun _ => by omega, ?_, ?_, ?_⟩
        · intro e; rw [h] at e; exact absurd e (by decide)
        · intro e; rw [h] at e; exact absurd e (by decide)
        · intro e; rw [h] at e; exact absurd e (by decide)
        · intro e; rw [sh] at e; exact absurd e (by decide)
    · -- a local
      have sh : f_o_shapeOf (hr 28 v) = 5 := by rcases h with h | h | h <;> rw [h] <;> decide
      have nl : hr 28 v ≠ 12 ∧ hr 28 v ≠ 13 ∧ hr 28 v ≠ 14 := by rcases h with h | h | h <;> rw [h] <;> decide
      have lb1 := R.parsB f
      have lb2 := R.locsB f
      have sl : (hr 30 f + hr 31 f).toInt = (hr 30 f).toInt + (hr 31 f).toInt := xi_add (by omega) (by omega)
      refine plain (by rw [sh]; decide) (by rw [sh]; decide) nl (¬ hr 28 (v + 1) < 0 ∧ ¬ hr 30 f + hr 31 f ≤ hr 28 (v + 1)) ?_ ?_ (fun b => ?_)
      · rw [sh]
        show (if hr 28 (v + 1) < 0 then some (0 : Int32) else xgd (hc 13 10) 6 (if hc 5 (hc 13 10).toNatClampNeg ≤ hr 28 (v + 1) then some 0 else some 1)) = _
        rw [xgd_ok (by omega) (by omega), xi_cl fn, R.locs, two]
      · have t : f_m_suits F (hr 28 v) (hr 28 (v + 1)) hr = (if hr 28 (v + 1) < 0 then (some (0 : Int32)) else (xgd F 6 (xgd F 6 (if ((hr 30 F.toNatClampNeg) + (hr 31 F.toNatClampNeg)) ≤ hr 28 (v + 1) then (some (0 : Int32)) else (some (1 : Int32)))))) := by rcases h with h | h | h <;> rw [h] <;> rfl
        rw [t, xgd_ok (by omega) (by omega), xgd_ok (by omega) (by omega), xi_cl hF, two]
      · rw [xi_lt, xi_le] at b
        refine ⟨hk, fun _ => hin, ?_, fun e => absurd e nl.2.2, ?_, fun _ => by omega, ?_, ?_⟩
        · intro e; rcases h with h | h | h <;> rw [h] at e <;> exact absurd e (by decide)
        · intro e; rcases h with h | h | h <;> rw [h] at e <;> exact absurd e (by decide)
        · intro e; rcases h with h | h | h <;> rw [h] at e <;> exact absurd e (by decide)
        · intro e; rw [sh] at e; exact absurd e (by decide)
    · -- a global
      have sh : f_o_shapeOf (hr 28 v) = 6 := by rcases h with h | h <;> rw [h] <;> decide
      have nl : hr 28 v ≠ 12 ∧ hr 28 v ≠ 13 ∧ hr 28 v ≠ 14 := by rcases h with h | h <;> rw [h] <;> decide
      refine plain (by rw [sh]; decide) (by rw [sh]; decide) nl (¬ hr 28 (v + 1) < 0 ∧ ¬ 4 ≤ hr 28 (v + 1)) ?_ ?_ (fun b => ?_)
      · rw [sh]
        show (if hr 28 (v + 1) < 0 then some (0 : Int32) else (if 4 ≤ hr 28 (v + 1) then some 0 else some 1)) = _
        rw [two]
      · have t : f_m_suits F (hr 28 v) (hr 28 (v + 1)) hr = (if hr 28 (v + 1) < 0 then some (0 : Int32) else (if 4 ≤ hr 28 (v + 1) then some 0 else some 1)) := by rcases h with h | h <;> rw [h] <;> rfl
        rw [t, two]
      · rw [xi_lt, xi_le] at b
        refine ⟨hk, fun _ => hin, ?_, fun e => absurd e nl.2.2, ?_, ?_, fun _ => by omega, ?_⟩
        · intro e; rcases h with h | h <;> rw [h] at e <;> exact absurd e (by decide)
        · intro e; rcases h with h | h <;> rw [h] at e <;> exact absurd e (by decide)
        · intro e; rcases h with h | h <;> rw [h] at e <;> exact absurd e (by decide)
        · intro e; rw [sh] at e; exact absurd e (by decide)
    · -- an offset
      have sh : f_o_shapeOf (hr 28 v) = 7 := by rcases h with h | h | h | h | h | h | h | h <;> rw [h] <;> decide
      have nl : hr 28 v ≠ 12 ∧ hr 28 v ≠ 13 ∧ hr 28 v ≠ 14 := by rcases h with h | h | h | h | h | h | h | h <;> rw [h] <;> decide
      refine plain (by rw [sh]; decide) (by rw [sh]; decide) nl (¬ hr 28 (v + 1) < 0) ?_ ?_ (fun b => ?_)
      · rw [sh]
        show (if hr 28 (v + 1) < 0 then some (0 : Int32) else some 1) = _
        by_cases a : hr 28 (v + 1) < 0
        · rw [if_pos a, if_neg (fun c => c a)]
        · rw [if_neg a, if_pos a]
      · have t : f_m_suits F (hr 28 v) (hr 28 (v + 1)) hr = (if hr 28 (v + 1) < 0 then some (0 : Int32) else some 1) := by rcases h with h | h | h | h | h | h | h | h <;> rw [h] <;> rfl
        rw [t]
        by_cases a : hr 28 (v + 1) < 0
        · rw [if_pos a, if_neg (fun c => c a)]
        · rw [if_neg a, if_pos a]
      · rw [xi_lt] at b
        refine ⟨hk, fun _ => hin, ?_, fun e => absurd e nl.2.2, ?_, ?_, ?_, fun _ => by omega⟩
        · intro e; rcases h with h | h | h | h | h | h | h | h <;> rw [h] at e <;> exact absurd e (by decide)
        · intro e; rcases h with h | h | h | h | h | h | h | h <;> rw [h] at e <;> exact absurd e (by decide)
        · intro e; rcases h with h | h | h | h | h | h | h | h <;> rw [h] at e <;> exact absurd e (by decide)
        · intro e; rcases h with h | h | h | h | h | h | h | h <;> rw [h] at e <;> exact absurd e (by decide)
    · -- a number
      have sh : f_o_shapeOf (hr 28 v) = 8 := by rw [h]; decide
      have nl : hr 28 v ≠ 12 ∧ hr 28 v ≠ 13 ∧ hr 28 v ≠ 14 := by rw [h]; decide
      refine plain (by rw [sh]; decide) (by rw [sh]; decide) nl True ?_ ?_ (fun b => ?_)
      · rw [sh]; rfl
      · rw [h]; rfl
      · refine ⟨hk, fun _ => hin, ?_, fun e => absurd e nl.2.2, ?_, ?_, ?_, ?_⟩
        · intro e; rw [h] at e; exact absurd e (by decide)
        · intro e; rw [h] at e; exact absurd e (by decide)
        · intro e; rw [h] at e; exact absurd e (by decide)
        · intro e; rw [h] at e; exact absurd e (by decide)
        · intro e; rw [sh] at e; exact absurd e (by decide)
  · unfold f_k_checkImmediates f_m_flaw f_k_checkImmediates_23
    rw [if_neg hz, if_neg hk, be, if_neg (by rw [xi_lt]; omega), gF, gV, xi_cl hV, kn, if_neg (by decide), im, F2, if_neg (by rw [xi_le]; omega), xbs]
    exact xImm.bad er 1 (by decide)
