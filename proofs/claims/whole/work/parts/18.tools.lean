/-! More tools. -/
theorem Ex.sw {d mi P t : Nat} {f : xF} {ls : List (Option Value)} {st : List Value} {S : xS} {r : xO × xS} (e : Ex d mi (t, ls, st, S) r) (h : xone d mi f = some (.inl (P, ls, st, S))) (ht : P = t) : Ex d mi f r := by
  subst ht
  exact Ex.next h e
theorem xlsw_d {pc : Nat} {dflt : Int} {ps : Array (Int × Int)} {x : Int32} {t : Nat} (l : List Int32) (hl : ps.toList.map (·.1) = l.map Int32.toInt ∧ ((pc : Int) + dflt).toNat = t) (h : ∀ a ∈ l, x ≠ a) : xlsw pc dflt ps x = t := by
  obtain ⟨hl, ht⟩ := hl
  have key : ∀ (q : List (Int × Int)) (l : List Int32), q.map (·.1) = l.map Int32.toInt → (∀ a ∈ l, x ≠ a) → Op.lookupswitch.offset q dflt x.toInt = dflt := by
    intro q
    induction q with
    | nil => intro l _ _; rfl
    | cons p q ih =>
      intro l hl h
      cases l with
      | nil => cases hl
      | cons a l =>
        obtain ⟨k, o⟩ := p
        rw [List.map_cons, List.map_cons] at hl
        injection hl with h1 h2
        have hne : ¬ k = x.toInt := by
          intro e
          refine h a (List.mem_cons_self) ?_
          have h1 : k = a.toInt := h1
          exact Int32.toInt_inj.mp (by rw [← e, h1])
        unfold Op.lookupswitch.offset
        rw [if_neg hne]
        exact ih l h2 (fun b hb => h b (List.mem_cons_of_mem _ hb))
  unfold xlsw
  rw [key _ l hl h]
  exact ht
theorem xtsw_d {pc : Nat} {dflt lo hi : Int} {offs : Array Int} {x : Int32} {t : Nat} (l : List Int32) (hl : offs.size = (hi - lo + 1).toNat ∧ ((pc : Int) + dflt).toNat = t) (ho : ∀ i, i < offs.size → offs.getD i 0 = dflt ∨ ∃ a ∈ l, a.toInt = lo + i) (h : ∀ a ∈ l, x ≠ a) : xtsw pc dflt lo hi offs x = t := by
  obtain ⟨hl, ht⟩ := hl
  unfold xtsw
  split
  · exact ht
  · rename_i g
    rcases ho (x.toInt - lo).toNat (by omega) with e | ⟨a, ha, e⟩
    · rw [e]; exact ht
    · exfalso
      refine h a ha (Int32.toInt_inj.mp ?_)
      omega
/-- a boolean -/
def xb01 {α : Type} (v : Int32) (x : Option α) : Option α := if v = 0 ∨ v = 1 then x else none
theorem xb01_some {α : Type} {v : Int32} {x : Option α} {r : α} (h : xb01 v x = some r) : (v = 0 ∨ v = 1) ∧ x = some r := by
  unfold xb01 at h
  split at h
  · rename_i g; exact ⟨g, h⟩
  · cases h
theorem Ex.done01 {d mi : Nat} {v : Int32} {f : xF} {r : xO × xS} (hg : v = 0 ∨ v = 1) (h : xone d mi f = if v = 0 ∨ v = 1 then some (.inr (.inr r)) else none) : Ex d mi f r := by
  rw [if_pos hg] at h
  exact Ex.done h
def xto : Int32 ⊕ Nat → xO
  | .inl v => .inl (some (.int v))
  | .inr x => .inr x
def xtoV : Unit ⊕ Nat → xO
  | .inl _ => .inl none
  | .inr x => .inr x
def xtc {α : Type} : α ⊕ Nat → Nat → Nat
  | .inl _, c => c
  | .inr _, c => c - 1
def xtz {α : Type} : α ⊕ Nat → Nat → Nat
  | .inl _, z => z
  | .inr _, z => z - 6
theorem Ex.throw {d mi c z w : Nat} {f : xF} {r : xO × xS} (hcz : 0 < c ∧ 6 ≤ z) (h : xone d mi f = if c = 0 ∨ z < 6 ∨ d < 6 ∨ 8 < w then none else some (.inr (.inr r))) (hd : 6 ≤ d) (hw : w ≤ 8) : Ex d mi f r := by
  rw [if_neg (by omega)] at h
  exact Ex.done h
/-- a copy within -/
def xcpg {α : Type} (sp dp n : Int32) (n0 n1 : Nat) (x : Option α) : Option α := if sp < 0 ∨ dp < 0 ∨ n < 0 ∨ n0 < sp.toNatClampNeg + n.toNatClampNeg ∨ n1 < dp.toNatClampNeg + n.toNatClampNeg then none else x
theorem xcpg_some {α : Type} {sp dp n : Int32} {n0 n1 : Nat} {x : Option α} {r : α} (h : xcpg sp dp n n0 n1 x = some r) : ¬ (sp < 0 ∨ dp < 0 ∨ n < 0 ∨ n0 < sp.toNatClampNeg + n.toNatClampNeg ∨ n1 < dp.toNatClampNeg + n.toNatClampNeg) ∧ x = some r := by
  unfold xcpg at h
  split at h
  · cases h
  · rename_i g; exact ⟨g, h⟩
theorem xcpn {sp dp n : Int32} {n0 n1 d w : Nat} (hg : ¬ (sp < 0 ∨ dp < 0 ∨ n < 0 ∨ n0 < sp.toNatClampNeg + n.toNatClampNeg ∨ n1 < dp.toNatClampNeg + n.toNatClampNeg)) (hd : 3 ≤ d) (hw : w ≤ 8) : ¬ (sp < 0 ∨ dp < 0 ∨ n < 0 ∨ n0 < sp.toNatClampNeg + n.toNatClampNeg ∨ n1 < dp.toNatClampNeg + n.toNatClampNeg ∨ d < 3 ∨ 8 < w) := by
  intro c
  rcases c with c | c | c | c | c | c | c
  · exact hg (.inl c)
  · exact hg (.inr (.inl c))
  · exact hg (.inr (.inr (.inl c)))
  · exact hg (.inr (.inr (.inr (.inl c))))
  · exact hg (.inr (.inr (.inr (.inr c))))
  · omega
  · omega
theorem Ex.copyC {d mi pc a n0 n1 w : Nat} {sp dp n : Int32} {fn : Nat → Int32} {ls : List (Option Value)} {st : List Value} {G : List xG} {hc hr : xI} {xs : Nat → Int32} {g : xJ} {L c z : Nat} {f : xF} {r : xO × xS} (e : Ex d mi (pc, ls, st, xSt G (xset hc a fn) hr xs g L c z) r) (hk : Nat.blt a 27 = true) (hg : ¬ (sp < 0 ∨ dp < 0 ∨ n < 0 ∨ n0 < sp.toNatClampNeg + n.toNatClampNeg ∨ n1 < dp.toNatClampNeg + n.toNatClampNeg)) (hd : 3 ≤ d) (hw : w ≤ 8) (h : xone d mi f = if sp < 0 ∨ dp < 0 ∨ n < 0 ∨ n0 < sp.toNatClampNeg + n.toNatClampNeg ∨ n1 < dp.toNatClampNeg + n.toNatClampNeg ∨ d < 3 ∨ 8 < w then none else some (.inl (pc, ls, st, (G, xset (xmix hc hr xs) a fn, g, L, c, z)))) : Ex d mi f r := by
  rw [if_neg (xcpn hg hd hw), xmix_setC hk] at h
  exact Ex.next h e
theorem Ex.ret01 {d mi pc k : Nat} {v : Int32} {ls : List (Option Value)} {S : xS} (hi : xat (xP mi).2.2.2.2.2.1 pc = some (.ireturn, k, 1)) (hg : v = 0 ∨ v = 1) : Ex d mi (pc, ls, [.int v], S) (.inl (some (.int v)), S) := by
  refine Ex.done ?_
  show (match xat (xP mi).2.2.2.2.2.1 pc with
    | none => none
    | some i => xstep d i pc (xkl (xmask mi pc) ls) [.int v] S) = _
  rw [hi]
  show (if v = 0 ∨ v = 1 then _ else none) = _
  rw [if_pos hg]
