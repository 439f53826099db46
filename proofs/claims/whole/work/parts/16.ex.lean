/-! Runs of the small machine, without their length. -/
def xone (d mi : Nat) (f : xF) : Option xR := match f with
  | (pc, ls, st, S) => match xat (xP mi).2.2.2.2.2.1 pc with
    | none => none
    | some i => xstep d i pc (xkl (xmask mi pc) ls) st S
theorem ax_succ (n d mi : Nat) (f : xF) (r : xO × xS) : ax xP n d mi f = some r → ax xP (n + 1) d mi f = some r := by
  induction n generalizing d mi f r with
  | zero => intro h; cases h
  | succ n ih =>
    intro h
    unfold ax at h ⊢
    cases hi : xat (xP mi).2.2.2.2.2.1 f.1 with
    | none => rw [hi] at h; cases h
    | some i =>
    rw [hi] at h
    dsimp only at h ⊢
    cases hs : xstep d i f.1 (xkl (xmask mi f.1) f.2.1) f.2.2.1 f.2.2.2 with
    | none => rw [hs] at h; cases h
    | some q =>
    rw [hs] at h
    cases q with
    | inl f' => exact ih _ _ _ _ h
    | inr q =>
    cases q with
    | inr q => exact h
    | inl k =>
    dsimp only at h ⊢
    obtain ⟨b1, b2, h⟩ := xnb2 h
    rw [b1, b2]
    dsimp only [cond, Bool.not, Bool.and]
    cases ha : ax xP n (d - 1) k.1 (0, xent (xP k.1).2.2.2.1 k.2.1, [], f.2.2.2) with
    | none => rw [ha] at h; cases h
    | some oS =>
    rw [ha] at h
    rw [ih _ _ _ _ ha]
    obtain ⟨o, S'⟩ := oS
    dsimp only at h ⊢
    obtain ⟨b3, b4, h⟩ := xnb2 h
    rw [b3, b4]
    dsimp only [cond, Bool.not, Bool.and]
    cases o with
    | inl v => exact ih _ _ _ _ h
    | inr x =>
      dsimp only at h ⊢
      cases hv : xisV i.1 with
      | false => rw [hv] at h; cases h
      | true =>
      rw [hv] at h
      dsimp only [cond, Bool.not] at h ⊢
      cases hx : xcatch (xP mi).2.2.2.2.2.1 (xP mi).2.2.2.2.2.2 f.1 x with
      | none => rw [hx] at h; cases h
      | some q =>
      rw [hx] at h
      dsimp only at h ⊢
      obtain ⟨b5, b6, h⟩ := xnb2 h
      rw [b5, b6]
      exact ih _ _ _ _ h
theorem ax_mono {n k d mi : Nat} {f : xF} {r : xO × xS} (hnk : n ≤ k) (h : ax xP n d mi f = some r) : ax xP k d mi f = some r := by
  induction hnk with
  | refl => exact h
  | step _ ih => exact ax_succ _ _ _ _ _ ih
def Ex (d mi : Nat) (f : xF) (r : xO × xS) : Prop := ∃ n, ax xP n d mi f = some r
theorem Ex.next {d mi : Nat} {f f' : xF} {r : xO × xS} (h : xone d mi f = some (.inl f')) (k : Ex d mi f' r) : Ex d mi f r := by
  obtain ⟨n, hn⟩ := k
  refine ⟨n + 1, ?_⟩
  obtain ⟨pc, ls, st, S⟩ := f
  unfold xone at h
  unfold ax
  dsimp only at h ⊢
  cases hi : xat (xP mi).2.2.2.2.2.1 pc with
  | none => rw [hi] at h; cases h
  | some i =>
    rw [hi] at h
    dsimp only at h ⊢
    rw [h]
    exact hn
theorem Ex.done {d mi : Nat} {f : xF} {r : xO × xS} (h : xone d mi f = some (.inr (.inr r))) : Ex d mi f r := by
  refine ⟨1, ?_⟩
  obtain ⟨pc, ls, st, S⟩ := f
  unfold xone at h
  unfold ax
  dsimp only at h ⊢
  cases hi : xat (xP mi).2.2.2.2.2.1 pc with
  | none => rw [hi] at h; cases h
  | some i =>
    rw [hi] at h
    dsimp only at h ⊢
    rw [h]
theorem Ex.call {d mi mk : Nat} {pc : Nat} {ls : List (Option Value)} {st vs rest : List Value} {S S' : xS} {v : Option Value} {r : xO × xS} (h : xone d mi (pc, ls, st, S) = some (.inr (.inl (mk, vs, rest)))) (g : (Nat.ble (xsl vs).length (xP mk).2.2.2.1 && Nat.blt mk 999) = true)
    (hc : Ex (d - 1) mk (0, xent (xP mk).2.2.2.1 vs, [], S) (.inl v, S')) (hb : (Nat.ble S'.2.2.2.2.1 S.2.2.2.2.1 && Nat.ble S'.2.2.2.2.2 S.2.2.2.2.2) = true) (k : Ex d mi (pc + 3, xkl (xmask mi pc) ls, v.toList ++ rest, S') r) : Ex d mi (pc, ls, st, S) r := by
  obtain ⟨n1, h1⟩ := hc
  obtain ⟨n2, h2⟩ := k
  refine ⟨n1 + n2 + 1, ?_⟩
  unfold xone at h
  unfold ax
  dsimp only at h ⊢
  cases hi : xat (xP mi).2.2.2.2.2.1 pc with
  | none => rw [hi] at h; cases h
  | some i =>
    rw [hi] at h
    dsimp only at h ⊢
    rw [h]
    dsimp only
    rw [g, ax_mono (by omega) h1]
    dsimp only [cond, Bool.not]
    rw [hb]
    dsimp only [cond, Bool.not]
    exact ax_mono (by omega) h2
theorem Ex.caught {d mi mk : Nat} {pc x : Nat} {ls : List (Option Value)} {st vs rest : List Value} {S S' : xS} {r : xO × xS} {i : xC} {q : Nat × Nat} (hi : xat (xP mi).2.2.2.2.2.1 pc = some i) (hv : xisV i.1 = true) (h : xstep d i pc (xkl (xmask mi pc) ls) st S = some (.inr (.inl (mk, vs, rest)))) (g : (Nat.ble (xsl vs).length (xP mk).2.2.2.1 && Nat.blt mk 999) = true)
    (hc : Ex (d - 1) mk (0, xent (xP mk).2.2.2.1 vs, [], S) (.inr x, S')) (hb : (Nat.ble S'.2.2.2.2.1 S.2.2.2.2.1 && Nat.ble S'.2.2.2.2.2 S.2.2.2.2.2) = true) (hx : xcatch (xP mi).2.2.2.2.2.1 (xP mi).2.2.2.2.2.2 pc x = some q) (hf : (xfree (xkl (xmask mi pc) ls) q.2 && Nat.blt q.2 (xkl (xmask mi pc) ls).length) = true) (k : Ex d mi (q.1, (xkl (xmask mi pc) ls).set q.2 none, [], S') r) : Ex d mi (pc, ls, st, S) r := by
  obtain ⟨n1, h1⟩ := hc
  obtain ⟨n2, h2⟩ := k
  refine ⟨n1 + n2 + 1, ?_⟩
  unfold ax
  dsimp only
  rw [hi]
  dsimp only
  rw [h]
  dsimp only
  rw [g, ax_mono (by omega) h1]
  dsimp only [cond, Bool.not]
  rw [hb]
  dsimp only [cond, Bool.not]
  rw [hv, hx]
  dsimp only [cond, Bool.not]
  rw [hf]
  exact ax_mono (by omega) h2
/-- some steps that go on -/
def xmany : Nat → Nat → Nat → xF → Option xF
  | 0, _, _, f => some f
  | k + 1, d, mi, f => match xone d mi f with
    | some (.inl f') => xmany k d mi f'
    | _ => none
theorem Ex.many {d mi : Nat} {f' : xF} {r : xO × xS} (e : Ex d mi f' r) : ∀ (k : Nat) {f : xF}, xmany k d mi f = some f' → Ex d mi f r
  | 0, f, h => by
    cases h
    exact e
  | k + 1, f, h => by
    unfold xmany at h
    split at h
    · rename_i f1 h1
      exact Ex.next h1 (Ex.many e k h)
    · cases h
theorem Ex.ite {d mi a b : Nat} {c : Prop} {_ : Decidable c} {f : xF} {ls : List (Option Value)} {st : List Value} {S : xS} {r : xO × xS} (h : xone d mi f = some (.inl (if c then a else b, ls, st, S))) (ht : c → Ex d mi (a, ls, st, S) r) (he : ¬ c → Ex d mi (b, ls, st, S) r) : Ex d mi f r := by
  by_cases hc : c
  · rw [if_pos hc] at h
    exact Ex.next h (ht hc)
  · rw [if_neg hc] at h
    exact Ex.next h (he hc)
theorem Ex.guard {d mi n : Nat} {i : Int32} {f f' : xF} {r : xO × xS} (h : xone d mi f = xin i n (some (.inl f'))) (hg : ¬ (i < 0 ∨ n ≤ i.toNatClampNeg)) (k : Ex d mi f' r) : Ex d mi f r := by
  unfold xin at h
  rw [if_neg hg] at h
  exact Ex.next h k
theorem xkl_kl (m : Nat) (ls : List (Option Value)) : xkl m (xkl m ls) = xkl m ls := by
  induction ls generalizing m with
  | nil => rfl
  | cons o r ih =>
    simp only [xkl, ih]
    cases Nat.beq (m % 2) 1 <;> rfl
theorem ax_kill (n d mi pc : Nat) (ls : List (Option Value)) (st : List Value) (S : xS) : ax xP n d mi (pc, xkl (xmask mi pc) ls, st, S) = ax xP n d mi (pc, ls, st, S) := by
  cases n with
  | zero => rfl
  | succ n =>
    unfold ax
    dsimp only
    rw [xkl_kl]
/-- dead locals don't matter -/
theorem Ex.kill {d mi pc : Nat} {ls ls' : List (Option Value)} {st : List Value} {S : xS} {r : xO × xS} (h : xkl (xmask mi pc) ls = ls') (k : Ex d mi (pc, ls', st, S) r) : Ex d mi (pc, ls, st, S) r := by
  obtain ⟨n, hn⟩ := k
  subst h
  rw [ax_kill] at hn
  exact ⟨n, hn⟩
theorem xbb (c z : Nat) : (Nat.ble c c && Nat.ble z z) = true := by
  rw [Bool.and_eq_true]
  exact ⟨Nat.ble_self_eq_true c, Nat.ble_self_eq_true z⟩
