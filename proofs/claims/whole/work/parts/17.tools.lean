/-! Tools for the methods as functions. -/
/-- the numbers: the class's cells, the script's, the reference's -/
def xmix (hc hr : xI) (xs : Nat → Int32) : xI := fun a => bif Nat.blt a 27 then hc a else bif Nat.beq a 1000 then xs else hr a
theorem xmix_putC {hc hr : xI} {xs : Nat → Int32} {k j : Nat} {v : Int32} (hk : Nat.blt k 27 = true) : xput (xmix hc hr xs) k j v = xmix (xput hc k j v) hr xs := by
  funext a
  unfold xput xmix
  by_cases h : a = k
  · subst h
    rw [if_pos rfl, hk]
    exact (if_pos rfl).symm
  · rw [if_neg h]
    cases hb : Nat.blt a 27 with
    | true => exact (if_neg h).symm
    | false => rfl
theorem xmix_putR {hc hr : xI} {xs : Nat → Int32} {k j : Nat} {v : Int32} (hk : (Nat.blt k 27 || Nat.beq k 1000) = false) : xput (xmix hc hr xs) k j v = xmix hc (xput hr k j v) xs := by
  funext a
  rw [Bool.or_eq_false_iff] at hk
  unfold xput xmix
  by_cases h : a = k
  · subst h
    rw [if_pos rfl, hk.1, hk.2]
    exact (if_pos rfl).symm
  · rw [if_neg h]
    cases hb : Nat.blt a 27 with
    | true => rfl
    | false =>
      cases hq : Nat.beq a 1000 with
      | true => rfl
      | false => exact (if_neg h).symm
theorem xmix_setC {hc hr : xI} {xs : Nat → Int32} {k : Nat} {f : Nat → Int32} (hk : Nat.blt k 27 = true) : xset (xmix hc hr xs) k f = xmix (xset hc k f) hr xs := by
  funext a
  unfold xset xmix
  by_cases h : a = k
  · subst h
    rw [if_pos rfl, hk]
    exact (if_pos rfl).symm
  · rw [if_neg h]
    cases hb : Nat.blt a 27 with
    | true => exact (if_neg h).symm
    | false => rfl
theorem xmix_setR {hc hr : xI} {xs : Nat → Int32} {k : Nat} {f : Nat → Int32} (hk : (Nat.blt k 27 || Nat.beq k 1000) = false) : xset (xmix hc hr xs) k f = xmix hc (xset hr k f) xs := by
  funext a
  rw [Bool.or_eq_false_iff] at hk
  unfold xset xmix
  by_cases h : a = k
  · subst h
    rw [if_pos rfl, hk.1, hk.2]
    exact (if_pos rfl).symm
  · rw [if_neg h]
    cases hb : Nat.blt a 27 with
    | true => rfl
    | false =>
      cases hq : Nat.beq a 1000 with
      | true => rfl
      | false => exact (if_neg h).symm
/-- an index within -/
def xgd {α : Type} (i : Int32) (n : Nat) (x : Option α) : Option α := if i < 0 ∨ n ≤ i.toNatClampNeg then none else x
theorem xgd_some {α : Type} {i : Int32} {n : Nat} {x : Option α} {r : α} (h : xgd i n x = some r) : ¬ (i < 0 ∨ n ≤ i.toNatClampNeg) ∧ x = some r := by
  unfold xgd at h
  split at h
  · cases h
  · rename_i g; exact ⟨g, h⟩
/-- a divisor that is not 0 -/
def xdz {α : Type} (y : Int32) (x : Option α) : Option α := if y = 0 then none else x
theorem xdz_some {α : Type} {y : Int32} {x : Option α} {r : α} (h : xdz y x = some r) : ¬ y = 0 ∧ x = some r := by
  unfold xdz at h
  split at h
  · cases h
  · rename_i g; exact ⟨g, h⟩
def xdzL {α : Type} (y : Int64) (x : Option α) : Option α := if y = 0 then none else x
theorem xdzL_some {α : Type} {y : Int64} {x : Option α} {r : α} (h : xdzL y x = some r) : ¬ y = 0 ∧ x = some r := by
  unfold xdzL at h
  split at h
  · cases h
  · rename_i g; exact ⟨g, h⟩
theorem xbd {α β : Type} {o : Option α} {f : α → Option β} {r : β} (h : o.bind f = some r) : ∃ q, o = some q ∧ f q = some r := by
  cases o with
  | none => cases h
  | some q => exact ⟨q, rfl, h⟩
abbrev xushr (x y : Int32) : Int32 := (x.toUInt32 >>> (y.toUInt32 &&& Int32.toUInt32 31)).toInt32
abbrev xlushr (x : Int64) (y : Int32) : Int64 := (x.toUInt64 >>> (y.toInt64.toUInt64 &&& Int64.toUInt64 63)).toInt64
theorem xstep_up {d d' pc : Nat} {i : xC} {ls : List (Option Value)} {st : List Value} {S : xS} {q : xR} (hd : d ≤ d') (h : xstep d i pc ls st S = some q) : xstep d' i pc ls st S = some q := by
  have hcall : ∀ dat n, xcall d dat n ls st = some q → xcall d' dat n ls st = some q := by
    intro dat n h
    unfold xcall at h ⊢
    cases d with
    | zero => cases h
    | succ d => cases d' with
      | zero => exact absurd hd (Nat.not_succ_le_zero d)
      | succ d' => exact h
  obtain ⟨ins, mk, dat⟩ := i
  cases ins with
  | invokestatic _ =>
    unfold xstep at h ⊢
    try dsimp only at h ⊢
    cases hb : Nat.beq dat 14421 with
    | true =>
      rw [hb] at h
      dsimp only [cond] at h ⊢
      unfold xcopy at h ⊢
      split at h
      case h_2 => cases h
      unfold xarr at h ⊢
      try dsimp only at h ⊢
      split at h
      case h_2 => cases h
      rename_i t n e
      try dsimp only at h ⊢
      cases hq : Nat.beq t 0 with
      | false => rw [hq] at h; cases h
      | true =>
      rw [hq] at h
      dsimp only [cond] at h ⊢
      split at h
      case h_2 => cases h
      rename_i t2 n2 e2
      try dsimp only at h ⊢
      cases hq2 : Nat.beq t2 0 with
      | false => rw [hq2] at h; cases h
      | true =>
      rw [hq2] at h
      dsimp only [cond] at h ⊢
      split at h
      · cases h
      · rename_i g
        rw [if_neg (fun c => g (by
          rcases c with c | c | c | c | c | c | c
          · exact .inl c
          · exact .inr (.inl c)
          · exact .inr (.inr (.inl c))
          · exact .inr (.inr (.inr (.inl c)))
          · exact .inr (.inr (.inr (.inr (.inl c))))
          · exact .inr (.inr (.inr (.inr (.inr (.inl (by omega))))))
          · exact .inr (.inr (.inr (.inr (.inr (.inr c)))))))]
        exact h
    | false =>
      rw [hb] at h
      exact hcall _ _ h
  | invokevirtual _ =>
    unfold xstep at h ⊢
    try dsimp only at h ⊢
    split at h
    case h_2 => cases h
    rename_i k e
    try dsimp only at h ⊢
    unfold xobj at h ⊢
    split at h
    case h_2 => cases h
    rename_i c' ks e2
    try dsimp only at h ⊢
    cases hq : Nat.beq c' (dat / 16000) with
    | false => rw [hq] at h; cases h
    | true =>
      rw [hq] at h
      exact hcall _ _ h
  | invokespecial _ =>
    unfold xstep at h ⊢
    try dsimp only at h ⊢
    cases hb : Nat.beq dat 14401 with
    | true =>
      rw [hb] at h
      dsimp only [cond] at h ⊢
      unfold xr1 at h ⊢
      split at h
      case h_2 => cases h
      cases d with
      | zero => cases h
      | succ d => cases d' with
        | zero => exact absurd hd (Nat.not_succ_le_zero d)
        | succ d' => exact h
    | false =>
      rw [hb] at h
      dsimp only [cond] at h ⊢
      split at h
      case h_2 => cases h
      rename_i k e
      exact hcall _ _ h
  | new _ =>
    unfold xstep at h ⊢
    try dsimp only at h ⊢
    cases hb : Nat.blt dat 100 with
    | true => rw [hb] at h; exact h
    | false =>
      rw [hb] at h
      dsimp only [cond] at h ⊢
      split at h
      · cases h
      · rw [if_neg (by omega)]
        exact h
  | ifCond cnd _ => cases cnd <;> exact h
  | if_icmp cnd _ => cases cnd <;> exact h
  | _ => exact h
theorem ax_up (n d d' mi : Nat) (f : xF) (r : xO × xS) (hd : d ≤ d') : ax xP n d mi f = some r → ax xP n d' mi f = some r := by
  induction n generalizing d d' mi f r with
  | zero => intro h; cases h
  | succ n ih =>
    intro h
    unfold ax at h ⊢
    cases hi : xat (xP mi).2.2.2.2.2.1 f.1 with
    | none => rw [hi] at h; cases h
    | some i =>
    rw [hi] at h
    dsimp only at h ⊢
    cases hs : xstep d i f.1 (xkl (xmask mi f.1) f.2.1) f.2.2.1 f.2.2.2 with
    | none => rw [hs] at h; cases h
    | some q =>
    rw [hs] at h
    rw [xstep_up hd hs]
    cases q with
    | inl f' => exact ih _ _ _ _ _ hd h
    | inr q =>
    cases q with
    | inr q => exact h
    | inl k =>
    dsimp only at h ⊢
    obtain ⟨b1, b2, h⟩ := xnb2 h
    rw [b1, b2]
    dsimp only [cond, Bool.not, Bool.and]
    cases ha : ax xP n (d - 1) k.1 (0, xent (xP k.1).2.2.2.1 k.2.1, [], f.2.2.2) with
    | none => rw [ha] at h; cases h
    | some oS =>
    rw [ha] at h
    rw [ih _ (d' - 1) _ _ _ (by omega) ha]
    obtain ⟨o, S'⟩ := oS
    dsimp only at h ⊢
    obtain ⟨b3, b4, h⟩ := xnb2 h
    rw [b3, b4]
    dsimp only [cond, Bool.not, Bool.and]
    cases o with
    | inl v => exact ih _ _ _ _ _ hd h
    | inr x =>
      dsimp only at h ⊢
      cases hv : xisV i.1 with
      | false => rw [hv] at h; cases h
      | true =>
      rw [hv] at h
      dsimp only [cond, Bool.not] at h ⊢
      cases hx : xcatch (xP mi).2.2.2.2.2.1 (xP mi).2.2.2.2.2.2 f.1 x with
      | none => rw [hx] at h; cases h
      | some q =>
      rw [hx] at h
      dsimp only at h ⊢
      obtain ⟨b5, b6, h⟩ := xnb2 h
      rw [b5, b6]
      exact ih _ _ _ _ _ hd h
theorem Ex.up {d d' mi : Nat} {f : xF} {r : xO × xS} (e : Ex d mi f r) (hd : d ≤ d') : Ex d' mi f r := by
  obtain ⟨n, h⟩ := e
  exact ⟨n, ax_up n d d' mi f r hd h⟩
abbrev xSt (G : List xG) (hc hr : xI) (xs : Nat → Int32) (g : xJ) (L c z : Nat) : xS := (G, xmix hc hr xs, g, L, c, z)
theorem Ex.putC {d mi pc k j : Nat} {v : Int32} {ls : List (Option Value)} {st : List Value} {G : List xG} {hc hr : xI} {xs : Nat → Int32} {g : xJ} {L c z : Nat} {f : xF} {r : xO × xS} (e : Ex d mi (pc, ls, st, xSt G (xput hc k j v) hr xs g L c z) r) (hk : Nat.blt k 27 = true) (h : xone d mi f = some (.inl (pc, ls, st, (G, xput (xmix hc hr xs) k j v, g, L, c, z)))) : Ex d mi f r := by
  rw [xmix_putC hk] at h
  exact Ex.next h e
theorem Ex.putR {d mi pc k j : Nat} {v : Int32} {ls : List (Option Value)} {st : List Value} {G : List xG} {hc hr : xI} {xs : Nat → Int32} {g : xJ} {L c z : Nat} {f : xF} {r : xO × xS} (e : Ex d mi (pc, ls, st, xSt G hc (xput hr k j v) xs g L c z) r) (hk : (Nat.blt k 27 || Nat.beq k 1000) = false) (h : xone d mi f = some (.inl (pc, ls, st, (G, xput (xmix hc hr xs) k j v, g, L, c, z)))) : Ex d mi f r := by
  rw [xmix_putR hk] at h
  exact Ex.next h e
theorem Ex.gputC {d mi pc k n : Nat} {i v : Int32} {ls : List (Option Value)} {st : List Value} {G : List xG} {hc hr : xI} {xs : Nat → Int32} {g : xJ} {L c z : Nat} {f : xF} {r : xO × xS} (e : Ex d mi (pc, ls, st, xSt G (xput hc k i.toNatClampNeg v) hr xs g L c z) r) (hk : Nat.blt k 27 = true) (hg : ¬ (i < 0 ∨ n ≤ i.toNatClampNeg)) (h : xone d mi f = xin i n (some (.inl (pc, ls, st, (G, xput (xmix hc hr xs) k i.toNatClampNeg v, g, L, c, z))))) : Ex d mi f r := by
  rw [xmix_putC hk] at h
  exact Ex.guard h hg e
theorem Ex.gputR {d mi pc k n : Nat} {i v : Int32} {ls : List (Option Value)} {st : List Value} {G : List xG} {hc hr : xI} {xs : Nat → Int32} {g : xJ} {L c z : Nat} {f : xF} {r : xO × xS} (e : Ex d mi (pc, ls, st, xSt G hc (xput hr k i.toNatClampNeg v) xs g L c z) r) (hk : (Nat.blt k 27 || Nat.beq k 1000) = false) (hg : ¬ (i < 0 ∨ n ≤ i.toNatClampNeg)) (h : xone d mi f = xin i n (some (.inl (pc, ls, st, (G, xput (xmix hc hr xs) k i.toNatClampNeg v, g, L, c, z))))) : Ex d mi f r := by
  rw [xmix_putR hk] at h
  exact Ex.guard h hg e
theorem Ex.div {d mi : Nat} {y : Int32} {f f' : xF} {r : xO × xS} (e : Ex d mi f' r) (hy : ¬ y = 0) (h : xone d mi f = if y = 0 then none else some (.inl f')) : Ex d mi f r := by
  rw [if_neg hy] at h
  exact Ex.next h e
theorem Ex.divL {d mi : Nat} {y : Int64} {f f' : xF} {r : xO × xS} (e : Ex d mi f' r) (hy : ¬ y = 0) (h : xone d mi f = if y = 0 then none else some (.inl f')) : Ex d mi f r := by
  rw [if_neg hy] at h
  exact Ex.next h e
