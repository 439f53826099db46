/-! The small machine is the machine's: values, cells, locals. -/
def xv (ad : Nat → Nat) : Value → Value
  | .ref k => .ref (ad k)
  | v => v
theorem xv_cat (ad : Nat → Nat) (v : Value) : (xv ad v).category = v.category := by cases v <;> rfl
theorem xcat_sum (ad : Nat → Nat) (r : List Value) : ((r.map (xv ad)).map fun v => v.category).sum = xcat r := by
  induction r with
  | nil => rfl
  | cons v r ih => simp only [List.map_cons, List.sum_cons, xcat, xv_cat, ih]
def xfd (ad : Nat → Nat) (h : xI) (k j : Nat) (o : Option Value) : Value := match o with
  | none => .int (h k j)
  | some v => xv ad v
def xfld (ad : Nat → Nat) (h : xI) (k : Nat) (ks : List (Option Value)) : List Value := ks.mapIdx (fun j o => xfd ad h k j o)
theorem xfld_at {ad : Nat → Nat} {h : xI} {k j : Nat} {ks : List (Option Value)} {o : Option Value} (hj : ks[j]? = some o) : (xfld ad h k ks)[j]? = some (xfd ad h k j o) := by
  simp [xfld, List.getElem?_mapIdx, hj]
theorem xfld_len {ad : Nat → Nat} {h : xI} {k : Nat} {ks : List (Option Value)} : (xfld ad h k ks).length = ks.length := by simp [xfld]
def xE (ad : Nat → Nat) (dA : Nat → ClassId) (h : xI) (g : xJ) (k : Nat) : xG → va_E
  | .inl o => .inr (o.1, xfld ad h k o.2)
  | .inr a => if a.1 = 3 then .inl (dA 3, a.2, .inr (.inl (g k))) else .inl (dA a.1, a.2, .inl (h k))
def xW (ad : Nat → Nat) (dA : Nat → ClassId) (S : xS) : va_W := S.1.mapIdx (fun k q => (ad k, xE ad dA S.2.1 S.2.2.1 k q))
theorem xW_len {ad : Nat → Nat} {dA : Nat → ClassId} {S : xS} : (xW ad dA S).length = S.1.length := by simp [xW]
theorem xW_at {ad : Nat → Nat} {dA : Nat → ClassId} {S : xS} {k : Nat} {q : xG} (h : S.1[k]? = some q) : (xW ad dA S)[k]? = some (ad k, xE ad dA S.2.1 S.2.2.1 k q) := by
  simp [xW, List.getElem?_mapIdx, h]
theorem xW_inv {ad : Nat → Nat} {dA : Nat → ClassId} {S : xS} {k : Nat} {x : Nat × va_E} (h : (xW ad dA S)[k]? = some x) : k < S.1.length ∧ x.1 = ad k := by
  have hl := (List.getElem?_eq_some_iff.mp h).1
  rw [xW_len] at hl
  refine ⟨hl, ?_⟩
  rw [xW_at (List.getElem?_eq_getElem hl)] at h
  cases h
  rfl
/-- one cell is changed -/
theorem xW_set {ad : Nat → Nat} {dA : Nat → ClassId} {S S' : xS} {k : Nat} {q : xG} {e : va_E} (hl : S'.1.length = S.1.length) (hk : S'.1[k]? = some q) (he : xE ad dA S'.2.1 S'.2.2.1 k q = e)
    (ho : ∀ j, j ≠ k → S'.1[j]? = S.1[j]? ∧ S'.2.1 j = S.2.1 j ∧ S'.2.2.1 j = S.2.2.1 j) : (xW ad dA S).set k (ad k, e) = xW ad dA S' := by
  subst he
  apply List.ext_getElem?
  intro j
  by_cases hj : j = k
  · subst hj
    have hlt : j < S.1.length := by rw [← hl]; exact (List.getElem?_eq_some_iff.mp hk).1
    rw [xW_at hk, List.getElem?_set_self (by rw [xW_len]; exact hlt)]
  · obtain ⟨h1, h2, h3⟩ := ho j hj
    rw [List.getElem?_set_ne (Ne.symm hj)]
    cases hq : S.1[j]? with
    | none =>
      have h4 : (xW ad dA S)[j]? = none := by
        rw [List.getElem?_eq_none_iff, xW_len]
        exact List.getElem?_eq_none_iff.mp hq
      have h5 : (xW ad dA S')[j]? = none := by
        rw [List.getElem?_eq_none_iff, xW_len, hl]
        exact List.getElem?_eq_none_iff.mp hq
      rw [h4, h5]
    | some q2 =>
      rw [xW_at hq, xW_at (h1.trans hq)]
      cases q2 with
      | inl o => simp only [xE, xfld, xfd, h2]
      | inr a => simp only [xE, h2, h3]
theorem xput_self {h : xI} {k j : Nat} {v : Int32} : xput h k j v k = upd (h k) j v := by simp [xput]
theorem xput_ne {h : xI} {k j a : Nat} {v : Int32} (n : a ≠ k) : xput h k j v a = h a := by simp [xput, n]
theorem xset_self {h : xI} {k : Nat} {f : Nat → Int32} : xset h k f k = f := by simp [xset]
theorem xset_ne {h : xI} {k a : Nat} {f : Nat → Int32} (n : a ≠ k) : xset h k f a = h a := by simp [xset, n]
theorem xputL_self {h : xJ} {k j : Nat} {v : Int64} : xputL h k j v k = vp_updL (h k) j v := by simp [xputL]
theorem xputL_ne {h : xJ} {k j a : Nat} {v : Int64} (n : a ≠ k) : xputL h k j v a = h a := by simp [xputL, n]
theorem xsetL_self {h : xJ} {k : Nat} {f : Nat → Int64} : xsetL h k f k = f := by simp [xsetL]
theorem xsetL_ne {h : xJ} {k a : Nat} {f : Nat → Int64} (n : a ≠ k) : xsetL h k f a = h a := by simp [xsetL, n]
/-- a field of ints is written -/
theorem xfld_put {ad : Nat → Nat} {h : xI} {k j : Nat} {ks : List (Option Value)} {v : Int32} (hj : ks[j]? = some none) : xfld ad (xput h k j v) k ks = (xfld ad h k ks).set j (.int v) := by
  have hl := (List.getElem?_eq_some_iff.mp hj).1
  apply List.ext_getElem?
  intro i
  by_cases hi : i = j
  · subst hi
    rw [List.getElem?_set_self (by rw [xfld_len]; exact hl), xfld_at hj]
    simp [xfd, xput, upd]
  · rw [List.getElem?_set_ne (Ne.symm hi)]
    simp only [xfld, List.getElem?_mapIdx]
    cases ks[i]? with
    | none => rfl
    | some o => cases o <;> simp [xfd, xput, upd, hi]
theorem xfld_ref {ad : Nat → Nat} {h : xI} {k j v : Nat} {ks : List (Option Value)} (hj : j < ks.length) : xfld ad h k (ks.set j (some (.ref v))) = (xfld ad h k ks).set j (.ref (ad v)) := by
  apply List.ext_getElem?
  intro i
  by_cases hi : i = j
  · subst hi
    rw [List.getElem?_set_self (by rw [xfld_len]; exact hj), xfld_at (List.getElem?_set_self hj)]
    rfl
  · rw [List.getElem?_set_ne (Ne.symm hi)]
    simp only [xfld, List.getElem?_mapIdx, List.getElem?_set_ne (Ne.symm hi)]
/-! locals -/
def xlv (ad : Nat → Nat) (lsC : Array Slot) (nL : Nat) (ls : List (Option Value)) : Prop := lsC.size = nL ∧ lv_wf lsC ∧ ls.length = nL ∧ ∀ (i : Nat) (v : Value), ls[i]? = some (some v) → lsC[i]? = some (.val (xv ad v))
def xll (ad : Nat → Nat) (ls : List (Option Value)) : List (Nat × Value) := (List.range ls.length).filterMap (fun i => match ls[i]? with
  | some (some v) => some (i, xv ad v)
  | _ => none)
theorem xll_mem {ad : Nat → Nat} {ls : List (Option Value)} {i : Nat} {w : Value} : (i, w) ∈ xll ad ls ↔ ∃ v, ls[i]? = some (some v) ∧ w = xv ad v := by
  simp only [xll, List.mem_filterMap, List.mem_range]
  constructor
  · rintro ⟨a, ha, h⟩
    split at h
    · rename_i v hv
      cases h
      exact ⟨v, hv, rfl⟩
    · cases h
  · rintro ⟨v, hv, rfl⟩
    exact ⟨i, (List.getElem?_eq_some_iff.mp hv).1, by rw [hv]⟩
theorem xlv.has {ad : Nat → Nat} {lsC : Array Slot} {nL : Nat} {ls : List (Option Value)} (h : xlv ad lsC nL ls) : lv_has lsC nL (xll ad ls) := by
  obtain ⟨h1, h2, -, h3⟩ := h
  refine ⟨h1, h2, fun q hq => ?_⟩
  obtain ⟨i, w⟩ := q
  obtain ⟨v, hv, rfl⟩ := xll_mem.mp hq
  exact h3 i v hv
theorem xlv.at {ad : Nat → Nat} {lsC : Array Slot} {nL : Nat} {ls : List (Option Value)} (h : xlv ad lsC nL ls) {i : Nat} {v : Value} (hv : ls[i]? = some (some v)) : lsC[i]? = some (.val (xv ad v)) := h.2.2.2 i v hv
theorem xfree_ne {ls : List (Option Value)} {k j : Nat} {v : Value} (hf : xfree ls k = true) (hj : j + 1 = k) (hv : ls[j]? = some (some v)) (ad : Nat → Nat) : ¬ (xv ad v).category = 2 := by
  subst hj
  rw [xv_cat]
  cases v with
  | long x => simp [xfree, hv] at hf
  | double b => simp [xfree, hv] at hf
  | _ => simp [Value.category]
/-- behind a store of one slot -/
theorem xlv.st1 {ad : Nat → Nat} {lsC lsD : Array Slot} {nL k : Nat} {ls : List (Option Value)} {v : Value} (h : xlv ad lsC nL ls) (hk : k < nL) (hf : xfree ls k = true)
    (h' : lv_has lsD nL ((k, xv ad v) :: (xll ad ls).filter (fun q => !(q.1 == k) && !(q.1 + 1 == k && q.2.category == 2)))) : xlv ad lsD nL (ls.set k (some v)) := by
  obtain ⟨h1, h2, h3, h4⟩ := h
  refine ⟨h'.1, h'.2.1, by simpa using h3, fun i w hw => ?_⟩
  by_cases hi : i = k
  · subst hi
    rw [List.getElem?_set_self (by rw [h3]; exact hk)] at hw
    cases hw
    exact h'.2.2 (i, xv ad v) List.mem_cons_self
  · rw [List.getElem?_set_ne (Ne.symm hi)] at hw
    refine h'.2.2 (i, xv ad w) (List.mem_cons_of_mem _ (List.mem_filter.mpr ⟨xll_mem.mpr ⟨w, hw, rfl⟩, ?_⟩))
    by_cases hik : i + 1 = k
    · have := xfree_ne hf hik hw ad
      simp [hi, this]
    · simp [hi, hik]
/-- behind a store of two slots -/
theorem xlv.st2 {ad : Nat → Nat} {lsC lsD : Array Slot} {nL k : Nat} {ls : List (Option Value)} {v : Value} (h : xlv ad lsC nL ls) (hk : k + 1 < nL) (hf : xfree ls k = true)
    (h' : lv_has lsD nL ((k, xv ad v) :: (xll ad ls).filter (fun q => !(q.1 == k) && (!(q.1 == k + 1) && !(q.1 + 1 == k && q.2.category == 2))))) : xlv ad lsD nL ((ls.set k (some v)).set (k + 1) none) := by
  obtain ⟨h1, h2, h3, h4⟩ := h
  refine ⟨h'.1, h'.2.1, by simpa using h3, fun i w hw => ?_⟩
  by_cases hi1 : i = k + 1
  · subst hi1
    rw [List.getElem?_set_self (by simp; omega)] at hw
    cases hw
  · rw [List.getElem?_set_ne (Ne.symm hi1)] at hw
    by_cases hi : i = k
    · subst hi
      rw [List.getElem?_set_self (by omega)] at hw
      cases hw
      exact h'.2.2 (i, xv ad v) List.mem_cons_self
    · rw [List.getElem?_set_ne (Ne.symm hi)] at hw
      refine h'.2.2 (i, xv ad w) (List.mem_cons_of_mem _ (List.mem_filter.mpr ⟨xll_mem.mpr ⟨w, hw, rfl⟩, ?_⟩))
      by_cases hik : i + 1 = k
      · have := xfree_ne hf hik hw ad
        simp [hi, hi1, this]
      · simp [hi, hi1, hik]
/-- a local is forgotten -/
theorem xlv.drop {ad : Nat → Nat} {lsC : Array Slot} {nL k : Nat} {ls : List (Option Value)} (h : xlv ad lsC nL ls) : xlv ad lsC nL (ls.set k none) := by
  obtain ⟨h1, h2, h3, h4⟩ := h
  refine ⟨h1, h2, by simpa using h3, fun i w hw => h4 i w ?_⟩
  by_cases hi : i = k
  · subst hi
    by_cases hl : i < ls.length
    · rw [List.getElem?_set_self hl] at hw
      cases hw
    · rw [List.getElem?_eq_none_iff.mpr (by simpa using Nat.le_of_not_lt hl)] at hw
      cases hw
  · rwa [List.getElem?_set_ne (Ne.symm hi)] at hw
/-- other addresses, where no reference of the locals' has moved -/
theorem xokv_eq {ad ad' : Nat → Nat} {n : Nat} (hag : ∀ k, k < n ∨ k = xscr → ad' k = ad k) {v : Value} (h : xokv n v = true) : xv ad' v = xv ad v := by
  cases v with
  | ref k =>
    simp only [xokv, Bool.or_eq_true] at h
    show Value.ref (ad' k) = Value.ref (ad k)
    rw [hag k (h.imp (fun h => Nat.blt_eq.mp h) (fun h => Nat.eq_of_beq_eq_true h))]
  | _ => rfl
theorem xoks_mem {n : Nat} {st : List Value} (h : xoks n st = true) : ∀ v ∈ st, xokv n v = true := by
  induction st with
  | nil => intro v hv; cases hv
  | cons a r ih =>
    simp only [xoks, Bool.and_eq_true] at h
    intro v hv
    rcases List.mem_cons.mp hv with rfl | hv
    · exact h.1
    · exact ih h.2 v hv
theorem xokl_mem {n : Nat} {ls : List (Option Value)} (h : xokl n ls = true) : ∀ v, some v ∈ ls → xokv n v = true := by
  induction ls with
  | nil => intro v hv; cases hv
  | cons a r ih =>
    intro v hv
    cases a with
    | none =>
      simp only [xokl] at h
      rcases List.mem_cons.mp hv with hv | hv
      · cases hv
      · exact ih h v hv
    | some w =>
      simp only [xokl, Bool.and_eq_true] at h
      rcases List.mem_cons.mp hv with hv | hv
      · cases hv
        exact h.1
      · exact ih h.2 v hv
theorem xoks_map {ad ad' : Nat → Nat} {n : Nat} (hag : ∀ k, k < n ∨ k = xscr → ad' k = ad k) {st : List Value} (h : ∀ v ∈ st, xokv n v = true) : st.map (xv ad') = st.map (xv ad) :=
  List.map_congr_left fun v hv => xokv_eq hag (h v hv)
theorem xlv.ag {ad ad' : Nat → Nat} {n nL : Nat} (hag : ∀ k, k < n ∨ k = xscr → ad' k = ad k) {lsC : Array Slot} {ls : List (Option Value)} (h : xlv ad lsC nL ls) (ho : xokl n ls = true) : xlv ad' lsC nL ls := by
  obtain ⟨h1, h2, h3, h4⟩ := h
  refine ⟨h1, h2, h3, fun i v hv => ?_⟩
  rw [xokv_eq hag (xokl_mem ho v (List.mem_of_getElem? hv))]
  exact h4 i v hv
/-- the locals with which a method begins -/
theorem xsl_len (ad : Nat → Nat) (vs : List Value) (hd : ∀ b, Value.double b ∉ vs) : (lg_sl (vs.map (xv ad))).length = (xsl vs).length := by
  induction vs with
  | nil => rfl
  | cons v r ih =>
    have ihr := ih (fun b hb => hd b (List.mem_cons_of_mem _ hb))
    unfold lg_sl at ihr ⊢
    rw [List.map_cons, List.flatMap_cons, List.length_append, ihr, xv_cat]
    cases v with
    | long x => simp [xsl, Value.category]; omega
    | double b => exact absurd List.mem_cons_self (hd b)
    | _ => simp [xsl, Value.category]; omega
theorem xsl_args (ad : Nat → Nat) : ∀ (vs : List Value) (n i : Nat) (v : Value), (∀ b, Value.double b ∉ vs) → (xsl vs)[i]? = some (some v) → (n + i, xv ad v) ∈ lv_args n (vs.map (xv ad))
  | [], _, i, v, _, h => by simp [xsl] at h
  | w :: r, n, i, v, hd, h => by
    have hdr : ∀ b, Value.double b ∉ r := fun b hb => hd b (List.mem_cons_of_mem _ hb)
    have one : (∀ x, w ≠ .long x) → (n + i, xv ad v) ∈ lv_args n ((w :: r).map (xv ad)) := by
      intro hw
      have e1 : xsl (w :: r) = some w :: xsl r := by
        cases w with
        | long x => exact absurd rfl (hw x)
        | _ => rfl
      have e2 : ¬ (xv ad w).category = 2 := by
        rw [xv_cat]
        cases w with
        | long x => exact absurd rfl (hw x)
        | double b => exact absurd List.mem_cons_self (hd b)
        | _ => simp [Value.category]
      rw [e1] at h
      rw [List.map_cons, lv_args, if_neg e2]
      cases i with
      | zero =>
        rw [List.getElem?_cons_zero] at h
        cases h
        exact List.mem_cons_self
      | succ i =>
        rw [List.getElem?_cons_succ] at h
        have := xsl_args ad r (n + 1) i v hdr h
        rw [show n + (i + 1) = n + 1 + i by omega]
        exact List.mem_cons_of_mem _ this
    cases w with
    | long x =>
      rw [List.map_cons, lv_args, if_pos (show (xv ad (.long x)).category = 2 from rfl)]
      rw [show xsl (.long x :: r) = some (.long x) :: none :: xsl r from rfl] at h
      cases i with
      | zero =>
        rw [List.getElem?_cons_zero] at h
        cases h
        exact List.mem_cons_self
      | succ i =>
        cases i with
        | zero => simp at h
        | succ i =>
          rw [List.getElem?_cons_succ, List.getElem?_cons_succ] at h
          have := xsl_args ad r (n + 2) i v hdr h
          rw [show n + (i + 1 + 1) = n + 2 + i by omega]
          exact List.mem_cons_of_mem _ this
    | int x => exact one (fun _ h => by cases h)
    | float x => exact one (fun _ h => by cases h)
    | double x => exact one (fun _ h => by cases h)
    | null => exact one (fun _ h => by cases h)
    | ref x => exact one (fun _ h => by cases h)
    | retAddr x => exact one (fun _ h => by cases h)
theorem xlv.entry (ad : Nat → Nat) (vs : List Value) {n : Nat} (hd : ∀ b, Value.double b ∉ vs) (hn : (xsl vs).length ≤ n) :
    xlv ad ((lg_sl (vs.map (xv ad)) ++ List.replicate (n - (lg_sl (vs.map (xv ad))).length) Slot.unset).toArray) n (xent n vs) := by
  have hl := lv_entry (vs.map (xv ad)) (n := n) (by rw [xsl_len ad vs hd]; exact hn)
  refine ⟨hl.1, hl.2.1, by simp [xent]; omega, fun i v hv => ?_⟩
  unfold xent at hv
  by_cases hi : i < (xsl vs).length
  · rw [List.getElem?_append_left hi] at hv
    have := xsl_args ad vs 0 i v hd hv
    rw [Nat.zero_add] at this
    exact hl.2.2 _ this
  · rw [List.getElem?_append_right (Nat.le_of_not_lt hi)] at hv
    have := List.mem_of_getElem? hv
    rw [List.mem_replicate] at this
    cases this.2
