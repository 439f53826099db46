/-! Runs. -/
/-- locals that no later instruction reads are forgotten: by a mask -/
def xkl : Nat → List (Option Value) → List (Option Value)
  | _, [] => []
  | m, o :: r => (bif Nat.beq (m % 2) 1 then none else o) :: xkl (m / 2) r
def xmlook : List (Nat × Nat) → Nat → Nat
  | [], _ => 0
  | (q, m) :: r, pc => bif Nat.beq q pc then m else xmlook r pc
def xmask (mi pc : Nat) : Nat := xmlook (bif Nat.beq mi 999 then xML_law else xML.getD mi []) pc
/-- a run: fuel, frames that may be laid, the method, where it stands -/
def ax (P : Nat → xM) : Nat → Nat → Nat → xF → Option (xO × xS)
  | 0, _, _, _ => none
  | n + 1, d, mi, f => match xat (P mi).2.2.2.2.2.1 f.1 with
    | none => none
    | some i => match xstep d i f.1 (xkl (xmask mi f.1) f.2.1) f.2.2.1 f.2.2.2 with
      | none => none
      | some (.inl f') => ax P n d mi f'
      | some (.inr (.inr r)) => some r
      | some (.inr (.inl k)) => bif !(Nat.ble (xsl k.2.1).length (P k.1).2.2.2.1 && Nat.blt k.1 999) then none else
        match ax P n (d - 1) k.1 (0, xent (P k.1).2.2.2.1 k.2.1, [], f.2.2.2) with
        | none => none
        | some (o, S') => bif !(Nat.ble S'.2.2.2.2.1 f.2.2.2.2.2.2.2.1 && Nat.ble S'.2.2.2.2.2 f.2.2.2.2.2.2.2.2) then none else
          match o with
          | .inl v => ax P n d mi (f.1 + 3, xkl (xmask mi f.1) f.2.1, v.toList ++ k.2.2, S')
          | .inr x => bif !(xisV i.1) then none else match xcatch (P mi).2.2.2.2.2.1 (P mi).2.2.2.2.2.2 f.1 x with
            | none => none
            | some q => bif !(xfree (xkl (xmask mi f.1) f.2.1) q.2 && Nat.blt q.2 (xkl (xmask mi f.1) f.2.1).length) then none else ax P n d mi (q.1, (xkl (xmask mi f.1) f.2.1).set q.2 none, [], S')
