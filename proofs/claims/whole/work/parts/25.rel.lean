/-! The class beside the reference: what always holds. -/
def RB (hc hr : xI) : Prop :=
  (hc 0 5 = hr 27 29) ∧
  (0 ≤ (hr 27 29).toInt ∧ (hr 27 29).toInt ≤ 4) ∧
  (∀ j, hc 26 j = hr 45 j) ∧
  (hc 0 6 = hr 27 1) ∧
  (0 ≤ (hr 27 1).toInt ∧ (hr 27 1).toInt ≤ 4) ∧
  (hr 27 1 = 4 → hc 0 7 = hr 27 31) ∧
  (hc 0 8 = hr 27 9) ∧
  (hc 0 9 = hr 27 10) ∧
  (hc 1 1 = hr 27 2) ∧
  (0 ≤ (hr 27 2).toInt ∧ (hr 27 2).toInt ≤ 240) ∧
  (∀ j, hc 2 j = hr 28 j) ∧
  (hc 1 2 = hr 27 4) ∧
  (0 ≤ (hr 27 4).toInt ∧ (hr 27 4).toInt ≤ 6) ∧
  (hr 29 0 = 0) ∧
  (∀ f, hc 3 f = hr 29 (f + 1)) ∧
  (∀ f, hc 4 f = hr 30 f) ∧
  (∀ f, 0 ≤ (hr 30 f).toInt ∧ (hr 30 f).toInt ≤ 4) ∧
  (∀ f, hc 5 f = hr 30 f + hr 31 f) ∧
  (∀ f, 0 ≤ (hr 31 f).toInt ∧ (hr 31 f).toInt ≤ 4) ∧
  (∀ f, hc 6 f = hr 32 f) ∧
  (∀ f, hr 32 f = 0 ∨ hr 32 f = 1) ∧
  (∀ f : Nat, (f : Int) < (hr 27 4).toInt → (hr 29 f).toInt < (hr 29 (f + 1)).toInt) ∧
  ((hr 29 (hr 27 4).toInt.toNat).toInt ≤ (hr 27 2).toInt) ∧
  (∀ j, hr 43 j = hc 12 j &&& 255) ∧
  (hc 11 1 = hr 27 27) ∧
  (1 ≤ (hr 27 27).toInt ∧ (hr 27 27).toInt ≤ 4) ∧
  (∀ j, hc 20 j = hr 44 j) ∧
  (hr 27 1 = 3 → hc 19 6 = hr 27 40)
theorem RB.argc {hc hr : xI} (R : RB hc hr) : hc 0 5 = hr 27 29 := R.1
theorem RB.argcB {hc hr : xI} (R : RB hc hr) : 0 ≤ (hr 27 29).toInt ∧ (hr 27 29).toInt ≤ 4 := R.2.1
theorem RB.args {hc hr : xI} (R : RB hc hr) : ∀ j, hc 26 j = hr 45 j := R.2.2.1
theorem RB.status {hc hr : xI} (R : RB hc hr) : hc 0 6 = hr 27 1 := R.2.2.2.1
theorem RB.statusB {hc hr : xI} (R : RB hc hr) : 0 ≤ (hr 27 1).toInt ∧ (hr 27 1).toInt ≤ 4 := R.2.2.2.2.1
theorem RB.trap {hc hr : xI} (R : RB hc hr) : hr 27 1 = 4 → hc 0 7 = hr 27 31 := R.2.2.2.2.2.1
theorem RB.fF {hc hr : xI} (R : RB hc hr) : hc 0 8 = hr 27 9 := R.2.2.2.2.2.2.1
theorem RB.fP {hc hr : xI} (R : RB hc hr) : hc 0 9 = hr 27 10 := R.2.2.2.2.2.2.2.1
theorem RB.len {hc hr : xI} (R : RB hc hr) : hc 1 1 = hr 27 2 := R.2.2.2.2.2.2.2.2.1
theorem RB.lenB {hc hr : xI} (R : RB hc hr) : 0 ≤ (hr 27 2).toInt ∧ (hr 27 2).toInt ≤ 240 := R.2.2.2.2.2.2.2.2.2.1
theorem RB.words {hc hr : xI} (R : RB hc hr) : ∀ j, hc 2 j = hr 28 j := R.2.2.2.2.2.2.2.2.2.2.1
theorem RB.fns {hc hr : xI} (R : RB hc hr) : hc 1 2 = hr 27 4 := R.2.2.2.2.2.2.2.2.2.2.2.1
theorem RB.fnsB {hc hr : xI} (R : RB hc hr) : 0 ≤ (hr 27 4).toInt ∧ (hr 27 4).toInt ≤ 6 := R.2.2.2.2.2.2.2.2.2.2.2.2.1
theorem RB.from0 {hc hr : xI} (R : RB hc hr) : hr 29 0 = 0 := R.2.2.2.2.2.2.2.2.2.2.2.2.2.1
theorem RB.ends {hc hr : xI} (R : RB hc hr) : ∀ f, hc 3 f = hr 29 (f + 1) := R.2.2.2.2.2.2.2.2.2.2.2.2.2.2.1
theorem RB.pars {hc hr : xI} (R : RB hc hr) : ∀ f, hc 4 f = hr 30 f := R.2.2.2.2.2.2.2.2.2.2.2.2.2.2.2.1
theorem RB.parsB {hc hr : xI} (R : RB hc hr) : ∀ f, 0 ≤ (hr 30 f).toInt ∧ (hr 30 f).toInt ≤ 4 := R.2.2.2.2.2.2.2.2.2.2.2.2.2.2.2.2.1
theorem RB.locs {hc hr : xI} (R : RB hc hr) : ∀ f, hc 5 f = hr 30 f + hr 31 f := R.2.2.2.2.2.2.2.2.2.2.2.2.2.2.2.2.2.1
theorem RB.locsB {hc hr : xI} (R : RB hc hr) : ∀ f, 0 ≤ (hr 31 f).toInt ∧ (hr 31 f).toInt ≤ 4 := R.2.2.2.2.2.2.2.2.2.2.2.2.2.2.2.2.2.2.1
theorem RB.ress {hc hr : xI} (R : RB hc hr) : ∀ f, hc 6 f = hr 32 f := R.2.2.2.2.2.2.2.2.2.2.2.2.2.2.2.2.2.2.2.1
theorem RB.ressB {hc hr : xI} (R : RB hc hr) : ∀ f, hr 32 f = 0 ∨ hr 32 f = 1 := R.2.2.2.2.2.2.2.2.2.2.2.2.2.2.2.2.2.2.2.2.1
theorem RB.rise {hc hr : xI} (R : RB hc hr) : ∀ f : Nat, (f : Int) < (hr 27 4).toInt → (hr 29 f).toInt < (hr 29 (f + 1)).toInt := R.2.2.2.2.2.2.2.2.2.2.2.2.2.2.2.2.2.2.2.2.2.1
theorem RB.last {hc hr : xI} (R : RB hc hr) : (hr 29 (hr 27 4).toInt.toNat).toInt ≤ (hr 27 2).toInt := R.2.2.2.2.2.2.2.2.2.2.2.2.2.2.2.2.2.2.2.2.2.2.1
theorem RB.mem {hc hr : xI} (R : RB hc hr) : ∀ j, hr 43 j = hc 12 j &&& 255 := R.2.2.2.2.2.2.2.2.2.2.2.2.2.2.2.2.2.2.2.2.2.2.2.1
theorem RB.pages {hc hr : xI} (R : RB hc hr) : hc 11 1 = hr 27 27 := R.2.2.2.2.2.2.2.2.2.2.2.2.2.2.2.2.2.2.2.2.2.2.2.2.1
theorem RB.pagesB {hc hr : xI} (R : RB hc hr) : 1 ≤ (hr 27 27).toInt ∧ (hr 27 27).toInt ≤ 4 := R.2.2.2.2.2.2.2.2.2.2.2.2.2.2.2.2.2.2.2.2.2.2.2.2.2.1
theorem RB.glob {hc hr : xI} (R : RB hc hr) : ∀ j, hc 20 j = hr 44 j := R.2.2.2.2.2.2.2.2.2.2.2.2.2.2.2.2.2.2.2.2.2.2.2.2.2.2.1
theorem RB.outc {hc hr : xI} (R : RB hc hr) : hr 27 1 = 3 → hc 19 6 = hr 27 40 := R.2.2.2.2.2.2.2.2.2.2.2.2.2.2.2.2.2.2.2.2.2.2.2.2.2.2.2
/-- a run of the class beside a run of the reference -/
def RN (hc hr : xI) : Prop :=
  (hc 19 7 = hr 27 35) ∧
  (1 ≤ (hr 27 35).toInt ∧ (hr 27 35).toInt ≤ 6) ∧
  (hc 19 4 = hr 27 33) ∧
  (0 ≤ (hr 27 33).toInt ∧ (hr 27 33).toInt ≤ 100) ∧
  (hc 19 5 = hr 27 32) ∧
  (∀ j : Nat, (j : Int) < (hr 27 33).toInt → hc 21 j = hr 46 j) ∧
  (∀ c : Nat, (c : Int) < (hr 27 35).toInt → hc 22 c = hr 47 c ∧ 0 ≤ (hr 47 c).toInt ∧ (hr 47 c).toInt < (hr 27 4).toInt) ∧
  (∀ c : Nat, 0 < c → (c : Int) < (hr 27 35).toInt → hc 23 c = hr 48 c) ∧
  (∀ c : Nat, (c : Int) < (hr 27 35).toInt → hc 24 c = hr 49 c) ∧
  (∀ c k : Nat, (c : Int) < (hr 27 35).toInt → k < 8 → hc 25 (8 * c + k) = hr 50 (8 * c + k))
theorem RN.calls {hc hr : xI} (R : RN hc hr) : hc 19 7 = hr 27 35 := R.1
theorem RN.callsB {hc hr : xI} (R : RN hc hr) : 1 ≤ (hr 27 35).toInt ∧ (hr 27 35).toInt ≤ 6 := R.2.1
theorem RN.depth {hc hr : xI} (R : RN hc hr) : hc 19 4 = hr 27 33 := R.2.2.1
theorem RN.depthB {hc hr : xI} (R : RN hc hr) : 0 ≤ (hr 27 33).toInt ∧ (hr 27 33).toInt ≤ 100 := R.2.2.2.1
theorem RN.next {hc hr : xI} (R : RN hc hr) : hc 19 5 = hr 27 32 := R.2.2.2.2.1
theorem RN.stack {hc hr : xI} (R : RN hc hr) : ∀ j : Nat, (j : Int) < (hr 27 33).toInt → hc 21 j = hr 46 j := R.2.2.2.2.2.1
theorem RN.callee {hc hr : xI} (R : RN hc hr) : ∀ c : Nat, (c : Int) < (hr 27 35).toInt → hc 22 c = hr 47 c ∧ 0 ≤ (hr 47 c).toInt ∧ (hr 47 c).toInt < (hr 27 4).toInt := R.2.2.2.2.2.2.1
theorem RN.back {hc hr : xI} (R : RN hc hr) : ∀ c : Nat, 0 < c → (c : Int) < (hr 27 35).toInt → hc 23 c = hr 48 c := R.2.2.2.2.2.2.2.1
theorem RN.base {hc hr : xI} (R : RN hc hr) : ∀ c : Nat, (c : Int) < (hr 27 35).toInt → hc 24 c = hr 49 c := R.2.2.2.2.2.2.2.2.1
theorem RN.locl {hc hr : xI} (R : RN hc hr) : ∀ c k : Nat, (c : Int) < (hr 27 35).toInt → k < 8 → hc 25 (8 * c + k) = hr 50 (8 * c + k) := R.2.2.2.2.2.2.2.2.2
