/-! What is meant: the room, the row s of a board (the reference's own form), and what is asked of it. -/
abbrev zR : Type := Nat × Nat × Nat × Int × Int × (Int → Int) × (Int → Int) × (Int → Int) × (Int → Int)
def rH (R : zR) : Nat := R.1
def rW (R : zR) : Nat := R.2.1
def rC (R : zR) : Nat := R.2.2.1
def rF (R : zR) : Int := R.2.2.2.1
def rN (R : zR) : Int := R.2.2.2.2.1
def rO (R : zR) : Int → Int := R.2.2.2.2.2.1
def rS (R : zR) : Int → Int := R.2.2.2.2.2.2.1
def rX (R : zR) : Int → Int := R.2.2.2.2.2.2.2.1
def rP (R : zR) : Int → Int := R.2.2.2.2.2.2.2.2
/-- a room as it can be -/
def wR (R : zR) : Prop := rH R ≤ 5 ∧ rW R ≤ 10 ∧ rC R ≤ 4 ∧ 4 ≤ rF R ∧ rF R ≤ 30 ∧ 0 ≤ rN R ∧ rN R ≤ 9 ∧ (∀ w : Int, 0 ≤ w → w < rW R → 0 ≤ rO R w ∧ rO R w < rH R) ∧ (∀ w : Int, 0 ≤ w → w < rW R → 1 ≤ rS R w ∧ rS R w ≤ 9) ∧ (∀ c : Int, 0 ≤ c → c < rC R → 0 ≤ rX R c ∧ rX R c < rF R) ∧ (∀ c : Int, 0 ≤ c → c < rC R → 1 ≤ rP R c ∧ rP R c ≤ 99)
/-- the reference's room -/
def mR (R : zR) (I : Nat → Nat → Int) (A : Nat → Int → Int) : Prop := wR R ∧ I 59 21 = rH R ∧ I 59 22 = rW R ∧ I 59 23 = rC R ∧ I 59 24 = rF R ∧ I 59 25 = rN R ∧ (∀ w : Int, 0 ≤ w → w < rW R → A 66 (3 * w) = rO R w) ∧ (∀ w : Int, 0 ≤ w → w < rW R → A 66 (3 * w + 1) = rS R w) ∧ (∀ c : Int, 0 ≤ c → c < rC R → A 67 (2 * c) = rX R c) ∧ (∀ c : Int, 0 ≤ c → c < rC R → A 67 (2 * c + 1) = rP R c)
/-- the class's room -/
def cR (R : zR) (I : Nat → Nat → Int) (A : Nat → Int → Int) : Prop := wR R ∧ I 5 0 = rH R ∧ I 5 1 = rW R ∧ I 5 2 = rC R ∧ I 5 3 = rF R ∧ I 5 4 = rN R ∧ (∀ w : Int, 0 ≤ w → w < rW R → A 7 w = rO R w) ∧ (∀ w : Int, 0 ≤ w → w < rW R → A 8 w = rS R w) ∧ (∀ c : Int, 0 ≤ c → c < rC R → A 10 c = rX R c) ∧ (∀ c : Int, 0 ≤ c → c < rC R → A 11 c = rP R c)
def many (R : zR) (s : Int → Int) (x : Int) : Int := cnt (rW R) fun w => decide (s w = x)
def over (R : zR) (s : Int → Int) (w : Int) : Int := if s w < 0 then 0 else many R s (s w) - 1 - s (10 + w)
abbrev free (R : zR) (s : Int → Int) (w : Int) : Prop := 0 ≤ s w ∧ over R s w = 0
def who (R : zR) (s : Int → Int) (x u : Int) : Int := fst (rW R) fun w => decide (s w = x ∧ s (10 + w) = u)
def cupAt (R : zR) (x : Int) : Int := fst (rC R) fun c => decide (rX R c = x)
/-- a row as it can be: places, heights, cups, coins -/
def sP (R : zR) (s : Int → Int) : Prop := ∀ w : Int, 0 ≤ w → w < rW R → ((0 ≤ s w ∧ s w < rF R) ∨ s w = -2 ∨ (s w = -3 ∧ 0 ≤ s (30 + w) ∧ s (30 + w) < rC R)) ∧ 0 ≤ s (10 + w) ∧ s (10 + w) ≤ 1000
theorem many_lo (R : zR) (s : Int → Int) (x : Int) : 0 ≤ many R s x := cnt_lo _ _
theorem many_hi (R : zR) (s : Int → Int) (x : Int) : many R s x ≤ rW R := cnt_hi _ _
theorem cupAt_lo (R : zR) (x : Int) : -1 ≤ cupAt R x := fst_lo _ _
theorem cupAt_hi (R : zR) (x : Int) : cupAt R x < rC R := fst_hi _ _
