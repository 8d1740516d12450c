/-! What is meant: the room, the row s of a board (the reference's own form), and what is asked of it. -/
abbrev zR : Type := Nat × Nat × Nat × Int × Int × (Int → Int) × (Int → Int) × (Int → Int) × (Int → Int)
def rH (R : zR) : Nat := R.1
def rW (R : zR) : Nat := R.2.1
def rC (R : zR) : Nat := R.2.2.1
def rF (R : zR) : Int := R.2.2.2.1
def rN (R : zR) : Int := R.2.2.2.2.1
def rO (R : zR) : Int → Int := R.2.2.2.2.2.1
def rS (R : zR) : Int → Int := R.2.2.2.2.2.2.1
def rX (R : zR) : Int → Int := R.2.2.2.2.2.2.2.1
def rP (R : zR) : Int → Int := R.2.2.2.2.2.2.2.2
/-- a room as it can be -/
def wR (R : zR) : Prop := rH R ≤ 5 ∧ rW R ≤ 10 ∧ rC R ≤ 4 ∧ 4 ≤ rF R ∧ rF R ≤ 30 ∧ 0 ≤ rN R ∧ rN R ≤ 9 ∧ (∀ w : Int, 0 ≤ w → w < rW R → 0 ≤ rO R w ∧ rO R w < rH R) ∧ (∀ w : Int, 0 ≤ w → w < rW R → 1 ≤ rS R w ∧ rS R w ≤ 9) ∧ (∀ c : Int, 0 ≤ c → c < rC R → 0 ≤ rX R c ∧ rX R c < rF R) ∧ (∀ c : Int, 0 ≤ c → c < rC R → 1 ≤ rP R c ∧ rP R c ≤ 99)
/-- the reference's room -/
def mR (R : zR) (I : Nat → Nat → Int) (A : Nat → Int → Int) : Prop := wR R ∧ I 59 21 = rH R ∧ I 59 22 = rW R ∧ I 59 23 = rC R ∧ I 59 24 = rF R ∧ I 59 25 = rN R ∧ (∀ w : Int, 0 ≤ w → w < rW R → A 66 (3 * w) = rO R w) ∧ (∀ w : Int, 0 ≤ w → w < rW R → A 66 (3 * w + 1) = rS R w) ∧ (∀ c : Int, 0 ≤ c → c < rC R → A 67 (2 * c) = rX R c) ∧ (∀ c : Int, 0 ≤ c → c < rC R → A 67 (2 * c + 1) = rP R c)
/-- the class's room -/
def cR (R : zR) (I : Nat → Nat → Int) (A : Nat → Int → Int) : Prop := wR R ∧ I 5 0 = rH R ∧ I 5 1 = rW R ∧ I 5 2 = rC R ∧ I 5 3 = rF R ∧ I 5 4 = rN R ∧ (∀ w : Int, 0 ≤ w → w < rW R → A 7 w = rO R w) ∧ (∀ w : Int, 0 ≤ w → w < rW R → A 8 w = rS R w) ∧ (∀ c : Int, 0 ≤ c → c < rC R → A 10 c = rX R c) ∧ (∀ c : Int, 0 ≤ c → c < rC R → A 11 c = rP R c)
def many (R : zR) (s : Int → Int) (x : Int) : Int := cnt (rW R) fun w => decide (s w = x)
def over (R : zR) (s : Int → Int) (w : Int) : Int := if s w < 0 then 0 else many R s (s w) - 1 - s (10 + w)
abbrev free (R : zR) (s : Int → Int) (w : Int) : Prop := 0 ≤ s w ∧ over R s w = 0
def who (R : zR) (s : Int → Int) (x u : Int) : Int := fst (rW R) fun w => decide (s w = x ∧ s (10 + w) = u)
def cupAt (R : zR) (x : Int) : Int := fst (rC R) fun c => decide (rX R c = x)
/-- a row as it can be: places, heights, cups, coins -/
def sP (R : zR) (s : Int → Int) : Prop := ∀ w : Int, 0 ≤ w → w < rW R → ((0 ≤ s w ∧ s w < rF R) ∨ s w = -2 ∨ (s w = -3 ∧ 0 ≤ s (30 + w) ∧ s (30 + w) < rC R)) ∧ 0 ≤ s (10 + w) ∧ s (10 + w) ≤ 1000
/-- bounds that suffice for comparing -/
def sB (R : zR) (s : Int → Int) : Prop := ∀ w : Int, 0 ≤ w → w < rW R → -100 ≤ s w ∧ s w ≤ 100 ∧ -100 ≤ s (10 + w) ∧ s (10 + w) ≤ 1000
theorem sP.b {R : zR} {s : Int → Int} (h : sP R s) (hR : wR R) : sB R s := fun w h0 h1 => by
  have := h w h0 h1
  obtain ⟨-, -, -, -, hf, -⟩ := hR
  omega
theorem many_lo (R : zR) (s : Int → Int) (x : Int) : 0 ≤ many R s x := cnt_lo _ _
theorem many_hi (R : zR) (s : Int → Int) (x : Int) : many R s x ≤ rW R := cnt_hi _ _
theorem cupAt_lo (R : zR) (x : Int) : -1 ≤ cupAt R x := fst_lo _ _
theorem cupAt_hi (R : zR) (x : Int) : cupAt R x < rC R := fst_hi _ _
/-- the class's word for a place: a cup's number goes into it -/
def enc (x q : Int) : Int := if x = -3 then -3 - q else x
/-- a board of the class holds the row s -/
def bR (R : zR) (s cl un sh co he : Int → Int) (dy dm : Int) : Prop := (∀ w : Int, 0 ≤ w → w < rW R → cl w = enc (s w) (s (30 + w))) ∧ (∀ w : Int, 0 ≤ w → w < rW R → un w = s (10 + w)) ∧ (∀ w : Int, 0 ≤ w → w < rW R → sh w = s (20 + w)) ∧ (∀ h : Int, 0 ≤ h → h < rH R → co h = s (40 + h)) ∧ (∀ x : Int, 0 ≤ x → x < 30 → he x = many R s x) ∧ dy = s 45 ∧ dm = s 46
theorem enc_f {R : zR} {s : Int → Int} {w : Int} (h : sP R s) (h0 : 0 ≤ w) (h1 : w < rW R) : (0 ≤ s w → enc (s w) (s (30 + w)) = s w) ∧ (s w < 0 → enc (s w) (s (30 + w)) < 0 ∧ -10 ≤ enc (s w) (s (30 + w))  ∨ rC R > 4) ∧ (s w = -2 → enc (s w) (s (30 + w)) = -2) ∧ (s w = -3 → enc (s w) (s (30 + w)) = -3 - s (30 + w)) ∧ (s w ≠ -3 → enc (s w) (s (30 + w)) = s w) := by
  have := (h w h0 h1).1
  unfold enc
  split <;> omega
/-- bits -/
def bts : Nat → (Nat → Bool) → Int
  | 0, _ => 0
  | n + 1, p => bts n p + (if p n = true then (2 : Int) ^ n else 0)
theorem bts_lo (n : Nat) (p : Nat → Bool) : 0 ≤ bts n p := by
  induction n with
  | zero => exact Int.le_refl 0
  | succ n ih =>
    have := Int.pow_pos (m := n) (show (0 : Int) < 2 by decide)
    unfold bts; split <;> omega
theorem bts_hi (n : Nat) (p : Nat → Bool) : bts n p < 2 ^ n := by
  induction n with
  | zero => exact Int.zero_lt_one
  | succ n ih =>
    have := Int.pow_pos (m := n) (show (0 : Int) < 2 by decide)
    have e : (2 : Int) ^ (n + 1) = 2 ^ n * 2 := Int.pow_succ 2 n
    unfold bts; split <;> omega
theorem bts_cg {n : Nat} {p q : Nat → Bool} (h : ∀ k, k < n → p k = q k) : bts n p = bts n q := by
  induction n with
  | zero => rfl
  | succ n ih => unfold bts; rw [ih fun k hk => h k (by omega), h n (by omega)]
theorem bor_d : ∀ j : Fin 10, ∀ m : Fin 512, m.val < 2 ^ j.val → zI (m.val : Int) ||| (zI 1 <<< (zI (j.val : Int) &&& zI 31)) = zI ((m.val : Int) + 2 ^ j.val) := by decide +kernel
theorem bts_t {j : Nat} {p : Nat → Bool} (hj : j < 10) (h : p j = true) : zI (bts j p) ||| (zI 1 <<< (zI (j : Int) &&& zI 31)) = zI (bts (j + 1) p) := by
  have h0 := bts_lo j p
  have h1 := bts_hi j p
  obtain ⟨m, hm⟩ := Int.eq_ofNat_of_zero_le h0
  have hb : (2 : Int) ^ j = ((2 ^ j : Nat) : Int) := by rw [Int.natCast_pow]; rfl
  have h2 : 2 ^ j ≤ 2 ^ 9 := Nat.pow_le_pow_right (by decide) (by omega)
  have hm1 : m < 2 ^ j := by omega
  have := bor_d ⟨j, hj⟩ ⟨m, by omega⟩ hm1
  rw [hm, this]
  congr 1
  show _ = bts j p + (if p j = true then (2 : Int) ^ j else 0)
  rw [if_pos h, hm]
theorem bor_0 (m : Int) : zI m ||| zI 0 = zI m := by
  show zI m ||| (0 : Int32) = zI m
  exact Int32.or_zero
theorem bts_f {j : Nat} {p : Nat → Bool} (h : ¬ p j = true) : zI (bts j p) ||| zI 0 = zI (bts (j + 1) p) := by
  rw [bor_0]
  congr 1
  show _ = bts j p + (if p j = true then (2 : Int) ^ j else 0)
  rw [if_neg h]; omega
