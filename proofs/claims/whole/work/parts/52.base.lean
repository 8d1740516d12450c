/-! Whole numbers for ints. -/
theorem lz (n : Nat) : (@OfNat.ofNat Int32 n _) = zI (@OfNat.ofNat Int n _) := (Int32.ofInt_eq_ofNat (n := n)).symm
theorem zadd (x y : Int) : zI x + zI y = zI (x + y) := (Int32.ofInt_add x y).symm
theorem zsub (x y : Int) : zI x - zI y = zI (x - y) := (Int32.ofInt_sub x y).symm
theorem zmul (x y : Int) : zI x * zI y = zI (x * y) := (Int32.ofInt_mul x y).symm
theorem zneg (x : Int) : -zI x = zI (-x) := (Int32.ofInt_neg x).symm
theorem zI_of (v : Int32) : zI v.toInt = v := Int32.ofInt_toInt v
theorem zI_lo (v : Int32) : -2147483648 ≤ v.toInt := Int32.le_toInt v
theorem zI_hi (v : Int32) : v.toInt < 2147483648 := Int32.toInt_lt v
theorem zlt {x y : Int} (h0 : -2147483648 ≤ x) (h1 : x < 2147483648) (h2 : -2147483648 ≤ y) (h3 : y < 2147483648) : (zI x < zI y) = (x < y) := by
  rw [Int32.lt_iff_toInt_lt, zI_toInt h0 h1, zI_toInt h2 h3]
theorem zle {x y : Int} (h0 : -2147483648 ≤ x) (h1 : x < 2147483648) (h2 : -2147483648 ≤ y) (h3 : y < 2147483648) : (zI x ≤ zI y) = (x ≤ y) := by
  rw [Int32.le_iff_toInt_le, zI_toInt h0 h1, zI_toInt h2 h3]
theorem zeq {x y : Int} (h0 : -2147483648 ≤ x) (h1 : x < 2147483648) (h2 : -2147483648 ≤ y) (h3 : y < 2147483648) : (zI x = zI y) = (x = y) := by
  rw [← Int32.toInt_inj, zI_toInt h0 h1, zI_toInt h2 h3]
theorem zlt_t {x y : Int} (h : -2147483648 ≤ x ∧ x < y ∧ y < 2147483648) : (zI x < zI y) = True := by
  rw [zlt (by omega) (by omega) (by omega) (by omega)]; exact eq_true h.2.1
theorem zlt_f {x y : Int} (h : -2147483648 ≤ y ∧ y ≤ x ∧ x < 2147483648) : (zI x < zI y) = False := by
  rw [zlt (by omega) (by omega) (by omega) (by omega)]; exact eq_false (by omega)
theorem zle_t {x y : Int} (h : -2147483648 ≤ x ∧ x ≤ y ∧ y < 2147483648) : (zI x ≤ zI y) = True := by
  rw [zle (by omega) (by omega) (by omega) (by omega)]; exact eq_true h.2.1
theorem zle_f {x y : Int} (h : -2147483648 ≤ y ∧ y < x ∧ x < 2147483648) : (zI x ≤ zI y) = False := by
  rw [zle (by omega) (by omega) (by omega) (by omega)]; exact eq_false (by omega)
theorem zeq_t {x y : Int} (h : x = y) : (zI x = zI y) = True := eq_true (by rw [h])
theorem zeq_f {x y : Int} (h : ¬ x = y ∧ -2147483648 ≤ x ∧ x < 2147483648 ∧ -2147483648 ≤ y ∧ y < 2147483648) : (zI x = zI y) = False := by
  rw [zeq (by omega) (by omega) (by omega) (by omega)]; exact eq_false h.1
theorem zc_eq {x y : Int32} : (q_cmp .eq x y = true) = (x = y) := decide_eq_true_eq
theorem zc_ne {x y : Int32} : (q_cmp .ne x y = true) = ¬ (x = y) := by
  show ((!(decide (x = y))) = true) = _
  rw [Bool.not_eq_true', decide_eq_false_iff_not]
theorem zc_lt {x y : Int32} : (q_cmp .lt x y = true) = (x < y) := decide_eq_true_eq
theorem zc_ge {x y : Int32} : (q_cmp .ge x y = true) = (y ≤ x) := decide_eq_true_eq
theorem zc_gt {x y : Int32} : (q_cmp .gt x y = true) = (y < x) := decide_eq_true_eq
theorem zc_le {x y : Int32} : (q_cmp .le x y = true) = (x ≤ y) := decide_eq_true_eq
theorem zdiv {x y : Int} (h0 : 0 ≤ x) (h1 : x < 2147483648) (h2 : 0 < y) (h3 : y < 2147483648) : zI x / zI y = zI (x / y) := by
  have e1 := zI_toInt (x := x) (by omega) h1
  have e2 := zI_toInt (x := y) (by omega) h3
  rw [← Int32.toInt_inj, Int32.toInt_div_of_ne_right _ _ (fun q => by
    have := congrArg Int32.toInt q
    rw [e2] at this
    have h9 : (-1 : Int32).toInt = -1 := by decide
    omega), e1, e2, Int.tdiv_eq_ediv_of_nonneg h0]
  have hd : x / y ≤ x := Int.ediv_le_self y h0
  have hp : 0 ≤ x / y := Int.ediv_nonneg h0 (by omega)
  rw [zI_toInt (by omega) (by omega)]
/-- a truth as an int -/
def zb (p : Prop) [Decidable p] : Int := if p then 1 else 0
theorem zb_t {p : Prop} [Decidable p] (h : p) : zb p = 1 := if_pos h
theorem zb_f {p : Prop} [Decidable p] (h : ¬ p) : zb p = 0 := if_neg h
theorem zb_e0 {p : Prop} [Decidable p] : (zI (zb p) = zI 0) = ¬ p := by
  by_cases h : p
  · rw [zb_t h]; simp only [h]; decide
  · rw [zb_f h]; simp only [h]; decide
theorem zb_e1 {p : Prop} [Decidable p] : (zI (zb p) = zI 1) = p := by
  by_cases h : p
  · rw [zb_t h]; simp only [h]
  · rw [zb_f h]; simp only [h]; decide
theorem boo0 {k : Int32 → qR} : q_boo true (zI 0) k = k (zI 0) := rfl
theorem boo1 {k : Int32 → qR} : q_boo true (zI 1) k = k (zI 1) := rfl
theorem rI_s {x : Int32} {h : qH} {kx : Nat → Nat → qH → qR} {k : Int32 → qH → qR} : q_rI (some (.inl (some (.int x)), h)) kx k = k x h := rfl
theorem rV_s {h : qH} {kx : Nat → Nat → qH → qR} {k : qH → qR} : q_rV (some (.inl none, h)) kx k = k h := rfl
theorem rI_e {E q : Nat} {h : qH} {kx : Nat → Nat → qH → qR} {k : Int32 → qH → qR} : q_rI (some (.inr (E, q), h)) kx k = kx E q h := rfl
theorem rV_e {E q : Nat} {h : qH} {kx : Nat → Nat → qH → qR} {k : qH → qR} : q_rV (some (.inr (E, q), h)) kx k = kx E q h := rfl
theorem cI {r : qR} {x : Int32} {h : qH} (e : r = some (.inl (some (.int x)), h)) {kx : Nat → Nat → qH → qR} {k : Int32 → qH → qR} : q_rI r kx k = k x h := by rw [e]; rfl
theorem cV {r : qR} {h : qH} (e : r = some (.inl none, h)) {kx : Nat → Nat → qH → qR} {k : qH → qR} : q_rV r kx k = k h := by rw [e]; rfl
/-! Rows that are changed in places. -/
theorem ua_s {A : Nat → Int → Int} {c : Nat} {g : Int → Int} : ua A c g c = g := if_pos rfl
theorem ua_n {A : Nat → Int → Int} {c c' : Nat} {g : Int → Int} (h : c' ≠ c) : ua A c g c' = A c' := if_neg h
theorem ua_ua {A : Nat → Int → Int} {c : Nat} {g g' : Int → Int} : ua (ua A c g) c g' = ua A c g' := by
  funext c'
  unfold ua
  by_cases h : c' = c
  · rw [if_pos h, if_pos h]
  · rw [if_neg h, if_neg h, if_neg h]
theorem ua_cm {A : Nat → Int → Int} {c d : Nat} {g g' : Int → Int} (h : c ≠ d) : ua (ua A c g) d g' = ua (ua A d g') c g := by
  funext c'
  unfold ua
  by_cases h1 : c' = c
  · subst h1; rw [if_neg h, if_pos rfl, if_pos rfl]
  · rw [if_neg h1, if_neg h1]
theorem ua_id {A : Nat → Int → Int} {c : Nat} : ua A c (A c) = A := by
  funext c'
  unfold ua
  by_cases h : c' = c
  · rw [if_pos h, h]
  · rw [if_neg h]
theorem up_s {f : Int → Int} {j x : Int} : up f j x j = x := if_pos rfl
theorem up_n {f : Int → Int} {j x j' : Int} (h : j' ≠ j) : up f j x j' = f j' := if_neg h
theorem u2_s {I : Nat → Nat → Int} {c f : Nat} {v : Int} : u2 I c f v c f = v := by
  unfold u2
  rw [if_pos rfl, if_pos rfl]
theorem u2_f {I : Nat → Nat → Int} {c f f' : Nat} {v : Int} (h : f' ≠ f) : u2 I c f v c f' = I c f' := by
  unfold u2
  rw [if_pos rfl, if_neg h]
theorem u2_c {I : Nat → Nat → Int} {c c' f f' : Nat} {v : Int} (h : c' ≠ c) : u2 I c f v c' f' = I c' f' := by
  unfold u2
  rw [if_neg h]
theorem u2_u2 {I : Nat → Nat → Int} {c f : Nat} {v v' : Int} : u2 (u2 I c f v) c f v' = u2 I c f v' := by
  funext c' f'
  unfold u2
  by_cases h : c' = c
  · rw [if_pos h, if_pos h, if_pos h]
    by_cases g : f' = f
    · rw [if_pos g, if_pos g]
    · rw [if_neg g, if_neg g, if_neg g]
  · rw [if_neg h, if_neg h, if_neg h]
theorem u2_id {I : Nat → Nat → Int} {c f : Nat} : u2 I c f (I c f) = I := by
  funext c' f'
  unfold u2
  by_cases h : c' = c
  · subst h
    rw [if_pos rfl]
    by_cases g : f' = f
    · rw [if_pos g, g]
    · rw [if_neg g]
  · rw [if_neg h]
/-! Loops. -/
theorem lp_x {S : Type} (R : Nat → S → qR) (inv : Nat → S → Prop) (Q : qR → Prop) (n : Nat) (hx : ∀ s, inv n s → Q (R n s)) (hs : ∀ k s, k < n → inv k s → Q (R k s) ∨ ∃ s', inv (k + 1) s' ∧ R k s = R (k + 1) s') (m : Nat) (s : S) (hm : m ≤ n) (h : inv m s) : Q (R m s) := by
  have key : ∀ j m s, m + j = n → inv m s → Q (R m s) := by
    intro j
    induction j with
    | zero => intro m s e h; obtain rfl : m = n := e; exact hx s h
    | succ j ih =>
      intro m s e h
      rcases hs m s (by omega) h with q | ⟨s', h', e'⟩
      · exact q
      · rw [e']; exact ih (m + 1) s' (by omega) h'
  exact key (n - m) m s (by omega) h
theorem lp_g {S : Type} (R : Nat → S → qR) (inv : Nat → S → Prop) (n : Nat) (hs : ∀ k s, k < n → inv k s → ∃ s', inv (k + 1) s' ∧ R k s = R (k + 1) s') (m : Nat) (s : S) (hm : m ≤ n) (h : inv m s) : ∃ s', inv n s' ∧ R m s = R n s' := by
  have key : ∀ j m s, m + j = n → inv m s → ∃ s', inv n s' ∧ R m s = R n s' := by
    intro j
    induction j with
    | zero => intro m s e h; obtain rfl : m = n := e; exact ⟨s, h, rfl⟩
    | succ j ih =>
      intro m s e h
      obtain ⟨s', h', e'⟩ := hs m s (by omega) h
      obtain ⟨s2, h2, e2⟩ := ih (m + 1) s' (by omega) h'
      exact ⟨s2, h2, e'.trans e2⟩
  exact key (n - m) m s (by omega) h
/-! Counts, first ones. -/
def cnt : Nat → (Nat → Bool) → Int
  | 0, _ => 0
  | n + 1, p => cnt n p + (if p n = true then 1 else 0)
theorem cnt_lo (n : Nat) (p : Nat → Bool) : 0 ≤ cnt n p := by
  induction n with
  | zero => exact Int.le_refl 0
  | succ n ih => unfold cnt; split <;> omega
theorem cnt_hi (n : Nat) (p : Nat → Bool) : cnt n p ≤ n := by
  induction n with
  | zero => exact Int.le_refl 0
  | succ n ih => unfold cnt; split <;> omega
theorem cnt_t {n : Nat} {p : Nat → Bool} (h : p n = true) : cnt (n + 1) p = cnt n p + 1 := by
  show cnt n p + (if p n = true then 1 else 0) = _
  rw [if_pos h]
theorem cnt_f {n : Nat} {p : Nat → Bool} (h : ¬ p n = true) : cnt (n + 1) p = cnt n p := by
  show cnt n p + (if p n = true then 1 else 0) = _
  rw [if_neg h]; omega
theorem cnt_cg {n : Nat} {p q : Nat → Bool} (h : ∀ k, k < n → p k = q k) : cnt n p = cnt n q := by
  induction n with
  | zero => rfl
  | succ n ih => unfold cnt; rw [ih fun k hk => h k (by omega), h n (by omega)]
theorem cnt_pos {n k : Nat} {p : Nat → Bool} (hk : k < n) (h : p k = true) : 0 < cnt n p := by
  induction n with
  | zero => omega
  | succ n ih =>
    have h0 := cnt_lo n p
    by_cases e : k = n
    · subst e; rw [cnt_t h]; omega
    · have := ih (by omega)
      unfold cnt
      split <;> omega
theorem cnt_ex {n : Nat} {p : Nat → Bool} (h : 0 < cnt n p) : ∃ k, k < n ∧ p k = true := by
  induction n with
  | zero => exact absurd h (Int.lt_irrefl 0)
  | succ n ih =>
    by_cases e : p n = true
    · exact ⟨n, by omega, e⟩
    · rw [cnt_f e] at h
      obtain ⟨k, hk, hp⟩ := ih h
      exact ⟨k, by omega, hp⟩
/-- one place is changed -/
theorem cnt_ch {n k : Nat} {p q : Nat → Bool} (hk : k < n) (h : ∀ j, j < n → j ≠ k → p j = q j) : cnt n p + (if q k = true then 1 else 0) = cnt n q + (if p k = true then 1 else 0) := by
  induction n with
  | zero => omega
  | succ n ih =>
    by_cases e : k = n
    · subst e
      have : cnt k p = cnt k q := cnt_cg fun j hj => h j (by omega) (by omega)
      unfold cnt
      rw [this]; omega
    · have h1 := ih (by omega) fun j hj hn => h j (by omega) hn
      have h2 := h n (by omega) (by omega)
      show cnt n p + (if p n = true then 1 else 0) + _ = cnt n q + (if q n = true then 1 else 0) + _
      rw [h2]; omega
def fst : Nat → (Nat → Bool) → Int
  | 0, _ => -1
  | n + 1, p => if fst n p = -1 then (if p n = true then n else -1) else fst n p
theorem fst_no {n : Nat} {p : Nat → Bool} (h : ∀ k, k < n → ¬ p k = true) : fst n p = -1 := by
  induction n with
  | zero => rfl
  | succ n ih => unfold fst; rw [ih fun k hk => h k (by omega), if_pos rfl, if_neg (h n (by omega))]
theorem fst_at {n k : Nat} {p : Nat → Bool} (hk : k < n) (h : ∀ j, j < k → ¬ p j = true) (hp : p k = true) : fst n p = k := by
  induction n with
  | zero => omega
  | succ n ih =>
    by_cases e : k = n
    · subst e; unfold fst; rw [fst_no h, if_pos rfl, if_pos hp]
    · unfold fst
      rw [ih (by omega), if_neg (by omega)]
theorem fst_cg {n : Nat} {p q : Nat → Bool} (h : ∀ k, k < n → p k = q k) : fst n p = fst n q := by
  induction n with
  | zero => rfl
  | succ n ih => unfold fst; rw [ih fun k hk => h k (by omega), h n (by omega)]
theorem fst_cs (n : Nat) (p : Nat → Bool) : (fst n p = -1 ∧ ∀ k, k < n → ¬ p k = true) ∨ ∃ k, k < n ∧ fst n p = k ∧ p k = true ∧ ∀ j, j < k → ¬ p j = true := by
  induction n with
  | zero => exact .inl ⟨rfl, fun k hk => absurd hk (by omega)⟩
  | succ n ih =>
    rcases ih with ⟨h1, h2⟩ | ⟨k, hk, h1, h2, h3⟩
    · by_cases e : p n = true
      · exact .inr ⟨n, by omega, fst_at (by omega) h2 e, e, h2⟩
      · refine .inl ⟨fst_no fun k hk => ?_, fun k hk => ?_⟩
        · by_cases g : k = n
          · subst g; exact e
          · exact h2 k (by omega)
        · by_cases g : k = n
          · subst g; exact e
          · exact h2 k (by omega)
    · exact .inr ⟨k, by omega, fst_at (by omega) h3 h2, h2, h3⟩
theorem fst_lo (n : Nat) (p : Nat → Bool) : -1 ≤ fst n p := by
  rcases fst_cs n p with ⟨h, -⟩ | ⟨k, -, h, -⟩ <;> omega
theorem fst_hi (n : Nat) (p : Nat → Bool) : fst n p < n := by
  rcases fst_cs n p with ⟨h, -⟩ | ⟨k, hk, h, -⟩ <;> omega
