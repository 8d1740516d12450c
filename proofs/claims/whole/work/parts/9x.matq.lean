--DEPS 9w.matp
/-! The best that can be made, cup by cup; the first row that makes it. -/
def htP (P : Nat → Int) (S : Nat → Bool) : Nat → Int
  | 0 => 0
  | k + 1 => htP P S k + (if S k = true then P k else 0)
theorem htP_cg {P : Nat → Int} {S T : Nat → Bool} : ∀ {k : Nat}, (∀ i, i < k → S i = T i) → htP P S k = htP P T k
  | 0, _ => rfl
  | k + 1, h => by
    show htP P S k + _ = htP P T k + _
    rw [htP_cg fun i hi => h i (by omega), h k (by omega)]
theorem htP_A {P : Nat → Int} {S : Nat → Bool} {c : Nat} (h : S c = false) : ∀ {k : Nat}, c < k → htP P (htA S c) k = htP P S k + P c
  | 0, hk => by omega
  | k + 1, hk => by
    show htP P (htA S c) k + (if htA S c k = true then P k else 0) = htP P S k + (if S k = true then P k else 0) + P c
    by_cases e : c = k
    · subst e
      rw [htP_cg (T := S) fun i hi => by simp [htA, show i ≠ c by omega], if_pos (by simp [htA]), h, if_neg (by decide)]
      omega
    · rw [htP_A h (by omega)]
      have : htA S c k = S k := by simp [htA, show k ≠ c by omega]
      rw [this]; omega
theorem htP_R {P : Nat → Int} {S : Nat → Bool} {c k : Nat} (h : S c = true) (hk : c < k) : htP P S k = htP P (htR S c) k + P c := by
  have e : htA (htR S c) c = S := by
    funext i
    by_cases q : i = c
    · subst q; simp [htA, h]
    · simp [htA, htR, q]
  have := htP_A (P := P) (S := htR S c) (c := c) (by simp [htR]) hk
  rwa [e] at this
def htX (f : Nat → Bool) (g : Nat → Int) (z : Int) : Nat → Int
  | 0 => z
  | k + 1 => if f k = true ∧ htX f g z k < g k then g k else htX f g z k
section HX
variable {f : Nat → Bool} {g : Nat → Int} {z : Int}
theorem htX_z : ∀ {n : Nat}, z ≤ htX f g z n
  | 0 => Int.le_refl z
  | n + 1 => by
    have := htX_z (n := n)
    unfold htX; split <;> omega
theorem htX_g {k : Nat} (h : f k = true) : ∀ {n : Nat}, k < n → g k ≤ htX f g z n
  | 0, hk => by omega
  | n + 1, hk => by
    unfold htX
    by_cases e : k = n
    · subst e
      by_cases q : htX f g z k < g k
      · rw [if_pos ⟨h, q⟩]; omega
      · rw [if_neg fun r => q r.2]; omega
    · have := htX_g h (n := n) (by omega)
      split <;> omega
theorem htX_e : ∀ {n : Nat}, htX f g z n = z ∨ ∃ k, k < n ∧ f k = true ∧ htX f g z n = g k
  | 0 => .inl rfl
  | n + 1 => by
    unfold htX
    by_cases q : f n = true ∧ htX f g z n < g n
    · rw [if_pos q]; exact .inr ⟨n, by omega, q.1, rfl⟩
    · rw [if_neg q]
      rcases htX_e (n := n) with h | ⟨k, h1, h2⟩
      · exact .inl h
      · exact .inr ⟨k, by omega, h2⟩
end HX
/-- the most that the last k cups make -/
def htB (C n : Nat) (M : Nat → Nat → Bool) (P : Nat → Int) : Nat → (Nat → Bool) → Int
  | 0, _ => 0
  | k + 1, u => htX (fun w => M (C - (k + 1)) w && !u w) (fun w => P (C - (k + 1)) + htB C n M P k (htA u w)) (htB C n M P k u) n
def htI (C n : Nat) (M : Nat → Nat → Bool) (P : Nat → Int) (c : Nat) (u : Nat → Bool) (v : Int) : Prop := (∃ S : Nat → Bool, (∀ i, S i = true → c ≤ i ∧ i < C) ∧ htH C n M S u ∧ htP P S C = v) ∧ ∀ S : Nat → Bool, (∀ i, S i = true → c ≤ i ∧ i < C) → htH C n M S u → htP P S C ≤ v
section HB
variable {C n : Nat} {M : Nat → Nat → Bool} {P : Nat → Int} {u : Nat → Bool} {c k : Nat} {v v' : Int}
theorem htI.uq (h : htI C n M P c u v) (h' : htI C n M P c u v') : v = v' := by
  obtain ⟨⟨S, a1, a2, a3⟩, a4⟩ := h
  obtain ⟨⟨T, b1, b2, b3⟩, b4⟩ := h'
  have := a4 T b1 b2
  have := b4 S a1 a2
  omega
theorem htB_I : ∀ {k : Nat} {u : Nat → Bool}, k ≤ C → htI C n M P (C - k) u (htB C n M P k u)
  | 0, u, _ => by
    have e0 : ∀ {S : Nat → Bool}, (∀ i, S i = true → C - 0 ≤ i ∧ i < C) → htP P S C = 0 := fun {S} h => by
      have : ∀ j, j ≤ C → htP P S j = 0 := by
        intro j
        induction j with
        | zero => intro _; rfl
        | succ j ih =>
          intro hj
          show htP P S j + _ = 0
          rw [ih (by omega), if_neg fun q => by have := h j q; omega]; rfl
      exact this C (Nat.le_refl C)
    refine ⟨⟨fun _ => false, fun i hi => (by cases hi), fun Q hQ => ?_, e0 fun i hi => (by cases hi)⟩, fun S h _ => Int.le_of_eq (e0 h)⟩
    have : cnt C Q = 0 := cnt_z fun i _ q => by have := hQ i q; cases this
    rw [this]; exact cnt_lo _ _
  | k + 1, u, hk => by
    have c1 : C - (k + 1) < C := by omega
    have c2 : C - k = C - (k + 1) + 1 := by omega
    generalize hc : C - (k + 1) = c at c1 c2
    have ih : ∀ u, htI C n M P (c + 1) u (htB C n M P k u) := fun u => by
      rw [← c2]; exact htB_I (by omega)
    have eB : htB C n M P (k + 1) u = htX (fun w => M c w && !u w) (fun w => P c + htB C n M P k (htA u w)) (htB C n M P k u) n := by
      rw [← hc]; rfl
    rw [eB]
    constructor
    · rcases htX_e (f := fun w => M c w && !u w) (g := fun w => P c + htB C n M P k (htA u w)) (z := htB C n M P k u) (n := n) with h | ⟨w, h1, h2, h3⟩
      · rw [h]
        obtain ⟨⟨S, a1, a2, a3⟩, a4⟩ := ih u
        exact ⟨S, fun i hi => ⟨by have := a1 i hi; omega, (a1 i hi).2⟩, a2, a3⟩
      · rw [h3]
        rw [Bool.and_eq_true] at h2
        have hu : u w = false := by cases q : u w <;> simp_all
        obtain ⟨⟨S, a1, a2, a3⟩, a4⟩ := ih (htA u w)
        have sc : S c = false := by
          cases q : S c
          · rfl
          · have := a1 c q; omega
        refine ⟨htA S c, fun i hi => ?_, htH_r c1 h1 h2.1 hu (by rw [htRA sc]; exact a2), ?_⟩
        · rcases htA_t.mp hi with e | e
          · subst e; exact ⟨Nat.le_refl _, c1⟩
          · have := a1 i e; omega
        · rw [htP_A sc c1, a3]; omega
    · intro S hS hH
      cases q : S c
      · have := (ih u).2 S (fun i hi => by
          have := hS i hi
          have : i ≠ c := fun e => by rw [e, q] at hi; cases hi
          omega) hH
        exact Int.le_trans this htX_z
      · obtain ⟨w, w1, w2, w3, w4⟩ := htH_s c1 q hH
        have := (ih (htA u w)).2 (htR S c) (fun i hi => by
          have h1 := htR_t.mp hi
          have := hS i h1.2
          omega) w4
        rw [htP_R q c1]
        have g := htX_g (f := fun w => M c w && !u w) (g := fun w => P c + htB C n M P k (htA u w)) (z := htB C n M P k u) (k := w) (by rw [w2, w3]; rfl) w1
        omega
/-- the first wink for a cup by which the rest is made up -/
def htF (C n : Nat) (M : Nat → Nat → Bool) (P : Nat → Int) (k : Nat) (u : Nat → Bool) : Int := fst n fun w => (M (C - (k + 1)) w && !u w) && decide (P (C - (k + 1)) + htB C n M P k (htA u w) = htB C n M P (k + 1) u)
def htW (u : Nat → Bool) (x : Int) : Nat → Bool := if x = -1 then u else htA u x.toNat
theorem htF_s : (htF C n M P k u = -1 → htB C n M P k u = htB C n M P (k + 1) u) ∧ (htF C n M P k u ≠ -1 → P (C - (k + 1)) + htB C n M P k (htW u (htF C n M P k u)) = htB C n M P (k + 1) u ∧ M (C - (k + 1)) (htF C n M P k u).toNat = true ∧ u (htF C n M P k u).toNat = false) := by
  unfold htF
  rcases fst_cs n fun w => (M (C - (k + 1)) w && !u w) && decide (P (C - (k + 1)) + htB C n M P k (htA u w) = htB C n M P (k + 1) u) with ⟨h1, h2⟩ | ⟨w, w1, w2, w3, w4⟩
  · refine ⟨fun _ => ?_, fun q => absurd h1 q⟩
    rcases htX_e (f := fun w => M (C - (k + 1)) w && !u w) (g := fun w => P (C - (k + 1)) + htB C n M P k (htA u w)) (z := htB C n M P k u) (n := n) with h | ⟨w, a1, a2, a3⟩
    · exact h.symm
    · refine absurd ?_ (h2 w a1)
      rw [Bool.and_eq_true]
      exact ⟨a2, decide_eq_true a3.symm⟩
  · rw [w2]
    rw [Bool.and_eq_true, Bool.and_eq_true] at w3
    refine ⟨fun q => by omega, fun _ => ?_⟩
    unfold htW
    rw [if_neg (by omega), Int.toNat_natCast]
    exact ⟨of_decide_eq_true w3.2, w3.1.1, by cases q : u w <;> simp_all⟩
/-- used, cup by cup -/
def htU (C n : Nat) (M : Nat → Nat → Bool) (P : Nat → Int) : Nat → Nat → Bool
  | 0 => fun _ => false
  | c + 1 => htW (htU C n M P c) (htF C n M P (C - (c + 1)) (htU C n M P c))
def htGv (C n : Nat) (M : Nat → Nat → Bool) (P : Nat → Int) (c : Nat) : Int := htF C n M P (C - (c + 1)) (htU C n M P c)
def htG (C n : Nat) (M : Nat → Nat → Bool) (P : Nat → Int) (c : Nat) : Nat := if htGv C n M P c = -1 then n else (htGv C n M P c).toNat
/-- rows: f c is the wink that cup c has, n if none -/
def htO (C n : Nat) (M : Nat → Nat → Bool) (f : Nat → Nat) : Nat → (Nat → Bool) → Prop
  | 0, _ => True
  | k + 1, u => if f (C - (k + 1)) = n then htO C n M f k u else M (C - (k + 1)) (f (C - (k + 1))) = true ∧ u (f (C - (k + 1))) = false ∧ htO C n M f k (htA u (f (C - (k + 1))))
def htS (C n : Nat) (P : Nat → Int) (f : Nat → Nat) : Nat → Int
  | 0 => 0
  | k + 1 => htS C n P f k + (if f (C - (k + 1)) = n then 0 else P (C - (k + 1)))
theorem htO_up {f : Nat → Nat} (hf : ∀ c, c < C → f c ≤ n) : ∀ {k : Nat} {u : Nat → Bool}, k ≤ C → htO C n M f k u → htS C n P f k ≤ htB C n M P k u
  | 0, u, _, _ => Int.le_refl 0
  | k + 1, u, hk, h => by
    have hf1 := hf (C - (k + 1)) (by omega)
    unfold htO at h
    show htS C n P f k + (if f (C - (k + 1)) = n then 0 else P (C - (k + 1))) ≤ htX (fun w => M (C - (k + 1)) w && !u w) (fun w => P (C - (k + 1)) + htB C n M P k (htA u w)) (htB C n M P k u) n
    by_cases q : f (C - (k + 1)) = n
    · rw [if_pos q] at h ⊢
      have a := htO_up hf (by omega) h
      have b := htX_z (f := fun w => M (C - (k + 1)) w && !u w) (g := fun w => P (C - (k + 1)) + htB C n M P k (htA u w)) (z := htB C n M P k u) (n := n)
      omega
    · rw [if_neg q] at h ⊢
      have a := htO_up hf (by omega) h.2.2
      have b := htX_g (f := fun w => M (C - (k + 1)) w && !u w) (g := fun w => P (C - (k + 1)) + htB C n M P k (htA u w)) (z := htB C n M P k u) (n := n) (k := f (C - (k + 1))) (by rw [h.1, h.2.1]; rfl) (by omega)
      omega
theorem htF_lo : -1 ≤ htF C n M P k u := fst_lo _ _
theorem htF_hi : htF C n M P k u < n := fst_hi _ _
theorem htG_le : htG C n M P c ≤ n := by
  have a := htF_hi (C := C) (n := n) (M := M) (P := P) (k := C - (c + 1)) (u := htU C n M P c)
  have b := htF_lo (C := C) (n := n) (M := M) (P := P) (k := C - (c + 1)) (u := htU C n M P c)
  unfold htG htGv
  split <;> omega
/-- what is given at cup c, and what it leaves -/
theorem htG_s (hk : k < C) : (htG C n M P (C - (k + 1)) = n ∧ htU C n M P (C - k) = htU C n M P (C - (k + 1)) ∧ htB C n M P k (htU C n M P (C - k)) = htB C n M P (k + 1) (htU C n M P (C - (k + 1)))) ∨ (htG C n M P (C - (k + 1)) ≠ n ∧ htU C n M P (C - k) = htA (htU C n M P (C - (k + 1))) (htG C n M P (C - (k + 1))) ∧ P (C - (k + 1)) + htB C n M P k (htU C n M P (C - k)) = htB C n M P (k + 1) (htU C n M P (C - (k + 1))) ∧ M (C - (k + 1)) (htG C n M P (C - (k + 1))) = true ∧ htU C n M P (C - (k + 1)) (htG C n M P (C - (k + 1))) = false) := by
  have a := htF_hi (C := C) (n := n) (M := M) (P := P) (k := k) (u := htU C n M P (C - (k + 1)))
  have b := htF_lo (C := C) (n := n) (M := M) (P := P) (k := k) (u := htU C n M P (C - (k + 1)))
  have s := htF_s (C := C) (n := n) (M := M) (P := P) (k := k) (u := htU C n M P (C - (k + 1)))
  have e1 : C - (C - (k + 1) + 1) = k := by omega
  have e2 : htU C n M P (C - k) = htW (htU C n M P (C - (k + 1))) (htF C n M P k (htU C n M P (C - (k + 1)))) := by
    rw [show C - k = C - (k + 1) + 1 by omega]
    show htW _ (htF C n M P (C - (C - (k + 1) + 1)) _) = _
    rw [e1]
  have e3 : htG C n M P (C - (k + 1)) = if htF C n M P k (htU C n M P (C - (k + 1))) = -1 then n else (htF C n M P k (htU C n M P (C - (k + 1)))).toNat := by
    unfold htG htGv
    rw [e1]
  by_cases q : htF C n M P k (htU C n M P (C - (k + 1))) = -1
  · rw [if_pos q] at e3
    have e4 : htU C n M P (C - k) = htU C n M P (C - (k + 1)) := by rw [e2, htW, if_pos q]
    refine .inl ⟨e3, e4, ?_⟩
    rw [e4]; exact s.1 q
  · rw [if_neg q] at e3
    obtain ⟨s1, s2, s3⟩ := s.2 q
    rw [← e2] at s1
    rw [e3]
    exact .inr ⟨by omega, by rw [e2, htW, if_neg q], s1, s2, s3⟩
theorem htG_ok : ∀ {k : Nat}, k ≤ C → htO C n M (htG C n M P) k (htU C n M P (C - k)) ∧ htS C n P (htG C n M P) k = htB C n M P k (htU C n M P (C - k))
  | 0, _ => ⟨trivial, rfl⟩
  | k + 1, hk => by
    obtain ⟨i1, i2⟩ := htG_ok (k := k) (by omega)
    unfold htO
    show _ ∧ htS C n P (htG C n M P) k + (if htG C n M P (C - (k + 1)) = n then 0 else P (C - (k + 1))) = _
    rcases htG_s (n := n) (M := M) (P := P) (show k < C by omega) with ⟨g1, g2, g3⟩ | ⟨g1, g2, g3, g4, g5⟩
    · rw [if_pos g1, if_pos g1, ← g3, i2, ← g2]
      exact ⟨i1, by omega⟩
    · rw [if_neg g1, if_neg g1, ← g3, i2, ← g2]
      exact ⟨⟨g4, g5, i1⟩, by omega⟩
/-- a row before another -/
def htL (C : Nat) (f g : Nat → Nat) : Nat → Prop
  | 0 => False
  | k + 1 => f (C - (k + 1)) < g (C - (k + 1)) ∨ (f (C - (k + 1)) = g (C - (k + 1)) ∧ htL C f g k)
theorem htG_lt {f : Nat → Nat} (hf : ∀ c, c < C → f c ≤ n) : ∀ {k : Nat}, k ≤ C → htL C f (htG C n M P) k → htO C n M f k (htU C n M P (C - k)) → htS C n P f k < htB C n M P k (htU C n M P (C - k))
  | 0, _, h, _ => h.elim
  | k + 1, hk, h, ho => by
    unfold htL at h
    unfold htO at ho
    show htS C n P f k + (if f (C - (k + 1)) = n then 0 else P (C - (k + 1))) < _
    have gl := htG_le (C := C) (n := n) (M := M) (P := P) (c := C - (k + 1))
    rcases h with h | ⟨h1, h2⟩
    · have q : f (C - (k + 1)) ≠ n := by omega
      rw [if_neg q] at ho ⊢
      have a := htO_up (P := P) hf (by omega) ho.2.2
      have b := htX_g (f := fun w => M (C - (k + 1)) w && !htU C n M P (C - (k + 1)) w) (g := fun w => P (C - (k + 1)) + htB C n M P k (htA (htU C n M P (C - (k + 1))) w)) (z := htB C n M P k (htU C n M P (C - (k + 1)))) (n := n) (k := f (C - (k + 1))) (by rw [ho.1, ho.2.1]; rfl) (by omega)
      have b' : P (C - (k + 1)) + htB C n M P k (htA (htU C n M P (C - (k + 1))) (f (C - (k + 1)))) ≤ htB C n M P (k + 1) (htU C n M P (C - (k + 1))) := b
      have e1 : C - (C - (k + 1) + 1) = k := by omega
      have ne : P (C - (k + 1)) + htB C n M P k (htA (htU C n M P (C - (k + 1))) (f (C - (k + 1)))) ≠ htB C n M P (k + 1) (htU C n M P (C - (k + 1))) := by
        have hn : f (C - (k + 1)) < n := by omega
        intro e
        unfold htG htGv at h
        rw [e1] at h
        unfold htF at h
        rcases fst_cs n fun w => (M (C - (k + 1)) w && !htU C n M P (C - (k + 1)) w) && decide (P (C - (k + 1)) + htB C n M P k (htA (htU C n M P (C - (k + 1))) w) = htB C n M P (k + 1) (htU C n M P (C - (k + 1)))) with ⟨w1, w2⟩ | ⟨w, w1, w2, w3, w4⟩
        · refine w2 (f (C - (k + 1))) hn ?_
          rw [ho.1, ho.2.1, decide_eq_true e]; rfl
        · rw [w2, if_neg (by omega), Int.toNat_natCast] at h
          refine w4 (f (C - (k + 1))) h ?_
          rw [ho.1, ho.2.1, decide_eq_true e]; rfl
      omega
    · rcases htG_s (n := n) (M := M) (P := P) (show k < C by omega) with ⟨g1, g2, g3⟩ | ⟨g1, g2, g3, g4, g5⟩
      · have q : f (C - (k + 1)) = n := by omega
        rw [if_pos q] at ho ⊢
        rw [← g2] at ho
        have := htG_lt hf (by omega) h2 ho
        omega
      · have q : f (C - (k + 1)) ≠ n := by omega
        rw [if_neg q] at ho ⊢
        rw [h1, ← g2] at ho
        have := htG_lt hf (by omega) h2 ho.2.2
        omega
end HB
