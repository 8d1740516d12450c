--DEPS 9x.matq
/-! Rows as numbers; a row read from its end. -/
def htD (b C row c : Nat) : Nat := row / b ^ (C - (c + 1)) % b
def htNv (b C : Nat) (f : Nat → Nat) : Nat → Nat
  | 0 => 0
  | k + 1 => f (C - (k + 1)) * b ^ k + htNv b C f k
section HN
variable {b C : Nat} {f g : Nat → Nat}
theorem htNv_lt (hf : ∀ c, c < C → f c < b) : ∀ {k : Nat}, k ≤ C → htNv b C f k < b ^ k
  | 0, _ => by show 0 < b ^ 0; rw [Nat.pow_zero]; decide
  | k + 1, hk => by
    have ih := htNv_lt (k := k) hf (by omega)
    have h1 := hf (C - (k + 1)) (by omega)
    show f (C - (k + 1)) * b ^ k + htNv b C f k < b ^ (k + 1)
    rw [Nat.pow_succ, Nat.mul_comm (b ^ k) b]
    have := Nat.mul_le_mul_right (b ^ k) (show f (C - (k + 1)) + 1 ≤ b by omega)
    rw [Nat.add_mul, Nat.one_mul] at this
    omega
theorem htNv_d {row : Nat} : ∀ {k : Nat}, k ≤ C → htNv b C (htD b C row) k = row % b ^ k
  | 0, _ => by show 0 = row % b ^ 0; rw [Nat.pow_zero, Nat.mod_one]
  | k + 1, hk => by
    show htD b C row (C - (k + 1)) * b ^ k + htNv b C (htD b C row) k = _
    rw [htNv_d (k := k) (by omega)]
    unfold htD
    rw [show C - (C - (k + 1) + 1) = k by omega, Nat.pow_succ, Nat.mod_mul, Nat.mul_comm (b ^ k)]
    omega
theorem htNv_L (hf : ∀ c, c < C → f c < b) (hg : ∀ c, c < C → g c < b) : ∀ {k : Nat}, k ≤ C → htNv b C f k < htNv b C g k → htL C f g k
  | 0, _, h => absurd h (Nat.lt_irrefl 0)
  | k + 1, hk, h => by
    have h' : f (C - (k + 1)) * b ^ k + htNv b C f k < g (C - (k + 1)) * b ^ k + htNv b C g k := h
    have l1 := htNv_lt hf (k := k) (by omega)
    have l2 := htNv_lt hg (k := k) (by omega)
    unfold htL
    by_cases q : f (C - (k + 1)) < g (C - (k + 1))
    · exact .inl q
    · refine .inr ?_
      by_cases e : f (C - (k + 1)) = g (C - (k + 1))
      · rw [e] at h'
        exact ⟨e, htNv_L hf hg (by omega) (by omega)⟩
      · have := Nat.mul_le_mul_right (b ^ k) (show g (C - (k + 1)) + 1 ≤ f (C - (k + 1)) by omega)
        rw [Nat.add_mul, Nat.one_mul] at this
        omega
theorem htNv_i (hf : ∀ c, c < C → f c < b) (hg : ∀ c, c < C → g c < b) : ∀ {k : Nat}, k ≤ C → htNv b C f k = htNv b C g k → ∀ c, C - k ≤ c → c < C → f c = g c
  | 0, _, _, c, h1, h2 => by omega
  | k + 1, hk, h, c, h1, h2 => by
    have h' : f (C - (k + 1)) * b ^ k + htNv b C f k = g (C - (k + 1)) * b ^ k + htNv b C g k := h
    have l1 := htNv_lt hf (k := k) (by omega)
    have l2 := htNv_lt hg (k := k) (by omega)
    have e : f (C - (k + 1)) = g (C - (k + 1)) := by
      by_cases q : f (C - (k + 1)) < g (C - (k + 1))
      · have := Nat.mul_le_mul_right (b ^ k) (show f (C - (k + 1)) + 1 ≤ g (C - (k + 1)) by omega)
        rw [Nat.add_mul, Nat.one_mul] at this
        omega
      · by_cases q2 : g (C - (k + 1)) < f (C - (k + 1))
        · have := Nat.mul_le_mul_right (b ^ k) (show g (C - (k + 1)) + 1 ≤ f (C - (k + 1)) by omega)
          rw [Nat.add_mul, Nat.one_mul] at this
          omega
        · omega
    by_cases q : c = C - (k + 1)
    · rw [q]; exact e
    · rw [e] at h'
      exact htNv_i hf hg (k := k) (by omega) (by omega) c (by omega) h2
end HN
/-- a row read from its last cup: winks used, and whether it can be -/
def htE (C n : Nat) (M : Nat → Nat → Bool) (f : Nat → Nat) : Nat → (Nat → Bool) × Bool
  | 0 => (fun _ => false, true)
  | k + 1 => if f (C - (k + 1)) = n then htE C n M f k else (htA (htE C n M f k).1 (f (C - (k + 1))), (htE C n M f k).2 && (M (C - (k + 1)) (f (C - (k + 1))) && !(htE C n M f k).1 (f (C - (k + 1)))))
theorem htE_O {C n : Nat} {M : Nat → Nat → Bool} {f : Nat → Nat} : ∀ {k : Nat} {u : Nat → Bool}, htO C n M f k u ↔ (htE C n M f k).2 = true ∧ ∀ w, (htE C n M f k).1 w = true → u w = false
  | 0, u => ⟨fun _ => ⟨rfl, fun w hw => (by cases hw)⟩, fun _ => trivial⟩
  | k + 1, u => by
    unfold htO htE
    by_cases q : f (C - (k + 1)) = n
    · rw [if_pos q, if_pos q]; exact htE_O
    · rw [if_neg q, if_neg q, htE_O (k := k) (u := htA u (f (C - (k + 1))))]
      show _ ↔ ((htE C n M f k).2 && (M (C - (k + 1)) (f (C - (k + 1))) && !(htE C n M f k).1 (f (C - (k + 1))))) = true ∧ _
      rw [Bool.and_eq_true, Bool.and_eq_true]
      have nf : ∀ {x : Bool}, (!x) = true ↔ x = false := fun {x} => by cases x <;> decide
      rw [nf]
      constructor
      · rintro ⟨a1, a2, a3, a4⟩
        refine ⟨⟨a3, a1, ?_⟩, fun w hw => ?_⟩
        · cases e : (htE C n M f k).1 (f (C - (k + 1)))
          · rfl
          · have := a4 _ e
            rw [htA_t.mpr (.inl rfl)] at this
            cases this
        · rcases htA_t.mp hw with e | e
          · rw [e]; exact a2
          · have := a4 w e
            cases g : u w
            · rfl
            · rw [htA_t.mpr (.inr g)] at this; cases this
      · rintro ⟨⟨a3, a1, a5⟩, a6⟩
        refine ⟨a1, a6 _ (htA_t.mpr (.inl rfl)), a3, fun w hw => ?_⟩
        cases g : htA u (f (C - (k + 1))) w
        · rfl
        · rcases htA_t.mp g with e | e
          · rw [e, a5] at hw; cases hw
          · have := a6 w (htA_t.mpr (.inr hw))
            rw [this] at e; cases e
/-- the first best row's number -/
def htZ (C n : Nat) (M : Nat → Nat → Bool) (P : Nat → Int) : Nat := htNv (n + 1) C (htG C n M P) C
section HZ
variable {C n : Nat} {M : Nat → Nat → Bool} {P : Nat → Int} {row : Nat}
theorem htZ_lt : htZ C n M P < (n + 1) ^ C := htNv_lt (fun _ _ => Nat.lt_succ_of_le htG_le) (Nat.le_refl C)
theorem htD_le : ∀ c, c < C → htD (n + 1) C row c ≤ n := fun c _ => Nat.le_of_lt_succ (Nat.mod_lt _ (by omega))
/-- every row that can be makes at most the best; those before the first best make less; that one is the first given -/
theorem htZ_r (hr : row < (n + 1) ^ C) : ((htE C n M (htD (n + 1) C row) C).2 = true → htS C n P (htD (n + 1) C row) C ≤ htB C n M P C (fun _ => false) ∧ (row < htZ C n M P → htS C n P (htD (n + 1) C row) C < htB C n M P C (fun _ => false))) ∧ (row = htZ C n M P → (htE C n M (htD (n + 1) C row) C).2 = true ∧ htS C n P (htD (n + 1) C row) C = htB C n M P C (fun _ => false) ∧ ∀ c, c < C → htD (n + 1) C row c = htG C n M P c) := by
  have hf : ∀ c, c < C → htD (n + 1) C row c ≤ n := htD_le
  have hf' : ∀ c, c < C → htD (n + 1) C row c < n + 1 := fun c h => Nat.lt_succ_of_le (hf c h)
  have hg' : ∀ c, c < C → htG C n M P c < n + 1 := fun c _ => Nat.lt_succ_of_le htG_le
  have nr : htNv (n + 1) C (htD (n + 1) C row) C = row := by rw [htNv_d (Nat.le_refl C), Nat.mod_eq_of_lt hr]
  have u0 : htU C n M P (C - C) = fun _ => false := by rw [Nat.sub_self]; rfl
  have ok : (htE C n M (htD (n + 1) C row) C).2 = true → htO C n M (htD (n + 1) C row) C (fun _ => false) := fun h => htE_O.mpr ⟨h, fun _ _ => rfl⟩
  refine ⟨fun h => ⟨htO_up hf (Nat.le_refl C) (ok h), fun hl => ?_⟩, fun e => ?_⟩
  · have l : htL C (htD (n + 1) C row) (htG C n M P) C := htNv_L hf' hg' (Nat.le_refl C) (by rw [nr]; exact hl)
    have := htG_lt hf (Nat.le_refl C) l (by rw [u0]; exact ok h)
    rwa [u0] at this
  · have eq : ∀ c, c < C → htD (n + 1) C row c = htG C n M P c := fun c hc => htNv_i hf' hg' (k := C) (Nat.le_refl C) (by rw [nr, e]; rfl) c (by omega) hc
    have g := htG_ok (C := C) (n := n) (M := M) (P := P) (Nat.le_refl C)
    rw [u0] at g
    have cO : ∀ k, k ≤ C → ∀ u, htO C n M (htG C n M P) k u → htO C n M (htD (n + 1) C row) k u := by
      intro k
      induction k with
      | zero => intro _ _ _; trivial
      | succ k ih =>
        intro hk u h
        unfold htO at h ⊢
        rw [eq _ (by omega)]
        by_cases q : htG C n M P (C - (k + 1)) = n
        · rw [if_pos q] at h ⊢; exact ih (by omega) _ h
        · rw [if_neg q] at h ⊢; exact ⟨h.1, h.2.1, ih (by omega) _ h.2.2⟩
    have cS : ∀ k, k ≤ C → htS C n P (htD (n + 1) C row) k = htS C n P (htG C n M P) k := by
      intro k
      induction k with
      | zero => intro _; rfl
      | succ k ih =>
        intro hk
        show htS C n P _ k + _ = htS C n P _ k + _
        rw [ih (by omega), eq _ (by omega)]
    exact ⟨(htE_O.mp (cO C (Nat.le_refl C) _ g.1)).1, by rw [cS C (Nat.le_refl C), g.2], eq⟩
end HZ
