--DEPS 52.base
/-! Who is given which cup: Hall's condition, the best, the first best row. -/
theorem cnt_or {p q : Nat → Bool} : ∀ n : Nat, cnt n (fun k => p k || q k) + cnt n (fun k => p k && q k) = cnt n p + cnt n q
  | 0 => rfl
  | n + 1 => by
    have ih := cnt_or (p := p) (q := q) n
    show cnt n (fun k => p k || q k) + (if (p n || q n) = true then 1 else 0) + (cnt n (fun k => p k && q k) + (if (p n && q n) = true then 1 else 0)) = cnt n p + (if p n = true then 1 else 0) + (cnt n q + (if q n = true then 1 else 0))
    cases p n <;> cases q n <;> simp <;> omega
theorem cnt_mo {p q : Nat → Bool} : ∀ {n : Nat}, (∀ k, k < n → p k = true → q k = true) → cnt n p ≤ cnt n q
  | 0, _ => Int.le_refl 0
  | n + 1, h => by
    have ih := cnt_mo (p := p) (q := q) (n := n) fun k hk => h k (by omega)
    have hn := h n (by omega)
    show cnt n p + (if p n = true then 1 else 0) ≤ cnt n q + (if q n = true then 1 else 0)
    by_cases e : p n = true
    · rw [if_pos e, if_pos (hn e)]; omega
    · rw [if_neg e]; split <;> omega
theorem cnt_no {n : Nat} : cnt n (fun _ => false) = 0 := by
  induction n with
  | zero => rfl
  | succ n ih => rw [cnt_f (by decide), ih]
def htA (u : Nat → Bool) (w : Nat) : Nat → Bool := fun i => decide (i = w) || u i
def htR (S : Nat → Bool) (c : Nat) : Nat → Bool := fun i => !decide (i = c) && S i
theorem htA_t {u : Nat → Bool} {w i : Nat} : htA u w i = true ↔ i = w ∨ u i = true := by simp [htA]
theorem htR_t {u : Nat → Bool} {w i : Nat} : htR u w i = true ↔ i ≠ w ∧ u i = true := by simp [htR]
theorem htRA {u : Nat → Bool} {w : Nat} (h : u w = false) : htR (htA u w) w = u := by
  funext i
  by_cases e : i = w
  · subst e; simp [htR, htA, h]
  · simp [htR, htA, e]
theorem htR_id {u : Nat → Bool} {w : Nat} (h : u w = false) : htR u w = u := by
  funext i
  by_cases e : i = w
  · subst e; simp [htR, h]
  · simp [htR, e]
theorem htA_cnt {u : Nat → Bool} {w n : Nat} (hw : w < n) (h : u w = false) : cnt n (htA u w) = cnt n u + 1 := by
  have := cnt_ch (p := htA u w) (q := u) hw fun j _ hj => by simp [htA, hj]
  rw [if_neg (by simp [h]), if_pos (by simp [htA])] at this
  omega
theorem htR_cnt {u : Nat → Bool} {w n : Nat} (hw : w < n) (h : u w = true) : cnt n u = cnt n (htR u w) + 1 := by
  have := cnt_ch (p := htR u w) (q := u) hw fun j _ hj => by simp [htR, hj]
  rw [if_pos h, if_neg (by simp [htR])] at this
  omega
def htN (M : Nat → Nat → Bool) (P : Nat → Bool) (w : Nat) : Nat → Bool
  | 0 => false
  | k + 1 => htN M P w k || (P k && M k w)
theorem htN_t {M : Nat → Nat → Bool} {P : Nat → Bool} {w : Nat} : ∀ {C : Nat}, htN M P w C = true ↔ ∃ c, c < C ∧ P c = true ∧ M c w = true
  | 0 => ⟨fun h => (by cases h), fun ⟨c, h, _⟩ => (by omega)⟩
  | C + 1 => by
    have ih := htN_t (M := M) (P := P) (w := w) (C := C)
    show (htN M P w C || (P C && M C w)) = true ↔ _
    rw [Bool.or_eq_true, Bool.and_eq_true, ih]
    constructor
    · rintro (⟨c, h1, h2⟩ | h)
      · exact ⟨c, by omega, h2⟩
      · exact ⟨C, by omega, h⟩
    · rintro ⟨c, h1, h2⟩
      by_cases e : c = C
      · subst e; exact .inr h2
      · exact .inl ⟨c, by omega, h2⟩
def htV (C n : Nat) (M : Nat → Nat → Bool) (P u : Nat → Bool) : Int := cnt n fun w => htN M P w C && !u w
def htH (C n : Nat) (M : Nat → Nat → Bool) (S u : Nat → Bool) : Prop := ∀ P : Nat → Bool, (∀ c, P c = true → S c = true) → cnt C P ≤ htV C n M P u
section HL
variable {C n : Nat} {M : Nat → Nat → Bool} {S u : Nat → Bool} {c w : Nat}
theorem htV_mo {P Q v : Nat → Bool} (h : ∀ i, P i = true → Q i = true) (h2 : ∀ i, v i = true → u i = true) : htV C n M P u ≤ htV C n M Q v :=
  cnt_mo fun k _ hk => by
    rw [Bool.and_eq_true, htN_t] at hk ⊢
    obtain ⟨⟨c, a, b, e⟩, g⟩ := hk
    refine ⟨⟨c, a, h c b, e⟩, ?_⟩
    cases q : v k
    · rfl
    · rw [h2 k q] at g; cases g
theorem htV_sub {P Q : Nat → Bool} : htV C n M (fun i => P i || Q i) u + htV C n M (fun i => P i && Q i) u ≤ htV C n M P u + htV C n M Q u := by
  unfold htV
  rw [← cnt_or (p := fun w => htN M P w C && !u w) (q := fun w => htN M Q w C && !u w)]
  refine Int.add_le_add (cnt_mo fun k _ hk => ?_) (cnt_mo fun k _ hk => ?_)
  · rw [Bool.and_eq_true, htN_t] at hk
    obtain ⟨⟨c, a, b, e⟩, g⟩ := hk
    rw [Bool.or_eq_true] at b
    rw [Bool.or_eq_true, Bool.and_eq_true, Bool.and_eq_true, htN_t, htN_t]
    rcases b with b | b
    · exact .inl ⟨⟨c, a, b, e⟩, g⟩
    · exact .inr ⟨⟨c, a, b, e⟩, g⟩
  · rw [Bool.and_eq_true, htN_t] at hk
    obtain ⟨⟨c, a, b, e⟩, g⟩ := hk
    rw [Bool.and_eq_true] at b
    rw [Bool.and_eq_true, Bool.and_eq_true, Bool.and_eq_true, htN_t, htN_t]
    exact ⟨⟨⟨c, a, b.1, e⟩, g⟩, ⟨c, a, b.2, e⟩, g⟩
/-- one more wink is used: at most one fewer -/
theorem htV_ad {P : Nat → Bool} (hw : w < n) : htV C n M P u ≤ htV C n M P (htA u w) + 1 ∧ (htN M P w C = false → htV C n M P u = htV C n M P (htA u w)) := by
  have e := cnt_ch (p := fun k => htN M P k C && !u k) (q := fun k => htN M P k C && !(htA u w) k) hw fun j _ hj => by simp [htA, hj]
  rw [if_neg (by simp [htA])] at e
  unfold htV
  constructor
  · split at e <;> omega
  · intro h
    rw [if_neg (by simp [h])] at e
    omega
theorem htH_s (hc : c < C) (hS : S c = true) (h : htH C n M S u) : ∃ w, w < n ∧ M c w = true ∧ u w = false ∧ htH C n M (htR S c) (htA u w) := by
  refine Classical.byContradiction fun hno => ?_
  have key : ∀ k, k ≤ n → ∃ U : Nat → Bool, (∀ i, U i = true → htR S c i = true) ∧ htV C n M U u ≤ cnt C U ∧ ∀ w, w < k → M c w = true → u w = false → htN M U w C = true := by
    intro k
    induction k with
    | zero =>
      intro _
      refine ⟨fun _ => false, fun i hi => (by cases hi), ?_, fun w hw => (by omega)⟩
      rw [cnt_no]
      refine Int.le_of_eq (cnt_z fun k _ hk => ?_)
      rw [Bool.and_eq_true, htN_t] at hk
      obtain ⟨⟨c, a, b, e⟩, g⟩ := hk
      cases b
    | succ k ih =>
      intro hk
      obtain ⟨U, u1, u2, u3⟩ := ih (by omega)
      by_cases q : M c k = true ∧ u k = false
      · have hn : ¬ htH C n M (htR S c) (htA u k) := fun g => hno ⟨k, by omega, q.1, q.2, g⟩
        have hp : ∃ P : Nat → Bool, (∀ i, P i = true → htR S c i = true) ∧ htV C n M P (htA u k) < cnt C P := by
          refine Classical.byContradiction fun g => hn fun P hP => ?_
          refine Classical.byContradiction fun g2 => g ⟨P, hP, by omega⟩
        obtain ⟨P, p1, p2⟩ := hp
        have sS : ∀ {Q : Nat → Bool}, (∀ i, Q i = true → htR S c i = true) → cnt C Q ≤ htV C n M Q u := fun hQ => h _ fun i hi => (htR_t.mp (hQ i hi)).2
        have a1 := sS p1
        have a2 := htV_ad (C := C) (M := M) (u := u) (P := P) (w := k) (n := n) (by omega)
        have a3 : htN M P k C = true := by
          cases g : htN M P k C
          · have := a2.2 g; omega
          · rfl
        have a4 := sS (Q := fun i => U i && P i) fun i hi => u1 i (by rw [Bool.and_eq_true] at hi; exact hi.1)
        have a5 := htV_sub (C := C) (n := n) (M := M) (u := u) (P := U) (Q := P)
        have a6 := cnt_or (p := U) (q := P) C
        refine ⟨fun i => U i || P i, fun i hi => ?_, by omega, fun w hw m1 m2 => ?_⟩
        · rw [Bool.or_eq_true] at hi
          exact hi.elim (u1 i) (p1 i)
        · have mo : ∀ {Q : Nat → Bool}, (∀ i, Q i = true → (U i || P i) = true) → htN M Q w C = true → htN M (fun i => U i || P i) w C = true := fun hQ g => by
            rw [htN_t] at g ⊢
            obtain ⟨c', x, y, z⟩ := g
            exact ⟨c', x, hQ c' y, z⟩
          by_cases e : w = k
          · subst e
            exact mo (fun i hi => by rw [hi, Bool.or_true]) a3
          · exact mo (fun i hi => by rw [hi, Bool.true_or]) (u3 w (by omega) m1 m2)
      · refine ⟨U, u1, u2, fun w hw m1 m2 => ?_⟩
        by_cases e : w = k
        · subst e; exact absurd ⟨m1, m2⟩ q
        · exact u3 w (by omega) m1 m2
  obtain ⟨U, u1, u2, u3⟩ := key n (Nat.le_refl n)
  have uc : U c = false := by
    cases g : U c
    · rfl
    · exact absurd rfl (htR_t.mp (u1 c g)).1
  have b1 := h (htA U c) fun i hi => by
    rcases htA_t.mp hi with e | e
    · rw [e]; exact hS
    · exact (htR_t.mp (u1 i e)).2
  rw [htA_cnt hc uc] at b1
  have b2 : htV C n M (htA U c) u ≤ htV C n M U u := cnt_mo fun k hk g => by
    rw [Bool.and_eq_true, htN_t] at g ⊢
    obtain ⟨⟨c', x, y, z⟩, g⟩ := g
    refine ⟨?_, g⟩
    rcases htA_t.mp y with e | e
    · subst e
      rw [← htN_t]
      exact u3 k hk z (by cases q : u k <;> simp_all)
    · exact ⟨c', x, e, z⟩
  omega
theorem htH_r (hc : c < C) (hw : w < n) (hM : M c w = true) (hu : u w = false) (h : htH C n M (htR S c) (htA u w)) : htH C n M S u := fun P hP => by
  have h1 := h (htR P c) fun i hi => htR_t.mpr ⟨(htR_t.mp hi).1, hP i (htR_t.mp hi).2⟩
  cases q : P c
  · rw [htR_id q] at h1
    exact Int.le_trans h1 (htV_mo (fun _ g => g) fun i hi => htA_t.mpr (.inr hi))
  · rw [htR_cnt hc q]
    have e := htA_cnt (u := fun k => htN M (htR P c) k C && !(htA u w) k) hw (by simp [htA])
    have : cnt n (htA (fun k => htN M (htR P c) k C && !(htA u w) k) w) ≤ htV C n M P u := cnt_mo fun k hk g => by
      rw [Bool.and_eq_true, htN_t]
      rcases htA_t.mp g with e | e
      · subst e
        exact ⟨⟨c, hc, q, hM⟩, by rw [hu]; rfl⟩
      · rw [Bool.and_eq_true, htN_t] at e
        obtain ⟨⟨c', x, y, z⟩, e⟩ := e
        refine ⟨⟨c', x, (htR_t.mp y).2, z⟩, ?_⟩
        cases r : u k
        · rfl
        · rw [htA_t.mpr (.inr r)] at e; cases e
    unfold htV at h1
    omega
end HL
