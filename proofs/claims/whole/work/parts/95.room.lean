--DEPS 94.bookm
/-! ROOM: the clauses, in the class. -/
abbrev wq (T : Int → Int) (b e : Int) (i : Nat) : Prop := wm (q_strs.getD i []) T b e
theorem okS : ∀ i : Fin 19, okW (q_strs.getD i.val []) := by
  unfold okW
  decide
theorem strs_s : ∀ i : Fin 19, q_strs[(UInt32.ofNat i.val).toNat]? = some (q_strs.getD i.val []) := by decide
theorem strs_d : ∀ i j : Fin 19, q_strs.getD i.val [] = q_strs.getD j.val [] → i = j := by decide
theorem wm_u {T : Int → Int} {b e : Int} {t u : List Nat} (h : wm t T b e) (g : wm u T b e) : t = u := by
  obtain ⟨h1, h2⟩ := h
  obtain ⟨g1, g2⟩ := g
  have hl : t.length = u.length := by omega
  refine List.ext_getElem hl fun j j1 j2 => ?_
  have a := h2 j j1
  have b := g2 j j2
  have p1 : t.getD j 0 = t[j] := by simp [List.getD, j1]
  have p2 : u.getD j 0 = u[j] := by simp [List.getD, j2]
  omega
theorem wq_x {T : Int → Int} {b e : Int} {i j : Nat} (h : wq T b e i) (hi : i < 19) (hj : j < 19) (n : j ≠ i) : ¬ wq T b e j := fun g => n (by
  have := strs_d ⟨j, hj⟩ ⟨i, hi⟩ (wm_u g h)
  exact congrArg Fin.val this)
theorem wq_e {T : Int → Int} {b : Int} {i : Nat} (hi : i < 19) : ¬ wq T b b i := fun g => by
  have := (okS ⟨i, hi⟩).2.1
  have := g.1
  dsimp only at *
  omega
def uj (J : Nat → Int) (f : Nat) (v : Int) (f' : Nat) : Int := if f' = f then v else J f'
theorem uj_s {J : Nat → Int} {f : Nat} {v : Int} : uj J f v f = v := if_pos rfl
theorem uj_n {J : Nat → Int} {f f' : Nat} {v : Int} (h : f' ≠ f) : uj J f v f' = J f' := if_neg h
/-- a room that is being told: numbers and rows, by the class's own places -/
abbrev zD : Type := (Nat → Int) × (Nat → Int → Int)
def dOK (D : zD) : Prop := (0 ≤ D.1 0 ∧ D.1 0 ≤ 5) ∧ (0 ≤ D.1 1 ∧ D.1 1 ≤ 10) ∧ (0 ≤ D.1 2 ∧ D.1 2 ≤ 4) ∧ (4 ≤ D.1 3 ∧ D.1 3 ≤ 30) ∧ (0 ≤ D.1 4 ∧ D.1 4 ≤ 9) ∧ (∀ h : Int, 0 ≤ h → h < D.1 0 → 0 ≤ D.2 13 h ∧ D.2 13 h ≤ 999) ∧ (∀ w : Int, 0 ≤ w → w < D.1 1 → (0 ≤ D.2 14 w ∧ D.2 14 w < D.1 0) ∧ (1 ≤ D.2 15 w ∧ D.2 15 w ≤ 9) ∧ 0 ≤ D.2 16 w ∧ D.2 16 w ≤ 29) ∧ (∀ c : Int, 0 ≤ c → c < D.1 2 → (0 ≤ D.2 17 c ∧ D.2 17 c ≤ 29) ∧ 1 ≤ D.2 18 c ∧ D.2 18 c ≤ 99)
def rHo (T : Int → Int) (n : Int) (D : zD) (a : Int) : zE (Int × zD) := bd (numS T n 0 999 a) fun x => .inr (x.1, uj D.1 0 (D.1 0 + 1), ua D.2 13 (up (D.2 13) (D.1 0) x.2))
def rWi (T : Int → Int) (n : Int) (D : zD) (a : Int) : zE (Int × zD) := bd (numS T n 0 (D.1 0 - 1) a) fun x => bd (numS T n 1 9 x.1) fun y => bd (numS T n 0 29 y.1) fun z => .inr (z.1, uj D.1 1 (D.1 1 + 1), ua (ua (ua D.2 14 (up (D.2 14) (D.1 1) x.2)) 15 (up (D.2 15) (D.1 1) y.2)) 16 (up (D.2 16) (D.1 1) z.2))
def rCu (T : Int → Int) (n : Int) (D : zD) (a : Int) : zE (Int × zD) := bd (numS T n 0 29 a) fun x => if fst (D.1 2).toNat (fun c => decide (D.2 17 c = x.2)) = -1 then bd (numS T n 1 99 x.1) fun y => .inr (y.1, uj D.1 2 (D.1 2 + 1), ua (ua D.2 17 (up (D.2 17) (D.1 2) x.2)) 18 (up (D.2 18) (D.1 2) y.2)) else .inl (2, sk T n a)
def rFe (T : Int → Int) (n : Int) (D : zD) (a : Int) : zE (Int × zD) := bd (numS T n 4 30 a) fun x => .inr (x.1, uj D.1 3 x.2, D.2)
def rNa (T : Int → Int) (n : Int) (D : zD) (a : Int) : zE (Int × zD) := bd (numS T n 0 9 a) fun x => .inr (x.1, uj D.1 4 x.2, D.2)
abbrev sb (T : Int → Int) (n a : Int) : Int := sk T n a
abbrev se (T : Int → Int) (n a : Int) : Int := gE (qL' T) n (sk T n a)
def rmC (T : Int → Int) (n : Int) (m : Prop) [Decidable m] (D : zD) (a : Int) : zE (Int × zD) :=
  if wq T (sb T n a) (se T n a) 0 then (if m ∧ D.1 0 < 5 then rHo T n D (se T n a) else .inl (3, sb T n a))
  else if wq T (sb T n a) (se T n a) 1 then (if m ∧ D.1 1 < 10 then rWi T n D (se T n a) else .inl (3, sb T n a))
  else if wq T (sb T n a) (se T n a) 2 then (if m ∧ D.1 2 < 4 then rCu T n D (se T n a) else .inl (3, sb T n a))
  else if wq T (sb T n a) (se T n a) 3 then (if m then rFe T n D (se T n a) else .inl (3, sb T n a))
  else if wq T (sb T n a) (se T n a) 4 then (if m then rNa T n D (se T n a) else .inl (3, sb T n a))
  else .inl (1, sb T n a)
theorem bd_r {α β : Type} {x : zE α} {f : α → zE β} {v : β} (h : bd x f = .inr v) : ∃ u, x = .inr u ∧ f u = .inr v := by
  cases x with
  | inl e => cases h
  | inr u => exact ⟨u, rfl, h⟩
theorem bd_l {α β : Type} {x : zE α} {f : α → zE β} {e : Int × Int} (h : bd x f = .inl e) : x = .inl e ∨ ∃ u, x = .inr u ∧ f u = .inl e := by
  cases x with
  | inl e => cases h; exact .inl rfl
  | inr u => exact .inr ⟨u, rfl, h⟩
section RP
variable {T : Int → Int} {n a e : Int} {D D' : zD}
theorem rHo_r (ha : a ≤ n) (hk : dOK D) (h5 : D.1 0 < 5) (h : rHo T n D a = .inr (e, D')) : a < e ∧ e ≤ n ∧ dOK D' := by
  obtain ⟨⟨e1, v⟩, h1, h2⟩ := bd_r h
  have r := numS_r ha h1
  cases h2
  obtain ⟨k0, k1, k2, k3, k4, k5, k6, k7⟩ := hk
  refine ⟨r.1, r.2.1, ?_⟩
  have e0 : uj D.1 0 (D.1 0 + 1) 0 = D.1 0 + 1 := uj_s
  have e1 : ∀ j, j ≠ 0 → uj D.1 0 (D.1 0 + 1) j = D.1 j := fun j q => uj_n q
  refine ⟨by dsimp only; rw [e0]; omega, by dsimp only; rw [e1 1 (by decide)]; exact k1, by dsimp only; rw [e1 2 (by decide)]; exact k2, by dsimp only; rw [e1 3 (by decide)]; exact k3, by dsimp only; rw [e1 4 (by decide)]; exact k4, fun w w0 w1 => ?_, fun w w0 w1 => ?_, fun w w0 w1 => ?_⟩
  · dsimp only at w1 ⊢
    rw [e0] at w1
    rw [ua_s]
    by_cases c : w = D.1 0
    · rw [c, up_s]; omega
    · rw [up_n c]; exact k5 w w0 (by omega)
  · dsimp only at w1 ⊢
    rw [e1 1 (by decide)] at w1
    rw [ua_n (by decide), ua_n (by decide), ua_n (by decide), e0]
    have := k6 w w0 w1
    omega
  · dsimp only at w1 ⊢
    rw [e1 2 (by decide)] at w1
    rw [ua_n (by decide), ua_n (by decide)]
    exact k7 w w0 w1
theorem rWi_r (ha : a ≤ n) (hk : dOK D) (h5 : D.1 1 < 10) (h : rWi T n D a = .inr (e, D')) : a < e ∧ e ≤ n ∧ dOK D' := by
  obtain ⟨⟨e1, v⟩, h1, h⟩ := bd_r h
  have r := numS_r ha h1
  dsimp only at h
  obtain ⟨⟨e2, u⟩, h2, h⟩ := bd_r h
  have r2 := numS_r (by omega) h2
  dsimp only at h
  obtain ⟨⟨e3, t⟩, h3, h⟩ := bd_r h
  have r3 := numS_r (by omega) h3
  cases h
  obtain ⟨k0, k1, k2, k3, k4, k5, k6, k7⟩ := hk
  refine ⟨by omega, by omega, ?_⟩
  have e0 : uj D.1 1 (D.1 1 + 1) 1 = D.1 1 + 1 := uj_s
  have e1 : ∀ j, j ≠ 1 → uj D.1 1 (D.1 1 + 1) j = D.1 j := fun j q => uj_n q
  refine ⟨by dsimp only; rw [e1 0 (by decide)]; exact k0, by dsimp only; rw [e0]; omega, by dsimp only; rw [e1 2 (by decide)]; exact k2, by dsimp only; rw [e1 3 (by decide)]; exact k3, by dsimp only; rw [e1 4 (by decide)]; exact k4, fun w w0 w1 => ?_, fun w w0 w1 => ?_, fun w w0 w1 => ?_⟩
  · dsimp only at w1 ⊢
    rw [e1 0 (by decide)] at w1
    rw [ua_n (by decide), ua_n (by decide), ua_n (by decide)]
    exact k5 w w0 w1
  · dsimp only at w1 ⊢
    rw [e0] at w1
    rw [e1 0 (by decide), ua_s, ua_n (by decide), ua_n (by decide), ua_s, ua_n (by decide), ua_s]
    by_cases c : w = D.1 1
    · rw [c, up_s, up_s, up_s]; omega
    · rw [up_n c, up_n c, up_n c]; exact k6 w w0 (by omega)
  · dsimp only at w1 ⊢
    rw [e1 2 (by decide)] at w1
    rw [ua_n (by decide), ua_n (by decide), ua_n (by decide), ua_n (by decide), ua_n (by decide), ua_n (by decide)]
    exact k7 w w0 w1
theorem rCu_r (ha : a ≤ n) (hk : dOK D) (h5 : D.1 2 < 4) (h : rCu T n D a = .inr (e, D')) : a < e ∧ e ≤ n ∧ dOK D' := by
  obtain ⟨⟨e1, v⟩, h1, h⟩ := bd_r h
  have r := numS_r ha h1
  dsimp only at h
  split at h
  · obtain ⟨⟨e2, u⟩, h2, h⟩ := bd_r h
    have r2 := numS_r (by omega) h2
    cases h
    obtain ⟨k0, k1, k2, k3, k4, k5, k6, k7⟩ := hk
    refine ⟨by omega, by omega, ?_⟩
    have e0 : uj D.1 2 (D.1 2 + 1) 2 = D.1 2 + 1 := uj_s
    have e1 : ∀ j, j ≠ 2 → uj D.1 2 (D.1 2 + 1) j = D.1 j := fun j q => uj_n q
    refine ⟨by dsimp only; rw [e1 0 (by decide)]; exact k0, by dsimp only; rw [e1 1 (by decide)]; exact k1, by dsimp only; rw [e0]; omega, by dsimp only; rw [e1 3 (by decide)]; exact k3, by dsimp only; rw [e1 4 (by decide)]; exact k4, fun w w0 w1 => ?_, fun w w0 w1 => ?_, fun w w0 w1 => ?_⟩
    · dsimp only at w1 ⊢
      rw [e1 0 (by decide)] at w1
      rw [ua_n (by decide), ua_n (by decide)]
      exact k5 w w0 w1
    · dsimp only at w1 ⊢
      rw [e1 1 (by decide)] at w1
      rw [e1 0 (by decide), ua_n (by decide), ua_n (by decide), ua_n (by decide), ua_n (by decide), ua_n (by decide), ua_n (by decide)]
      exact k6 w w0 w1
    · dsimp only at w1 ⊢
      rw [e0] at w1
      rw [ua_n (by decide), ua_s, ua_s]
      by_cases c : w = D.1 2
      · rw [c, up_s, up_s]; omega
      · rw [up_n c, up_n c]; exact k7 w w0 (by omega)
  · cases h
theorem dOK.j3 {v : Int} (hk : dOK D) (hv : 4 ≤ v ∧ v ≤ 30) : dOK (uj D.1 3 v, D.2) := by
  have e1 : ∀ j, j ≠ 3 → uj D.1 3 v j = D.1 j := fun j q => uj_n q
  unfold dOK
  dsimp only
  rw [e1 0 (by decide), e1 1 (by decide), e1 2 (by decide), e1 4 (by decide), uj_s]
  obtain ⟨k0, k1, k2, k3, k4, k5⟩ := hk
  exact ⟨k0, k1, k2, hv, k4, k5⟩
theorem dOK.j4 {v : Int} (hk : dOK D) (hv : 0 ≤ v ∧ v ≤ 9) : dOK (uj D.1 4 v, D.2) := by
  have e1 : ∀ j, j ≠ 4 → uj D.1 4 v j = D.1 j := fun j q => uj_n q
  unfold dOK
  dsimp only
  rw [e1 0 (by decide), e1 1 (by decide), e1 2 (by decide), e1 3 (by decide), uj_s]
  obtain ⟨k0, k1, k2, k3, k4, k5⟩ := hk
  exact ⟨k0, k1, k2, k3, hv, k5⟩
theorem rmC_r {m : Prop} [Decidable m] (ha : a ≤ n) (hk : dOK D) (h : rmC T n m D a = .inr (e, D')) : a < e ∧ e ≤ n ∧ dOK D' := by
  have b1 := sk_b (T := T) ha
  have b2 := gE_b (q := qL' T) b1.2
  have go : ∀ x : zE (Int × zD), (∀ e D', x = .inr (e, D') → se T n a < e ∧ e ≤ n ∧ dOK D') → x = .inr (e, D') → a < e ∧ e ≤ n ∧ dOK D' := fun x q hx => by
    have := q _ _ hx
    have h1 : gE (qL' T) n (sk T n a) < e := this.1
    exact ⟨by omega, this.2⟩
  unfold rmC at h
  split at h
  · split at h
    · rename_i c
      exact go _ (fun _ _ => rHo_r b2.2.1 hk c.2) h
    · cases h
  split at h
  · split at h
    · rename_i c
      exact go _ (fun _ _ => rWi_r b2.2.1 hk c.2) h
    · cases h
  split at h
  · split at h
    · rename_i c
      exact go _ (fun _ _ => rCu_r b2.2.1 hk c.2) h
    · cases h
  split at h
  · split at h
    · refine go _ (fun e D' h => ?_) h
      obtain ⟨⟨e1, v⟩, h1, h⟩ := bd_r h
      have r := numS_r b2.2.1 h1
      cases h
      exact ⟨r.1, r.2.1, hk.j3 ⟨r.2.2.1, r.2.2.2.1⟩⟩
    · cases h
  split at h
  · split at h
    · refine go _ (fun e D' h => ?_) h
      obtain ⟨⟨e1, v⟩, h1, h⟩ := bd_r h
      have r := numS_r b2.2.1 h1
      cases h
      exact ⟨r.1, r.2.1, hk.j4 ⟨r.2.2.1, r.2.2.2.1⟩⟩
    · cases h
  cases h
end RP
