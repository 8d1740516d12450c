--DEPS 58.row
def ern (s : Int → Int) (h v : Int) : Int → Int := up s (40 + h) (if 9999 < s (40 + h) + v then 9999 else s (40 + h) + v)
abbrev canF (R : zR) (s : Int → Int) (w : Int) : Prop := free R s w ∧ s (40 + rO R w) ≠ 0
def flk1 (R : zR) (s : Int → Int) (w : Int) : Int → Int := up (up s (40 + rO R w) (s (40 + rO R w) - 1)) (20 + w) (s (20 + w) + 1)
def flkX (R : zR) (s : Int → Int) (w x : Int) : Int → Int := if x = s w then flk1 R s w else if lndC R x = -1 then lnd R (flk1 R s w) w x else ern (lnd R (flk1 R s w) w x) (rO R w) (rP R (lndC R x))
def flk (R : zR) (F : zF) (s : Int → Int) (w p h : Int) : Int → Int := if canF R s w then flkX R s w (dn R F s w p h) else s
def shkN (R : zR) (s : Int → Int) : Nat → Int → Int
  | 0 => s
  | n + 1 => if free R s n then lnd R (shkN R s n) n (if rF R ≤ shkN R s n n + 1 then -2 else shkN R s n n + 1) else shkN R s n
abbrev shk (R : zR) (s : Int → Int) : Int → Int := shkN R s (rW R)
def pss (R : zR) (s : Int → Int) (w : Int) : Int → Int := if s w < 0 ∨ over R s w = 0 ∨ s (40 + rO R w) = 0 then s else ern (up s (40 + rO R w) (s (40 + rO R w) - 1)) (rO R (who R s (s w) (many R s (s w) - 1))) 1
def pssN (R : zR) (s : Int → Int) : Nat → Int → Int
  | 0 => s
  | n + 1 => pss R (pssN R s n) n
def pas (R : zR) (s : Int → Int) : Int → Int := up (pssN R s (rW R)) 45 (pssN R s (rW R) 45 + 1)
section
variable {R : zR} {F : zF} {s : Int → Int} {w p h x : Int}
theorem dn_c (hR : wR R) (hF : wF F) : dn R F s w p h = -2 ∨ (0 ≤ dn R F s w p h ∧ dn R F s w p h < rF R) := by
  have := flA_b (R := R) hF s w p
  unfold dn
  generalize s w + (if h = 0 then flA R F s w p else -flA R F s w p) = z
  split <;> omega
theorem sV.f1 (hV : sV R s) (hR : wR R) (h0 : 0 ≤ w) (h1 : w < rW R) (hc : s (40 + rO R w) ≠ 0) : sV R (flk1 R s w) := by
  have h10 := hR.2.1
  have ho := hR.o h0 h1
  have h5 := hR.1
  unfold flk1
  refine hV.cg h10 (fun v v0 v1 => by rw [up_n (by omega), up_n (by omega)]) (fun v v0 v1 => by rw [up_n (by omega), up_n (by omega)]) fun k k0 k1 => ?_
  have b := hV.2.2.2.2 k k0 k1
  rw [up_n (by omega)]
  by_cases e : k = rO R w
  · subst e; rw [up_s]; omega
  · rw [up_n (by omega)]; exact b
theorem sV.er {v : Int} (hV : sV R s) (hR : wR R) (h0 : 0 ≤ h) (h1 : h < rH R) (v0 : 0 ≤ v) : sV R (ern s h v) := by
  have h10 := hR.2.1
  have h5 := hR.1
  unfold ern
  refine hV.cg h10 (fun v v0 v1 => by rw [up_n (by omega)]) (fun v v0 v1 => by rw [up_n (by omega)]) fun k k0 k1 => ?_
  have b := hV.2.2.2.2 k k0 k1
  by_cases e : k = h
  · subst e; rw [up_s]; split <;> omega
  · rw [up_n (by omega)]; exact b
theorem flk1_p {v : Int} (h10 : rW R ≤ 10) (h0 : 0 ≤ w) (ho : 0 ≤ rO R w) (v1 : v < 20) : flk1 R s w v = s v := by
  unfold flk1; rw [up_n (by omega), up_n (by omega)]
theorem sV.fx (hV : sV R s) (hR : wR R) (h0 : 0 ≤ w) (h1 : w < rW R) (hc : s (40 + rO R w) ≠ 0) (hp : 0 ≤ s w) (hx : x = -2 ∨ (0 ≤ x ∧ x < rF R)) : sV R (flkX R s w x) := by
  have h10 := hR.2.1
  have ho := hR.o h0 h1
  have v1 := hV.f1 hR h0 h1 hc
  have ew : flk1 R s w w = s w := flk1_p h10 h0 ho.1 (by omega)
  unfold flkX
  by_cases e : x = s w
  · rw [if_pos e]; exact v1
  · rw [if_neg e]
    have v2 := v1.go hR (x := x) h0 h1 (by omega) (by omega)
    by_cases e2 : lndC R x = -1
    · rw [if_pos e2]; exact v2
    · rw [if_neg e2]
      have hc0 := lndC_lo R x
      have hc1 := lndC_hi R x
      have := hR.2.2.2.2.2.2.2.2.2.2 (lndC R x) (by omega) hc1
      exact v2.er hR ho.1 ho.2 (by omega)
theorem sV.fk (hV : sV R s) (hR : wR R) (hF : wF F) (h0 : 0 ≤ w) (h1 : w < rW R) : sV R (flk R F s w p h) := by
  unfold flk
  split
  · rename_i q
    exact hV.fx hR h0 h1 q.2 q.1.1 (dn_c hR hF)
  · exact hV
theorem shk_i (hV : sV R s) (hR : wR R) : ∀ n : Nat, n ≤ rW R → sV R (shkN R s n) ∧ ∀ v : Int, n ≤ v → v < rW R → shkN R s n v = s v
  | 0, _ => ⟨hV, fun _ _ _ => rfl⟩
  | n + 1, hn => by
    have h10 := hR.2.1
    obtain ⟨i1, i2⟩ := shk_i hV hR n (by omega)
    have e := i2 n (by omega) (by omega)
    unfold shkN
    split
    · rename_i q
      have hf := (hV.1 n (by omega) (by omega)).1
      refine ⟨i1.go hR (by omega) (by omega) (by omega) (by split <;> omega), fun v v0 v1 => ?_⟩
      rw [lnd_p h10 (by omega) (by omega) (by omega) v1 (by omega)]
      exact i2 v (by omega) v1
    · exact ⟨i1, fun v v0 v1 => i2 v (by omega) v1⟩
theorem who_at (hV : sV R s) (hR : wR R) (h0 : 0 ≤ w) (h1 : w < rW R) (hp : 0 ≤ s w) : ∃ k : Nat, k < rW R ∧ who R s (s w) (many R s (s w) - 1) = k ∧ s k = s w ∧ s (10 + k) = many R s (s w) - 1 := by
  have u := hV.2.1 w h0 h1 hp
  have b := hV.1 w h0 h1
  obtain ⟨v, v0, v1, e1, e2⟩ := hV.2.2.1 (s w) (many R s (s w) - 1) hp (by omega) (by omega)
  rcases fst_cs (rW R) (fun v => decide (s v = s w ∧ s (10 + v) = many R s (s w) - 1)) with ⟨-, h⟩ | ⟨k, hk, e, hp, -⟩
  · obtain ⟨n, rfl⟩ := Int.eq_ofNat_of_zero_le v0
    exact absurd (decide_eq_true ⟨e1, e2⟩) (h n (by omega))
  · have := of_decide_eq_true hp
    exact ⟨k, hk, e, this.1, this.2⟩
theorem pss_o {j : Int} (hR : wR R) (hV : sV R s) (h0 : 0 ≤ w) (h1 : w < rW R) (hj : j < 40 ∨ 45 ≤ j) : pss R s w j = s j := by
  unfold pss
  split
  · rfl
  · rename_i q
    have ho := hR.o h0 h1
    have h5 := hR.1
    obtain ⟨k, hk, e, -⟩ := who_at hV hR h0 h1 (by omega)
    have ho2 := hR.o (w := k) (by omega) (by omega)
    rw [e]
    unfold ern
    rw [up_n (by omega), up_n (by omega)]
theorem sV.ps (hV : sV R s) (hR : wR R) (h0 : 0 ≤ w) (h1 : w < rW R) : sV R (pss R s w) := by
  unfold pss
  split
  · exact hV
  · rename_i q
    have ho := hR.o h0 h1
    have h5 := hR.1
    have h10 := hR.2.1
    obtain ⟨k, hk, e, -⟩ := who_at hV hR h0 h1 (by omega)
    have ho2 := hR.o (w := k) (by omega) (by omega)
    rw [e]
    refine sV.er ?_ hR ho2.1 ho2.2 (by decide)
    refine hV.cg h10 (fun v v0 v1 => by rw [up_n (by omega)]) (fun v v0 v1 => by rw [up_n (by omega)]) fun k k0 k1 => ?_
    have b := hV.2.2.2.2 k k0 k1
    by_cases e : k = rO R w
    · subst e; rw [up_s]; omega
    · rw [up_n (by omega)]; exact b
theorem pss_i (hV : sV R s) (hR : wR R) : ∀ n : Nat, n ≤ rW R → sV R (pssN R s n) ∧ ∀ j : Int, j < 40 ∨ 45 ≤ j → pssN R s n j = s j
  | 0, _ => ⟨hV, fun _ _ => rfl⟩
  | n + 1, hn => by
    obtain ⟨i1, i2⟩ := pss_i hV hR n (by omega)
    unfold pssN
    exact ⟨i1.ps hR (by omega) (by omega), fun j hj => by rw [pss_o hR i1 (by omega) (by omega) hj]; exact i2 j hj⟩
theorem sV.pa (hV : sV R s) (hR : wR R) : sV R (pas R s) := by
  have h10 := hR.2.1
  have h5 := hR.1
  have i := (pss_i hV hR (rW R) (Nat.le_refl _)).1
  exact i.cg h10 (fun v v0 v1 => up_n (by omega)) (fun v v0 v1 => up_n (by omega)) fun k k0 k1 => by
    rw [pas, up_n (by omega)]; exact i.2.2.2.2 k k0 k1
theorem sV.sh (hV : sV R s) (hR : wR R) : sV R (shk R s) := (shk_i hV hR (rW R) (Nat.le_refl _)).1
end
/-! Changes far from each other. -/
theorem up_cm {s : Int → Int} {i j x y : Int} (h : i ≠ j) : up (up s i x) j y = up (up s j y) i x := by
  funext k
  unfold up
  by_cases q : k = j
  · subst q; rw [if_pos rfl, if_neg (fun e => h e.symm), if_pos rfl]
  · rw [if_neg q, if_neg q]
theorem up_up {s : Int → Int} {j x y : Int} : up (up s j x) j y = up s j y := by
  funext k
  unfold up
  by_cases q : k = j
  · rw [if_pos q, if_pos q]
  · rw [if_neg q, if_neg q, if_neg q]
theorem lnd_cm {R : zR} {s : Int → Int} {w x k v : Int} (h10 : rW R ≤ 10) (h0 : 0 ≤ w) (h1 : w < rW R) (hk : 40 ≤ k) : lnd R (up s k v) w x = up (lnd R s w x) k v := by
  have e1 : lnd1 (rW R) (up s k v) w = up (lnd1 (rW R) s w) k v := by
    funext j
    unfold lnd1
    by_cases q : j = k
    · subst q
      rw [if_neg (by omega)]
      unfold up
      rw [if_pos rfl, if_pos rfl]
    · rw [up_n q, up_n q]
      by_cases q2 : 10 ≤ j ∧ j < 10 + (rW R : Int)
      · rw [up_n (by omega), up_n (by omega), up_n (by omega)]
      · rw [if_neg (by omega), if_neg (by omega)]
  have e2 : many R (up (lnd1 (rW R) (up s k v) w) w (-2)) x = many R (up (lnd1 (rW R) s w) w (-2)) x := by
    rw [e1]
    exact many_cg (fun j j0 j1 => by
      by_cases q : j = w
      · subst q; rw [up_s, up_s]
      · rw [up_n q, up_n q, up_n (by omega)]) x
  unfold lnd
  rw [e2, e1, up_cm (i := k) (j := w) (by omega), up_cm (i := k) (j := 10 + w) (by omega), up_cm (i := k) (j := w) (by omega), up_cm (i := k) (j := 30 + w) (by omega)]
