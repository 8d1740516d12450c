--DEPS 57.fly
/-! A row is changed: a wink goes, a flick, a shake, a day. -/
def lnd1 (n : Nat) (s : Int → Int) (w j : Int) : Int := if 10 ≤ j ∧ j < 10 + n ∧ s (j - 10) = s w ∧ s (10 + w) < s j then s j - 1 else s j
def lndC (R : zR) (x : Int) : Int := if x = -2 then -1 else cupAt R x
def lnd (R : zR) (s : Int → Int) (w x : Int) : Int → Int := up (up (up (up (lnd1 (rW R) s w) w (-2)) (10 + w) (if x = -2 ∨ lndC R x ≠ -1 then 0 else many R (up (lnd1 (rW R) s w) w (-2)) x)) w (if lndC R x ≠ -1 then -3 else x)) (30 + w) (if lndC R x = -1 then 0 else lndC R x)
theorem many_cg {R : zR} {s t : Int → Int} (h : ∀ w : Int, 0 ≤ w → w < rW R → s w = t w) (x : Int) : many R s x = many R t x := cnt_cg fun k hk => by rw [h k (by omega) (by omega)]
theorem who_cg {R : zR} {s t : Int → Int} (h : ∀ w : Int, 0 ≤ w → w < rW R → s w = t w) (g : ∀ w : Int, 0 ≤ w → w < rW R → s (10 + w) = t (10 + w)) (x u : Int) : who R s x u = who R t x u := fst_cg fun k hk => by rw [h k (by omega) (by omega), g k (by omega) (by omega)]
theorem over_cg {R : zR} {s t : Int → Int} (h : ∀ w : Int, 0 ≤ w → w < rW R → s w = t w) {w : Int} (h0 : 0 ≤ w) (h1 : w < rW R) (g : s (10 + w) = t (10 + w)) : over R s w = over R t w := by unfold over; rw [h w h0 h1, many_cg h, g]
/-- one place is changed -/
theorem many_ch {R : zR} {s t : Int → Int} {w : Int} (h0 : 0 ≤ w) (h1 : w < rW R) (h : ∀ v : Int, 0 ≤ v → v < rW R → v ≠ w → t v = s v) (x : Int) : many R t x + (if s w = x then 1 else 0) = many R s x + (if t w = x then 1 else 0) := by
  obtain ⟨k, rfl⟩ := Int.eq_ofNat_of_zero_le h0
  have := cnt_ch (n := rW R) (k := k) (p := fun w => decide (t w = x)) (q := fun w => decide (s w = x)) (by omega) (fun j hj hn => by rw [h j (by omega) (by omega) (by omega)])
  simp only [decide_eq_true_eq] at this
  exact this
section
variable {R : zR} {s : Int → Int} {w x : Int}
theorem lnd_w (h10 : rW R ≤ 10) (h0 : 0 ≤ w) (h1 : w < rW R) : lnd R s w x w = if lndC R x ≠ -1 then -3 else x := by
  unfold lnd; rw [up_n (by omega), up_s]
theorem lnd_p {v : Int} (h10 : rW R ≤ 10) (h0 : 0 ≤ w) (h1 : w < rW R) (v0 : 0 ≤ v) (v1 : v < rW R) (hn : v ≠ w) : lnd R s w x v = s v := by
  unfold lnd; rw [up_n (by omega), up_n (by omega), up_n (by omega), up_n (by omega), lnd1, if_neg (by omega)]
theorem lnd_u {v : Int} (h10 : rW R ≤ 10) (h0 : 0 ≤ w) (h1 : w < rW R) (v0 : 0 ≤ v) (v1 : v < rW R) (hn : v ≠ w) : lnd R s w x (10 + v) = if s v = s w ∧ s (10 + w) < s (10 + v) then s (10 + v) - 1 else s (10 + v) := by
  unfold lnd; rw [up_n (by omega), up_n (by omega), up_n (by omega), up_n (by omega), lnd1]
  rw [show 10 + v - 10 = v by omega]
  by_cases q : s v = s w ∧ s (10 + w) < s (10 + v)
  · rw [if_pos q, if_pos ⟨by omega, by omega, q⟩]
  · rw [if_neg q, if_neg fun q2 => q q2.2.2]
theorem lnd_m (h10 : rW R ≤ 10) (h0 : 0 ≤ w) (h1 : w < rW R) (y : Int) : many R (lnd R s w x) y + (if s w = y then 1 else 0) = many R s y + (if (if lndC R x ≠ -1 then -3 else x) = y then 1 else 0) := by
  have := many_ch (R := R) (s := s) (t := lnd R s w x) h0 h1 (fun v v0 v1 hn => lnd_p h10 h0 h1 v0 v1 hn) y
  rw [lnd_w h10 h0 h1] at this
  exact this
theorem lnd_uw (h10 : rW R ≤ 10) (h0 : 0 ≤ w) (h1 : w < rW R) : lnd R s w x (10 + w) = if x = -2 ∨ lndC R x ≠ -1 then 0 else many R s x - (if s w = x then 1 else 0) := by
  unfold lnd; rw [up_n (by omega), up_n (by omega), up_s]
  by_cases q : x = -2 ∨ lndC R x ≠ -1
  · rw [if_pos q, if_pos q]
  · rw [if_neg q, if_neg q]
    have := many_ch (R := R) (s := s) (t := up (lnd1 (rW R) s w) w (-2)) h0 h1 (fun v v0 v1 hn => by rw [up_n hn, lnd1, if_neg (by omega)]) x
    rw [up_s, if_neg (show ¬ (-2 : Int) = x by omega)] at this
    omega
theorem lnd_c (h10 : rW R ≤ 10) (h0 : 0 ≤ w) (h1 : w < rW R) : lnd R s w x (30 + w) = if lndC R x = -1 then 0 else lndC R x := by
  unfold lnd; rw [up_s]
theorem lnd_o {j : Int} (h10 : rW R ≤ 10) (h0 : 0 ≤ w) (h1 : w < rW R) (hj : 20 ≤ j) (hn : j ≠ 30 + w) : lnd R s w x j = s j := by
  unfold lnd; rw [up_n (by omega), up_n (by omega), up_n (by omega), up_n (by omega), lnd1, if_neg (by omega)]
end
theorem lndC_lo (R : zR) (x : Int) : -1 ≤ lndC R x := by unfold lndC; split; exact Int.le_refl _; exact cupAt_lo R x
theorem lndC_hi (R : zR) (x : Int) : lndC R x < rC R := by unfold lndC; split; omega; exact cupAt_hi R x
theorem lndC_f {R : zR} (h : wR R) {x : Int} (hc : lndC R x ≠ -1) : 0 ≤ x ∧ x < rF R := by
  unfold lndC at hc
  by_cases q : x = -2
  · rw [if_pos q] at hc; exact absurd rfl hc
  · rw [if_neg q] at hc
    unfold cupAt at hc
    rcases fst_cs (rC R) (fun c => decide (rX R c = x)) with ⟨e, -⟩ | ⟨k, hk, -, hp, -⟩
    · exact absurd e hc
    · have := h.2.2.2.2.2.2.2.2.2.1 k (by omega) (by omega)
      rw [of_decide_eq_true hp] at this
      exact this
/-- a row as it can be, heights and all -/
def sV (R : zR) (s : Int → Int) : Prop := sP R s ∧ (∀ w : Int, 0 ≤ w → w < rW R → 0 ≤ s w → s (10 + w) < many R s (s w)) ∧ (∀ x u : Int, 0 ≤ x → 0 ≤ u → u < many R s x → ∃ w : Int, 0 ≤ w ∧ w < rW R ∧ s w = x ∧ s (10 + w) = u) ∧ (∀ v w : Int, 0 ≤ v → v < rW R → 0 ≤ w → w < rW R → 0 ≤ s v → s v = s w → s (10 + v) = s (10 + w) → v = w) ∧ (∀ h : Int, 0 ≤ h → h < rH R → 0 ≤ s (40 + h) ∧ s (40 + h) ≤ 9999)
theorem sV.cg {R : zR} {s t : Int → Int} (h : sV R s) (h10 : rW R ≤ 10) (h1 : ∀ w : Int, 0 ≤ w → w < 20 → t w = s w) (h2 : ∀ w : Int, 30 ≤ w → w < 40 → t w = s w) (h3 : ∀ h : Int, 0 ≤ h → h < rH R → 0 ≤ t (40 + h) ∧ t (40 + h) ≤ 9999) : sV R t := by
  obtain ⟨a1, a2, a3, a4, a5⟩ := h
  have hm := fun x => many_cg (R := R) (s := t) (t := s) (fun w w0 w1 => h1 w w0 (by omega)) x
  refine ⟨fun w w0 w1 => ?_, fun w w0 w1 hp => ?_, fun x u x0 u0 hu => ?_, fun v w v0 v1 w0 w1 hp e1 e2 => ?_, h3⟩
  · rw [h1 w w0 (by omega), h1 (10 + w) (by omega) (by omega), h2 (30 + w) (by omega) (by omega)]; exact a1 w w0 w1
  · rw [h1 w w0 (by omega)] at hp ⊢
    rw [h1 (10 + w) (by omega) (by omega), hm]; exact a2 w w0 w1 hp
  · rw [hm] at hu
    obtain ⟨w, w0, w1, e1, e2⟩ := a3 x u x0 u0 hu
    exact ⟨w, w0, w1, by rw [h1 w w0 (by omega)]; exact e1, by rw [h1 (10 + w) (by omega) (by omega)]; exact e2⟩
  · rw [h1 v v0 (by omega)] at hp e1
    rw [h1 w w0 (by omega)] at e1
    rw [h1 (10 + v) (by omega) (by omega), h1 (10 + w) (by omega) (by omega)] at e2
    exact a4 v w v0 v1 w0 w1 hp e1 e2
theorem sV.go {R : zR} {s : Int → Int} (h : sV R s) (hR : wR R) {w x : Int} (h0 : 0 ≤ w) (h1 : w < rW R) (hp : 0 ≤ s w) (hx : x = -2 ∨ (0 ≤ x ∧ x < rF R ∧ x ≠ s w)) : sV R (lnd R s w x) := by
  have h10 := hR.2.1
  obtain ⟨a1, a2, a3, a4, a5⟩ := h
  have hH := hR.1
  have hf := hR.2.2.2.2.1
  have hc0 := lndC_lo R x
  have hc1 := lndC_hi R x
  have hm := lnd_m (R := R) (s := s) (x := x) h10 h0 h1
  have hw := lnd_w (R := R) (s := s) (x := x) h10 h0 h1
  have huw := lnd_uw (R := R) (s := s) (x := x) h10 h0 h1
  have hcw := lnd_c (R := R) (s := s) (x := x) h10 h0 h1
  have hmx := many_hi R s x
  have hmx0 := many_lo R s x
  refine ⟨fun v v0 v1 => ?_, fun v v0 v1 hv => ?_, fun y u y0 u0 hu => ?_, fun v1 v2 p0 p1 q0 q1 hv e1 e2 => ?_, fun k k0 k1 => ?_⟩
  · by_cases e : v = w
    · subst e
      rw [hw, huw, hcw]
      split <;> split <;> (try split) <;> (try split) <;> omega
    · have := a1 v v0 v1
      rw [lnd_p h10 h0 h1 v0 v1 e, lnd_u h10 h0 h1 v0 v1 e, lnd_o h10 h0 h1 (by omega) (by omega)]
      have hq := a1 w h0 h1
      split <;> omega
  · by_cases e : v = w
    · subst e
      rw [hw] at hv ⊢
      have := hm (if lndC R x ≠ -1 then -3 else x)
      rw [huw]
      by_cases q : lndC R x ≠ -1
      · rw [if_pos q] at hv; omega
      · rw [if_neg q] at hv this ⊢
        rw [if_neg (by omega)]
        rw [if_pos rfl] at this
        omega
    · rw [lnd_p h10 h0 h1 v0 v1 e] at hv ⊢
      rw [lnd_u h10 h0 h1 v0 v1 e]
      have m1 := hm (s v)
      have u1 := a2 v v0 v1 hv
      have u2 := a2 w h0 h1 hp
      by_cases g : s v = s w
      · rw [if_pos g.symm] at m1
        have i1 := a4 v w v0 v1 h0 h1 hv g
        rw [g] at u1 m1 ⊢
        have m2 : (if (if lndC R x ≠ -1 then -3 else x) = s w then (1 : Int) else 0) = 0 := if_neg (by split <;> omega)
        rw [m2] at m1
        split
        · omega
        · rename_i q
          have : s (10 + v) ≠ s (10 + w) := fun e2 => e (i1 e2)
          omega
      · rw [if_neg (fun q => g q.symm)] at m1
        rw [if_neg fun q => g q.1]
        split at m1 <;> omega
  · have m1 := hm y
    by_cases e : y = s w
    · rw [if_pos e.symm] at m1
      have m2 : (if (if lndC R x ≠ -1 then -3 else x) = y then (1 : Int) else 0) = 0 := if_neg (by split <;> omega)
      rw [m2] at m1
      have uw := a2 w h0 h1 hp
      rw [← e] at uw
      by_cases g : u < s (10 + w)
      · obtain ⟨v, v0, v1, e1, e2⟩ := a3 y u y0 u0 (by omega)
        have hn : v ≠ w := fun q => by subst q; omega
        refine ⟨v, v0, v1, by rw [lnd_p h10 h0 h1 v0 v1 hn]; exact e1, ?_⟩
        rw [lnd_u h10 h0 h1 v0 v1 hn, if_neg (by omega)]; exact e2
      · obtain ⟨v, v0, v1, e1, e2⟩ := a3 y (u + 1) y0 (by omega) (by omega)
        have hn : v ≠ w := fun q => by subst q; omega
        refine ⟨v, v0, v1, by rw [lnd_p h10 h0 h1 v0 v1 hn]; exact e1, ?_⟩
        rw [lnd_u h10 h0 h1 v0 v1 hn, if_pos ⟨by omega, by omega⟩]; omega
    · rw [if_neg (fun q => e q.symm)] at m1
      have old : u < many R s y → ∃ v : Int, 0 ≤ v ∧ v < rW R ∧ lnd R s w x v = y ∧ lnd R s w x (10 + v) = u := fun hu2 => by
        obtain ⟨v, v0, v1, e1, e2⟩ := a3 y u y0 u0 hu2
        have hn : v ≠ w := fun q => by subst q; omega
        refine ⟨v, v0, v1, by rw [lnd_p h10 h0 h1 v0 v1 hn]; exact e1, ?_⟩
        rw [lnd_u h10 h0 h1 v0 v1 hn, if_neg (by omega)]; exact e2
      by_cases g : (if lndC R x ≠ -1 then -3 else x) = y
      · rw [if_pos g] at m1
        by_cases g2 : u < many R s y
        · exact old g2
        · refine ⟨w, h0, h1, by rw [hw]; exact g, ?_⟩
          have g3 : ¬ lndC R x ≠ -1 := fun q => by rw [if_pos q] at g; omega
          rw [if_neg g3] at g
          rw [huw, if_neg (by omega), g, if_neg (fun q => e q.symm)]
          omega
      · rw [if_neg g] at m1
        exact old (by omega)
  · by_cases d1 : v1 = w
    · by_cases d2 : v2 = w
      · omega
      · exfalso
        subst d1
        rw [hw, lnd_p h10 h0 h1 q0 q1 d2] at e1
        rw [hw] at hv
        have g3 : ¬ lndC R x ≠ -1 := fun q => by rw [if_pos q] at hv; omega
        rw [if_neg g3] at e1 hv
        rw [huw, if_neg (by omega), lnd_u h10 h0 h1 q0 q1 d2, if_neg (by omega)] at e2
        have := a2 v2 q0 q1 (by omega)
        rw [← e1] at this
        split at e2 <;> omega
    · by_cases d2 : v2 = w
      · exfalso
        subst d2
        rw [hw, lnd_p h10 h0 h1 p0 p1 d1] at e1
        rw [lnd_p h10 h0 h1 p0 p1 d1] at hv
        have g3 : ¬ lndC R x ≠ -1 := fun q => by rw [if_pos q] at e1; omega
        rw [if_neg g3] at e1
        rw [huw, if_neg (by omega), lnd_u h10 h0 h1 p0 p1 d1, if_neg (by omega)] at e2
        have := a2 v1 p0 p1 (by omega)
        rw [e1] at this
        split at e2 <;> omega
      · rw [lnd_p h10 h0 h1 p0 p1 d1] at hv e1
        rw [lnd_p h10 h0 h1 q0 q1 d2] at e1
        rw [lnd_u h10 h0 h1 p0 p1 d1, lnd_u h10 h0 h1 q0 q1 d2] at e2
        by_cases g : s v1 = s w
        · have i1 := a4 v1 w p0 p1 h0 h1 (by omega) g
          have i2 := a4 v2 w q0 q1 h0 h1 (by omega) (by omega)
          have n1 : s (10 + v1) ≠ s (10 + w) := fun q => d1 (i1 q)
          have n2 : s (10 + v2) ≠ s (10 + w) := fun q => d2 (i2 q)
          refine a4 v1 v2 p0 p1 q0 q1 hv e1 ?_
          split at e2 <;> split at e2 <;> omega
        · refine a4 v1 v2 p0 p1 q0 q1 hv e1 ?_
          rw [if_neg fun q => g q.1, if_neg fun q => g (by omega)] at e2
          exact e2
  · rw [lnd_o h10 h0 h1 (by omega) (by omega)]; exact a5 k k0 k1
