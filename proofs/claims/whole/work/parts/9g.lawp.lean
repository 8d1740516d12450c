--DEPS 9f.roomr
/-! LAW: what is read, as codes. -/
abbrev zC : Type := Nat × (Int → Int)
abbrev zP : Type := Int → zC → zE (Int × zC)
def lEm (v : Int) (c : zC) : zC := (c.1 + 1, up c.2 c.1 v)
def lFa (T : Int → Int) (b e : Int) : Int := if wq T b e 7 then 0 else if wq T b e 8 then 1 else if wq T b e 4 then 2 else if wq T b e 9 then 3 else if wq T b e 10 then 4 else if wq T b e 11 then 5 else if wq T b e 12 then 6 else if wq T b e 13 then 7 else if wq T b e 14 then 8 else -1
def lPa (T : Int → Int) (n : Int) (S : zP) (v : Int) : zP := fun a c => bd (sgnS T n 91 a) fun e1 => bd (S e1 c) fun x => bd (sgnS T n 44 x.1) fun e2 => bd (S e2 x.2) fun y => bd (sgnS T n 93 y.1) fun e3 => .inr (e3, lEm v y.2)
def lUn (T : Int → Int) (n : Int) (o : Bool) (S : zP) : zP := fun a c =>
  if sk T n a < n ∧ 48 ≤ T (sk T n a) ∧ T (sk T n a) ≤ 57 then bd (numS T n 0 999 a) fun x => .inr (x.1, lEm x.2 c)
  else if sk T n a < n ∧ T (sk T n a) = 40 then (if o = true then bd (S (sk T n a + 1) c) fun x => bd (sgnS T n 41 x.1) fun e => .inr (e, x.2) else .inl (3, sk T n a))
  else if wq T (sk T n a) (gE (qL' T) n (sk T n a)) 5 then (if o = true then lPa T n S 2004 (gE (qL' T) n (sk T n a)) c else .inl (3, sk T n a))
  else if wq T (sk T n a) (gE (qL' T) n (sk T n a)) 6 then (if o = true then lPa T n S 2005 (gE (qL' T) n (sk T n a)) c else .inl (3, sk T n a))
  else if lFa T (sk T n a) (gE (qL' T) n (sk T n a)) = -1 then .inl (1, sk T n a)
  else .inr (gE (qL' T) n (sk T n a), lEm (1000 + lFa T (sk T n a) (gE (qL' T) n (sk T n a))) c)
def lLp (T : Int → Int) (n : Int) (U : zP) (c1 c2 v1 v2 : Int) : Nat → zP
  | 0, a, c => .inr (a, c)
  | m + 1, a, c => if sk T n a < n ∧ (T (sk T n a) = c1 ∨ T (sk T n a) = c2) then bd (U (sk T n a + 1) c) fun x => lLp T n U c1 c2 v1 v2 m x.1 (lEm (if T (sk T n a) = c1 then v1 else v2) x.2) else .inr (sk T n a, c)
def lPr (T : Int → Int) (n : Int) (U : zP) : zP := fun a c => bd (U a c) fun x => lLp T n U 42 47 2002 2003 151 x.1 x.2
def lSu (T : Int → Int) (n : Int) (U : zP) : zP := fun a c => bd (U a c) fun x => lLp T n U 43 45 2000 2001 151 x.1 x.2
def lv (T : Int → Int) (n : Int) : Nat → zP
  | 0 => lUn T n false (fun _ _ => .inl (0, 0))
  | l + 1 => lUn T n true (lSu T n (lPr T n (lv T n l)))
theorem hgt_cg {cs ds : Int → Int} : ∀ {n : Nat}, (∀ k : Nat, k < n → cs k = ds k) → hgt cs n = hgt ds n
  | 0, _ => rfl
  | n + 1, h => by
    have ih := hgt_cg (n := n) (fun k hk => h k (by omega))
    have := h n (by omega)
    show hgt cs n + (if 2000 ≤ cs n then -1 else 1) = hgt ds n + (if 2000 ≤ ds n then -1 else 1)
    rw [ih, this]
def lw1 (cs : Int → Int) (k : Nat) : Prop := (2000 ≤ cs k ∧ cs k ≤ 2005 ∧ 2 ≤ hgt cs k ∧ hgt cs k ≤ 32) ∨ (0 ≤ cs k ∧ cs k < 1009 ∧ 0 ≤ hgt cs k ∧ hgt cs k < 32)
def lw (c : zC) : Prop := ∀ k : Nat, k < c.1 → lw1 c.2 k
theorem lEm_h {v : Int} {c : zC} : (∀ k : Nat, k ≤ c.1 → hgt (lEm v c).2 k = hgt c.2 k) ∧ hgt (lEm v c).2 (c.1 + 1) = hgt c.2 c.1 + (if 2000 ≤ v then -1 else 1) := by
  have h1 : ∀ k : Nat, k ≤ c.1 → hgt (lEm v c).2 k = hgt c.2 k := fun k hk => hgt_cg fun j hj => up_n (by omega)
  refine ⟨h1, ?_⟩
  show hgt (lEm v c).2 c.1 + (if 2000 ≤ (lEm v c).2 c.1 then -1 else 1) = _
  rw [h1 c.1 (Nat.le_refl _)]
  have : (lEm v c).2 c.1 = v := up_s
  rw [this]
theorem lEm_w {v : Int} {c : zC} (h : lw c) (hv : (2000 ≤ v ∧ v ≤ 2005 ∧ 2 ≤ hgt c.2 c.1 ∧ hgt c.2 c.1 ≤ 32) ∨ (0 ≤ v ∧ v < 1009 ∧ 0 ≤ hgt c.2 c.1 ∧ hgt c.2 c.1 < 32)) : lw (lEm v c) := by
  intro k hk
  have hk : k < c.1 + 1 := hk
  unfold lw1
  rw [lEm_h.1 k (by omega)]
  by_cases e : k = c.1
  · subst e
    have : (lEm v c).2 c.1 = v := up_s
    rw [this]
    exact hv
  · have : (lEm v c).2 k = c.2 k := up_n (by omega)
    rw [this]
    exact h k (by omega)
/-- what a reader keeps -/
def lOK (n : Int) (M : Int) (U : zP) : Prop := (∀ (a : Int) (c : zC) (k p : Int), 0 ≤ a → a ≤ n → U a c = .inl (k, p) → 0 ≤ p ∧ p ≤ n) ∧ ∀ (a : Int) (c : zC) (e : Int) (c' : zC), 0 ≤ a → a ≤ n → U a c = .inr (e, c') → a < e ∧ e ≤ n ∧ c.1 < c'.1 ∧ (c'.1 : Int) - c.1 ≤ e - a ∧ (lw c → 0 ≤ hgt c.2 c.1 → hgt c.2 c.1 + M ≤ 32 → lw c' ∧ hgt c'.2 c'.1 = hgt c.2 c.1 + 1)
theorem lFa_b {T : Int → Int} {b e : Int} : -1 ≤ lFa T b e ∧ lFa T b e ≤ 8 := by
  unfold lFa
  split
  · omega
  split
  · omega
  split
  · omega
  split
  · omega
  split
  · omega
  split
  · omega
  split
  · omega
  split
  · omega
  split <;> omega
theorem lFa_n {T : Int → Int} {b : Int} : lFa T b b = -1 := by
  unfold lFa
  rw [if_neg (wq_e (by decide)), if_neg (wq_e (by decide)), if_neg (wq_e (by decide)), if_neg (wq_e (by decide)), if_neg (wq_e (by decide)), if_neg (wq_e (by decide)), if_neg (wq_e (by decide)), if_neg (wq_e (by decide)), if_neg (wq_e (by decide))]
section LP
variable {T : Int → Int} {n M : Int} {S U : zP}
theorem lPa_ok {v : Int} (hS : lOK n M S) (hv : 2000 ≤ v ∧ v ≤ 2005) (hM : 1 ≤ M) : lOK n (M + 1) (lPa T n S v) := by
  refine ⟨fun a c k p a0 a1 h => ?_, fun a c e c' a0 a1 h => ?_⟩
  · unfold lPa at h
    rcases bd_l h with h | ⟨e1, h1, h⟩
    · have := sgnS_l a1 h
      omega
    have r1 := sgnS_r a1 h1
    rcases bd_l h with h | ⟨⟨e2, c2⟩, h2, h⟩
    · exact hS.1 _ _ _ _ (by omega) (by omega) h
    have r2 := hS.2 _ _ _ _ (by omega) (by omega) h2
    dsimp only at h
    rcases bd_l h with h | ⟨e3, h3, h⟩
    · have := sgnS_l r2.2.1 h
      omega
    have r3 := sgnS_r r2.2.1 h3
    rcases bd_l h with h | ⟨⟨e4, c4⟩, h4, h⟩
    · exact hS.1 _ _ _ _ (by omega) (by omega) h
    have r4 := hS.2 _ _ _ _ (by omega) (by omega) h4
    dsimp only at h
    rcases bd_l h with h | ⟨e5, h5, h⟩
    · have := sgnS_l r4.2.1 h
      omega
    cases h
  · obtain ⟨e1, h1, h⟩ := bd_r h
    have r1 := sgnS_r a1 h1
    obtain ⟨⟨e2, c2⟩, h2, h⟩ := bd_r h
    obtain ⟨p1, p2, p3, p4, p5⟩ := hS.2 _ _ _ _ (by omega) (by omega) h2
    dsimp only at h p3 p4 p5
    obtain ⟨e3, h3, h⟩ := bd_r h
    have r3 := sgnS_r p2 h3
    obtain ⟨⟨e4, c4⟩, h4, h⟩ := bd_r h
    obtain ⟨q1, q2, q3, q4, q5⟩ := hS.2 _ _ _ _ (by omega) (by omega) h4
    dsimp only at h q3 q4 q5
    obtain ⟨e5, h5, h⟩ := bd_r h
    have r5 := sgnS_r q2 h5
    cases h
    have l1 : (lEm v c4).1 = c4.1 + 1 := rfl
    refine ⟨by omega, by omega, by omega, by omega, fun w0 w1 w2 => ?_⟩
    obtain ⟨w3, w4⟩ := p5 w0 w1 (by omega)
    obtain ⟨w5, w6⟩ := q5 w3 (by omega) (by omega)
    refine ⟨lEm_w w5 (.inl ⟨hv.1, hv.2, by omega, by omega⟩), ?_⟩
    rw [l1, lEm_h.2, if_pos hv.1]
    omega
theorem lUn_ok {o : Bool} (hS : o = true → lOK n M S) (hM : 1 ≤ M) : lOK n (if o = true then M + 1 else 1) (lUn T n o S) := by
  have h1M : (1 : Int) ≤ (if o = true then M + 1 else 1) := by split <;> omega
  refine ⟨fun a c k p a0 a1 h => ?_, fun a c e c' a0 a1 h => ?_⟩
  · have sb := sk_b (T := T) a1
    have dg := gE_b (q := qL' T) sb.2
    unfold lUn at h
    split at h
    · rcases bd_l h with h | ⟨x, h1, h⟩
      · have := numS_l a1 h
        omega
      · cases h
    split at h
    · rename_i q
      split at h
      · rename_i ho
        rcases bd_l h with h | ⟨⟨e2, c2⟩, h2, h⟩
        · exact (hS ho).1 _ _ _ _ (by omega) (by omega) h
        have r2 := (hS ho).2 _ _ _ _ (by omega) (by omega) h2
        dsimp only at h
        rcases bd_l h with h | ⟨e3, h3, h⟩
        · have := sgnS_l r2.2.1 h
          omega
        cases h
      · cases h
        omega
    split at h
    · split at h
      · rename_i ho
        exact (lPa_ok (v := 2004) (hS ho) (by decide) hM).1 _ _ _ _ (by omega) dg.2.1 h
      · cases h
        omega
    split at h
    · split at h
      · rename_i ho
        exact (lPa_ok (v := 2005) (hS ho) (by decide) hM).1 _ _ _ _ (by omega) dg.2.1 h
      · cases h
        omega
    split at h
    · cases h
      omega
    · cases h
  · have sb := sk_b (T := T) a1
    have dg := gE_b (q := qL' T) sb.2
    unfold lUn at h
    split at h
    · obtain ⟨⟨e1, v⟩, h1, h⟩ := bd_r h
      have r := numS_r a1 h1
      dsimp only at h
      cases h
      have l1 : (lEm v c).1 = c.1 + 1 := rfl
      refine ⟨r.1, r.2.1, by omega, by omega, fun w0 w1 w2 => ⟨lEm_w w0 (.inr (by omega)), ?_⟩⟩
      rw [l1, lEm_h.2, if_neg (by omega)]
    split at h
    · rename_i q
      split at h
      · rename_i ho
        obtain ⟨⟨e2, c2⟩, h2, h⟩ := bd_r h
        obtain ⟨p1, p2, p3, p4, p5⟩ := (hS ho).2 _ _ _ _ (by omega) (by omega) h2
        dsimp only at h p3 p4 p5
        obtain ⟨e3, h3, h⟩ := bd_r h
        have r3 := sgnS_r p2 h3
        cases h
        refine ⟨by omega, by omega, by omega, by omega, fun w0 w1 w2 => ?_⟩
        rw [if_pos ho] at w2
        exact p5 w0 w1 (by omega)
      · cases h
    split at h
    · split at h
      · rename_i ho
        obtain ⟨p1, p2, p3, p4, p5⟩ := (lPa_ok (v := 2004) (hS ho) (by decide) hM).2 _ _ _ _ (by omega) dg.2.1 h
        refine ⟨by omega, by omega, by omega, by omega, fun w0 w1 w2 => ?_⟩
        rw [if_pos ho] at w2
        exact p5 w0 w1 w2
      · cases h
    split at h
    · split at h
      · rename_i ho
        obtain ⟨p1, p2, p3, p4, p5⟩ := (lPa_ok (v := 2005) (hS ho) (by decide) hM).2 _ _ _ _ (by omega) dg.2.1 h
        refine ⟨by omega, by omega, by omega, by omega, fun w0 w1 w2 => ?_⟩
        rw [if_pos ho] at w2
        exact p5 w0 w1 w2
      · cases h
    split at h
    · cases h
    · rename_i q
      cases h
      have fb := lFa_b (T := T) (b := sk T n a) (e := gE (qL' T) n (sk T n a))
      have ne : sk T n a ≠ gE (qL' T) n (sk T n a) := fun e => q (by rw [← e]; exact lFa_n)
      have l1 : (lEm (1000 + lFa T (sk T n a) (gE (qL' T) n (sk T n a))) c).1 = c.1 + 1 := rfl
      refine ⟨by omega, by omega, by omega, by omega, fun w0 w1 w2 => ⟨lEm_w w0 (.inr (by omega)), ?_⟩⟩
      rw [l1, lEm_h.2, if_neg (by omega)]
theorem lLp_ok {c1 c2 v1 v2 : Int} (hU : lOK n M U) (h1 : 2000 ≤ v1 ∧ v1 ≤ 2005) (h2 : 2000 ≤ v2 ∧ v2 ≤ 2005) (hM : 1 ≤ M) : ∀ (m : Nat) (a : Int) (c : zC), 0 ≤ a → a ≤ n → (n - a).toNat < m → (∀ k p, lLp T n U c1 c2 v1 v2 m a c = .inl (k, p) → 0 ≤ p ∧ p ≤ n) ∧ ∀ e c', lLp T n U c1 c2 v1 v2 m a c = .inr (e, c') → a ≤ e ∧ e ≤ n ∧ c.1 ≤ c'.1 ∧ (c'.1 : Int) - c.1 ≤ e - a ∧ (lw c → 1 ≤ hgt c.2 c.1 → hgt c.2 c.1 + M ≤ 32 → lw c' ∧ hgt c'.2 c'.1 = hgt c.2 c.1) := by
  intro m
  induction m with
  | zero => intro a c a0 a1 hm; omega
  | succ m ih =>
    intro a c a0 a1 hm
    have sb := sk_b (T := T) a1
    unfold lLp
    split
    · rename_i q
      generalize hv : (if T (sk T n a) = c1 then v1 else v2) = v
      have hv2 : 2000 ≤ v ∧ v ≤ 2005 := by rw [← hv]; split <;> omega
      refine ⟨fun k p h => ?_, fun e c' h => ?_⟩
      · rcases bd_l h with h | ⟨⟨e2, c2⟩, h2, h⟩
        · exact hU.1 _ _ _ _ (by omega) (by omega) h
        have r2 := hU.2 _ _ _ _ (by omega) (by omega) h2
        exact (ih e2 (lEm v c2) (by omega) (by omega) (by omega)).1 _ _ h
      · obtain ⟨⟨e2, c2⟩, h2, h⟩ := bd_r h
        obtain ⟨p1, p2, p3, p4, p5⟩ := hU.2 _ _ _ _ (by omega) (by omega) h2
        dsimp only at h p3 p4 p5
        obtain ⟨q1, q2, q3, q4, q5⟩ := (ih e2 (lEm v c2) (by omega) (by omega) (by omega)).2 _ _ h
        have l1 : (lEm v c2).1 = c2.1 + 1 := rfl
        rw [l1] at q3 q4 q5
        refine ⟨by omega, by omega, by omega, by omega, fun w0 w1 w2 => ?_⟩
        obtain ⟨w3, w4⟩ := p5 w0 (by omega) (by omega)
        have hl := (lEm_h (v := v) (c := c2)).2
        rw [if_pos hv2.1] at hl
        obtain ⟨w5, w6⟩ := q5 (lEm_w w3 (.inl ⟨hv2.1, hv2.2, by omega, by omega⟩)) (by omega) (by omega)
        exact ⟨w5, by omega⟩
    · refine ⟨fun k p h => (by cases h), fun e c' h => ?_⟩
      cases h
      exact ⟨by omega, by omega, by omega, by omega, fun w0 w1 w2 => ⟨w0, rfl⟩⟩
theorem lX_ok {c1 c2 v1 v2 : Int} (hU : lOK n M U) (hn : n ≤ 150) (g1 : 2000 ≤ v1 ∧ v1 ≤ 2005) (g2 : 2000 ≤ v2 ∧ v2 ≤ 2005) (hM : 1 ≤ M) : lOK n (M + 1) (fun a c => bd (U a c) fun x => lLp T n U c1 c2 v1 v2 151 x.1 x.2) := by
  refine ⟨fun a c k p a0 a1 h => ?_, fun a c e c' a0 a1 h => ?_⟩
  · rcases bd_l h with h | ⟨⟨e2, c2⟩, h2, h⟩
    · exact hU.1 _ _ _ _ (by omega) (by omega) h
    have r2 := hU.2 _ _ _ _ (by omega) (by omega) h2
    exact (lLp_ok hU g1 g2 hM 151 e2 c2 (by omega) (by omega) (by omega)).1 _ _ h
  · obtain ⟨⟨e2, c2⟩, h2, h⟩ := bd_r h
    obtain ⟨p1, p2, p3, p4, p5⟩ := hU.2 _ _ _ _ (by omega) (by omega) h2
    obtain ⟨q1, q2, q3, q4, q5⟩ := (lLp_ok hU g1 g2 hM 151 e2 c2 (by omega) (by omega) (by omega)).2 _ _ h
    refine ⟨by omega, by omega, by omega, by omega, fun w0 w1 w2 => ?_⟩
    obtain ⟨w3, w4⟩ := p5 w0 (by omega) (by omega)
    obtain ⟨w5, w6⟩ := q5 w3 (by omega) (by omega)
    exact ⟨w5, by omega⟩
theorem lPr_ok (hU : lOK n M U) (hn : n ≤ 150) (hM : 1 ≤ M) : lOK n (M + 1) (lPr T n U) := lX_ok hU hn (by decide) (by decide) hM
theorem lSu_ok (hU : lOK n M U) (hn : n ≤ 150) (hM : 1 ≤ M) : lOK n (M + 1) (lSu T n U) := lX_ok hU hn (by decide) (by decide) hM
theorem lv_ok (hn : n ≤ 150) : ∀ l : Nat, lOK n (1 + 3 * (l : Int)) (lv T n l)
  | 0 => by
    have := lUn_ok (T := T) (n := n) (M := 1) (o := false) (S := fun _ _ => .inl (0, 0)) (fun h => by cases h) (by decide)
    rw [if_neg (by decide)] at this
    exact this
  | l + 1 => by
    have ih := lv_ok hn l
    have := lUn_ok (T := T) (n := n) (M := 1 + 3 * (l : Int) + 1 + 1) (o := true) (S := lSu T n (lPr T n (lv T n l))) (fun _ => lSu_ok (lPr_ok ih hn (by omega)) hn (by omega)) (by omega)
    rw [if_pos rfl] at this
    have e : 1 + 3 * (l : Int) + 1 + 1 + 1 = 1 + 3 * ((l + 1 : Nat) : Int) := by omega
    rw [e] at this
    exact this
end LP
