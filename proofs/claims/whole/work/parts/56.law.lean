--DEPS
/-! The law: what it makes of what is seen. -/
def lop (o a b : Int) : Int := if o = 2000 then a + b else if o = 2001 then a - b else if o = 2002 then a * b else if o = 2003 then (if zI b = zI 0 then 0 else (zI a / zI b).toInt) else if o = 2004 then (if zI b < zI a then b else a) else (if zI a < zI b then b else a)
theorem lop_cg {o a b a' b' : Int} (ha : zI a = zI a') (hb : zI b = zI b') : zI (lop o a b) = zI (lop o a' b') := by
  unfold lop
  split
  · rw [← zadd, ← zadd, ha, hb]
  split
  · rw [← zsub, ← zsub, ha, hb]
  split
  · rw [← zmul, ← zmul, ha, hb]
  split
  · rw [ha, hb]
  split
  · rw [ha, hb]; split
    · exact hb
    · exact ha
  · rw [ha, hb]; split
    · exact hb
    · exact ha
def hgt (cs : Int → Int) : Nat → Int
  | 0 => 0
  | n + 1 => hgt cs n + (if 2000 ≤ cs n then -1 else 1)
def evg (f cs : Int → Int) : Nat → Int → Int
  | 0 => fun _ => 0
  | n + 1 => if 2000 ≤ cs n then up (evg f cs n) (hgt cs n - 2) (lop (cs n) (evg f cs n (hgt cs n - 2)) (evg f cs n (hgt cs n - 1))) else up (evg f cs n) (hgt cs n) (if cs n < 1000 then cs n else f (cs n - 1000))
def clp (x : Int) : Int := if x < 0 then 0 else if 60 < x then 60 else x
theorem clp_lo (x : Int) : 0 ≤ clp x := by unfold clp; split <;> (try split) <;> omega
theorem clp_hi (x : Int) : clp x ≤ 60 := by unfold clp; split <;> (try split) <;> omega
def evF (cs : Int → Int) (n : Nat) (f : Int → Int) : Int := clp (zI (evg f cs n 0)).toInt
def lawOK (cs : Int → Int) (n : Nat) : Prop := n ≤ 150 ∧ 1 ≤ hgt cs n ∧ ∀ k : Nat, k < n → (2000 ≤ cs k ∧ cs k ≤ 2005 ∧ 2 ≤ hgt cs k ∧ hgt cs k ≤ 32) ∨ (0 ≤ cs k ∧ cs k < 1009 ∧ 0 ≤ hgt cs k ∧ hgt cs k < 32)
/-- what a flight depends on -/
abbrev zF : Type := (Int → Int) → Int
def cL (F : zF) (I : Nat → Nat → Int) (A : Nat → Int → Int) : Prop := ∃ (cs : Int → Int) (n : Nat), I 19 4 = n ∧ (∀ k : Int, 0 ≤ k → k < n → A 20 k = cs k) ∧ lawOK cs n ∧ ∀ f, F f = evF cs n f
def mL (F : zF) (I : Nat → Nat → Int) (A : Nat → Int → Int) : Prop := (I 59 32 = 0 ∧ ∀ f, F f = clp (zI (2 * f 0 + f 4 - f 2 - f 3)).toInt) ∨ ∃ (cs : Int → Int) (n : Nat), 0 < n ∧ I 59 32 = n ∧ (∀ k : Int, 0 ≤ k → k < n → (2000 ≤ cs k → A 70 k = cs k - 1998) ∧ (cs k < 1000 → A 70 k = 0 ∧ A 71 k = cs k) ∧ (1000 ≤ cs k → cs k < 2000 → A 70 k = 1 ∧ A 71 k = cs k - 1000)) ∧ lawOK cs n ∧ ∀ f, F f = evF cs n f
def wF (F : zF) : Prop := (∀ f, 0 ≤ F f ∧ F f ≤ 60) ∧ ∀ f g : Int → Int, (∀ j : Int, 0 ≤ j → j < 9 → zI (f j) = zI (g j)) → F f = F g
theorem evg_cg {cs f g : Int → Int} {n : Nat} (h : lawOK cs n) (hf : ∀ j : Int, 0 ≤ j → j < 9 → zI (f j) = zI (g j)) : ∀ m : Nat, m ≤ n → ∀ j : Int, zI (evg f cs m j) = zI (evg g cs m j)
  | 0, _, j => rfl
  | m + 1, hm, j => by
    have ih := evg_cg h hf m (by omega)
    unfold evg
    by_cases h2 : 2000 ≤ cs m
    · rw [if_pos h2, if_pos h2]
      unfold up
      split
      · exact lop_cg (ih _) (ih _)
      · exact ih _
    · rw [if_neg h2, if_neg h2]
      unfold up
      split
      · split
        · rfl
        · exact hf _ (by omega) (by have := h.2.2 m (by omega); omega)
      · exact ih _
theorem cL.w {F : zF} {I : Nat → Nat → Int} {A : Nat → Int → Int} (h : cL F I A) : wF F := by
  obtain ⟨cs, n, -, -, h3, h4⟩ := h
  refine ⟨fun f => by rw [h4]; exact ⟨clp_lo _, clp_hi _⟩, fun f g hf => ?_⟩
  rw [h4, h4, evF, evF, evg_cg h3 hf n (Nat.le_refl n)]
theorem lw_worked {d : Nat} {h : qH} {o a b : Int} {kx : Nat → Nat → qH → qR} {k : Int32 → qH → qR} (hd : 1 ≤ d) (h0 : 2000 ≤ o) (h1 : o ≤ 2005) : q_rI (q_call q_MT d 73 [.int (zI o), .int (zI a), .int (zI b)] h) kx k = k (zI (lop o a b)) h := by
  obtain ⟨d, rfl⟩ : ∃ e, d = e + 1 := ⟨d - 1, by omega⟩
  refine cI ?_
  rw [cl_X5_worked, k_X5_worked_0]
  have ho : o = 2000 ∨ o = 2001 ∨ o = 2002 ∨ o = 2003 ∨ o = 2004 ∨ o = 2005 := by omega
  rcases ho with rfl | rfl | rfl | rfl | rfl | rfl
  · exact (k_X5_worked_1_c2000 _ _ _ _ _).trans (by rw [zadd]; rfl)
  · exact (k_X5_worked_1_c2001 _ _ _ _ _).trans (by rw [zsub]; rfl)
  · exact (k_X5_worked_1_c2002 _ _ _ _ _).trans (by rw [zmul]; rfl)
  · refine (k_X5_worked_1_c2003 _ _ _ _ _).trans ?_
    simp only [zc_ne, lz]
    by_cases hz : zI b = zI 0
    · rw [if_neg (fun q => q hz), k_X5_worked_59]
      have : lop 2003 a b = 0 := by unfold lop; rw [if_neg (by decide), if_neg (by decide), if_neg (by decide), if_pos rfl, if_pos hz]
      rw [this]
    · rw [if_pos hz, if_neg hz, k_X5_worked_59]
      have : lop 2003 a b = (zI a / zI b).toInt := by unfold lop; rw [if_neg (by decide), if_neg (by decide), if_neg (by decide), if_pos rfl, if_neg hz]
      rw [this, zI_of]
  · refine (k_X5_worked_1_c2004 _ _ _ _ _).trans ?_
    simp only [zc_gt]
    have : lop 2004 a b = if zI b < zI a then b else a := by unfold lop; rw [if_neg (by decide), if_neg (by decide), if_neg (by decide), if_neg (by decide), if_pos rfl]
    rw [this]
    split <;> rw [k_X5_worked_70]
  · refine (k_X5_worked_1_d _ _ _ _ _ _ (.inr (by decide))).trans ?_
    simp only [zc_lt]
    have : lop 2005 a b = if zI a < zI b then b else a := by unfold lop; rw [if_neg (by decide), if_neg (by decide), if_neg (by decide), if_neg (by decide), if_neg (by decide)]
    rw [this]
    split <;> rw [k_X5_worked_81]
theorem lw_both {d : Nat} {h : qH} {o a b : Int} {kx : Nat → Nat → qH → qR} {k : Int32 → qH → qR} (hd : 1 ≤ d) (h0 : 2000 ≤ o) (h1 : o ≤ 2005) : q_rI (q_call q_MT d 199 [.int (zI (o - 1998)), .int (zI a), .int (zI b)] h) kx k = k (zI (lop o a b)) h := by
  obtain ⟨d, rfl⟩ : ∃ e, d = e + 1 := ⟨d - 1, by omega⟩
  refine cI ?_
  rw [cl_X11_both, k_X11_both_0]
  have ho : o = 2000 ∨ o = 2001 ∨ o = 2002 ∨ o = 2003 ∨ o = 2004 ∨ o = 2005 := by omega
  rcases ho with rfl | rfl | rfl | rfl | rfl | rfl
  · rw [if_neg (by decide), zadd]; rfl
  · rw [if_pos (by decide), if_neg (by decide), zsub]; rfl
  · rw [if_pos (by decide), if_pos (by decide), if_neg (by decide), zmul]; rfl
  · rw [if_pos (by decide), if_pos (by decide), if_pos (by decide), if_neg (by decide)]
    simp only [zc_ne, lz]
    by_cases hz : zI b = zI 0
    · rw [if_neg (fun q => q hz), k_X11_both_43]
      have : lop 2003 a b = 0 := by unfold lop; rw [if_neg (by decide), if_neg (by decide), if_neg (by decide), if_pos rfl, if_pos hz]
      rw [this]
    · rw [if_pos hz, if_neg hz, k_X11_both_43]
      have : lop 2003 a b = (zI a / zI b).toInt := by unfold lop; rw [if_neg (by decide), if_neg (by decide), if_neg (by decide), if_pos rfl, if_neg hz]
      rw [this, zI_of]
  · have : lop 2004 a b = if zI b < zI a then b else a := by unfold lop; rw [if_neg (by decide), if_neg (by decide), if_neg (by decide), if_neg (by decide), if_pos rfl]
    rw [this]
    by_cases q1 : zI b ≤ zI a
    · simp (implicitDefEqProofs := false) (disch := omega) only [↓rI_s, ↓rV_s, ↓rI_e, ↓rV_e, zc_eq, zc_ne, zc_lt, zc_ge, zc_gt, zc_le, zlt_t, zlt_f, zle_t, zle_f, zeq_t, zeq_f, lz, zadd, zsub, zmul, zneg, zb_e0, zb_e1, boo0, boo1, ua_s, ua_n, ua_ua, up_s, u2_s, u2_f, u2_c, u2_u2, Int.natCast_add, Int.zero_add, Int.add_zero, ↓reduceIte, ne_eq, not_true_eq_false, not_false_eq_true, Int.natCast_one, ↓k_X11_both_0, ↓k_X11_both_43, ↓k_X11_both_54, ↓k_X11_both_65, ↓k_X11_both_73, q1]
      split
      · rfl
      · rename_i q2
        have : zI a = zI b := by
          rw [Int32.not_lt] at q2
          exact Int32.le_antisymm q2 q1
        rw [this]
    · simp (implicitDefEqProofs := false) (disch := omega) only [↓rI_s, ↓rV_s, ↓rI_e, ↓rV_e, zc_eq, zc_ne, zc_lt, zc_ge, zc_gt, zc_le, zlt_t, zlt_f, zle_t, zle_f, zeq_t, zeq_f, lz, zadd, zsub, zmul, zneg, zb_e0, zb_e1, boo0, boo1, ua_s, ua_n, ua_ua, up_s, u2_s, u2_f, u2_c, u2_u2, Int.natCast_add, Int.zero_add, Int.add_zero, ↓reduceIte, ne_eq, not_true_eq_false, not_false_eq_true, Int.natCast_one, ↓k_X11_both_0, ↓k_X11_both_43, ↓k_X11_both_54, ↓k_X11_both_65, ↓k_X11_both_73, q1]
      rw [if_neg (fun q2 => q1 (Int32.le_of_lt q2))]
  · have : lop 2005 a b = if zI a < zI b then b else a := by unfold lop; rw [if_neg (by decide), if_neg (by decide), if_neg (by decide), if_neg (by decide), if_neg (by decide)]
    rw [this]
    by_cases q1 : zI b ≤ zI a
    · simp (implicitDefEqProofs := false) (disch := omega) only [↓rI_s, ↓rV_s, ↓rI_e, ↓rV_e, zc_eq, zc_ne, zc_lt, zc_ge, zc_gt, zc_le, zlt_t, zlt_f, zle_t, zle_f, zeq_t, zeq_f, lz, zadd, zsub, zmul, zneg, zb_e0, zb_e1, boo0, boo1, ua_s, ua_n, ua_ua, up_s, u2_s, u2_f, u2_c, u2_u2, Int.natCast_add, Int.zero_add, Int.add_zero, ↓reduceIte, ne_eq, not_true_eq_false, not_false_eq_true, Int.natCast_one, ↓k_X11_both_0, ↓k_X11_both_43, ↓k_X11_both_54, ↓k_X11_both_65, ↓k_X11_both_73, q1]
      rw [if_neg (fun q2 => Int32.not_le.mpr q2 q1)]
    · simp (implicitDefEqProofs := false) (disch := omega) only [↓rI_s, ↓rV_s, ↓rI_e, ↓rV_e, zc_eq, zc_ne, zc_lt, zc_ge, zc_gt, zc_le, zlt_t, zlt_f, zle_t, zle_f, zeq_t, zeq_f, lz, zadd, zsub, zmul, zneg, zb_e0, zb_e1, boo0, boo1, ua_s, ua_n, ua_ua, up_s, u2_s, u2_f, u2_c, u2_u2, Int.natCast_add, Int.zero_add, Int.add_zero, ↓reduceIte, ne_eq, not_true_eq_false, not_false_eq_true, Int.natCast_one, ↓k_X11_both_0, ↓k_X11_both_43, ↓k_X11_both_54, ↓k_X11_both_65, ↓k_X11_both_73, q1]
      rw [if_pos (Int32.not_le.mp q1)]
theorem hgt_t {cs : Int → Int} {n : Nat} (h : 2000 ≤ cs n) : hgt cs (n + 1) = hgt cs n - 1 := by
  show hgt cs n + (if 2000 ≤ cs n then -1 else 1) = _
  rw [if_pos h]; omega
theorem hgt_f {cs : Int → Int} {n : Nat} (h : ¬ 2000 ≤ cs n) : hgt cs (n + 1) = hgt cs n + 1 := by
  show hgt cs n + (if 2000 ≤ cs n then -1 else 1) = _
  rw [if_neg h]
theorem clp_c (v : Int32) : (if zI 0 < (if zI 60 < v then zI 60 else v) then (if zI 60 < v then zI 60 else v) else zI 0) = zI (clp v.toInt) := by
  have h60 : (zI 60).toInt = 60 := by decide
  have h0 : (zI 0).toInt = 0 := by decide
  unfold clp
  by_cases h1 : 60 < v.toInt
  · have q : zI 60 < v := by rw [Int32.lt_iff_toInt_lt, h60]; exact h1
    rw [if_pos q, if_pos (by decide), if_neg (by omega), if_pos h1]
  · have q : ¬ zI 60 < v := by rw [Int32.lt_iff_toInt_lt, h60]; exact h1
    rw [if_neg q]
    by_cases h2 : 0 < v.toInt
    · rw [if_pos (by rw [Int32.lt_iff_toInt_lt, h0]; exact h2), if_neg (by omega), if_neg h1, zI_of]
    · rw [if_neg (by rw [Int32.lt_iff_toInt_lt, h0]; exact h2)]
      by_cases h3 : v.toInt < 0
      · rw [if_pos h3]
      · rw [if_neg h3, if_neg h1, show v.toInt = 0 by omega]
def fr (L : List Nat) (A A' : Nat → Int → Int) : Prop := ∀ c : Nat, L.contains c = false → A' c = A c
def fi (K : List (Nat × Nat)) (I I' : Nat → Nat → Int) : Prop := ∀ c f : Nat, K.contains (c, f) = false → I' c f = I c f
theorem fr.refl {L : List Nat} {A : Nat → Int → Int} : fr L A A := fun _ _ => rfl
theorem fr.tr {L : List Nat} {A B C : Nat → Int → Int} (h : fr L A B) (g : fr L B C) : fr L A C := fun c hc => (g c hc).trans (h c hc)
theorem fr.wd {L M : List Nat} {A B : Nat → Int → Int} (h : fr L A B) (g : L.all M.contains = true) : fr M A B := fun c hc => h c (by
  cases e : L.contains c with
  | false => rfl
  | true =>
    have := List.all_eq_true.mp g c (List.contains_iff_mem.mp e)
    rw [hc] at this; exact this.symm)
theorem fr.a {L : List Nat} {A B : Nat → Int → Int} {c : Nat} {g : Int → Int} (h : fr L A B) (hc : L.contains c = true) : fr L A (ua B c g) := fun c' h' => by
  rw [ua_n (fun q => by subst q; rw [hc] at h'; exact Bool.noConfusion h')]; exact h c' h'
theorem fi.refl {L : List (Nat × Nat)} {A : Nat → Nat → Int} : fi L A A := fun _ _ _ => rfl
theorem fi.tr {L : List (Nat × Nat)} {A B C : Nat → Nat → Int} (h : fi L A B) (g : fi L B C) : fi L A C := fun c f hc => (g c f hc).trans (h c f hc)
theorem fi.wd {L M : List (Nat × Nat)} {A B : Nat → Nat → Int} (h : fi L A B) (g : L.all M.contains = true) : fi M A B := fun c f hc => h c f (by
  cases e : L.contains (c, f) with
  | false => rfl
  | true =>
    have := List.all_eq_true.mp g (c, f) (List.contains_iff_mem.mp e)
    rw [hc] at this; exact this.symm)
theorem fi.f {L : List (Nat × Nat)} {A B : Nat → Nat → Int} {c f : Nat} {v : Int} (h : fi L A B) (hc : L.contains (c, f) = true) : fi L A (u2 B c f v) := fun c' f' h' => by
  have e : u2 B c f v c' f' = B c' f' := by
    by_cases q : c' = c
    · subst q
      exact u2_f (fun q2 => by subst q2; rw [hc] at h'; exact Bool.noConfusion h')
    · exact u2_c q
  rw [e]; exact h c' f' h'
theorem c_flightBy {d : Nat} {I : Nat → Nat → Int} {A : Nat → Int → Int} {W : qWt} {F : zF} {p : Int} (hd : 2 ≤ d) (hF : cL F I A) : ∃ A', fr [22, 23] A A' ∧ A' 23 = up (A 23) 0 p ∧ q_call q_MT d 72 [.ref 19, .int (zI p)] (zM I A W) = some (.inl (some (.int (zI (F (up (A 23) 0 p))))), zM I A' W) := by
  obtain ⟨d, rfl⟩ : ∃ e, d = e + 1 := ⟨d - 1, by omega⟩
  obtain ⟨cs, n, hn, hcs, ⟨h150, h1, hok⟩, hFF⟩ := hF
  rw [cl_X5_flightBy]
  simp (implicitDefEqProofs := false) (disch := omega) only [↓rI_s, ↓rV_s, ↓rI_e, ↓rV_e, zc_eq, zc_ne, zc_lt, zc_ge, zc_gt, zc_le, zlt_t, zlt_f, zle_t, zle_f, zeq_t, zeq_f, lz, zadd, zsub, zmul, zneg, zb_e0, zb_e1, boo0, boo1, ua_s, ua_n, ua_ua, up_s, u2_s, u2_f, u2_c, u2_u2, Int.natCast_add, Int.zero_add, Int.add_zero, ↓reduceIte, ne_eq, not_true_eq_false, not_false_eq_true, Int.natCast_one, ↓k_X5_flightBy_0, ↓k_X5_flightBy_111, ↓k_X5_flightBy_115, ↓zg_19_3, zl_23, zs_23, ↓zn_23, ↓zg_19_4, ↓zg_19_0, zl_20, zs_20, ↓zn_20, ↓zg_19_2, zl_22, zs_22, ↓zn_22]
  rw [hFF, evF]
  generalize hfe : up (A 23) 0 p = f
  have h22 : ua (ua A 23 f) 22 (A 22) = ua A 23 f := ua_id (A := ua A 23 f) (c := 22)
  rw [← h22]
  refine lp_x (fun j (x : (Int → Int) × Value) => q_run qm_X5_flightBy (q_call q_MT d) 11 [.ref 19, .int (zI p), .int (zI (hgt cs j)), .int (zI j), x.2] [] (zM I (ua (ua A 23 f) 22 x.1) W)) (fun j x => ∀ i : Int, 0 ≤ i → i < hgt cs j → zI (x.1 i) = zI (evg f cs j i)) (fun r => ∃ A', fr [22, 23] A A' ∧ A' 23 = f ∧ r = some (.inl (some (.int (zI (clp (zI (evg f cs n 0)).toInt)))), zM I A' W)) n ?_ ?_ 0 (A 22, q_junk) (by omega) (fun i h0 h1 => absurd h1 (by show ¬ i < (0 : Int); omega))
  · rintro ⟨st, l4⟩ hi
    refine ⟨ua (ua A 23 f) 22 st, (fr.refl.a rfl).a rfl, by rw [ua_n (by decide), ua_s], ?_⟩
    dsimp only
    rw [k_X5_flightBy_11]
    simp (implicitDefEqProofs := false) (disch := omega) only [↓rI_s, ↓rV_s, ↓rI_e, ↓rV_e, zc_eq, zc_ne, zc_lt, zc_ge, zc_gt, zc_le, zlt_t, zlt_f, zle_t, zle_f, zeq_t, zeq_f, lz, zadd, zsub, zmul, zneg, zb_e0, zb_e1, boo0, boo1, ua_s, ua_n, ua_ua, up_s, u2_s, u2_f, u2_c, u2_u2, Int.natCast_add, Int.zero_add, Int.add_zero, ↓reduceIte, ne_eq, not_true_eq_false, not_false_eq_true, Int.natCast_one, ↓k_X5_flightBy_0, ↓k_X5_flightBy_111, ↓k_X5_flightBy_115, ↓zg_19_3, zl_23, zs_23, ↓zn_23, ↓zg_19_4, ↓zg_19_0, zl_20, zs_20, ↓zn_20, ↓zg_19_2, zl_22, zs_22, ↓zn_22, hn, Int.le_refl]
    rw [clp_c, hi 0 (by omega) (by omega)]
  · rintro j ⟨st, l4⟩ hj hi
    refine .inr ?_
    have hk := hok j hj
    have hc := hcs j (by omega) (by omega)
    dsimp only at hi ⊢
    rw [k_X5_flightBy_11]
    by_cases h2 : 2000 ≤ cs j
    · refine ⟨(up st (hgt cs j - 2) (lop (cs j) (st (hgt cs j - 2)) (st (hgt cs j - 1))), .int (zI (cs j))), ?_, ?_⟩
      · intro i q0 q1
        rw [hgt_t h2] at q1
        dsimp only
        unfold evg
        rw [if_pos h2]
        unfold up
        split
        · exact lop_cg (hi _ (by omega) (by omega)) (hi _ (by omega) (by omega))
        · exact hi _ (by omega) (by omega)
      · rw [hgt_t h2]
        simp (implicitDefEqProofs := false) (disch := omega) only [↓rI_s, ↓rV_s, ↓rI_e, ↓rV_e, zc_eq, zc_ne, zc_lt, zc_ge, zc_gt, zc_le, zlt_t, zlt_f, zle_t, zle_f, zeq_t, zeq_f, lz, zadd, zsub, zmul, zneg, zb_e0, zb_e1, boo0, boo1, ua_s, ua_n, ua_ua, up_s, u2_s, u2_f, u2_c, u2_u2, Int.natCast_add, Int.zero_add, Int.add_zero, ↓reduceIte, ne_eq, not_true_eq_false, not_false_eq_true, Int.natCast_one, ↓k_X5_flightBy_0, ↓k_X5_flightBy_111, ↓k_X5_flightBy_115, ↓zg_19_3, zl_23, zs_23, ↓zn_23, ↓zg_19_4, ↓zg_19_0, zl_20, zs_20, ↓zn_20, ↓zg_19_2, zl_22, zs_22, ↓zn_22, hn, hc]
        rw [lw_worked (by omega) h2 (by omega)]
        simp (implicitDefEqProofs := false) (disch := omega) only [↓rI_s, ↓rV_s, ↓rI_e, ↓rV_e, zc_eq, zc_ne, zc_lt, zc_ge, zc_gt, zc_le, zlt_t, zlt_f, zle_t, zle_f, zeq_t, zeq_f, lz, zadd, zsub, zmul, zneg, zb_e0, zb_e1, boo0, boo1, ua_s, ua_n, ua_ua, up_s, u2_s, u2_f, u2_c, u2_u2, Int.natCast_add, Int.zero_add, Int.add_zero, ↓reduceIte, ne_eq, not_true_eq_false, not_false_eq_true, Int.natCast_one, ↓k_X5_flightBy_0, ↓k_X5_flightBy_111, ↓k_X5_flightBy_115, ↓zg_19_3, zl_23, zs_23, ↓zn_23, ↓zg_19_4, ↓zg_19_0, zl_20, zs_20, ↓zn_20, ↓zg_19_2, zl_22, zs_22, ↓zn_22]
        rw [show hgt cs j + -1 - 1 = hgt cs j - 2 by omega, show hgt cs j + -1 = hgt cs j - 1 by omega]
    · refine ⟨(up st (hgt cs j) (if cs j < 1000 then cs j else f (cs j - 1000)), .int (zI (cs j))), ?_, ?_⟩
      · intro i q0 q1
        rw [hgt_f h2] at q1
        dsimp only
        unfold evg
        rw [if_neg h2]
        unfold up
        split
        · rfl
        · exact hi _ (by omega) (by omega)
      · rw [hgt_f h2]
        by_cases h3 : cs j < 1000
        · rw [if_pos h3]
          simp (implicitDefEqProofs := false) (disch := omega) only [↓rI_s, ↓rV_s, ↓rI_e, ↓rV_e, zc_eq, zc_ne, zc_lt, zc_ge, zc_gt, zc_le, zlt_t, zlt_f, zle_t, zle_f, zeq_t, zeq_f, lz, zadd, zsub, zmul, zneg, zb_e0, zb_e1, boo0, boo1, ua_s, ua_n, ua_ua, up_s, u2_s, u2_f, u2_c, u2_u2, Int.natCast_add, Int.zero_add, Int.add_zero, ↓reduceIte, ne_eq, not_true_eq_false, not_false_eq_true, Int.natCast_one, ↓k_X5_flightBy_0, ↓k_X5_flightBy_111, ↓k_X5_flightBy_115, ↓zg_19_3, zl_23, zs_23, ↓zn_23, ↓zg_19_4, ↓zg_19_0, zl_20, zs_20, ↓zn_20, ↓zg_19_2, zl_22, zs_22, ↓zn_22, hn, hc]
        · rw [if_neg h3]
          simp (implicitDefEqProofs := false) (disch := omega) only [↓rI_s, ↓rV_s, ↓rI_e, ↓rV_e, zc_eq, zc_ne, zc_lt, zc_ge, zc_gt, zc_le, zlt_t, zlt_f, zle_t, zle_f, zeq_t, zeq_f, lz, zadd, zsub, zmul, zneg, zb_e0, zb_e1, boo0, boo1, ua_s, ua_n, ua_ua, up_s, u2_s, u2_f, u2_c, u2_u2, Int.natCast_add, Int.zero_add, Int.add_zero, ↓reduceIte, ne_eq, not_true_eq_false, not_false_eq_true, Int.natCast_one, ↓k_X5_flightBy_0, ↓k_X5_flightBy_111, ↓k_X5_flightBy_115, ↓zg_19_3, zl_23, zs_23, ↓zn_23, ↓zg_19_4, ↓zg_19_0, zl_20, zs_20, ↓zn_20, ↓zg_19_2, zl_22, zs_22, ↓zn_22, hn, hc]
