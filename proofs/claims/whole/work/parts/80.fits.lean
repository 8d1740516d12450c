--DEPS 75.trial
/-! What the book lets be told. -/
def flW (R : zR) (F : zF) (s : Int → Int) (w p pr : Int) : Int := if s w < 0 then 0 else F (seeF p (rS R w) (pr / 10) (pr - pr / 10 * 10) (s (10 + w)) (s (20 + w)) (s w) (s 45) (s (40 + rO R w)))
theorem flW_b {R : zR} {F : zF} (hF : wF F) (s : Int → Int) (w p pr : Int) : 0 ≤ flW R F s w p pr ∧ flW R F s w p pr ≤ 60 := by
  unfold flW
  split
  · omega
  · exact hF.1 _
def rgt (R : zR) (F : zF) (s tl : Int → Int) (w : Int) (pr : Nat) : Bool := decide (∀ j : Nat, j < 9 → tl ((j : Int) + 1) = -1 ∨ tl ((j : Int) + 1) = flW R F s w ((j : Int) + 1) pr)
theorem cnt_lt {p : Nat → Bool} {k : Nat} : ∀ {n : Nat}, k < n → p k = true → cnt k p < cnt n p
  | 0, h, _ => by omega
  | n + 1, h, hp => by
    by_cases e : k = n
    · subst e; rw [cnt_t hp]; omega
    · have := cnt_lt (n := n) (by omega) hp
      show _ < cnt n p + _
      split <;> omega
theorem cnt_z {p : Nat → Bool} : ∀ {n : Nat}, (∀ k, k < n → ¬ p k = true) → cnt n p = 0
  | 0, _ => rfl
  | n + 1, h => by rw [cnt_f (h n (by omega))]; exact cnt_z fun k hk => h k (by omega)
def tly (R : zR) (F : zF) (s tl : Int → Int) (w p : Int) (j : Nat) (x : Int) : Int := cnt j fun pr => rgt R F s tl w pr && decide (flW R F s w p pr = x)
def wst (R : zR) (F : zF) (s tl : Int → Int) (w p : Int) : Nat → Int
  | 0 => 0
  | j + 1 => if rgt R F s tl w j = true then (if wst R F s tl w p j < tly R F s tl w p (j + 1) (flW R F s w p j) then tly R F s tl w p (j + 1) (flW R F s w p j) else wst R F s tl w p j) else wst R F s tl w p j
theorem wst_b {R : zR} {F : zF} {s tl : Int → Int} {w p : Int} : ∀ j : Nat, 0 ≤ wst R F s tl w p j ∧ wst R F s tl w p j ≤ j
  | 0 => by unfold wst; omega
  | j + 1 => by
    have ih := wst_b (R := R) (F := F) (s := s) (tl := tl) (w := w) (p := p) j
    have t0 : 0 ≤ tly R F s tl w p (j + 1) (flW R F s w p j) := cnt_lo _ _
    have t1 : tly R F s tl w p (j + 1) (flW R F s w p j) ≤ (j + 1 : Nat) := cnt_hi _ _
    unfold wst
    split
    · split <;> omega
    · omega
def lkN (R : zR) (F : zF) (s tl : Int → Int) (w : Int) : Nat → Int × Int
  | 0 => (-1, -1)
  | j + 1 => if tl ((j : Int) + 1) = -1 ∧ ((lkN R F s tl w j).1 = -1 ∨ wst R F s tl w ((j : Int) + 1) 100 < (lkN R F s tl w j).2) then ((j : Int) + 1, wst R F s tl w ((j : Int) + 1) 100) else lkN R F s tl w j
theorem lkN_b {R : zR} {F : zF} {s tl : Int → Int} {w : Int} : ∀ j : Nat, -1 ≤ (lkN R F s tl w j).1 ∧ (lkN R F s tl w j).1 ≤ j ∧ -1 ≤ (lkN R F s tl w j).2 ∧ (lkN R F s tl w j).2 ≤ 100
  | 0 => by unfold lkN; decide
  | j + 1 => by
    have ih := lkN_b (R := R) (F := F) (s := s) (tl := tl) (w := w) j
    have wb := wst_b (R := R) (F := F) (s := s) (tl := tl) (w := w) (p := (j : Int) + 1) 100
    unfold lkN
    split
    · dsimp only; omega
    · omega
def tB9 (tl : Int → Int) : Prop := ∀ p : Int, 1 ≤ p → p ≤ 9 → -1 ≤ tl p ∧ tl p ≤ 60
section BK
variable {d : Nat} {I : Nat → Nat → Int} {A : Nat → Int → Int} {W : qWt} {R : zR} {F : zF} {s tl : Int → Int}
def see (R : zR) (s : Int → Int) (w : Int) (g : Int → Int) : Prop := ∀ j : Int, (j = 1 ∨ 4 ≤ j ∧ j ≤ 8) → g j = seeF 0 (rS R w) 0 0 (s (10 + w)) (s (20 + w)) (enc (s w) (s (30 + w))) (s 45) (s (40 + rO R w)) j
theorem c_flightAsIf {w p pr : Int} (hd : 3 ≤ d) (hX : cX R F s I A) (h0 : 0 ≤ w) (h1 : w < rW R) (hp : 0 ≤ pr ∧ pr < 100) (hs : see R s w (A 23)) : ∃ A', fr [22, 23] A A' ∧ see R s w (A' 23) ∧ q_call q_MT d 51 [.ref 36, .int (zI w), .int (zI p), .int (zI pr)] (zM I A W) = some (.inl (some (.int (zI (flW R F s w p pr)))), zM I A' W) := by
  obtain ⟨d, rfl⟩ : ∃ e, d = e + 1 := ⟨d - 1, by omega⟩
  obtain ⟨hR, hB, ⟨hV, -⟩, hL⟩ := hX
  rw [cl_X2_flightAsIf]
  by_cases q : 0 ≤ s w
  · obtain ⟨A', f, h23, e⟩ := c_flightBy (A := ua A 23 (up (up (A 23) 2 (pr / 10)) 3 (pr - pr / 10 * 10))) (p := p) (W := W) (show 2 ≤ d by omega) (hL.fr (L := [23]) (fr.refl.a rfl) rfl)
    rw [ua_s] at h23 e
    refine ⟨A', (fr.refl.a rfl).tr f, ?_, ?_⟩
    · intro j hj
      rw [h23, up_n (by omega), up_n (by omega), up_n (by omega)]; exact hs j hj
    · simp (implicitDefEqProofs := false) (disch := omega) only [↓rI_s, ↓rV_s, ↓rI_e, ↓rV_e, zc_eq, zc_ne, zc_lt, zc_ge, zc_gt, zc_le, zlt_t, zlt_f, zle_t, zle_f, zeq_t, zeq_f, lz, zadd, zsub, zmul, zneg, zb_e0, zb_e1, boo0, boo1, ua_s, ua_n, ua_ua, up_s, u2_s, u2_f, u2_c, u2_u2, Int.natCast_add, Int.zero_add, Int.add_zero, ↓reduceIte, ne_eq, not_true_eq_false, not_false_eq_true, Int.natCast_one, ↓k_X2_flightAsIf_0, ↓zg_36_0, ↓mc_24]
      rw [c24_isOnFelt (by omega) hR hB hV.1 h0 h1, zb_t q]
      simp (implicitDefEqProofs := false) (disch := omega) only [↓rI_s, ↓rV_s, ↓rI_e, ↓rV_e, zc_eq, zc_ne, zc_lt, zc_ge, zc_gt, zc_le, zlt_t, zlt_f, zle_t, zle_f, zeq_t, zeq_f, lz, zadd, zsub, zmul, zneg, zb_e0, zb_e1, boo0, boo1, ua_s, ua_n, ua_ua, up_s, u2_s, u2_f, u2_c, u2_u2, Int.natCast_add, Int.zero_add, Int.add_zero, ↓reduceIte, ne_eq, not_true_eq_false, not_false_eq_true, Int.natCast_one, ↓zg_36_1, ↓zg_19_3, zs_23, zdiv, ↓mc_19, e]
      refine rz ?_
      have ew : flW R F s w p pr = F (seeF p (rS R w) (pr / 10) (pr - pr / 10 * 10) (s (10 + w)) (s (20 + w)) (s w) (s 45) (s (40 + rO R w))) := if_neg (by omega)
      rw [ew]
      have he := (enc_f hV.1 h0 h1).1 q
      unfold see at hs
      rw [he] at hs
      refine hL.w.2 _ _ fun j j0 j1 => ?_
      refine congrArg zI ?_
      by_cases e0 : j = 0
      · subst e0; rfl
      rw [up_n e0]
      by_cases e3 : j = 3
      · subst e3; rfl
      rw [up_n e3]
      by_cases e2 : j = 2
      · subst e2; rfl
      rw [up_n e2, hs j (by omega)]
      unfold seeF
      rw [if_neg e0, if_neg e0, if_neg e2, if_neg e2, if_neg e3, if_neg e3]
  · refine ⟨A, fr.refl, hs, ?_⟩
    have ew : flW R F s w p pr = 0 := if_pos (by omega)
    rw [ew]
    simp (implicitDefEqProofs := false) (disch := omega) only [↓rI_s, ↓rV_s, ↓rI_e, ↓rV_e, zc_eq, zc_ne, zc_lt, zc_ge, zc_gt, zc_le, zlt_t, zlt_f, zle_t, zle_f, zeq_t, zeq_f, lz, zadd, zsub, zmul, zneg, zb_e0, zb_e1, boo0, boo1, ua_s, ua_n, ua_ua, up_s, u2_s, u2_f, u2_c, u2_u2, Int.natCast_add, Int.zero_add, Int.add_zero, ↓reduceIte, ne_eq, not_true_eq_false, not_false_eq_true, Int.natCast_one, ↓k_X2_flightAsIf_0, ↓zg_36_0, ↓mc_24]
    rw [c24_isOnFelt (by omega) hR hB hV.1 h0 h1, zb_f q]
    simp (implicitDefEqProofs := false) (disch := omega) only [↓rI_s, ↓rV_s, ↓rI_e, ↓rV_e, zc_eq, zc_ne, zc_lt, zc_ge, zc_gt, zc_le, zlt_t, zlt_f, zle_t, zle_f, zeq_t, zeq_f, lz, zadd, zsub, zmul, zneg, zb_e0, zb_e1, boo0, boo1, ua_s, ua_n, ua_ua, up_s, u2_s, u2_f, u2_c, u2_u2, Int.natCast_add, Int.zero_add, Int.add_zero, ↓reduceIte, ne_eq, not_true_eq_false, not_false_eq_true, Int.natCast_one]
theorem c_isFitting {w : Int} {pr : Nat} (hd : 4 ≤ d) (hX : cX R F s I A) (hT : ∀ p : Int, 1 ≤ p → p ≤ 9 → A 37 p = tl p) (hb : tB9 tl) (h0 : 0 ≤ w) (h1 : w < rW R) (hp : pr < 100) (hs : see R s w (A 23)) : ∃ A', fr [22, 23] A A' ∧ see R s w (A' 23) ∧ q_call q_MT d 50 [.ref 36, .int (zI w), .int (zI pr)] (zM I A W) = some (.inl (some (.int (zI (if rgt R F s tl w pr = true then 1 else 0)))), zM I A' W) := by
  obtain ⟨d, rfl⟩ : ∃ e, d = e + 1 := ⟨d - 1, by omega⟩
  rw [cl_X2_isFitting]
  simp (implicitDefEqProofs := false) (disch := omega) only [↓rI_s, ↓rV_s, ↓rI_e, ↓rV_e, zc_eq, zc_ne, zc_lt, zc_ge, zc_gt, zc_le, zlt_t, zlt_f, zle_t, zle_f, zeq_t, zeq_f, lz, zadd, zsub, zmul, zneg, zb_e0, zb_e1, boo0, boo1, ua_s, ua_n, ua_ua, up_s, u2_s, u2_f, u2_c, u2_u2, Int.natCast_add, Int.zero_add, Int.add_zero, ↓reduceIte, ne_eq, not_true_eq_false, not_false_eq_true, Int.natCast_one, ↓k_X2_isFitting_0]
  refine lp_x (fun j (B : Nat → Int → Int) => q_run qm_X2_isFitting (q_call q_MT d) 2 [.ref 36, .int (zI w), .int (zI pr), .int (zI (j + 1))] [] (zM I B W)) (fun j B => fr [22, 23] A B ∧ see R s w (B 23) ∧ ∀ i : Nat, i < j → tl ((i : Int) + 1) = -1 ∨ tl ((i : Int) + 1) = flW R F s w ((i : Int) + 1) pr) (fun r => ∃ A', fr [22, 23] A A' ∧ see R s w (A' 23) ∧ r = some (.inl (some (.int (zI (if rgt R F s tl w pr = true then 1 else 0)))), zM I A' W)) 9 ?_ ?_ 0 A (by omega) ⟨fr.refl, hs, fun i hi => by omega⟩
  · rintro B ⟨f, g, h⟩
    refine ⟨B, f, g, ?_⟩
    rw [k_X2_isFitting_2, if_pos (show rgt R F s tl w pr = true from decide_eq_true h)]
    simp (implicitDefEqProofs := false) (disch := omega) only [↓rI_s, ↓rV_s, ↓rI_e, ↓rV_e, zc_eq, zc_ne, zc_lt, zc_ge, zc_gt, zc_le, zlt_t, zlt_f, zle_t, zle_f, zeq_t, zeq_f, lz, zadd, zsub, zmul, zneg, zb_e0, zb_e1, boo0, boo1, ua_s, ua_n, ua_ua, up_s, u2_s, u2_f, u2_c, u2_u2, Int.natCast_add, Int.zero_add, Int.add_zero, ↓reduceIte, ne_eq, not_true_eq_false, not_false_eq_true, Int.natCast_one]
  · rintro j B hj ⟨f, g, h⟩
    have e37 : B 37 ((j : Int) + 1) = tl ((j : Int) + 1) := by rw [f 37 rfl]; exact hT _ (by omega) (by omega)
    have tb := hb ((j : Int) + 1) (by omega) (by omega)
    rw [k_X2_isFitting_2]
    by_cases q1 : tl ((j : Int) + 1) = -1
    · refine .inr ⟨B, ⟨f, g, fun i hi => ?_⟩, ?_⟩
      · by_cases e : i = j
        · subst e; exact .inl q1
        · exact h i (by omega)
      · simp (implicitDefEqProofs := false) (disch := omega) only [↓rI_s, ↓rV_s, ↓rI_e, ↓rV_e, zc_eq, zc_ne, zc_lt, zc_ge, zc_gt, zc_le, zlt_t, zlt_f, zle_t, zle_f, zeq_t, zeq_f, lz, zadd, zsub, zmul, zneg, zb_e0, zb_e1, boo0, boo1, ua_s, ua_n, ua_ua, up_s, u2_s, u2_f, u2_c, u2_u2, Int.natCast_add, Int.zero_add, Int.add_zero, ↓reduceIte, ne_eq, not_true_eq_false, not_false_eq_true, Int.natCast_one, ↓zg_36_2, zl_37, e37, ↓k_X2_isFitting_36]
    · obtain ⟨B', f', g', e⟩ := c_flightAsIf (p := (j : Int) + 1) (pr := pr) (W := W) (show 3 ≤ d by omega) (hX.t fi.refl (f.wd rfl)) h0 h1 (by omega) g
      have fb := flW_b (R := R) hX.2.2.2.w s w ((j : Int) + 1) pr
      by_cases q2 : tl ((j : Int) + 1) = flW R F s w ((j : Int) + 1) pr
      · refine .inr ⟨B', ⟨f.tr f', g', fun i hi => ?_⟩, ?_⟩
        · by_cases e : i = j
          · subst e; exact .inr q2
          · exact h i (by omega)
        · simp (implicitDefEqProofs := false) (disch := omega) only [↓rI_s, ↓rV_s, ↓rI_e, ↓rV_e, zc_eq, zc_ne, zc_lt, zc_ge, zc_gt, zc_le, zlt_t, zlt_f, zle_t, zle_f, zeq_t, zeq_f, lz, zadd, zsub, zmul, zneg, zb_e0, zb_e1, boo0, boo1, ua_s, ua_n, ua_ua, up_s, u2_s, u2_f, u2_c, u2_u2, Int.natCast_add, Int.zero_add, Int.add_zero, ↓reduceIte, ne_eq, not_true_eq_false, not_false_eq_true, Int.natCast_one, ↓zg_36_2, zl_37, e37, ↓mc_36, e, ↓k_X2_isFitting_36]
      · refine .inl ⟨B', f.tr f', g', ?_⟩
        rw [if_neg (show ¬ rgt R F s tl w pr = true from fun q => by
          rcases of_decide_eq_true q j hj with q | q
          · exact q1 q
          · exact q2 q)]
        simp (implicitDefEqProofs := false) (disch := omega) only [↓rI_s, ↓rV_s, ↓rI_e, ↓rV_e, zc_eq, zc_ne, zc_lt, zc_ge, zc_gt, zc_le, zlt_t, zlt_f, zle_t, zle_f, zeq_t, zeq_f, lz, zadd, zsub, zmul, zneg, zb_e0, zb_e1, boo0, boo1, ua_s, ua_n, ua_ua, up_s, u2_s, u2_f, u2_c, u2_u2, Int.natCast_add, Int.zero_add, Int.add_zero, ↓reduceIte, ne_eq, not_true_eq_false, not_false_eq_true, Int.natCast_one, ↓zg_36_2, zl_37, e37, ↓mc_36, e]
theorem c_seekPairs {w : Int} (hd : 5 ≤ d) (hX : cX R F s I A) (hT : ∀ p : Int, 1 ≤ p → p ≤ 9 → A 37 p = tl p) (hb : tB9 tl) (h0 : 0 ≤ w) (h1 : w < rW R) : ∃ A', fr [22, 23, 39] A A' ∧ see R s w (A' 23) ∧ (∀ pr : Nat, pr < 100 → rgt R F s tl w pr = true → A' 39 (cnt pr (rgt R F s tl w)) = pr) ∧ q_call q_MT d 49 [.ref 36, .int (zI w)] (zM I A W) = some (.inl none, zM (u2 (u2 I 36 7 (cnt 100 (rgt R F s tl w))) 36 8 (fst 100 (rgt R F s tl w))) A' W) := by
  obtain ⟨d, rfl⟩ : ∃ e, d = e + 1 := ⟨d - 1, by omega⟩
  obtain ⟨f, hf, e⟩ := c24_showLaw (W := W) (show 1 ≤ d by omega) hX.1 hX.2.1 hX.2.2.1.1.1 h0 h1
  have hs0 : see R s w f := fun j hj => by
    rw [hf j (by omega) (by omega)]
    unfold seeF
    rw [if_neg (show ¬ j = 0 by omega), if_neg (show ¬ j = 0 by omega), if_neg (show ¬ j = 2 by omega), if_neg (show ¬ j = 2 by omega), if_neg (show ¬ j = 3 by omega), if_neg (show ¬ j = 3 by omega)]
  rw [cl_X2_seekPairs]
  simp (implicitDefEqProofs := false) (disch := omega) only [↓rI_s, ↓rV_s, ↓rI_e, ↓rV_e, zc_eq, zc_ne, zc_lt, zc_ge, zc_gt, zc_le, zlt_t, zlt_f, zle_t, zle_f, zeq_t, zeq_f, lz, zadd, zsub, zmul, zneg, zb_e0, zb_e1, boo0, boo1, ua_s, ua_n, ua_ua, up_s, u2_s, u2_f, u2_c, u2_u2, Int.natCast_add, Int.zero_add, Int.add_zero, ↓reduceIte, ne_eq, not_true_eq_false, not_false_eq_true, Int.natCast_one, ↓k_X2_seekPairs_0, ↓zg_36_0, ↓mc_24, e, ↓zp_36_7]
  refine lp_x (fun j (B : Nat → Int → Int) => q_run qm_X2_seekPairs (q_call q_MT d) 15 [.ref 36, .int (zI w), .int (zI j)] [] (zM (u2 I 36 7 (cnt j (rgt R F s tl w))) B W)) (fun j B => fr [22, 23, 39] A B ∧ see R s w (B 23) ∧ ∀ pr : Nat, pr < j → rgt R F s tl w pr = true → B 39 (cnt pr (rgt R F s tl w)) = pr) (fun r => ∃ A', fr [22, 23, 39] A A' ∧ see R s w (A' 23) ∧ (∀ pr : Nat, pr < 100 → rgt R F s tl w pr = true → A' 39 (cnt pr (rgt R F s tl w)) = pr) ∧ r = some (.inl none, zM (u2 (u2 I 36 7 (cnt 100 (rgt R F s tl w))) 36 8 (fst 100 (rgt R F s tl w))) A' W)) 100 ?_ ?_ 0 (ua A 23 f) (by omega) ⟨fr.refl.a rfl, by rw [ua_s]; exact hs0, fun pr hp => by omega⟩
  · rintro B ⟨f1, g, h⟩
    refine ⟨B, f1, g, h, ?_⟩
    have c0 := cnt_lo 100 (rgt R F s tl w)
    have c1 := cnt_hi 100 (rgt R F s tl w)
    rw [k_X2_seekPairs_15]
    rcases fst_cs 100 (rgt R F s tl w) with ⟨ef, hn⟩ | ⟨k, hk, ef, hp, hn⟩
    · have cz := cnt_z hn
      rw [ef, cz]
      simp (implicitDefEqProofs := false) (disch := omega) only [↓rI_s, ↓rV_s, ↓rI_e, ↓rV_e, zc_eq, zc_ne, zc_lt, zc_ge, zc_gt, zc_le, zlt_t, zlt_f, zle_t, zle_f, zeq_t, zeq_f, lz, zadd, zsub, zmul, zneg, zb_e0, zb_e1, boo0, boo1, ua_s, ua_n, ua_ua, up_s, u2_s, u2_f, u2_c, u2_u2, Int.natCast_add, Int.zero_add, Int.add_zero, ↓reduceIte, ne_eq, not_true_eq_false, not_false_eq_true, Int.natCast_one, ↓zg_36_7, ↓k_X2_seekPairs_74, ↓zp_36_8]
    · have cp := cnt_pos hk hp
      have e0 := h k hk hp
      rw [cnt_z hn] at e0
      rw [ef]
      simp (implicitDefEqProofs := false) (disch := omega) only [↓rI_s, ↓rV_s, ↓rI_e, ↓rV_e, zc_eq, zc_ne, zc_lt, zc_ge, zc_gt, zc_le, zlt_t, zlt_f, zle_t, zle_f, zeq_t, zeq_f, lz, zadd, zsub, zmul, zneg, zb_e0, zb_e1, boo0, boo1, ua_s, ua_n, ua_ua, up_s, u2_s, u2_f, u2_c, u2_u2, Int.natCast_add, Int.zero_add, Int.add_zero, ↓reduceIte, ne_eq, not_true_eq_false, not_false_eq_true, Int.natCast_one, ↓zg_36_7, ↓zg_36_4, zl_39, e0, ↓k_X2_seekPairs_74, ↓zp_36_8]
  · rintro j B hj ⟨f1, g, h⟩
    have c0 := cnt_lo j (rgt R F s tl w)
    have c1 := cnt_hi j (rgt R F s tl w)
    have fI : fi Kq I (u2 I 36 7 (cnt j (rgt R F s tl w))) := fi.refl.f rfl
    obtain ⟨B', f', g', e'⟩ := c_isFitting (pr := j) (tl := tl) (I := u2 I 36 7 (cnt j (rgt R F s tl w))) (W := W) (show 4 ≤ d by omega) (hX.t fI (f1.wd rfl)) (fun p p0 p1 => by rw [f1 37 rfl]; exact hT p p0 p1) hb h0 h1 hj g
    rw [k_X2_seekPairs_15]
    by_cases q : rgt R F s tl w j = true
    · rw [if_pos q] at e'
      refine .inr ⟨ua B' 39 (up (B' 39) (cnt j (rgt R F s tl w)) j), ⟨(f1.tr (f'.wd rfl)).a rfl, g', fun pr hp hr => ?_⟩, ?_⟩
      · rw [ua_s]
        by_cases e : pr = j
        · subst e; rw [up_s]
        · have := cnt_lt (n := j) (show pr < j by omega) hr
          rw [up_n (by omega), f' 39 rfl]; exact h pr (by omega) hr
      · rw [cnt_t q]
        simp (implicitDefEqProofs := false) (disch := omega) only [↓rI_s, ↓rV_s, ↓rI_e, ↓rV_e, zc_eq, zc_ne, zc_lt, zc_ge, zc_gt, zc_le, zlt_t, zlt_f, zle_t, zle_f, zeq_t, zeq_f, lz, zadd, zsub, zmul, zneg, zb_e0, zb_e1, boo0, boo1, ua_s, ua_n, ua_ua, up_s, u2_s, u2_f, u2_c, u2_u2, Int.natCast_add, Int.zero_add, Int.add_zero, ↓reduceIte, ne_eq, not_true_eq_false, not_false_eq_true, Int.natCast_one, ↓mc_36, e', ↓zg_36_4, ↓zg_36_7, zs_39, ↓zp_36_7, ↓k_X2_seekPairs_50]
    · rw [if_neg q] at e'
      refine .inr ⟨B', ⟨f1.tr (f'.wd rfl), g', fun pr hp hr => ?_⟩, ?_⟩
      · have hne : pr ≠ j := fun e => by subst e; exact q hr
        rw [f' 39 rfl]; exact h pr (by omega) hr
      · rw [cnt_f q]
        simp (implicitDefEqProofs := false) (disch := omega) only [↓rI_s, ↓rV_s, ↓rI_e, ↓rV_e, zc_eq, zc_ne, zc_lt, zc_ge, zc_gt, zc_le, zlt_t, zlt_f, zle_t, zle_f, zeq_t, zeq_f, lz, zadd, zsub, zmul, zneg, zb_e0, zb_e1, boo0, boo1, ua_s, ua_n, ua_ua, up_s, u2_s, u2_f, u2_c, u2_u2, Int.natCast_add, Int.zero_add, Int.add_zero, ↓reduceIte, ne_eq, not_true_eq_false, not_false_eq_true, Int.natCast_one, ↓mc_36, e', ↓k_X2_seekPairs_50]
def vFits (R : zR) (F : zF) (s tl : Int → Int) (w k : Int) : Int := if k = 0 then cnt 100 (rgt R F s tl w) else fst 100 (rgt R F s tl w)
theorem C_fits {w k : Int} (hd : 8 ≤ d) (hX : cX R F s I A) (hT : ∀ p : Int, 1 ≤ p → p ≤ 9 → A 37 p = tl p) (hb : tB9 tl) (hh : wI w) (hk : wI k) : cOut I A W (q_call q_MT d 135 [.ref 2, .int (zI w), .int (zI k)] (zM I A W)) (if 0 ≤ w ∧ w < rW R then (if 0 ≤ k ∧ k ≤ 1 then 0 else 2) else 1) (vFits R F s tl w k) := by
  obtain ⟨d, rfl⟩ : ∃ e, d = e + 1 := ⟨d - 1, by omega⟩
  have hR := hX.1
  rw [cl_X10_fits]
  by_cases c1 : 0 ≤ w ∧ w < rW R
  · by_cases c2 : 0 ≤ k ∧ k ≤ 1
    · rw [if_pos c1, if_pos c2]
      obtain ⟨A', f, -, -, e⟩ := c_seekPairs (W := W) (show 5 ≤ d by omega) hX hT hb c1.1 c1.2
      refine cOut.ok (I1 := u2 (u2 I 36 7 (cnt 100 (rgt R F s tl w))) 36 8 (fst 100 (rgt R F s tl w))) ((fi.refl.f rfl).f rfl) (f.wd rfl) ?_
      have : k = 0 ∨ k = 1 := by omega
      rcases this with rfl | rfl
      · have ev : vFits R F s tl w 0 = cnt 100 (rgt R F s tl w) := if_pos rfl
        rw [ev]
        simp (implicitDefEqProofs := false) (disch := omega) only [↓rI_s, ↓rV_s, ↓rI_e, ↓rV_e, zc_eq, zc_ne, zc_lt, zc_ge, zc_gt, zc_le, zlt_t, zlt_f, zle_t, zle_f, zeq_t, zeq_f, lz, zadd, zsub, zmul, zneg, zb_e0, zb_e1, boo0, boo1, ua_s, ua_n, ua_ua, up_s, u2_s, u2_f, u2_c, u2_u2, Int.natCast_add, Int.zero_add, Int.add_zero, ↓reduceIte, ne_eq, not_true_eq_false, not_false_eq_true, Int.natCast_one, ↓k_X10_fits_0, ↓k_X10_fits_40, ↓mc_2, s_needWink (show 2 ≤ d by omega) hR, s_needWink_f (show 2 ≤ d by omega) hR, s_needCup (show 2 ≤ d by omega) hR, s_needCup_f (show 2 ≤ d by omega) hR, s_needHouse (show 2 ≤ d by omega) hR, s_needHouse_f (show 2 ≤ d by omega) hR, s_needThere, s_needThere_f, s_needPress, s_needPress_f, s_needWhat, s_needWhat_f, s_needWithin, s_needWithin_f, s_need1, s_need0, t0_0, t0_1, ↓zg_2_4, ↓mc_36, e, ↓zg_36_7, ↓zg_36_8]
      · have ev : vFits R F s tl w 1 = fst 100 (rgt R F s tl w) := if_neg (by decide)
        rw [ev]
        simp (implicitDefEqProofs := false) (disch := omega) only [↓rI_s, ↓rV_s, ↓rI_e, ↓rV_e, zc_eq, zc_ne, zc_lt, zc_ge, zc_gt, zc_le, zlt_t, zlt_f, zle_t, zle_f, zeq_t, zeq_f, lz, zadd, zsub, zmul, zneg, zb_e0, zb_e1, boo0, boo1, ua_s, ua_n, ua_ua, up_s, u2_s, u2_f, u2_c, u2_u2, Int.natCast_add, Int.zero_add, Int.add_zero, ↓reduceIte, ne_eq, not_true_eq_false, not_false_eq_true, Int.natCast_one, ↓k_X10_fits_0, ↓k_X10_fits_40, ↓mc_2, s_needWink (show 2 ≤ d by omega) hR, s_needWink_f (show 2 ≤ d by omega) hR, s_needCup (show 2 ≤ d by omega) hR, s_needCup_f (show 2 ≤ d by omega) hR, s_needHouse (show 2 ≤ d by omega) hR, s_needHouse_f (show 2 ≤ d by omega) hR, s_needThere, s_needThere_f, s_needPress, s_needPress_f, s_needWhat, s_needWhat_f, s_needWithin, s_needWithin_f, s_need1, s_need0, t0_0, t0_1, ↓zg_2_4, ↓mc_36, e, ↓zg_36_7, ↓zg_36_8]
    · rw [if_pos c1, if_neg c2]
      exact cOut.il (by simp (implicitDefEqProofs := false) (disch := omega) only [↓rI_s, ↓rV_s, ↓rI_e, ↓rV_e, zc_eq, zc_ne, zc_lt, zc_ge, zc_gt, zc_le, zlt_t, zlt_f, zle_t, zle_f, zeq_t, zeq_f, lz, zadd, zsub, zmul, zneg, zb_e0, zb_e1, boo0, boo1, ua_s, ua_n, ua_ua, up_s, u2_s, u2_f, u2_c, u2_u2, Int.natCast_add, Int.zero_add, Int.add_zero, ↓reduceIte, ne_eq, not_true_eq_false, not_false_eq_true, Int.natCast_one, ↓k_X10_fits_0, ↓mc_2, s_needWink (show 2 ≤ d by omega) hR, s_needWink_f (show 2 ≤ d by omega) hR, s_needCup (show 2 ≤ d by omega) hR, s_needCup_f (show 2 ≤ d by omega) hR, s_needHouse (show 2 ≤ d by omega) hR, s_needHouse_f (show 2 ≤ d by omega) hR, s_needThere, s_needThere_f, s_needPress, s_needPress_f, s_needWhat, s_needWhat_f, s_needWithin, s_needWithin_f, s_need1, s_need0, t0_0, t0_1])
  · rw [if_neg c1]
    exact cOut.ns (by simp (implicitDefEqProofs := false) (disch := omega) only [↓rI_s, ↓rV_s, ↓rI_e, ↓rV_e, zc_eq, zc_ne, zc_lt, zc_ge, zc_gt, zc_le, zlt_t, zlt_f, zle_t, zle_f, zeq_t, zeq_f, lz, zadd, zsub, zmul, zneg, zb_e0, zb_e1, boo0, boo1, ua_s, ua_n, ua_ua, up_s, u2_s, u2_f, u2_c, u2_u2, Int.natCast_add, Int.zero_add, Int.add_zero, ↓reduceIte, ne_eq, not_true_eq_false, not_false_eq_true, Int.natCast_one, ↓k_X10_fits_0, ↓mc_2, s_needWink (show 2 ≤ d by omega) hR, s_needWink_f (show 2 ≤ d by omega) hR, s_needCup (show 2 ≤ d by omega) hR, s_needCup_f (show 2 ≤ d by omega) hR, s_needHouse (show 2 ≤ d by omega) hR, s_needHouse_f (show 2 ≤ d by omega) hR, s_needThere, s_needThere_f, s_needPress, s_needPress_f, s_needWhat, s_needWhat_f, s_needWithin, s_needWithin_f, s_need1, s_need0, t0_0, t0_1])
theorem tly_0 {w p x : Int} : tly R F s tl w p 0 x = 0 := rfl
theorem c_worstLeft {w p : Int} (hd : 4 ≤ d) (hX : cX R F s I A) (h0 : 0 ≤ w) (h1 : w < rW R) (hs : see R s w (A 23)) (h7 : I 36 7 = cnt 100 (rgt R F s tl w)) (h39 : ∀ pr : Nat, pr < 100 → rgt R F s tl w pr = true → A 39 (cnt pr (rgt R F s tl w)) = pr) : ∃ A', fr [22, 23, 40] A A' ∧ see R s w (A' 23) ∧ q_call q_MT d 53 [.ref 36, .int (zI w), .int (zI p)] (zM I A W) = some (.inl (some (.int (zI (wst R F s tl w p 100)))), zM I A' W) := by
  obtain ⟨d, rfl⟩ : ∃ e, d = e + 1 := ⟨d - 1, by omega⟩
  have cb := cnt_hi 100 (rgt R F s tl w)
  rw [cl_X2_worstLeft]
  simp (implicitDefEqProofs := false) (disch := omega) only [↓rI_s, ↓rV_s, ↓rI_e, ↓rV_e, zc_eq, zc_ne, zc_lt, zc_ge, zc_gt, zc_le, zlt_t, zlt_f, zle_t, zle_f, zeq_t, zeq_f, lz, zadd, zsub, zmul, zneg, zb_e0, zb_e1, boo0, boo1, ua_s, ua_n, ua_ua, up_s, u2_s, u2_f, u2_c, u2_u2, Int.natCast_add, Int.zero_add, Int.add_zero, ↓reduceIte, ne_eq, not_true_eq_false, not_false_eq_true, Int.natCast_one, ↓k_X2_worstLeft_0]
  have z1 : ∃ g, (∀ x : Int, 0 ≤ x → x ≤ 60 → g x = 0) ∧ q_run qm_X2_worstLeft (q_call q_MT d) 2 [.ref 36, .int (zI w), .int (zI p), .int (zI 0), q_junk, q_junk] [] (zM I A W) = q_run qm_X2_worstLeft (q_call q_MT d) 26 [.ref 36, .int (zI w), .int (zI p), .int (zI 0), .int (zI 0), q_junk] [] (zM I (ua A 40 g) W) := by
    have hid : ua A 40 (A 40) = A := ua_id
    conv => enter [1, g, 2, 1]; rw [← hid]
    refine lp_x (fun j (g : Int → Int) => q_run qm_X2_worstLeft (q_call q_MT d) 2 [.ref 36, .int (zI w), .int (zI p), .int (zI j), q_junk, q_junk] [] (zM I (ua A 40 g) W)) (fun j g => ∀ y : Int, 0 ≤ y → y < j → g y = 0) (fun r => ∃ g, (∀ x : Int, 0 ≤ x → x ≤ 60 → g x = 0) ∧ r = q_run qm_X2_worstLeft (q_call q_MT d) 26 [.ref 36, .int (zI w), .int (zI p), .int (zI 0), .int (zI 0), q_junk] [] (zM I (ua A 40 g) W)) 61 ?_ ?_ 0 (A 40) (by omega) (fun y y0 y1 => by omega)
    · intro g hg
      refine ⟨g, fun x x0 x1 => hg x x0 (by omega), ?_⟩
      rw [k_X2_worstLeft_2]
      simp (implicitDefEqProofs := false) (disch := omega) only [↓rI_s, ↓rV_s, ↓rI_e, ↓rV_e, zc_eq, zc_ne, zc_lt, zc_ge, zc_gt, zc_le, zlt_t, zlt_f, zle_t, zle_f, zeq_t, zeq_f, lz, zadd, zsub, zmul, zneg, zb_e0, zb_e1, boo0, boo1, ua_s, ua_n, ua_ua, up_s, u2_s, u2_f, u2_c, u2_u2, Int.natCast_add, Int.zero_add, Int.add_zero, ↓reduceIte, ne_eq, not_true_eq_false, not_false_eq_true, Int.natCast_one]
    · intro j g hj hg
      refine .inr ⟨up g j 0, fun y y0 y1 => ?_, ?_⟩
      · by_cases e : y = j
        · subst e; rw [up_s]
        · rw [up_n e]; exact hg y y0 (by omega)
      · rw [k_X2_worstLeft_2]
        simp (implicitDefEqProofs := false) (disch := omega) only [↓rI_s, ↓rV_s, ↓rI_e, ↓rV_e, zc_eq, zc_ne, zc_lt, zc_ge, zc_gt, zc_le, zlt_t, zlt_f, zle_t, zle_f, zeq_t, zeq_f, lz, zadd, zsub, zmul, zneg, zb_e0, zb_e1, boo0, boo1, ua_s, ua_n, ua_ua, up_s, u2_s, u2_f, u2_c, u2_u2, Int.natCast_add, Int.zero_add, Int.add_zero, ↓reduceIte, ne_eq, not_true_eq_false, not_false_eq_true, Int.natCast_one, ↓zg_36_5, zs_40]
  obtain ⟨g0, hg0, e0⟩ := z1
  rw [e0]
  refine lp_x (fun j (B : (Nat → Int → Int) × Value) => q_run qm_X2_worstLeft (q_call q_MT d) 26 [.ref 36, .int (zI w), .int (zI p), .int (zI (wst R F s tl w p j)), .int (zI (cnt j (rgt R F s tl w))), B.2] [] (zM I B.1 W)) (fun j B => fr [22, 23, 40] A B.1 ∧ see R s w (B.1 23) ∧ ∀ x : Int, 0 ≤ x → x ≤ 60 → B.1 40 x = tly R F s tl w p j x) (fun r => ∃ A', fr [22, 23, 40] A A' ∧ see R s w (A' 23) ∧ r = some (.inl (some (.int (zI (wst R F s tl w p 100)))), zM I A' W)) 100 ?_ ?_ 0 (ua A 40 g0, q_junk) (by omega) ⟨fr.refl.a rfl, hs, fun x x0 x1 => by show g0 x = _; rw [hg0 x x0 x1]; rfl⟩
  · rintro ⟨B, l5⟩ ⟨f, g, h⟩
    dsimp only at f g h ⊢
    refine ⟨B, f, g, ?_⟩
    have c0 := cnt_lo 100 (rgt R F s tl w)
    rw [k_X2_worstLeft_26]
    simp (implicitDefEqProofs := false) (disch := omega) only [↓rI_s, ↓rV_s, ↓rI_e, ↓rV_e, zc_eq, zc_ne, zc_lt, zc_ge, zc_gt, zc_le, zlt_t, zlt_f, zle_t, zle_f, zeq_t, zeq_f, lz, zadd, zsub, zmul, zneg, zb_e0, zb_e1, boo0, boo1, ua_s, ua_n, ua_ua, up_s, u2_s, u2_f, u2_c, u2_u2, Int.natCast_add, Int.zero_add, Int.add_zero, ↓reduceIte, ne_eq, not_true_eq_false, not_false_eq_true, Int.natCast_one, ↓zg_36_7, h7, Int.le_refl]
  · rintro j ⟨B, l5⟩ hj ⟨f, g, h⟩
    dsimp only at f g h ⊢
    by_cases q : rgt R F s tl w j = true
    · obtain ⟨B', f', g', e'⟩ := c_flightAsIf (p := p) (pr := j) (W := W) (show 3 ≤ d by omega) (hX.t fi.refl (f.wd rfl)) h0 h1 (by omega) g
      have fb := flW_b (R := R) hX.2.2.2.w s w p j
      have c0 := cnt_lo j (rgt R F s tl w)
      have clt := cnt_lt (n := 100) hj q
      have e39 : B 39 (cnt j (rgt R F s tl w)) = j := by rw [f 39 rfl]; exact h39 j hj q
      have e40 : B' 40 (flW R F s w p j) = tly R F s tl w p j (flW R F s w p j) := by rw [f' 40 rfl]; exact h _ fb.1 fb.2
      have t1 : tly R F s tl w p (j + 1) (flW R F s w p j) = tly R F s tl w p j (flW R F s w p j) + 1 := cnt_t (by simp [q])
      have tb0 : 0 ≤ tly R F s tl w p j (flW R F s w p j) := cnt_lo _ _
      have tb1 : tly R F s tl w p j (flW R F s w p j) ≤ j := cnt_hi _ _
      have wb := wst_b (R := R) (F := F) (s := s) (tl := tl) (w := w) (p := p) j
      have ew : wst R F s tl w p (j + 1) = if wst R F s tl w p j < tly R F s tl w p j (flW R F s w p j) + 1 then tly R F s tl w p j (flW R F s w p j) + 1 else wst R F s tl w p j := by
        rw [← t1]; exact if_pos q
      refine .inr ⟨(ua B' 40 (up (B' 40) (flW R F s w p j) (tly R F s tl w p j (flW R F s w p j) + 1)), .int (zI (flW R F s w p j))), ⟨(f.tr (f'.wd rfl)).a rfl, g', fun x x0 x1 => ?_⟩, ?_⟩
      · show up (B' 40) (flW R F s w p j) _ x = _
        by_cases e : x = flW R F s w p j
        · subst e; rw [up_s, t1]
        · rw [up_n e, f' 40 rfl, h x x0 x1]
          exact (cnt_f (by simp [q]; exact fun h => e h.symm)).symm
      · rw [k_X2_worstLeft_26, cnt_t q, ew]
        simp (implicitDefEqProofs := false) (disch := omega) only [↓rI_s, ↓rV_s, ↓rI_e, ↓rV_e, zc_eq, zc_ne, zc_lt, zc_ge, zc_gt, zc_le, zlt_t, zlt_f, zle_t, zle_f, zeq_t, zeq_f, lz, zadd, zsub, zmul, zneg, zb_e0, zb_e1, boo0, boo1, ua_s, ua_n, ua_ua, up_s, u2_s, u2_f, u2_c, u2_u2, Int.natCast_add, Int.zero_add, Int.add_zero, ↓reduceIte, ne_eq, not_true_eq_false, not_false_eq_true, Int.natCast_one, ↓zg_36_7, h7, ↓zg_36_4, zl_39, e39, ↓mc_36, e', ↓zg_36_5, zl_40, e40, zs_40, zif]
    · refine .inr ⟨(B, l5), ⟨f, g, fun x x0 x1 => ?_⟩, ?_⟩
      · show B 40 x = _
        rw [h x x0 x1]; exact (cnt_f (by simp [q])).symm
      · rw [cnt_f q, show wst R F s tl w p (j + 1) = wst R F s tl w p j from if_neg q]
def vLook (R : zR) (F : zF) (s tl : Int → Int) (w k : Int) : Int := if k = 0 then (lkN R F s tl w 9).1 else (lkN R F s tl w 9).2
theorem c_seekPress {w : Int} (hd : 6 ≤ d) (hX : cX R F s I A) (hT : ∀ p : Int, 1 ≤ p → p ≤ 9 → A 37 p = tl p) (hb : tB9 tl) (h0 : 0 ≤ w) (h1 : w < rW R) : ∃ I' A', fi [(36, 7), (36, 8), (36, 9), (36, 10)] I I' ∧ fr [22, 23, 39, 40] A A' ∧ I' 36 9 = (lkN R F s tl w 9).1 ∧ I' 36 10 = (lkN R F s tl w 9).2 ∧ q_call q_MT d 52 [.ref 36, .int (zI w)] (zM I A W) = some (.inl none, zM I' A' W) := by
  obtain ⟨d, rfl⟩ : ∃ e, d = e + 1 := ⟨d - 1, by omega⟩
  obtain ⟨A1, f1, g1, h1', e1⟩ := c_seekPairs (W := W) (show 5 ≤ d by omega) hX hT hb h0 h1
  rw [cl_X2_seekPress]
  simp (implicitDefEqProofs := false) (disch := omega) only [↓rI_s, ↓rV_s, ↓rI_e, ↓rV_e, zc_eq, zc_ne, zc_lt, zc_ge, zc_gt, zc_le, zlt_t, zlt_f, zle_t, zle_f, zeq_t, zeq_f, lz, zadd, zsub, zmul, zneg, zb_e0, zb_e1, boo0, boo1, ua_s, ua_n, ua_ua, up_s, u2_s, u2_f, u2_c, u2_u2, Int.natCast_add, Int.zero_add, Int.add_zero, ↓reduceIte, ne_eq, not_true_eq_false, not_false_eq_true, Int.natCast_one, ↓k_X2_seekPress_0, ↓mc_36, e1, ↓zp_36_9, ↓zp_36_10]
  generalize hI : u2 (u2 I 36 7 (cnt 100 (rgt R F s tl w))) 36 8 (fst 100 (rgt R F s tl w)) = I0
  have fI0 : fi [(36, 7), (36, 8), (36, 9), (36, 10)] I I0 := by rw [← hI]; exact (fi.refl.f rfl).f rfl
  have e7 : I0 36 7 = cnt 100 (rgt R F s tl w) := by rw [← hI, u2_f (by decide), u2_s]
  refine lp_x (fun j (B : (Nat → Int → Int) × Value) => q_run qm_X2_seekPress (q_call q_MT d) 17 [.ref 36, .int (zI w), .int (zI (j + 1)), B.2] [] (zM (u2 (u2 I0 36 9 (lkN R F s tl w j).1) 36 10 (lkN R F s tl w j).2) B.1 W)) (fun j B => fr [22, 23, 39, 40] A B.1 ∧ see R s w (B.1 23) ∧ ∀ pr : Nat, pr < 100 → rgt R F s tl w pr = true → B.1 39 (cnt pr (rgt R F s tl w)) = pr) (fun r => ∃ I' A', fi [(36, 7), (36, 8), (36, 9), (36, 10)] I I' ∧ fr [22, 23, 39, 40] A A' ∧ I' 36 9 = (lkN R F s tl w 9).1 ∧ I' 36 10 = (lkN R F s tl w 9).2 ∧ r = some (.inl none, zM I' A' W)) 9 ?_ ?_ 0 (A1, q_junk) (by omega) ⟨f1.wd rfl, g1, h1'⟩
  · rintro ⟨B, l3⟩ ⟨f, g, h⟩
    refine ⟨_, B, (fI0.f rfl).f rfl, f, by rw [u2_f (by decide), u2_s], u2_s, ?_⟩
    dsimp only
    rw [k_X2_seekPress_17]
    simp (implicitDefEqProofs := false) (disch := omega) only [↓rI_s, ↓rV_s, ↓rI_e, ↓rV_e, zc_eq, zc_ne, zc_lt, zc_ge, zc_gt, zc_le, zlt_t, zlt_f, zle_t, zle_f, zeq_t, zeq_f, lz, zadd, zsub, zmul, zneg, zb_e0, zb_e1, boo0, boo1, ua_s, ua_n, ua_ua, up_s, u2_s, u2_f, u2_c, u2_u2, Int.natCast_add, Int.zero_add, Int.add_zero, ↓reduceIte, ne_eq, not_true_eq_false, not_false_eq_true, Int.natCast_one]
  · rintro j ⟨B, l3⟩ hj ⟨f, g, h⟩
    dsimp only at f g h ⊢
    have e37 : B 37 ((j : Int) + 1) = tl ((j : Int) + 1) := by rw [f 37 rfl]; exact hT _ (by omega) (by omega)
    have tb := hb ((j : Int) + 1) (by omega) (by omega)
    have lb := lkN_b (R := R) (F := F) (s := s) (tl := tl) (w := w) j
    have es : lkN R F s tl w (j + 1) = if tl ((j : Int) + 1) = -1 ∧ ((lkN R F s tl w j).1 = -1 ∨ wst R F s tl w ((j : Int) + 1) 100 < (lkN R F s tl w j).2) then ((j : Int) + 1, wst R F s tl w ((j : Int) + 1) 100) else lkN R F s tl w j := rfl
    rw [k_X2_seekPress_17]
    by_cases q1 : tl ((j : Int) + 1) = -1
    · have fJ : fi Kq I (u2 (u2 I0 36 9 (lkN R F s tl w j).1) 36 10 (lkN R F s tl w j).2) := ((fI0.wd rfl).f rfl).f rfl
      obtain ⟨B', f', g', e'⟩ := c_worstLeft (p := (j : Int) + 1) (tl := tl) (I := u2 (u2 I0 36 9 (lkN R F s tl w j).1) 36 10 (lkN R F s tl w j).2) (W := W) (show 4 ≤ d by omega) (hX.t fJ (f.wd rfl)) h0 h1 g (by rw [u2_f (by decide), u2_f (by decide)]; exact e7) h
      have wb := wst_b (R := R) (F := F) (s := s) (tl := tl) (w := w) (p := (j : Int) + 1) 100
      have h39 : ∀ pr : Nat, pr < 100 → rgt R F s tl w pr = true → B' 39 (cnt pr (rgt R F s tl w)) = pr := fun pr hp hr => by rw [f' 39 rfl]; exact h pr hp hr
      by_cases q2 : (lkN R F s tl w j).1 = -1
      · refine .inr ⟨(B', .int (zI (wst R F s tl w ((j : Int) + 1) 100))), ⟨f.tr (f'.wd rfl), g', h39⟩, ?_⟩
        rw [es, if_pos (show tl ((j : Int) + 1) = -1 ∧ ((lkN R F s tl w j).1 = -1 ∨ wst R F s tl w ((j : Int) + 1) 100 < (lkN R F s tl w j).2) from ⟨q1, .inl q2⟩)]
        simp (implicitDefEqProofs := false) (disch := omega) only [↓rI_s, ↓rV_s, ↓rI_e, ↓rV_e, zc_eq, zc_ne, zc_lt, zc_ge, zc_gt, zc_le, zlt_t, zlt_f, zle_t, zle_f, zeq_t, zeq_f, lz, zadd, zsub, zmul, zneg, zb_e0, zb_e1, boo0, boo1, ua_s, ua_n, ua_ua, up_s, u2_s, u2_f, u2_c, u2_u2, Int.natCast_add, Int.zero_add, Int.add_zero, ↓reduceIte, ne_eq, not_true_eq_false, not_false_eq_true, Int.natCast_one, ↓zg_36_2, zl_37, e37, ↓mc_36, e', ↓zg_36_9, ↓zg_36_10, ↓k_X2_seekPress_59, ↓k_X2_seekPress_69, ↓zp_36_9, ↓zp_36_10, u2_4]
      · by_cases q3 : wst R F s tl w ((j : Int) + 1) 100 < (lkN R F s tl w j).2
        · refine .inr ⟨(B', .int (zI (wst R F s tl w ((j : Int) + 1) 100))), ⟨f.tr (f'.wd rfl), g', h39⟩, ?_⟩
          rw [es, if_pos (show tl ((j : Int) + 1) = -1 ∧ ((lkN R F s tl w j).1 = -1 ∨ wst R F s tl w ((j : Int) + 1) 100 < (lkN R F s tl w j).2) from ⟨q1, .inr q3⟩)]
          simp (implicitDefEqProofs := false) (disch := omega) only [↓rI_s, ↓rV_s, ↓rI_e, ↓rV_e, zc_eq, zc_ne, zc_lt, zc_ge, zc_gt, zc_le, zlt_t, zlt_f, zle_t, zle_f, zeq_t, zeq_f, lz, zadd, zsub, zmul, zneg, zb_e0, zb_e1, boo0, boo1, ua_s, ua_n, ua_ua, up_s, u2_s, u2_f, u2_c, u2_u2, Int.natCast_add, Int.zero_add, Int.add_zero, ↓reduceIte, ne_eq, not_true_eq_false, not_false_eq_true, Int.natCast_one, ↓zg_36_2, zl_37, e37, ↓mc_36, e', ↓zg_36_9, ↓zg_36_10, ↓k_X2_seekPress_59, ↓k_X2_seekPress_69, ↓zp_36_9, ↓zp_36_10, u2_4]
        · refine .inr ⟨(B', .int (zI (wst R F s tl w ((j : Int) + 1) 100))), ⟨f.tr (f'.wd rfl), g', h39⟩, ?_⟩
          rw [es, if_neg (show ¬ (tl ((j : Int) + 1) = -1 ∧ ((lkN R F s tl w j).1 = -1 ∨ wst R F s tl w ((j : Int) + 1) 100 < (lkN R F s tl w j).2)) from fun q => by rcases q.2 with q | q; exact q2 q; exact q3 q)]
          simp (implicitDefEqProofs := false) (disch := omega) only [↓rI_s, ↓rV_s, ↓rI_e, ↓rV_e, zc_eq, zc_ne, zc_lt, zc_ge, zc_gt, zc_le, zlt_t, zlt_f, zle_t, zle_f, zeq_t, zeq_f, lz, zadd, zsub, zmul, zneg, zb_e0, zb_e1, boo0, boo1, ua_s, ua_n, ua_ua, up_s, u2_s, u2_f, u2_c, u2_u2, Int.natCast_add, Int.zero_add, Int.add_zero, ↓reduceIte, ne_eq, not_true_eq_false, not_false_eq_true, Int.natCast_one, ↓zg_36_2, zl_37, e37, ↓mc_36, e', ↓zg_36_9, ↓zg_36_10, ↓k_X2_seekPress_69]
    · refine .inr ⟨(B, l3), ⟨f, g, h⟩, ?_⟩
      rw [es, if_neg (show ¬ (tl ((j : Int) + 1) = -1 ∧ ((lkN R F s tl w j).1 = -1 ∨ wst R F s tl w ((j : Int) + 1) 100 < (lkN R F s tl w j).2)) from fun q => q1 q.1)]
      simp (implicitDefEqProofs := false) (disch := omega) only [↓rI_s, ↓rV_s, ↓rI_e, ↓rV_e, zc_eq, zc_ne, zc_lt, zc_ge, zc_gt, zc_le, zlt_t, zlt_f, zle_t, zle_f, zeq_t, zeq_f, lz, zadd, zsub, zmul, zneg, zb_e0, zb_e1, boo0, boo1, ua_s, ua_n, ua_ua, up_s, u2_s, u2_f, u2_c, u2_u2, Int.natCast_add, Int.zero_add, Int.add_zero, ↓reduceIte, ne_eq, not_true_eq_false, not_false_eq_true, Int.natCast_one, ↓zg_36_2, zl_37, e37, ↓k_X2_seekPress_69]
theorem C_look {w k : Int} (hd : 8 ≤ d) (hX : cX R F s I A) (hT : ∀ p : Int, 1 ≤ p → p ≤ 9 → A 37 p = tl p) (hb : tB9 tl) (hh : wI w) (hk : wI k) : cOut I A W (q_call q_MT d 136 [.ref 2, .int (zI w), .int (zI k)] (zM I A W)) (if 0 ≤ w ∧ w < rW R then (if 0 ≤ k ∧ k ≤ 1 then 0 else 2) else 1) (vLook R F s tl w k) := by
  obtain ⟨d, rfl⟩ : ∃ e, d = e + 1 := ⟨d - 1, by omega⟩
  have hR := hX.1
  rw [cl_X10_look]
  by_cases c1 : 0 ≤ w ∧ w < rW R
  · by_cases c2 : 0 ≤ k ∧ k ≤ 1
    · rw [if_pos c1, if_pos c2]
      obtain ⟨I', A', f, g, e9, e10, e⟩ := c_seekPress (W := W) (show 6 ≤ d by omega) hX hT hb c1.1 c1.2
      refine cOut.ok (f.wd rfl) (g.wd rfl) ?_
      have : k = 0 ∨ k = 1 := by omega
      rcases this with rfl | rfl
      · simp (implicitDefEqProofs := false) (disch := omega) only [↓rI_s, ↓rV_s, ↓rI_e, ↓rV_e, zc_eq, zc_ne, zc_lt, zc_ge, zc_gt, zc_le, zlt_t, zlt_f, zle_t, zle_f, zeq_t, zeq_f, lz, zadd, zsub, zmul, zneg, zb_e0, zb_e1, boo0, boo1, ua_s, ua_n, ua_ua, up_s, u2_s, u2_f, u2_c, u2_u2, Int.natCast_add, Int.zero_add, Int.add_zero, ↓reduceIte, ne_eq, not_true_eq_false, not_false_eq_true, Int.natCast_one, ↓k_X10_look_0, ↓k_X10_look_40, ↓mc_2, s_needWink (show 2 ≤ d by omega) hR, s_needWink_f (show 2 ≤ d by omega) hR, s_needCup (show 2 ≤ d by omega) hR, s_needCup_f (show 2 ≤ d by omega) hR, s_needHouse (show 2 ≤ d by omega) hR, s_needHouse_f (show 2 ≤ d by omega) hR, s_needThere, s_needThere_f, s_needPress, s_needPress_f, s_needWhat, s_needWhat_f, s_needWithin, s_needWithin_f, s_need1, s_need0, t0_0, t0_1, ↓zg_2_4, ↓mc_36, e, ↓zg_36_9, ↓zg_36_10, e9, e10]; rfl
      · simp (implicitDefEqProofs := false) (disch := omega) only [↓rI_s, ↓rV_s, ↓rI_e, ↓rV_e, zc_eq, zc_ne, zc_lt, zc_ge, zc_gt, zc_le, zlt_t, zlt_f, zle_t, zle_f, zeq_t, zeq_f, lz, zadd, zsub, zmul, zneg, zb_e0, zb_e1, boo0, boo1, ua_s, ua_n, ua_ua, up_s, u2_s, u2_f, u2_c, u2_u2, Int.natCast_add, Int.zero_add, Int.add_zero, ↓reduceIte, ne_eq, not_true_eq_false, not_false_eq_true, Int.natCast_one, ↓k_X10_look_0, ↓k_X10_look_40, ↓mc_2, s_needWink (show 2 ≤ d by omega) hR, s_needWink_f (show 2 ≤ d by omega) hR, s_needCup (show 2 ≤ d by omega) hR, s_needCup_f (show 2 ≤ d by omega) hR, s_needHouse (show 2 ≤ d by omega) hR, s_needHouse_f (show 2 ≤ d by omega) hR, s_needThere, s_needThere_f, s_needPress, s_needPress_f, s_needWhat, s_needWhat_f, s_needWithin, s_needWithin_f, s_need1, s_need0, t0_0, t0_1, ↓zg_2_4, ↓mc_36, e, ↓zg_36_9, ↓zg_36_10, e9, e10]; rfl
    · rw [if_pos c1, if_neg c2]
      exact cOut.il (by simp (implicitDefEqProofs := false) (disch := omega) only [↓rI_s, ↓rV_s, ↓rI_e, ↓rV_e, zc_eq, zc_ne, zc_lt, zc_ge, zc_gt, zc_le, zlt_t, zlt_f, zle_t, zle_f, zeq_t, zeq_f, lz, zadd, zsub, zmul, zneg, zb_e0, zb_e1, boo0, boo1, ua_s, ua_n, ua_ua, up_s, u2_s, u2_f, u2_c, u2_u2, Int.natCast_add, Int.zero_add, Int.add_zero, ↓reduceIte, ne_eq, not_true_eq_false, not_false_eq_true, Int.natCast_one, ↓k_X10_look_0, ↓mc_2, s_needWink (show 2 ≤ d by omega) hR, s_needWink_f (show 2 ≤ d by omega) hR, s_needCup (show 2 ≤ d by omega) hR, s_needCup_f (show 2 ≤ d by omega) hR, s_needHouse (show 2 ≤ d by omega) hR, s_needHouse_f (show 2 ≤ d by omega) hR, s_needThere, s_needThere_f, s_needPress, s_needPress_f, s_needWhat, s_needWhat_f, s_needWithin, s_needWithin_f, s_need1, s_need0, t0_0, t0_1])
  · rw [if_neg c1]
    exact cOut.ns (by simp (implicitDefEqProofs := false) (disch := omega) only [↓rI_s, ↓rV_s, ↓rI_e, ↓rV_e, zc_eq, zc_ne, zc_lt, zc_ge, zc_gt, zc_le, zlt_t, zlt_f, zle_t, zle_f, zeq_t, zeq_f, lz, zadd, zsub, zmul, zneg, zb_e0, zb_e1, boo0, boo1, ua_s, ua_n, ua_ua, up_s, u2_s, u2_f, u2_c, u2_u2, Int.natCast_add, Int.zero_add, Int.add_zero, ↓reduceIte, ne_eq, not_true_eq_false, not_false_eq_true, Int.natCast_one, ↓k_X10_look_0, ↓mc_2, s_needWink (show 2 ≤ d by omega) hR, s_needWink_f (show 2 ≤ d by omega) hR, s_needCup (show 2 ≤ d by omega) hR, s_needCup_f (show 2 ≤ d by omega) hR, s_needHouse (show 2 ≤ d by omega) hR, s_needHouse_f (show 2 ≤ d by omega) hR, s_needThere, s_needThere_f, s_needPress, s_needPress_f, s_needWhat, s_needWhat_f, s_needWithin, s_needWithin_f, s_need1, s_need0, t0_0, t0_1])
end BK
