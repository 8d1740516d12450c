--DEPS 71.q2
theorem u2_4 {I : Nat → Nat → Int} {c f g : Nat} {a b a' b' : Int} (h : f ≠ g) : u2 (u2 (u2 (u2 I c f a) c g b) c f a') c g b' = u2 (u2 I c f a') c g b' := by
  funext c' f'
  by_cases e : c' = c
  · subst e
    by_cases e1 : f' = g
    · subst e1; rw [u2_s, u2_s]
    · rw [u2_f e1, u2_f e1]
      by_cases e2 : f' = f
      · subst e2; rw [u2_s, u2_s]
      · rw [u2_f e2, u2_f e2, u2_f e1, u2_f e2]
  · rw [u2_c e, u2_c e, u2_c e, u2_c e, u2_c e, u2_c e]
def gnN (R : zR) (F : zF) (s : Int → Int) (h : Int) : Nat → Int × Int
  | 0 => (-1, -1)
  | k + 1 => if (rO R ((k : Int) / 18) = h ∧ free R s ((k : Int) / 18)) ∧ (gnN R F s h k).1 < paid R F s ((k : Int) / 18) ((k : Int) / 2 - (k : Int) / 2 / 9 * 9 + 1) ((k : Int) - (k : Int) / 2 * 2) then (paid R F s ((k : Int) / 18) ((k : Int) / 2 - (k : Int) / 2 / 9 * 9 + 1) ((k : Int) - (k : Int) / 2 * 2), 100 * ((k : Int) / 18) + 10 * ((k : Int) / 2 - (k : Int) / 2 / 9 * 9 + 1) + ((k : Int) - (k : Int) / 2 * 2)) else gnN R F s h k
theorem gnN_s {R : zR} {F : zF} {s : Int → Int} {h : Int} (k : Nat) : gnN R F s h (k + 1) = if (rO R ((k : Int) / 18) = h ∧ free R s ((k : Int) / 18)) ∧ (gnN R F s h k).1 < paid R F s ((k : Int) / 18) ((k : Int) / 2 - (k : Int) / 2 / 9 * 9 + 1) ((k : Int) - (k : Int) / 2 * 2) then (paid R F s ((k : Int) / 18) ((k : Int) / 2 - (k : Int) / 2 / 9 * 9 + 1) ((k : Int) - (k : Int) / 2 * 2), 100 * ((k : Int) / 18) + 10 * ((k : Int) / 2 - (k : Int) / 2 / 9 * 9 + 1) + ((k : Int) - (k : Int) / 2 * 2)) else gnN R F s h k := rfl
theorem gn_b {R : zR} {F : zF} {s : Int → Int} {h : Int} (hR : wR R) : ∀ k : Nat, k ≤ 18 * rW R → ((gnN R F s h k).1 = -1 ∧ (gnN R F s h k).2 = -1) ∨ (0 ≤ (gnN R F s h k).1 ∧ (gnN R F s h k).1 ≤ 99 ∧ 0 ≤ (gnN R F s h k).2 ∧ (gnN R F s h k).2 ≤ 2000)
  | 0, _ => .inl ⟨rfl, rfl⟩
  | k + 1, hk => by
    have ih := gn_b (F := F) (s := s) (h := h) hR k (by omega)
    have pb := paid_b (F := F) (s := s) (w := (k : Int) / 18) (p := (k : Int) / 2 - (k : Int) / 2 / 9 * 9 + 1) (h := (k : Int) - (k : Int) / 2 * 2) hR
    have h10 := hR.2.1
    unfold gnN
    split
    · dsimp only; omega
    · exact ih
theorem gn_skip {R : zR} {F : zF} {s : Int → Int} {h : Int} {w : Nat} (hn : ¬ (rO R w = h ∧ free R s w)) : ∀ j : Nat, j ≤ 18 → gnN R F s h (18 * w + j) = gnN R F s h (18 * w)
  | 0, _ => rfl
  | j + 1, hj => by
    have e : ((18 * w + j : Nat) : Int) / 18 = w := by omega
    rw [show 18 * w + (j + 1) = (18 * w + j) + 1 from rfl, gnN_s, e, if_neg fun q => hn q.1]
    exact gn_skip hn j (by omega)
def cG (R : zR) (F : zF) (s : Int → Int) (h : Int) (k : Nat) : Int := if (gnN R F s h k).1 = -1 then 0 else (gnN R F s h k).1
def vGain (R : zR) (F : zF) (s : Int → Int) (h k : Int) : Int := if k = 0 then cG R F s h (18 * rW R) else (gnN R F s h (18 * rW R)).2
theorem sdm (x : Int) : x - x / 2 * 2 = x % 2 := by omega
section Q4
variable {d : Nat} {I : Nat → Nat → Int} {A : Nat → Int → Int} {W : qWt} {R : zR} {F : zF} {s : Int → Int}
abbrev gI (R : zR) (F : zF) (s : Int → Int) (h : Int) (I : Nat → Nat → Int) (k : Nat) : Nat → Nat → Int := u2 (u2 I 45 9 (cG R F s h k)) 45 10 (gnN R F s h k).2
theorem c_gain1 {h : Int} {w : Nat} {j : Nat} {l4 : Value} (hd : 5 ≤ d) (hX : cX R F s I A) (h1 : w < rW R) (hj : j < 18) (ho : rO R w = h) (hf : free R s w) : ∃ A' l4', fr [22, 23] A A' ∧ q_run qm_X0_seekGainOf (q_call q_MT d) 10 [.ref 45, .int (zI w), .int (zI ((j : Int) / 2 + 1)), .int (zI ((j : Int) % 2)), l4] [] (zM (gI R F s h I (18 * w + j)) A W) = q_run qm_X0_seekGainOf (q_call q_MT d) 10 [.ref 45, .int (zI w), .int (zI ((j : Int) / 2 + 1)), .int (zI ((j : Int) % 2 + 1)), l4'] [] (zM (gI R F s h I (18 * w + (j + 1))) A' W) := by
  have hR := hX.1
  have hw := hR.1.2.1
  have gb := gn_b (F := F) (s := s) (h := h) hR.1 (18 * w + j) (by omega)
  have pb := paid_b (F := F) (s := s) (w := w) (p := (j : Int) / 2 + 1) (h := (j : Int) % 2) hR.1
  have hX2 : cX R F s (gI R F s h I (18 * w + j)) A := hX.t ((fi.refl.f rfl).f rfl) fr.refl
  obtain ⟨A', f, e⟩ := c_paidFor (p := (j : Int) / 2 + 1) (h := (j : Int) % 2) (W := W) hd hX2 (w := w) (by omega) (by omega) (by omega)
  have s1 : ((18 * w + j : Nat) : Int) / 18 = w := by omega
  have s2 : ((18 * w + j : Nat) : Int) / 2 - ((18 * w + j : Nat) : Int) / 2 / 9 * 9 + 1 = (j : Int) / 2 + 1 := by omega
  have s3 : ((18 * w + j : Nat) : Int) - ((18 * w + j : Nat) : Int) / 2 * 2 = (j : Int) % 2 := by omega
  refine ⟨A', .int (zI (paid R F s w ((j : Int) / 2 + 1) ((j : Int) % 2))), f, ?_⟩
  have eN : gnN R F s h (18 * w + (j + 1)) = if (gnN R F s h (18 * w + j)).1 < paid R F s w ((j : Int) / 2 + 1) ((j : Int) % 2) then (paid R F s w ((j : Int) / 2 + 1) ((j : Int) % 2), 100 * (w : Int) + 10 * ((j : Int) / 2 + 1) + (j : Int) % 2) else gnN R F s h (18 * w + j) := by
    rw [show 18 * w + (j + 1) = (18 * w + j) + 1 from rfl, gnN_s, s1, s2, s3]
    by_cases q : (gnN R F s h (18 * w + j)).1 < paid R F s w ((j : Int) / 2 + 1) ((j : Int) % 2)
    · rw [if_pos q, if_pos ⟨⟨ho, hf⟩, q⟩]
    · rw [if_neg q, if_neg fun q2 => q q2.2]
  rw [k_X0_seekGainOf_10]
  unfold gI cG at *
  by_cases q : (gnN R F s h (18 * w + j)).1 < paid R F s w ((j : Int) / 2 + 1) ((j : Int) % 2)
  · rw [if_pos q] at eN
    rw [eN]
    dsimp only
    rw [if_neg (show ¬ paid R F s w ((j : Int) / 2 + 1) ((j : Int) % 2) = -1 by omega)]
    by_cases q2 : (gnN R F s h (18 * w + j)).2 = -1
    · simp (implicitDefEqProofs := false) (disch := omega) only [↓rI_s, ↓rV_s, ↓rI_e, ↓rV_e, zc_eq, zc_ne, zc_lt, zc_ge, zc_gt, zc_le, zlt_t, zlt_f, zle_t, zle_f, zeq_t, zeq_f, lz, zadd, zsub, zmul, zneg, zb_e0, zb_e1, boo0, boo1, ua_s, ua_n, ua_ua, up_s, u2_s, u2_f, u2_c, u2_u2, Int.natCast_add, Int.zero_add, Int.add_zero, ↓reduceIte, ne_eq, not_true_eq_false, not_false_eq_true, Int.natCast_one, ↓mc_45, e, ↓zg_45_10, ↓zg_45_9, ↓k_X0_seekGainOf_41, ↓k_X0_seekGainOf_62, ↓zp_45_9, ↓zp_45_10, u2_4]
    · have q3 : ¬ (gnN R F s h (18 * w + j)).1 = -1 := by omega
      rw [if_neg q3] at e ⊢
      simp (implicitDefEqProofs := false) (disch := omega) only [↓rI_s, ↓rV_s, ↓rI_e, ↓rV_e, zc_eq, zc_ne, zc_lt, zc_ge, zc_gt, zc_le, zlt_t, zlt_f, zle_t, zle_f, zeq_t, zeq_f, lz, zadd, zsub, zmul, zneg, zb_e0, zb_e1, boo0, boo1, ua_s, ua_n, ua_ua, up_s, u2_s, u2_f, u2_c, u2_u2, Int.natCast_add, Int.zero_add, Int.add_zero, ↓reduceIte, ne_eq, not_true_eq_false, not_false_eq_true, Int.natCast_one, ↓mc_45, e, ↓zg_45_10, ↓zg_45_9, ↓k_X0_seekGainOf_41, ↓k_X0_seekGainOf_62, ↓zp_45_9, ↓zp_45_10, u2_4]
  · rw [if_neg q] at eN
    rw [eN]
    have q3 : ¬ (gnN R F s h (18 * w + j)).1 = -1 := by omega
    rw [if_neg q3] at e ⊢
    simp (implicitDefEqProofs := false) (disch := omega) only [↓rI_s, ↓rV_s, ↓rI_e, ↓rV_e, zc_eq, zc_ne, zc_lt, zc_ge, zc_gt, zc_le, zlt_t, zlt_f, zle_t, zle_f, zeq_t, zeq_f, lz, zadd, zsub, zmul, zneg, zb_e0, zb_e1, boo0, boo1, ua_s, ua_n, ua_ua, up_s, u2_s, u2_f, u2_c, u2_u2, Int.natCast_add, Int.zero_add, Int.add_zero, ↓reduceIte, ne_eq, not_true_eq_false, not_false_eq_true, Int.natCast_one, ↓mc_45, e, ↓zg_45_10, ↓zg_45_9, ↓k_X0_seekGainOf_62]
theorem c_seekGainOf {h : Int} {w : Nat} (hd : 6 ≤ d) (hX : cX R F s I A) (h1 : w < rW R) (ho : rO R w = h) (hf : free R s w) : ∃ A', fr [22, 23] A A' ∧ q_call q_MT d 4 [.ref 45, .int (zI w)] (zM (gI R F s h I (18 * w)) A W) = some (.inl none, zM (gI R F s h I (18 * w + 18)) A' W) := by
  obtain ⟨d, rfl⟩ : ∃ e, d = e + 1 := ⟨d - 1, by omega⟩
  rw [cl_X0_seekGainOf]
  simp (implicitDefEqProofs := false) (disch := omega) only [↓rI_s, ↓rV_s, ↓rI_e, ↓rV_e, zc_eq, zc_ne, zc_lt, zc_ge, zc_gt, zc_le, zlt_t, zlt_f, zle_t, zle_f, zeq_t, zeq_f, lz, zadd, zsub, zmul, zneg, zb_e0, zb_e1, boo0, boo1, ua_s, ua_n, ua_ua, up_s, u2_s, u2_f, u2_c, u2_u2, Int.natCast_add, Int.zero_add, Int.add_zero, ↓reduceIte, ne_eq, not_true_eq_false, not_false_eq_true, Int.natCast_one, ↓k_X0_seekGainOf_0]
  refine lp_x (fun j (B : (Nat → Int → Int) × Value × Value) => q_run qm_X0_seekGainOf (q_call q_MT d) 2 [.ref 45, .int (zI w), .int (zI (j + 1)), B.2.1, B.2.2] [] (zM (gI R F s h I (18 * w + 2 * j)) B.1 W)) (fun j B => fr [22, 23] A B.1) (fun r => ∃ A', fr [22, 23] A A' ∧ r = some (.inl none, zM (gI R F s h I (18 * w + 18)) A' W)) 9 ?_ ?_ 0 (A, q_junk, q_junk) (by omega) fr.refl
  · rintro ⟨B, l3, l4⟩ f
    refine ⟨B, f, ?_⟩
    dsimp only
    rw [k_X0_seekGainOf_2]
    simp (implicitDefEqProofs := false) (disch := omega) only [↓rI_s, ↓rV_s, ↓rI_e, ↓rV_e, zc_eq, zc_ne, zc_lt, zc_ge, zc_gt, zc_le, zlt_t, zlt_f, zle_t, zle_f, zeq_t, zeq_f, lz, zadd, zsub, zmul, zneg, zb_e0, zb_e1, boo0, boo1, ua_s, ua_n, ua_ua, up_s, u2_s, u2_f, u2_c, u2_u2, Int.natCast_add, Int.zero_add, Int.add_zero, ↓reduceIte, ne_eq, not_true_eq_false, not_false_eq_true, Int.natCast_one]
  · rintro j ⟨B, l3, l4⟩ hj f
    dsimp only at f ⊢
    have e1 : ((2 * j : Nat) : Int) / 2 = j := by omega
    have e2 : ((2 * j : Nat) : Int) % 2 = 0 := by omega
    have e3 : ((2 * j + 1 : Nat) : Int) / 2 = j := by omega
    have e4 : ((2 * j + 1 : Nat) : Int) % 2 = 1 := by omega
    obtain ⟨B1, l5, f1, g1⟩ := c_gain1 (j := 2 * j) (l4 := l4) (W := W) (show 5 ≤ d by omega) (hX.t fi.refl (f.wd rfl)) h1 (by omega) ho hf
    obtain ⟨B2, l6, f2, g2⟩ := c_gain1 (j := 2 * j + 1) (l4 := l5) (W := W) (show 5 ≤ d by omega) (hX.t fi.refl ((f.tr f1).wd rfl)) h1 (by omega) ho hf
    rw [e1, e2] at g1
    rw [e3, e4] at g2
    refine .inr ⟨(B2, .int (zI (1 + 1)), l6), (f.tr f1).tr f2, ?_⟩
    rw [k_X0_seekGainOf_2]
    simp (implicitDefEqProofs := false) (disch := omega) only [↓rI_s, ↓rV_s, ↓rI_e, ↓rV_e, zc_eq, zc_ne, zc_lt, zc_ge, zc_gt, zc_le, zlt_t, zlt_f, zle_t, zle_f, zeq_t, zeq_f, lz, zadd, zsub, zmul, zneg, zb_e0, zb_e1, boo0, boo1, ua_s, ua_n, ua_ua, up_s, u2_s, u2_f, u2_c, u2_u2, Int.natCast_add, Int.zero_add, Int.add_zero, ↓reduceIte, ne_eq, not_true_eq_false, not_false_eq_true, Int.natCast_one]
    rw [g1, show (0 : Int) + 1 = 1 by decide, g2, k_X0_seekGainOf_10]
    simp (implicitDefEqProofs := false) (disch := omega) only [↓rI_s, ↓rV_s, ↓rI_e, ↓rV_e, zc_eq, zc_ne, zc_lt, zc_ge, zc_gt, zc_le, zlt_t, zlt_f, zle_t, zle_f, zeq_t, zeq_f, lz, zadd, zsub, zmul, zneg, zb_e0, zb_e1, boo0, boo1, ua_s, ua_n, ua_ua, up_s, u2_s, u2_f, u2_c, u2_u2, Int.natCast_add, Int.zero_add, Int.add_zero, ↓reduceIte, ne_eq, not_true_eq_false, not_false_eq_true, Int.natCast_one]
    rfl
theorem c_seekGain {h : Int} (hd : 7 ≤ d) (hX : cX R F s I A) (hh : wI h) : ∃ A', fr [22, 23] A A' ∧ q_call q_MT d 3 [.ref 45, .int (zI h)] (zM I A W) = some (.inl none, zM (gI R F s h I (18 * rW R)) A' W) := by
  obtain ⟨d, rfl⟩ : ∃ e, d = e + 1 := ⟨d - 1, by omega⟩
  have hR := hX.1
  have hw := hR.1.2.1
  have h5 := hR.1.1
  have e1 := hR.2.2.1
  rw [cl_X0_seekGain]
  simp (implicitDefEqProofs := false) (disch := omega) only [↓rI_s, ↓rV_s, ↓rI_e, ↓rV_e, zc_eq, zc_ne, zc_lt, zc_ge, zc_gt, zc_le, zlt_t, zlt_f, zle_t, zle_f, zeq_t, zeq_f, lz, zadd, zsub, zmul, zneg, zb_e0, zb_e1, boo0, boo1, ua_s, ua_n, ua_ua, up_s, u2_s, u2_f, u2_c, u2_u2, Int.natCast_add, Int.zero_add, Int.add_zero, ↓reduceIte, ne_eq, not_true_eq_false, not_false_eq_true, Int.natCast_one, ↓k_X0_seekGain_0, ↓zp_45_9, ↓zp_45_10]
  refine lp_x (fun j (B : Nat → Int → Int) => q_run qm_X0_seekGain (q_call q_MT d) 12 [.ref 45, .int (zI h), .int (zI j)] [] (zM (gI R F s h I (18 * j)) B W)) (fun j B => fr [22, 23] A B) (fun r => ∃ A', fr [22, 23] A A' ∧ r = some (.inl none, zM (gI R F s h I (18 * rW R)) A' W)) (rW R) ?_ ?_ 0 A (by omega) fr.refl
  · intro B f
    refine ⟨B, f, ?_⟩
    rw [k_X0_seekGain_12]
    simp (implicitDefEqProofs := false) (disch := omega) only [↓rI_s, ↓rV_s, ↓rI_e, ↓rV_e, zc_eq, zc_ne, zc_lt, zc_ge, zc_gt, zc_le, zlt_t, zlt_f, zle_t, zle_f, zeq_t, zeq_f, lz, zadd, zsub, zmul, zneg, zb_e0, zb_e1, boo0, boo1, ua_s, ua_n, ua_ua, up_s, u2_s, u2_f, u2_c, u2_u2, Int.natCast_add, Int.zero_add, Int.add_zero, ↓reduceIte, ne_eq, not_true_eq_false, not_false_eq_true, Int.natCast_one, ↓zg_45_0, ↓zg_5_1, e1, Int.le_refl]
  · intro j B hj f
    have hX1 : cX R F s (gI R F s h I (18 * j)) B := hX.t ((fi.refl.f rfl).f rfl) (f.wd rfl)
    have eo := hX1.1.2.2.2.2.2.2.1 j (by omega) (by omega)
    have bo := hR.1.o (w := j) (by omega) (by omega)
    rw [k_X0_seekGain_12]
    by_cases q1 : rO R j = h
    · by_cases q2 : free R s j
      · obtain ⟨B', f', e⟩ := c_seekGainOf (h := h) (w := j) (W := W) (show 6 ≤ d by omega) (hX.t fi.refl (f.wd rfl)) hj q1 q2
        refine .inr ⟨B', f.tr f', ?_⟩
        simp (implicitDefEqProofs := false) (disch := omega) only [↓rI_s, ↓rV_s, ↓rI_e, ↓rV_e, zc_eq, zc_ne, zc_lt, zc_ge, zc_gt, zc_le, zlt_t, zlt_f, zle_t, zle_f, zeq_t, zeq_f, lz, zadd, zsub, zmul, zneg, zb_e0, zb_e1, boo0, boo1, ua_s, ua_n, ua_ua, up_s, u2_s, u2_f, u2_c, u2_u2, Int.natCast_add, Int.zero_add, Int.add_zero, ↓reduceIte, ne_eq, not_true_eq_false, not_false_eq_true, Int.natCast_one, ↓zg_45_0, ↓zg_5_1, e1, ↓zg_5_6, zl_7, eo, ↓zg_45_1, ↓mc_24]
        rw [c24_isFree (by omega) hX1.1 hX1.2.1 hX1.2.2.1.1.1 (by omega) (by omega), zb_t q2]
        simp (implicitDefEqProofs := false) (disch := omega) only [↓rI_s, ↓rV_s, ↓rI_e, ↓rV_e, zc_eq, zc_ne, zc_lt, zc_ge, zc_gt, zc_le, zlt_t, zlt_f, zle_t, zle_f, zeq_t, zeq_f, lz, zadd, zsub, zmul, zneg, zb_e0, zb_e1, boo0, boo1, ua_s, ua_n, ua_ua, up_s, u2_s, u2_f, u2_c, u2_u2, Int.natCast_add, Int.zero_add, Int.add_zero, ↓reduceIte, ne_eq, not_true_eq_false, not_false_eq_true, Int.natCast_one, ↓mc_45, e, ↓k_X0_seekGain_52]
        rfl
      · refine .inr ⟨B, f, ?_⟩
        have e := gn_skip (F := F) (fun q => q2 q.2 : ¬ (rO R j = h ∧ free R s j)) 18 (by omega)
        have e' : gI R F s h I (18 * (j + 1)) = gI R F s h I (18 * j) := by
          unfold gI cG; rw [show 18 * (j + 1) = 18 * j + 18 by omega, e]
        rw [e']
        simp (implicitDefEqProofs := false) (disch := omega) only [↓rI_s, ↓rV_s, ↓rI_e, ↓rV_e, zc_eq, zc_ne, zc_lt, zc_ge, zc_gt, zc_le, zlt_t, zlt_f, zle_t, zle_f, zeq_t, zeq_f, lz, zadd, zsub, zmul, zneg, zb_e0, zb_e1, boo0, boo1, ua_s, ua_n, ua_ua, up_s, u2_s, u2_f, u2_c, u2_u2, Int.natCast_add, Int.zero_add, Int.add_zero, ↓reduceIte, ne_eq, not_true_eq_false, not_false_eq_true, Int.natCast_one, ↓zg_45_0, ↓zg_5_1, e1, ↓zg_5_6, zl_7, eo, ↓zg_45_1, ↓mc_24]
        rw [c24_isFree (by omega) hX1.1 hX1.2.1 hX1.2.2.1.1.1 (by omega) (by omega), zb_f q2]
        simp (implicitDefEqProofs := false) (disch := omega) only [↓rI_s, ↓rV_s, ↓rI_e, ↓rV_e, zc_eq, zc_ne, zc_lt, zc_ge, zc_gt, zc_le, zlt_t, zlt_f, zle_t, zle_f, zeq_t, zeq_f, lz, zadd, zsub, zmul, zneg, zb_e0, zb_e1, boo0, boo1, ua_s, ua_n, ua_ua, up_s, u2_s, u2_f, u2_c, u2_u2, Int.natCast_add, Int.zero_add, Int.add_zero, ↓reduceIte, ne_eq, not_true_eq_false, not_false_eq_true, Int.natCast_one, ↓mc_45, ↓k_X0_seekGain_52]
    · refine .inr ⟨B, f, ?_⟩
      have e := gn_skip (F := F) (fun q => q1 q.1 : ¬ (rO R j = h ∧ free R s j)) 18 (by omega)
      have e' : gI R F s h I (18 * (j + 1)) = gI R F s h I (18 * j) := by
        unfold gI cG; rw [show 18 * (j + 1) = 18 * j + 18 by omega, e]
      rw [e']
      simp (implicitDefEqProofs := false) (disch := omega) only [↓rI_s, ↓rV_s, ↓rI_e, ↓rV_e, zc_eq, zc_ne, zc_lt, zc_ge, zc_gt, zc_le, zlt_t, zlt_f, zle_t, zle_f, zeq_t, zeq_f, lz, zadd, zsub, zmul, zneg, zb_e0, zb_e1, boo0, boo1, ua_s, ua_n, ua_ua, up_s, u2_s, u2_f, u2_c, u2_u2, Int.natCast_add, Int.zero_add, Int.add_zero, ↓reduceIte, ne_eq, not_true_eq_false, not_false_eq_true, Int.natCast_one, ↓zg_45_0, ↓zg_5_1, e1, ↓zg_5_6, zl_7, eo, ↓k_X0_seekGain_52]
theorem C_gain {h k : Int} (hd : 8 ≤ d) (hX : cX R F s I A) (hh : wI h) (hk : wI k) : cOut I A W (q_call q_MT d 129 [.ref 2, .int (zI h), .int (zI k)] (zM I A W)) (if 0 ≤ h ∧ h < rH R then (if 0 ≤ k ∧ k ≤ 1 then 0 else 2) else 1) (vGain R F s h k) := by
  obtain ⟨d, rfl⟩ : ∃ e, d = e + 1 := ⟨d - 1, by omega⟩
  have hR := hX.1
  rw [cl_X10_gain]
  by_cases h1 : 0 ≤ h ∧ h < rH R
  · by_cases h2 : 0 ≤ k ∧ k ≤ 1
    · rw [if_pos h1, if_pos h2]
      obtain ⟨A', f, e⟩ := c_seekGain (W := W) (show 7 ≤ d by omega) hX hh
      refine cOut.ok (I1 := gI R F s h I (18 * rW R)) ((fi.refl.f rfl).f rfl) (f.wd rfl) ?_
      have : k = 0 ∨ k = 1 := by omega
      rcases this with rfl | rfl
      · simp (implicitDefEqProofs := false) (disch := omega) only [↓rI_s, ↓rV_s, ↓rI_e, ↓rV_e, zc_eq, zc_ne, zc_lt, zc_ge, zc_gt, zc_le, zlt_t, zlt_f, zle_t, zle_f, zeq_t, zeq_f, lz, zadd, zsub, zmul, zneg, zb_e0, zb_e1, boo0, boo1, ua_s, ua_n, ua_ua, up_s, u2_s, u2_f, u2_c, u2_u2, Int.natCast_add, Int.zero_add, Int.add_zero, ↓reduceIte, ne_eq, not_true_eq_false, not_false_eq_true, Int.natCast_one, ↓k_X10_gain_0, ↓k_X10_gain_40, ↓mc_2, s_needWink (show 2 ≤ d by omega) hR, s_needWink_f (show 2 ≤ d by omega) hR, s_needCup (show 2 ≤ d by omega) hR, s_needCup_f (show 2 ≤ d by omega) hR, s_needHouse (show 2 ≤ d by omega) hR, s_needHouse_f (show 2 ≤ d by omega) hR, s_needThere, s_needThere_f, s_needPress, s_needPress_f, s_needWhat, s_needWhat_f, s_needWithin, s_needWithin_f, s_need1, s_need0, t0_0, t0_1, ↓zg_2_8, ↓mc_45, e, ↓zg_45_9, ↓zg_45_10]; rfl
      · simp (implicitDefEqProofs := false) (disch := omega) only [↓rI_s, ↓rV_s, ↓rI_e, ↓rV_e, zc_eq, zc_ne, zc_lt, zc_ge, zc_gt, zc_le, zlt_t, zlt_f, zle_t, zle_f, zeq_t, zeq_f, lz, zadd, zsub, zmul, zneg, zb_e0, zb_e1, boo0, boo1, ua_s, ua_n, ua_ua, up_s, u2_s, u2_f, u2_c, u2_u2, Int.natCast_add, Int.zero_add, Int.add_zero, ↓reduceIte, ne_eq, not_true_eq_false, not_false_eq_true, Int.natCast_one, ↓k_X10_gain_0, ↓k_X10_gain_40, ↓mc_2, s_needWink (show 2 ≤ d by omega) hR, s_needWink_f (show 2 ≤ d by omega) hR, s_needCup (show 2 ≤ d by omega) hR, s_needCup_f (show 2 ≤ d by omega) hR, s_needHouse (show 2 ≤ d by omega) hR, s_needHouse_f (show 2 ≤ d by omega) hR, s_needThere, s_needThere_f, s_needPress, s_needPress_f, s_needWhat, s_needWhat_f, s_needWithin, s_needWithin_f, s_need1, s_need0, t0_0, t0_1, ↓zg_2_8, ↓mc_45, e, ↓zg_45_9, ↓zg_45_10]; rfl
    · rw [if_pos h1, if_neg h2]
      exact cOut.il (by simp (implicitDefEqProofs := false) (disch := omega) only [↓rI_s, ↓rV_s, ↓rI_e, ↓rV_e, zc_eq, zc_ne, zc_lt, zc_ge, zc_gt, zc_le, zlt_t, zlt_f, zle_t, zle_f, zeq_t, zeq_f, lz, zadd, zsub, zmul, zneg, zb_e0, zb_e1, boo0, boo1, ua_s, ua_n, ua_ua, up_s, u2_s, u2_f, u2_c, u2_u2, Int.natCast_add, Int.zero_add, Int.add_zero, ↓reduceIte, ne_eq, not_true_eq_false, not_false_eq_true, Int.natCast_one, ↓k_X10_gain_0, ↓mc_2, s_needWink (show 2 ≤ d by omega) hR, s_needWink_f (show 2 ≤ d by omega) hR, s_needCup (show 2 ≤ d by omega) hR, s_needCup_f (show 2 ≤ d by omega) hR, s_needHouse (show 2 ≤ d by omega) hR, s_needHouse_f (show 2 ≤ d by omega) hR, s_needThere, s_needThere_f, s_needPress, s_needPress_f, s_needWhat, s_needWhat_f, s_needWithin, s_needWithin_f, s_need1, s_need0, t0_0, t0_1])
  · rw [if_neg h1]
    exact cOut.ns (by simp (implicitDefEqProofs := false) (disch := omega) only [↓rI_s, ↓rV_s, ↓rI_e, ↓rV_e, zc_eq, zc_ne, zc_lt, zc_ge, zc_gt, zc_le, zlt_t, zlt_f, zle_t, zle_f, zeq_t, zeq_f, lz, zadd, zsub, zmul, zneg, zb_e0, zb_e1, boo0, boo1, ua_s, ua_n, ua_ua, up_s, u2_s, u2_f, u2_c, u2_u2, Int.natCast_add, Int.zero_add, Int.add_zero, ↓reduceIte, ne_eq, not_true_eq_false, not_false_eq_true, Int.natCast_one, ↓k_X10_gain_0, ↓mc_2, s_needWink (show 2 ≤ d by omega) hR, s_needWink_f (show 2 ≤ d by omega) hR, s_needCup (show 2 ≤ d by omega) hR, s_needCup_f (show 2 ≤ d by omega) hR, s_needHouse (show 2 ≤ d by omega) hR, s_needHouse_f (show 2 ≤ d by omega) hR, s_needThere, s_needThere_f, s_needPress, s_needPress_f, s_needWhat, s_needWhat_f, s_needWithin, s_needWithin_f, s_need1, s_need0, t0_0, t0_1])
theorem M_gain {h k : Int} (hd : 11 ≤ d) (hX : mX R F s I A) (hh : wI h) (hk : wI k) : mOut I A W (q_call q_MT d 242 [.ref 59, .int (zI h), .int (zI k)] (zM I A W)) (if 0 ≤ h ∧ h < rH R then (if 0 ≤ k ∧ k ≤ 1 then 0 else 2) else 1) (vGain R F s h k) 2 := by
  obtain ⟨d, rfl⟩ : ∃ e, d = e + 1 := ⟨d - 1, by omega⟩
  have hY := hX.y
  have hR := hX.1
  have hs := hX.2.1
  have hw := hR.1.2.1
  have h5 := hR.1.1
  have hc4 := hR.1.2.2.1
  have e1 := hR.2.2.1
  rw [cl_X11_gain]
  by_cases h1 : 0 ≤ h ∧ h < rH R
  · by_cases h2 : 0 ≤ k ∧ k ≤ 1
    · rw [if_pos h1, if_pos h2]
      simp (implicitDefEqProofs := false) (disch := omega) only [↓rI_s, ↓rV_s, ↓rI_e, ↓rV_e, zc_eq, zc_ne, zc_lt, zc_ge, zc_gt, zc_le, zlt_t, zlt_f, zle_t, zle_f, zeq_t, zeq_f, lz, zadd, zsub, zmul, zneg, zb_e0, zb_e1, boo0, boo1, ua_s, ua_n, ua_ua, up_s, u2_s, u2_f, u2_c, u2_u2, Int.natCast_add, Int.zero_add, Int.add_zero, ↓reduceIte, ne_eq, not_true_eq_false, not_false_eq_true, Int.natCast_one, ↓k_X11_gain_0, ↓mc_59, ↓zp_59_0, s_within, s_within_f, s_isPress, s_isPress_f, s_isWink (show 2 ≤ d by omega) hR, s_isWink_f (show 2 ≤ d by omega) hR, s_isHouse (show 2 ≤ d by omega) hR, s_isHouse_f (show 2 ≤ d by omega) hR, s_may1, s_may0, m_take (show 2 ≤ d by omega), hs]
      refine lp_x (fun j (B : (Nat → Int → Int) × Value × Value × Value × Value) => q_run qm_X11_gain (q_call q_MT d) 43 [.ref 59, .int (zI h), .int (zI k), .int (zI (gnN R F s h j).1), .int (zI (gnN R F s h j).2), .int (zI j), B.2.1, B.2.2.1, B.2.2.2.1, B.2.2.2.2] [] (zM (u2 I 59 0 0) B.1 W)) (fun j B => fr [72, 73] (ua A 77 s) B.1) (fun r => mOut I A W r 0 (vGain R F s h k) 2) (18 * rW R) ?_ ?_ 0 (_, _, _, _, _) (by omega) fr.refl
      · rintro ⟨B, l6, l7, l8, l9⟩ f
        refine mOut.ok (I1 := u2 I 59 0 0) (A1 := B) (fi.refl.f rfl) ((fr.refl.a rfl).tr (f.wd rfl)) u2_s ?_
        have gb := gn_b (F := F) (s := s) (h := h) hR.1 (18 * rW R) (by omega)
        dsimp only
        rw [k_X11_gain_43]
        have : k = 0 ∨ k = 1 := by omega
        rcases this with rfl | rfl
        · have ev : vGain R F s h 0 = cG R F s h (18 * rW R) := rfl
          rw [ev]
          by_cases q : (gnN R F s h (18 * rW R)).1 = -1
          · have ec : cG R F s h (18 * rW R) = 0 := if_pos q
            rw [ec]
            simp (implicitDefEqProofs := false) (disch := omega) only [↓rI_s, ↓rV_s, ↓rI_e, ↓rV_e, zc_eq, zc_ne, zc_lt, zc_ge, zc_gt, zc_le, zlt_t, zlt_f, zle_t, zle_f, zeq_t, zeq_f, lz, zadd, zsub, zmul, zneg, zb_e0, zb_e1, boo0, boo1, ua_s, ua_n, ua_ua, up_s, u2_s, u2_f, u2_c, u2_u2, Int.natCast_add, Int.zero_add, Int.add_zero, ↓reduceIte, ne_eq, not_true_eq_false, not_false_eq_true, Int.natCast_one, ↓zg_59_22, e1, ↓k_X11_gain_193, q]
          · have ec : cG R F s h (18 * rW R) = (gnN R F s h (18 * rW R)).1 := if_neg q
            rw [ec]
            simp (implicitDefEqProofs := false) (disch := omega) only [↓rI_s, ↓rV_s, ↓rI_e, ↓rV_e, zc_eq, zc_ne, zc_lt, zc_ge, zc_gt, zc_le, zlt_t, zlt_f, zle_t, zle_f, zeq_t, zeq_f, lz, zadd, zsub, zmul, zneg, zb_e0, zb_e1, boo0, boo1, ua_s, ua_n, ua_ua, up_s, u2_s, u2_f, u2_c, u2_u2, Int.natCast_add, Int.zero_add, Int.add_zero, ↓reduceIte, ne_eq, not_true_eq_false, not_false_eq_true, Int.natCast_one, ↓zg_59_22, e1, ↓k_X11_gain_193]
        · have ev : vGain R F s h 1 = (gnN R F s h (18 * rW R)).2 := rfl
          rw [ev]
          simp (implicitDefEqProofs := false) (disch := omega) only [↓rI_s, ↓rV_s, ↓rI_e, ↓rV_e, zc_eq, zc_ne, zc_lt, zc_ge, zc_gt, zc_le, zlt_t, zlt_f, zle_t, zle_f, zeq_t, zeq_f, lz, zadd, zsub, zmul, zneg, zb_e0, zb_e1, boo0, boo1, ua_s, ua_n, ua_ua, up_s, u2_s, u2_f, u2_c, u2_u2, Int.natCast_add, Int.zero_add, Int.add_zero, ↓reduceIte, ne_eq, not_true_eq_false, not_false_eq_true, Int.natCast_one, ↓zg_59_22, e1, ↓k_X11_gain_193]
      · rintro j ⟨B, l6, l7, l8, l9⟩ hj f
        have gb := gn_b (F := F) (s := s) (h := h) hR.1 j (by omega)
        have hYB := hY.t fi.refl (f.wd rfl)
        have hRB := hYB.1
        have eo := hRB.2.2.2.2.2.2.1 ((j : Int) / 18) (by omega) (by omega)
        have bo := hR.1.o (w := (j : Int) / 18) (by omega) (by omega)
        dsimp only at f hRB hYB eo ⊢
        rw [k_X11_gain_43]
        have eS : gnN R F s h (j + 1) = if (rO R ((j : Int) / 18) = h ∧ free R s ((j : Int) / 18)) ∧ (gnN R F s h j).1 < paid R F s ((j : Int) / 18) ((j : Int) / 2 - (j : Int) / 2 / 9 * 9 + 1) ((j : Int) - (j : Int) / 2 * 2) then (paid R F s ((j : Int) / 18) ((j : Int) / 2 - (j : Int) / 2 / 9 * 9 + 1) ((j : Int) - (j : Int) / 2 * 2), 100 * ((j : Int) / 18) + 10 * ((j : Int) / 2 - (j : Int) / 2 / 9 * 9 + 1) + ((j : Int) - (j : Int) / 2 * 2)) else gnN R F s h j := rfl
        by_cases q1 : rO R ((j : Int) / 18) = h
        · by_cases q2 : free R s ((j : Int) / 18)
          · obtain ⟨B', f', e⟩ := m_cupOf (p := (j : Int) / 2 - (j : Int) / 2 / 9 * 9 + 1) (h := (j : Int) - (j : Int) / 2 * 2) (W := W) (show 9 ≤ d by omega) hYB (w := (j : Int) / 18) (by omega) (by omega) (by omega)
            have cb := chit_b (R := R) (F := F) (s := s) (w := (j : Int) / 18) (p := (j : Int) / 2 - (j : Int) / 2 / 9 * 9 + 1) (h := (j : Int) - (j : Int) / 2 * 2)
            have pb := paid_b (F := F) (s := s) (w := (j : Int) / 18) (p := (j : Int) / 2 - (j : Int) / 2 / 9 * 9 + 1) (h := (j : Int) - (j : Int) / 2 * 2) hR.1
            have key : ∀ l8 : Value, ∃ l9', q_run qm_X11_gain (q_call q_MT d) 135 [.ref 59, .int (zI h), .int (zI k), .int (zI (gnN R F s h j).1), .int (zI (gnN R F s h j).2), .int (zI j), .int (zI ((j : Int) / 18)), .int (zI ((j : Int) / 2 - (j : Int) / 2 / 9 * 9 + 1)), l8, l9] [.int (zI (paid R F s ((j : Int) / 18) ((j : Int) / 2 - (j : Int) / 2 / 9 * 9 + 1) ((j : Int) - (j : Int) / 2 * 2)))] (zM (u2 I 59 0 0) B' W) = q_run qm_X11_gain (q_call q_MT d) 43 [.ref 59, .int (zI h), .int (zI k), .int (zI (gnN R F s h (j + 1)).1), .int (zI (gnN R F s h (j + 1)).2), .int (zI ((j : Int) + 1)), .int (zI ((j : Int) / 18)), .int (zI ((j : Int) / 2 - (j : Int) / 2 / 9 * 9 + 1)), l8, l9'] [] (zM (u2 I 59 0 0) B' W) := by
              intro l8
              refine ⟨.int (zI (paid R F s ((j : Int) / 18) ((j : Int) / 2 - (j : Int) / 2 / 9 * 9 + 1) ((j : Int) - (j : Int) / 2 * 2))), ?_⟩
              rw [k_X11_gain_135]
              by_cases q3 : (gnN R F s h j).1 < paid R F s ((j : Int) / 18) ((j : Int) / 2 - (j : Int) / 2 / 9 * 9 + 1) ((j : Int) - (j : Int) / 2 * 2)
              · rw [eS, if_pos (show (rO R ((j : Int) / 18) = h ∧ free R s ((j : Int) / 18)) ∧ _ from ⟨⟨q1, q2⟩, q3⟩)]
                simp (implicitDefEqProofs := false) (disch := omega) only [↓rI_s, ↓rV_s, ↓rI_e, ↓rV_e, zc_eq, zc_ne, zc_lt, zc_ge, zc_gt, zc_le, zlt_t, zlt_f, zle_t, zle_f, zeq_t, zeq_f, lz, zadd, zsub, zmul, zneg, zb_e0, zb_e1, boo0, boo1, ua_s, ua_n, ua_ua, up_s, u2_s, u2_f, u2_c, u2_u2, Int.natCast_add, Int.zero_add, Int.add_zero, ↓reduceIte, ne_eq, not_true_eq_false, not_false_eq_true, Int.natCast_one, zdiv, ↓k_X11_gain_167]
              · rw [eS, if_neg (show ¬ ((rO R ((j : Int) / 18) = h ∧ free R s ((j : Int) / 18)) ∧ _) from fun q => q3 q.2)]
                simp (implicitDefEqProofs := false) (disch := omega) only [↓rI_s, ↓rV_s, ↓rI_e, ↓rV_e, zc_eq, zc_ne, zc_lt, zc_ge, zc_gt, zc_le, zlt_t, zlt_f, zle_t, zle_f, zeq_t, zeq_f, lz, zadd, zsub, zmul, zneg, zb_e0, zb_e1, boo0, boo1, ua_s, ua_n, ua_ua, up_s, u2_s, u2_f, u2_c, u2_u2, Int.natCast_add, Int.zero_add, Int.add_zero, ↓reduceIte, ne_eq, not_true_eq_false, not_false_eq_true, Int.natCast_one, zdiv, ↓k_X11_gain_167]
            by_cases q3 : chit R F s ((j : Int) / 18) ((j : Int) / 2 - (j : Int) / 2 / 9 * 9 + 1) ((j : Int) - (j : Int) / 2 * 2) = -1
            · obtain ⟨l9', e3⟩ := key (.int (zI (-1)))
              refine .inr ⟨(B', .int (zI ((j : Int) / 18)), .int (zI ((j : Int) / 2 - (j : Int) / 2 / 9 * 9 + 1)), .int (zI (-1)), l9'), f.tr f', ?_⟩
              have ep : paid R F s ((j : Int) / 18) ((j : Int) / 2 - (j : Int) / 2 / 9 * 9 + 1) ((j : Int) - (j : Int) / 2 * 2) = 0 := if_pos q3
              rw [ep] at e3
              rw [q3] at e
              simp (implicitDefEqProofs := false) (disch := omega) only [↓rI_s, ↓rV_s, ↓rI_e, ↓rV_e, zc_eq, zc_ne, zc_lt, zc_ge, zc_gt, zc_le, zlt_t, zlt_f, zle_t, zle_f, zeq_t, zeq_f, lz, zadd, zsub, zmul, zneg, zb_e0, zb_e1, boo0, boo1, ua_s, ua_n, ua_ua, up_s, u2_s, u2_f, u2_c, u2_u2, Int.natCast_add, Int.zero_add, Int.add_zero, ↓reduceIte, ne_eq, not_true_eq_false, not_false_eq_true, Int.natCast_one, ↓zg_59_22, e1, ↓zg_59_14, zl_66, zdiv, eo, ↓mc_59]
              rw [m_canFlick (A := B) (by omega) hRB (by rw [hYB.2.1]; exact hYB.2.2.1.1.1.b hR.1) (by omega) (by omega), hYB.2.1, zb_t q2]
              simp (implicitDefEqProofs := false) (disch := omega) only [↓rI_s, ↓rV_s, ↓rI_e, ↓rV_e, zc_eq, zc_ne, zc_lt, zc_ge, zc_gt, zc_le, zlt_t, zlt_f, zle_t, zle_f, zeq_t, zeq_f, lz, zadd, zsub, zmul, zneg, zb_e0, zb_e1, boo0, boo1, ua_s, ua_n, ua_ua, up_s, u2_s, u2_f, u2_c, u2_u2, Int.natCast_add, Int.zero_add, Int.add_zero, ↓reduceIte, ne_eq, not_true_eq_false, not_false_eq_true, Int.natCast_one, ↓mc_59, e]
              exact e3
            · obtain ⟨l9', e3⟩ := key (.int (zI (chit R F s ((j : Int) / 18) ((j : Int) / 2 - (j : Int) / 2 / 9 * 9 + 1) ((j : Int) - (j : Int) / 2 * 2))))
              refine .inr ⟨(B', .int (zI ((j : Int) / 18)), .int (zI ((j : Int) / 2 - (j : Int) / 2 / 9 * 9 + 1)), .int (zI (chit R F s ((j : Int) / 18) ((j : Int) / 2 - (j : Int) / 2 / 9 * 9 + 1) ((j : Int) - (j : Int) / 2 * 2))), l9'), f.tr f', ?_⟩
              have ep : paid R F s ((j : Int) / 18) ((j : Int) / 2 - (j : Int) / 2 / 9 * 9 + 1) ((j : Int) - (j : Int) / 2 * 2) = rP R (chit R F s ((j : Int) / 18) ((j : Int) / 2 - (j : Int) / 2 / 9 * 9 + 1) ((j : Int) - (j : Int) / 2 * 2)) := if_neg q3
              have erp := (hRB.fr f' rfl).2.2.2.2.2.2.2.2.2 _ (show 0 ≤ chit R F s ((j : Int) / 18) ((j : Int) / 2 - (j : Int) / 2 / 9 * 9 + 1) ((j : Int) - (j : Int) / 2 * 2) by omega) cb.2
              rw [ep] at e3
              simp (implicitDefEqProofs := false) (disch := omega) only [↓rI_s, ↓rV_s, ↓rI_e, ↓rV_e, zc_eq, zc_ne, zc_lt, zc_ge, zc_gt, zc_le, zlt_t, zlt_f, zle_t, zle_f, zeq_t, zeq_f, lz, zadd, zsub, zmul, zneg, zb_e0, zb_e1, boo0, boo1, ua_s, ua_n, ua_ua, up_s, u2_s, u2_f, u2_c, u2_u2, Int.natCast_add, Int.zero_add, Int.add_zero, ↓reduceIte, ne_eq, not_true_eq_false, not_false_eq_true, Int.natCast_one, ↓zg_59_22, e1, ↓zg_59_14, zl_66, zdiv, eo, ↓mc_59]
              rw [m_canFlick (A := B) (by omega) hRB (by rw [hYB.2.1]; exact hYB.2.2.1.1.1.b hR.1) (by omega) (by omega), hYB.2.1, zb_t q2]
              simp (implicitDefEqProofs := false) (disch := omega) only [↓rI_s, ↓rV_s, ↓rI_e, ↓rV_e, zc_eq, zc_ne, zc_lt, zc_ge, zc_gt, zc_le, zlt_t, zlt_f, zle_t, zle_f, zeq_t, zeq_f, lz, zadd, zsub, zmul, zneg, zb_e0, zb_e1, boo0, boo1, ua_s, ua_n, ua_ua, up_s, u2_s, u2_f, u2_c, u2_u2, Int.natCast_add, Int.zero_add, Int.add_zero, ↓reduceIte, ne_eq, not_true_eq_false, not_false_eq_true, Int.natCast_one, ↓mc_59, e, ↓k_X11_gain_124, ↓zg_59_15, zl_67, erp]
              exact e3
          · refine .inr ⟨(B, .int (zI ((j : Int) / 18)), .int (zI ((j : Int) / 2 - (j : Int) / 2 / 9 * 9 + 1)), l8, l9), f, ?_⟩
            rw [eS, if_neg (show ¬ ((rO R ((j : Int) / 18) = h ∧ free R s ((j : Int) / 18)) ∧ _) from fun q => q2 q.1.2)]
            simp (implicitDefEqProofs := false) (disch := omega) only [↓rI_s, ↓rV_s, ↓rI_e, ↓rV_e, zc_eq, zc_ne, zc_lt, zc_ge, zc_gt, zc_le, zlt_t, zlt_f, zle_t, zle_f, zeq_t, zeq_f, lz, zadd, zsub, zmul, zneg, zb_e0, zb_e1, boo0, boo1, ua_s, ua_n, ua_ua, up_s, u2_s, u2_f, u2_c, u2_u2, Int.natCast_add, Int.zero_add, Int.add_zero, ↓reduceIte, ne_eq, not_true_eq_false, not_false_eq_true, Int.natCast_one, ↓zg_59_22, e1, ↓zg_59_14, zl_66, zdiv, eo, ↓mc_59]
            rw [m_canFlick (A := B) (by omega) hRB (by rw [hYB.2.1]; exact hYB.2.2.1.1.1.b hR.1) (by omega) (by omega), hYB.2.1, zb_f q2]
            simp (implicitDefEqProofs := false) (disch := omega) only [↓rI_s, ↓rV_s, ↓rI_e, ↓rV_e, zc_eq, zc_ne, zc_lt, zc_ge, zc_gt, zc_le, zlt_t, zlt_f, zle_t, zle_f, zeq_t, zeq_f, lz, zadd, zsub, zmul, zneg, zb_e0, zb_e1, boo0, boo1, ua_s, ua_n, ua_ua, up_s, u2_s, u2_f, u2_c, u2_u2, Int.natCast_add, Int.zero_add, Int.add_zero, ↓reduceIte, ne_eq, not_true_eq_false, not_false_eq_true, Int.natCast_one, ↓k_X11_gain_167]
        · refine .inr ⟨(B, .int (zI ((j : Int) / 18)), .int (zI ((j : Int) / 2 - (j : Int) / 2 / 9 * 9 + 1)), l8, l9), f, ?_⟩
          rw [eS, if_neg (show ¬ ((rO R ((j : Int) / 18) = h ∧ free R s ((j : Int) / 18)) ∧ _) from fun q => q1 q.1.1)]
          simp (implicitDefEqProofs := false) (disch := omega) only [↓rI_s, ↓rV_s, ↓rI_e, ↓rV_e, zc_eq, zc_ne, zc_lt, zc_ge, zc_gt, zc_le, zlt_t, zlt_f, zle_t, zle_f, zeq_t, zeq_f, lz, zadd, zsub, zmul, zneg, zb_e0, zb_e1, boo0, boo1, ua_s, ua_n, ua_ua, up_s, u2_s, u2_f, u2_c, u2_u2, Int.natCast_add, Int.zero_add, Int.add_zero, ↓reduceIte, ne_eq, not_true_eq_false, not_false_eq_true, Int.natCast_one, ↓zg_59_22, e1, ↓zg_59_14, zl_66, zdiv, eo, ↓k_X11_gain_167]
    · rw [if_pos h1, if_neg h2]
      exact mOut.il fr.refl (by simp (implicitDefEqProofs := false) (disch := omega) only [↓rI_s, ↓rV_s, ↓rI_e, ↓rV_e, zc_eq, zc_ne, zc_lt, zc_ge, zc_gt, zc_le, zlt_t, zlt_f, zle_t, zle_f, zeq_t, zeq_f, lz, zadd, zsub, zmul, zneg, zb_e0, zb_e1, boo0, boo1, ua_s, ua_n, ua_ua, up_s, u2_s, u2_f, u2_c, u2_u2, Int.natCast_add, Int.zero_add, Int.add_zero, ↓reduceIte, ne_eq, not_true_eq_false, not_false_eq_true, Int.natCast_one, ↓k_X11_gain_0, ↓k_X11_gain_29, ↓k_X11_gain_124, ↓k_X11_gain_135, ↓k_X11_gain_167, ↓k_X11_gain_193, zp_59_0, ↓mc_59, ↓zg_59_22, ↓zg_59_14, zl_66, zs_66, ↓zn_66, ↓zg_59_15, zl_67, zs_67, ↓zn_67, ↓mc_59, ↓zp_59_0, s_within, s_within_f, s_isPress, s_isPress_f, s_isWink (show 2 ≤ d by omega) hR, s_isWink_f (show 2 ≤ d by omega) hR, s_isHouse (show 2 ≤ d by omega) hR, s_isHouse_f (show 2 ≤ d by omega) hR, s_may1, s_may0, m_take (show 2 ≤ d by omega)])
  · rw [if_neg h1]
    exact mOut.ns (by simp (implicitDefEqProofs := false) (disch := omega) only [↓rI_s, ↓rV_s, ↓rI_e, ↓rV_e, zc_eq, zc_ne, zc_lt, zc_ge, zc_gt, zc_le, zlt_t, zlt_f, zle_t, zle_f, zeq_t, zeq_f, lz, zadd, zsub, zmul, zneg, zb_e0, zb_e1, boo0, boo1, ua_s, ua_n, ua_ua, up_s, u2_s, u2_f, u2_c, u2_u2, Int.natCast_add, Int.zero_add, Int.add_zero, ↓reduceIte, ne_eq, not_true_eq_false, not_false_eq_true, Int.natCast_one, ↓k_X11_gain_0, ↓k_X11_gain_29, ↓k_X11_gain_124, ↓k_X11_gain_135, ↓k_X11_gain_167, ↓k_X11_gain_193, zp_59_0, ↓mc_59, ↓zg_59_22, ↓zg_59_14, zl_66, zs_66, ↓zn_66, ↓zg_59_15, zl_67, zs_67, ↓zn_67, ↓mc_59, ↓zp_59_0, s_within, s_within_f, s_isPress, s_isPress_f, s_isWink (show 2 ≤ d by omega) hR, s_isWink_f (show 2 ≤ d by omega) hR, s_isHouse (show 2 ≤ d by omega) hR, s_isHouse_f (show 2 ≤ d by omega) hR, s_may1, s_may0, m_take (show 2 ≤ d by omega)])
end Q4
