/-! The class's questions of a board. -/
section CQ
variable {d : Nat} {I : Nat → Nat → Int} {A : Nat → Int → Int} {W : qWt} {R : zR} {s : Int → Int} {kx : Nat → Nat → qH → qR} {k : Int32 → qH → qR}
theorem c_cupAt {x : Int} (hd : 1 ≤ d) (hR : cR R I A) (h0 : -1000 ≤ x ∧ x ≤ 1000) : q_rI (q_call q_MT d 78 [.ref 5, .int (zI x)] (zM I A W)) kx k = k (zI (cupAt R x)) (zM I A W) := by
  obtain ⟨d, rfl⟩ : ∃ e, d = e + 1 := ⟨d - 1, by omega⟩
  obtain ⟨⟨-, -, hw, -, hf, -, -, -, -, hx, -⟩, -, -, hn, -, -, -, -, hc, -⟩ := hR
  refine cI ?_
  rw [cl_X6_cupAt]
  simp (implicitDefEqProofs := false) (disch := omega) only [↓rI_s, ↓rV_s, ↓rI_e, ↓rV_e, zc_eq, zc_ne, zc_lt, zc_ge, zc_gt, zc_le, zlt_t, zlt_f, zle_t, zle_f, zeq_t, zeq_f, lz, zadd, zsub, zmul, zneg, zb_e0, zb_e1, boo0, boo1, ua_s, ua_n, ua_ua, up_s, u2_s, u2_f, u2_c, u2_u2, Int.natCast_add, Int.zero_add, Int.add_zero, ↓reduceIte, ne_eq, not_true_eq_false, not_false_eq_true, Int.natCast_one, ↓k_X6_cupAt_0, ↓zg_5_2, ↓zg_12_2, ↓zg_5_9, zl_10, zs_10, ↓zn_10, ↓zg_12_9, zl_17, zs_17, ↓zn_17]
  refine lp_x (fun j (a : Unit) => q_run qm_X6_cupAt (q_call q_MT d) 2 [.ref 5, .int (zI x), .int (zI j)] [] (zM I A W)) (fun j a => ∀ i : Nat, i < j → ¬ decide (rX R i = x) = true) (fun r => r = _) (rC R) ?_ ?_ 0 () (by omega) (fun i hi => absurd hi (by omega))
  · intro a ha
    rw [k_X6_cupAt_2]
    simp (implicitDefEqProofs := false) (disch := omega) only [↓rI_s, ↓rV_s, ↓rI_e, ↓rV_e, zc_eq, zc_ne, zc_lt, zc_ge, zc_gt, zc_le, zlt_t, zlt_f, zle_t, zle_f, zeq_t, zeq_f, lz, zadd, zsub, zmul, zneg, zb_e0, zb_e1, boo0, boo1, ua_s, ua_n, ua_ua, up_s, u2_s, u2_f, u2_c, u2_u2, Int.natCast_add, Int.zero_add, Int.add_zero, ↓reduceIte, ne_eq, not_true_eq_false, not_false_eq_true, Int.natCast_one, ↓k_X6_cupAt_0, ↓zg_5_2, ↓zg_12_2, ↓zg_5_9, zl_10, zs_10, ↓zn_10, ↓zg_12_9, zl_17, zs_17, ↓zn_17, hn, Int.le_refl]
    rw [cupAt, fst_no ha]
  · intro j a hj ha
    have hb := hx j (by omega) (by omega)
    have hcj := hc j (by omega) (by omega)
    rw [k_X6_cupAt_2]
    by_cases h : rX R j = x
    · refine .inl ?_
      simp (implicitDefEqProofs := false) (disch := omega) only [↓rI_s, ↓rV_s, ↓rI_e, ↓rV_e, zc_eq, zc_ne, zc_lt, zc_ge, zc_gt, zc_le, zlt_t, zlt_f, zle_t, zle_f, zeq_t, zeq_f, lz, zadd, zsub, zmul, zneg, zb_e0, zb_e1, boo0, boo1, ua_s, ua_n, ua_ua, up_s, u2_s, u2_f, u2_c, u2_u2, Int.natCast_add, Int.zero_add, Int.add_zero, ↓reduceIte, ne_eq, not_true_eq_false, not_false_eq_true, Int.natCast_one, ↓k_X6_cupAt_0, ↓zg_5_2, ↓zg_12_2, ↓zg_5_9, zl_10, zs_10, ↓zn_10, ↓zg_12_9, zl_17, zs_17, ↓zn_17, hn, hcj, h]
      rw [cupAt, fst_at hj ha (decide_eq_true h)]
    · refine .inr ⟨(), fun i hi => ?_, ?_⟩
      · by_cases e : i = j
        · subst e; simpa using h
        · exact ha i (by omega)
      · simp (implicitDefEqProofs := false) (disch := omega) only [↓rI_s, ↓rV_s, ↓rI_e, ↓rV_e, zc_eq, zc_ne, zc_lt, zc_ge, zc_gt, zc_le, zlt_t, zlt_f, zle_t, zle_f, zeq_t, zeq_f, lz, zadd, zsub, zmul, zneg, zb_e0, zb_e1, boo0, boo1, ua_s, ua_n, ua_ua, up_s, u2_s, u2_f, u2_c, u2_u2, Int.natCast_add, Int.zero_add, Int.add_zero, ↓reduceIte, ne_eq, not_true_eq_false, not_false_eq_true, Int.natCast_one, ↓k_X6_cupAt_0, ↓zg_5_2, ↓zg_12_2, ↓zg_5_9, zl_10, zs_10, ↓zn_10, ↓zg_12_9, zl_17, zs_17, ↓zn_17, hn, hcj]
theorem c24_isOnFelt {w : Int} (hd : 1 ≤ d) (hR : cR R I A) (hB : bR R s (A 25) (A 26) (A 27) (A 28) (A 29) (I 24 7) (I 24 8)) (hs : sP R s) (h0 : 0 ≤ w) (h1 : w < rW R) : q_rI (q_call q_MT d 22 [.ref 24, .int (zI w)] (zM I A W)) kx k = k (zI (zb (0 ≤ s w))) (zM I A W) := by
  obtain ⟨d, rfl⟩ : ∃ e, d = e + 1 := ⟨d - 1, by omega⟩
  have hw : rW R ≤ 10 := hR.1.2.1
  have hf : rF R ≤ 30 := hR.1.2.2.2.2.1
  have hc4 : rC R ≤ 4 := hR.1.2.2.1
  have hb := hB.1 w h0 h1
  have he := enc_f hs h0 h1
  have hp := hs w h0 h1
  refine cI ?_
  rw [cl_X1_isOnFelt]
  by_cases h : 0 ≤ s w
  · simp (implicitDefEqProofs := false) (disch := omega) only [↓rI_s, ↓rV_s, ↓rI_e, ↓rV_e, zc_eq, zc_ne, zc_lt, zc_ge, zc_gt, zc_le, zlt_t, zlt_f, zle_t, zle_f, zeq_t, zeq_f, lz, zadd, zsub, zmul, zneg, zb_e0, zb_e1, boo0, boo1, ua_s, ua_n, ua_ua, up_s, u2_s, u2_f, u2_c, u2_u2, Int.natCast_add, Int.zero_add, Int.add_zero, ↓reduceIte, ne_eq, not_true_eq_false, not_false_eq_true, Int.natCast_one, ↓k_X1_isOnFelt_0, ↓k_X1_isOnFelt_24, ↓k_X1_isOnFelt_25, ↓zg_24_2, zl_25, zs_25, ↓zn_25]
    rw [zb_t h]
  · simp (implicitDefEqProofs := false) (disch := omega) only [↓rI_s, ↓rV_s, ↓rI_e, ↓rV_e, zc_eq, zc_ne, zc_lt, zc_ge, zc_gt, zc_le, zlt_t, zlt_f, zle_t, zle_f, zeq_t, zeq_f, lz, zadd, zsub, zmul, zneg, zb_e0, zb_e1, boo0, boo1, ua_s, ua_n, ua_ua, up_s, u2_s, u2_f, u2_c, u2_u2, Int.natCast_add, Int.zero_add, Int.add_zero, ↓reduceIte, ne_eq, not_true_eq_false, not_false_eq_true, Int.natCast_one, ↓k_X1_isOnFelt_0, ↓k_X1_isOnFelt_24, ↓k_X1_isOnFelt_25, ↓zg_24_2, zl_25, zs_25, ↓zn_25]
    rw [zb_f h]
theorem c24_onTopOf {w : Int} (hd : 1 ≤ d) (hR : cR R I A) (hB : bR R s (A 25) (A 26) (A 27) (A 28) (A 29) (I 24 7) (I 24 8)) (hs : sP R s) (h0 : 0 ≤ w) (h1 : w < rW R) : q_rI (q_call q_MT d 23 [.ref 24, .int (zI w)] (zM I A W)) kx k = k (zI (over R s w)) (zM I A W) := by
  obtain ⟨d, rfl⟩ : ∃ e, d = e + 1 := ⟨d - 1, by omega⟩
  have hw : rW R ≤ 10 := hR.1.2.1
  have hf : rF R ≤ 30 := hR.1.2.2.2.2.1
  have hc4 : rC R ≤ 4 := hR.1.2.2.1
  have hb := hB.1 w h0 h1
  have hu := hB.2.1 w h0 h1
  have he := enc_f hs h0 h1
  have hp := hs w h0 h1
  refine cI ?_
  rw [cl_X1_onTopOf]
  by_cases h : 0 ≤ s w
  · have hh := hB.2.2.2.2.1 (s w) h (by omega)
    have hb2 : A 25 w = s w := hb.trans (he.1 h)
    clear he hb
    simp (implicitDefEqProofs := false) (disch := omega) only [↓rI_s, ↓rV_s, ↓rI_e, ↓rV_e, zc_eq, zc_ne, zc_lt, zc_ge, zc_gt, zc_le, zlt_t, zlt_f, zle_t, zle_f, zeq_t, zeq_f, lz, zadd, zsub, zmul, zneg, zb_e0, zb_e1, boo0, boo1, ua_s, ua_n, ua_ua, up_s, u2_s, u2_f, u2_c, u2_u2, Int.natCast_add, Int.zero_add, Int.add_zero, ↓reduceIte, ne_eq, not_true_eq_false, not_false_eq_true, Int.natCast_one, ↓k_X1_onTopOf_0, ↓k_X1_onTopOf_35, ↓k_X1_onTopOf_36, ↓zg_24_2, zl_25, zs_25, ↓zn_25, ↓zg_24_6, zl_29, zs_29, ↓zn_29, ↓zg_24_3, zl_26, zs_26, ↓zn_26, hb2, hh, hu]
    rw [over, if_neg (by omega)]
  · simp (implicitDefEqProofs := false) (disch := omega) only [↓rI_s, ↓rV_s, ↓rI_e, ↓rV_e, zc_eq, zc_ne, zc_lt, zc_ge, zc_gt, zc_le, zlt_t, zlt_f, zle_t, zle_f, zeq_t, zeq_f, lz, zadd, zsub, zmul, zneg, zb_e0, zb_e1, boo0, boo1, ua_s, ua_n, ua_ua, up_s, u2_s, u2_f, u2_c, u2_u2, Int.natCast_add, Int.zero_add, Int.add_zero, ↓reduceIte, ne_eq, not_true_eq_false, not_false_eq_true, Int.natCast_one, ↓k_X1_onTopOf_0, ↓k_X1_onTopOf_35, ↓k_X1_onTopOf_36, ↓zg_24_2, zl_25, zs_25, ↓zn_25, ↓zg_24_6, zl_29, zs_29, ↓zn_29, ↓zg_24_3, zl_26, zs_26, ↓zn_26]
    rw [over, if_pos (by omega)]
theorem c24_isFree {w : Int} (hd : 2 ≤ d) (hR : cR R I A) (hB : bR R s (A 25) (A 26) (A 27) (A 28) (A 29) (I 24 7) (I 24 8)) (hs : sP R s) (h0 : 0 ≤ w) (h1 : w < rW R) : q_rI (q_call q_MT d 24 [.ref 24, .int (zI w)] (zM I A W)) kx k = k (zI (zb (free R s w))) (zM I A W) := by
  obtain ⟨d, rfl⟩ : ∃ e, d = e + 1 := ⟨d - 1, by omega⟩
  have hw : rW R ≤ 10 := hR.1.2.1
  have hp := hs w h0 h1
  have hm := many_lo R s (s w)
  have hm2 := many_hi R s (s w)
  refine cI ?_
  rw [cl_X1_isFree]
  simp (implicitDefEqProofs := false) (disch := omega) only [↓rI_s, ↓rV_s, ↓rI_e, ↓rV_e, zc_eq, zc_ne, zc_lt, zc_ge, zc_gt, zc_le, zlt_t, zlt_f, zle_t, zle_f, zeq_t, zeq_f, lz, zadd, zsub, zmul, zneg, zb_e0, zb_e1, boo0, boo1, ua_s, ua_n, ua_ua, up_s, u2_s, u2_f, u2_c, u2_u2, Int.natCast_add, Int.zero_add, Int.add_zero, ↓reduceIte, ne_eq, not_true_eq_false, not_false_eq_true, Int.natCast_one, ↓k_X1_isFree_0, ↓k_X1_isFree_20, ↓k_X1_isFree_21, ↓mc_24, ↓mc_30]
  rw [c24_isOnFelt (by omega) hR hB hs h0 h1]
  by_cases h : 0 ≤ s w
  · have ho : over R s w = many R s (s w) - 1 - s (10 + w) := by rw [over, if_neg (by omega)]
    simp (implicitDefEqProofs := false) (disch := omega) only [↓rI_s, ↓rV_s, ↓rI_e, ↓rV_e, zc_eq, zc_ne, zc_lt, zc_ge, zc_gt, zc_le, zlt_t, zlt_f, zle_t, zle_f, zeq_t, zeq_f, lz, zadd, zsub, zmul, zneg, zb_e0, zb_e1, boo0, boo1, ua_s, ua_n, ua_ua, up_s, u2_s, u2_f, u2_c, u2_u2, Int.natCast_add, Int.zero_add, Int.add_zero, ↓reduceIte, ne_eq, not_true_eq_false, not_false_eq_true, Int.natCast_one, ↓k_X1_isFree_0, ↓k_X1_isFree_20, ↓k_X1_isFree_21, ↓mc_24, ↓mc_30, h]
    rw [c24_onTopOf (by omega) hR hB hs h0 h1]
    by_cases h2 : over R s w = 0
    · simp (implicitDefEqProofs := false) (disch := omega) only [↓rI_s, ↓rV_s, ↓rI_e, ↓rV_e, zc_eq, zc_ne, zc_lt, zc_ge, zc_gt, zc_le, zlt_t, zlt_f, zle_t, zle_f, zeq_t, zeq_f, lz, zadd, zsub, zmul, zneg, zb_e0, zb_e1, boo0, boo1, ua_s, ua_n, ua_ua, up_s, u2_s, u2_f, u2_c, u2_u2, Int.natCast_add, Int.zero_add, Int.add_zero, ↓reduceIte, ne_eq, not_true_eq_false, not_false_eq_true, Int.natCast_one, ↓k_X1_isFree_0, ↓k_X1_isFree_20, ↓k_X1_isFree_21, ↓mc_24, ↓mc_30]
      rw [zb_t ⟨h, h2⟩]
    · simp (implicitDefEqProofs := false) (disch := omega) only [↓rI_s, ↓rV_s, ↓rI_e, ↓rV_e, zc_eq, zc_ne, zc_lt, zc_ge, zc_gt, zc_le, zlt_t, zlt_f, zle_t, zle_f, zeq_t, zeq_f, lz, zadd, zsub, zmul, zneg, zb_e0, zb_e1, boo0, boo1, ua_s, ua_n, ua_ua, up_s, u2_s, u2_f, u2_c, u2_u2, Int.natCast_add, Int.zero_add, Int.add_zero, ↓reduceIte, ne_eq, not_true_eq_false, not_false_eq_true, Int.natCast_one, ↓k_X1_isFree_0, ↓k_X1_isFree_20, ↓k_X1_isFree_21, ↓mc_24, ↓mc_30]
      rw [zb_f fun q => h2 q.2]
  · simp (implicitDefEqProofs := false) (disch := omega) only [↓rI_s, ↓rV_s, ↓rI_e, ↓rV_e, zc_eq, zc_ne, zc_lt, zc_ge, zc_gt, zc_le, zlt_t, zlt_f, zle_t, zle_f, zeq_t, zeq_f, lz, zadd, zsub, zmul, zneg, zb_e0, zb_e1, boo0, boo1, ua_s, ua_n, ua_ua, up_s, u2_s, u2_f, u2_c, u2_u2, Int.natCast_add, Int.zero_add, Int.add_zero, ↓reduceIte, ne_eq, not_true_eq_false, not_false_eq_true, Int.natCast_one, ↓k_X1_isFree_0, ↓k_X1_isFree_20, ↓k_X1_isFree_21, ↓mc_24, ↓mc_30, h]
    rw [zb_f fun q => h q.1]
theorem c24_isFrozen {w : Int} (hd : 2 ≤ d) (hR : cR R I A) (hB : bR R s (A 25) (A 26) (A 27) (A 28) (A 29) (I 24 7) (I 24 8)) (hs : sP R s) (h0 : 0 ≤ w) (h1 : w < rW R) : q_rI (q_call q_MT d 25 [.ref 24, .int (zI w)] (zM I A W)) kx k = k (zI (zb (0 < over R s w))) (zM I A W) := by
  obtain ⟨d, rfl⟩ : ∃ e, d = e + 1 := ⟨d - 1, by omega⟩
  have hw : rW R ≤ 10 := hR.1.2.1
  have hp := hs w h0 h1
  have hm := many_lo R s (s w)
  have hm2 := many_hi R s (s w)
  have ho : over R s w = 0 ∨ over R s w = many R s (s w) - 1 - s (10 + w) := by
    unfold over; split <;> omega
  refine cI ?_
  rw [cl_X1_isFrozen]
  simp (implicitDefEqProofs := false) (disch := omega) only [↓rI_s, ↓rV_s, ↓rI_e, ↓rV_e, zc_eq, zc_ne, zc_lt, zc_ge, zc_gt, zc_le, zlt_t, zlt_f, zle_t, zle_f, zeq_t, zeq_f, lz, zadd, zsub, zmul, zneg, zb_e0, zb_e1, boo0, boo1, ua_s, ua_n, ua_ua, up_s, u2_s, u2_f, u2_c, u2_u2, Int.natCast_add, Int.zero_add, Int.add_zero, ↓reduceIte, ne_eq, not_true_eq_false, not_false_eq_true, Int.natCast_one, ↓k_X1_isFrozen_0, ↓k_X1_isFrozen_13, ↓mc_24, ↓mc_30]
  rw [c24_onTopOf (by omega) hR hB hs h0 h1]
  by_cases h : 0 < over R s w
  · simp (implicitDefEqProofs := false) (disch := omega) only [↓rI_s, ↓rV_s, ↓rI_e, ↓rV_e, zc_eq, zc_ne, zc_lt, zc_ge, zc_gt, zc_le, zlt_t, zlt_f, zle_t, zle_f, zeq_t, zeq_f, lz, zadd, zsub, zmul, zneg, zb_e0, zb_e1, boo0, boo1, ua_s, ua_n, ua_ua, up_s, u2_s, u2_f, u2_c, u2_u2, Int.natCast_add, Int.zero_add, Int.add_zero, ↓reduceIte, ne_eq, not_true_eq_false, not_false_eq_true, Int.natCast_one, ↓k_X1_isFrozen_0, ↓k_X1_isFrozen_13, ↓mc_24, ↓mc_30]
    rw [zb_t h]
  · simp (implicitDefEqProofs := false) (disch := omega) only [↓rI_s, ↓rV_s, ↓rI_e, ↓rV_e, zc_eq, zc_ne, zc_lt, zc_ge, zc_gt, zc_le, zlt_t, zlt_f, zle_t, zle_f, zeq_t, zeq_f, lz, zadd, zsub, zmul, zneg, zb_e0, zb_e1, boo0, boo1, ua_s, ua_n, ua_ua, up_s, u2_s, u2_f, u2_c, u2_u2, Int.natCast_add, Int.zero_add, Int.add_zero, ↓reduceIte, ne_eq, not_true_eq_false, not_false_eq_true, Int.natCast_one, ↓k_X1_isFrozen_0, ↓k_X1_isFrozen_13, ↓mc_24, ↓mc_30]
    rw [zb_f h]
theorem c24_freeBits (hd : 3 ≤ d) (hR : cR R I A) (hB : bR R s (A 25) (A 26) (A 27) (A 28) (A 29) (I 24 7) (I 24 8)) (hs : sP R s) : q_rI (q_call q_MT d 26 [.ref 24] (zM I A W)) kx k = k (zI (bts (rW R) fun w => decide (free R s w))) (zM I A W) := by
  obtain ⟨d, rfl⟩ : ∃ e, d = e + 1 := ⟨d - 1, by omega⟩
  have hw : rW R ≤ 10 := hR.1.2.1
  have hn := hR.2.2.1
  refine cI ?_
  rw [cl_X1_freeBits]
  simp (implicitDefEqProofs := false) (disch := omega) only [↓rI_s, ↓rV_s, ↓rI_e, ↓rV_e, zc_eq, zc_ne, zc_lt, zc_ge, zc_gt, zc_le, zlt_t, zlt_f, zle_t, zle_f, zeq_t, zeq_f, lz, zadd, zsub, zmul, zneg, zb_e0, zb_e1, boo0, boo1, ua_s, ua_n, ua_ua, up_s, u2_s, u2_f, u2_c, u2_u2, Int.natCast_add, Int.zero_add, Int.add_zero, ↓reduceIte, ne_eq, not_true_eq_false, not_false_eq_true, Int.natCast_one, ↓k_X1_freeBits_0, ↓k_X1_freeBits_31, ↓zg_24_0, ↓zg_5_1, ↓mc_24, ↓mc_30]
  refine lp_x (fun j (a : Int) => q_run qm_X1_freeBits (q_call q_MT d) 4 [.ref 24, .int (zI a), .int (zI j)] [] (zM I A W)) (fun j a => a = bts j fun w => decide (free R s w)) (fun r => r = _) (rW R) ?_ ?_ 0 0 (by omega) rfl
  · rintro a rfl
    rw [k_X1_freeBits_4]
    simp (implicitDefEqProofs := false) (disch := omega) only [↓rI_s, ↓rV_s, ↓rI_e, ↓rV_e, zc_eq, zc_ne, zc_lt, zc_ge, zc_gt, zc_le, zlt_t, zlt_f, zle_t, zle_f, zeq_t, zeq_f, lz, zadd, zsub, zmul, zneg, zb_e0, zb_e1, boo0, boo1, ua_s, ua_n, ua_ua, up_s, u2_s, u2_f, u2_c, u2_u2, Int.natCast_add, Int.zero_add, Int.add_zero, ↓reduceIte, ne_eq, not_true_eq_false, not_false_eq_true, Int.natCast_one, ↓k_X1_freeBits_0, ↓k_X1_freeBits_31, ↓zg_24_0, ↓zg_5_1, ↓mc_24, ↓mc_30, hn, Int.le_refl]
  · rintro j a hj rfl
    refine .inr ⟨_, rfl, ?_⟩
    rw [k_X1_freeBits_4]
    simp (implicitDefEqProofs := false) (disch := omega) only [↓rI_s, ↓rV_s, ↓rI_e, ↓rV_e, zc_eq, zc_ne, zc_lt, zc_ge, zc_gt, zc_le, zlt_t, zlt_f, zle_t, zle_f, zeq_t, zeq_f, lz, zadd, zsub, zmul, zneg, zb_e0, zb_e1, boo0, boo1, ua_s, ua_n, ua_ua, up_s, u2_s, u2_f, u2_c, u2_u2, Int.natCast_add, Int.zero_add, Int.add_zero, ↓reduceIte, ne_eq, not_true_eq_false, not_false_eq_true, Int.natCast_one, ↓k_X1_freeBits_0, ↓k_X1_freeBits_31, ↓zg_24_0, ↓zg_5_1, ↓mc_24, ↓mc_30, hn]
    rw [c24_isFree (by omega) hR hB hs (by omega) (by omega)]
    by_cases h : free R s j
    · rw [zb_t h]
      simp (implicitDefEqProofs := false) (disch := omega) only [↓rI_s, ↓rV_s, ↓rI_e, ↓rV_e, zc_eq, zc_ne, zc_lt, zc_ge, zc_gt, zc_le, zlt_t, zlt_f, zle_t, zle_f, zeq_t, zeq_f, lz, zadd, zsub, zmul, zneg, zb_e0, zb_e1, boo0, boo1, ua_s, ua_n, ua_ua, up_s, u2_s, u2_f, u2_c, u2_u2, Int.natCast_add, Int.zero_add, Int.add_zero, ↓reduceIte, ne_eq, not_true_eq_false, not_false_eq_true, Int.natCast_one, ↓k_X1_freeBits_0, ↓k_X1_freeBits_31, ↓zg_24_0, ↓zg_5_1, ↓mc_24, ↓mc_30, bts_t (p := fun w => decide (free R s w)) (show j < 10 by omega) (decide_eq_true h)]
    · rw [zb_f h]
      simp (implicitDefEqProofs := false) (disch := omega) only [↓rI_s, ↓rV_s, ↓rI_e, ↓rV_e, zc_eq, zc_ne, zc_lt, zc_ge, zc_gt, zc_le, zlt_t, zlt_f, zle_t, zle_f, zeq_t, zeq_f, lz, zadd, zsub, zmul, zneg, zb_e0, zb_e1, boo0, boo1, ua_s, ua_n, ua_ua, up_s, u2_s, u2_f, u2_c, u2_u2, Int.natCast_add, Int.zero_add, Int.add_zero, ↓reduceIte, ne_eq, not_true_eq_false, not_false_eq_true, Int.natCast_one, ↓k_X1_freeBits_0, ↓k_X1_freeBits_31, ↓zg_24_0, ↓zg_5_1, ↓mc_24, ↓mc_30, bts_f (p := fun w => decide (free R s w)) (j := j) (by simpa using h)]
theorem c30_isOnFelt {w : Int} (hd : 1 ≤ d) (hR : cR R I A) (hB : bR R s (A 31) (A 32) (A 33) (A 34) (A 35) (I 30 7) (I 30 8)) (hs : sP R s) (h0 : 0 ≤ w) (h1 : w < rW R) : q_rI (q_call q_MT d 22 [.ref 30, .int (zI w)] (zM I A W)) kx k = k (zI (zb (0 ≤ s w))) (zM I A W) := by
  obtain ⟨d, rfl⟩ : ∃ e, d = e + 1 := ⟨d - 1, by omega⟩
  have hw : rW R ≤ 10 := hR.1.2.1
  have hf : rF R ≤ 30 := hR.1.2.2.2.2.1
  have hc4 : rC R ≤ 4 := hR.1.2.2.1
  have hb := hB.1 w h0 h1
  have he := enc_f hs h0 h1
  have hp := hs w h0 h1
  refine cI ?_
  rw [cl_X1_isOnFelt]
  by_cases h : 0 ≤ s w
  · simp (implicitDefEqProofs := false) (disch := omega) only [↓rI_s, ↓rV_s, ↓rI_e, ↓rV_e, zc_eq, zc_ne, zc_lt, zc_ge, zc_gt, zc_le, zlt_t, zlt_f, zle_t, zle_f, zeq_t, zeq_f, lz, zadd, zsub, zmul, zneg, zb_e0, zb_e1, boo0, boo1, ua_s, ua_n, ua_ua, up_s, u2_s, u2_f, u2_c, u2_u2, Int.natCast_add, Int.zero_add, Int.add_zero, ↓reduceIte, ne_eq, not_true_eq_false, not_false_eq_true, Int.natCast_one, ↓k_X1_isOnFelt_0, ↓k_X1_isOnFelt_24, ↓k_X1_isOnFelt_25, ↓zg_30_2, zl_31, zs_31, ↓zn_31]
    rw [zb_t h]
  · simp (implicitDefEqProofs := false) (disch := omega) only [↓rI_s, ↓rV_s, ↓rI_e, ↓rV_e, zc_eq, zc_ne, zc_lt, zc_ge, zc_gt, zc_le, zlt_t, zlt_f, zle_t, zle_f, zeq_t, zeq_f, lz, zadd, zsub, zmul, zneg, zb_e0, zb_e1, boo0, boo1, ua_s, ua_n, ua_ua, up_s, u2_s, u2_f, u2_c, u2_u2, Int.natCast_add, Int.zero_add, Int.add_zero, ↓reduceIte, ne_eq, not_true_eq_false, not_false_eq_true, Int.natCast_one, ↓k_X1_isOnFelt_0, ↓k_X1_isOnFelt_24, ↓k_X1_isOnFelt_25, ↓zg_30_2, zl_31, zs_31, ↓zn_31]
    rw [zb_f h]
theorem c30_onTopOf {w : Int} (hd : 1 ≤ d) (hR : cR R I A) (hB : bR R s (A 31) (A 32) (A 33) (A 34) (A 35) (I 30 7) (I 30 8)) (hs : sP R s) (h0 : 0 ≤ w) (h1 : w < rW R) : q_rI (q_call q_MT d 23 [.ref 30, .int (zI w)] (zM I A W)) kx k = k (zI (over R s w)) (zM I A W) := by
  obtain ⟨d, rfl⟩ : ∃ e, d = e + 1 := ⟨d - 1, by omega⟩
  have hw : rW R ≤ 10 := hR.1.2.1
  have hf : rF R ≤ 30 := hR.1.2.2.2.2.1
  have hc4 : rC R ≤ 4 := hR.1.2.2.1
  have hb := hB.1 w h0 h1
  have hu := hB.2.1 w h0 h1
  have he := enc_f hs h0 h1
  have hp := hs w h0 h1
  refine cI ?_
  rw [cl_X1_onTopOf]
  by_cases h : 0 ≤ s w
  · have hh := hB.2.2.2.2.1 (s w) h (by omega)
    have hb2 : A 31 w = s w := hb.trans (he.1 h)
    clear he hb
    simp (implicitDefEqProofs := false) (disch := omega) only [↓rI_s, ↓rV_s, ↓rI_e, ↓rV_e, zc_eq, zc_ne, zc_lt, zc_ge, zc_gt, zc_le, zlt_t, zlt_f, zle_t, zle_f, zeq_t, zeq_f, lz, zadd, zsub, zmul, zneg, zb_e0, zb_e1, boo0, boo1, ua_s, ua_n, ua_ua, up_s, u2_s, u2_f, u2_c, u2_u2, Int.natCast_add, Int.zero_add, Int.add_zero, ↓reduceIte, ne_eq, not_true_eq_false, not_false_eq_true, Int.natCast_one, ↓k_X1_onTopOf_0, ↓k_X1_onTopOf_35, ↓k_X1_onTopOf_36, ↓zg_30_2, zl_31, zs_31, ↓zn_31, ↓zg_30_6, zl_35, zs_35, ↓zn_35, ↓zg_30_3, zl_32, zs_32, ↓zn_32, hb2, hh, hu]
    rw [over, if_neg (by omega)]
  · simp (implicitDefEqProofs := false) (disch := omega) only [↓rI_s, ↓rV_s, ↓rI_e, ↓rV_e, zc_eq, zc_ne, zc_lt, zc_ge, zc_gt, zc_le, zlt_t, zlt_f, zle_t, zle_f, zeq_t, zeq_f, lz, zadd, zsub, zmul, zneg, zb_e0, zb_e1, boo0, boo1, ua_s, ua_n, ua_ua, up_s, u2_s, u2_f, u2_c, u2_u2, Int.natCast_add, Int.zero_add, Int.add_zero, ↓reduceIte, ne_eq, not_true_eq_false, not_false_eq_true, Int.natCast_one, ↓k_X1_onTopOf_0, ↓k_X1_onTopOf_35, ↓k_X1_onTopOf_36, ↓zg_30_2, zl_31, zs_31, ↓zn_31, ↓zg_30_6, zl_35, zs_35, ↓zn_35, ↓zg_30_3, zl_32, zs_32, ↓zn_32]
    rw [over, if_pos (by omega)]
theorem c30_isFree {w : Int} (hd : 2 ≤ d) (hR : cR R I A) (hB : bR R s (A 31) (A 32) (A 33) (A 34) (A 35) (I 30 7) (I 30 8)) (hs : sP R s) (h0 : 0 ≤ w) (h1 : w < rW R) : q_rI (q_call q_MT d 24 [.ref 30, .int (zI w)] (zM I A W)) kx k = k (zI (zb (free R s w))) (zM I A W) := by
  obtain ⟨d, rfl⟩ : ∃ e, d = e + 1 := ⟨d - 1, by omega⟩
  have hw : rW R ≤ 10 := hR.1.2.1
  have hp := hs w h0 h1
  have hm := many_lo R s (s w)
  have hm2 := many_hi R s (s w)
  refine cI ?_
  rw [cl_X1_isFree]
  simp (implicitDefEqProofs := false) (disch := omega) only [↓rI_s, ↓rV_s, ↓rI_e, ↓rV_e, zc_eq, zc_ne, zc_lt, zc_ge, zc_gt, zc_le, zlt_t, zlt_f, zle_t, zle_f, zeq_t, zeq_f, lz, zadd, zsub, zmul, zneg, zb_e0, zb_e1, boo0, boo1, ua_s, ua_n, ua_ua, up_s, u2_s, u2_f, u2_c, u2_u2, Int.natCast_add, Int.zero_add, Int.add_zero, ↓reduceIte, ne_eq, not_true_eq_false, not_false_eq_true, Int.natCast_one, ↓k_X1_isFree_0, ↓k_X1_isFree_20, ↓k_X1_isFree_21, ↓mc_24, ↓mc_30]
  rw [c30_isOnFelt (by omega) hR hB hs h0 h1]
  by_cases h : 0 ≤ s w
  · have ho : over R s w = many R s (s w) - 1 - s (10 + w) := by rw [over, if_neg (by omega)]
    simp (implicitDefEqProofs := false) (disch := omega) only [↓rI_s, ↓rV_s, ↓rI_e, ↓rV_e, zc_eq, zc_ne, zc_lt, zc_ge, zc_gt, zc_le, zlt_t, zlt_f, zle_t, zle_f, zeq_t, zeq_f, lz, zadd, zsub, zmul, zneg, zb_e0, zb_e1, boo0, boo1, ua_s, ua_n, ua_ua, up_s, u2_s, u2_f, u2_c, u2_u2, Int.natCast_add, Int.zero_add, Int.add_zero, ↓reduceIte, ne_eq, not_true_eq_false, not_false_eq_true, Int.natCast_one, ↓k_X1_isFree_0, ↓k_X1_isFree_20, ↓k_X1_isFree_21, ↓mc_24, ↓mc_30, h]
    rw [c30_onTopOf (by omega) hR hB hs h0 h1]
    by_cases h2 : over R s w = 0
    · simp (implicitDefEqProofs := false) (disch := omega) only [↓rI_s, ↓rV_s, ↓rI_e, ↓rV_e, zc_eq, zc_ne, zc_lt, zc_ge, zc_gt, zc_le, zlt_t, zlt_f, zle_t, zle_f, zeq_t, zeq_f, lz, zadd, zsub, zmul, zneg, zb_e0, zb_e1, boo0, boo1, ua_s, ua_n, ua_ua, up_s, u2_s, u2_f, u2_c, u2_u2, Int.natCast_add, Int.zero_add, Int.add_zero, ↓reduceIte, ne_eq, not_true_eq_false, not_false_eq_true, Int.natCast_one, ↓k_X1_isFree_0, ↓k_X1_isFree_20, ↓k_X1_isFree_21, ↓mc_24, ↓mc_30]
      rw [zb_t ⟨h, h2⟩]
    · simp (implicitDefEqProofs := false) (disch := omega) only [↓rI_s, ↓rV_s, ↓rI_e, ↓rV_e, zc_eq, zc_ne, zc_lt, zc_ge, zc_gt, zc_le, zlt_t, zlt_f, zle_t, zle_f, zeq_t, zeq_f, lz, zadd, zsub, zmul, zneg, zb_e0, zb_e1, boo0, boo1, ua_s, ua_n, ua_ua, up_s, u2_s, u2_f, u2_c, u2_u2, Int.natCast_add, Int.zero_add, Int.add_zero, ↓reduceIte, ne_eq, not_true_eq_false, not_false_eq_true, Int.natCast_one, ↓k_X1_isFree_0, ↓k_X1_isFree_20, ↓k_X1_isFree_21, ↓mc_24, ↓mc_30]
      rw [zb_f fun q => h2 q.2]
  · simp (implicitDefEqProofs := false) (disch := omega) only [↓rI_s, ↓rV_s, ↓rI_e, ↓rV_e, zc_eq, zc_ne, zc_lt, zc_ge, zc_gt, zc_le, zlt_t, zlt_f, zle_t, zle_f, zeq_t, zeq_f, lz, zadd, zsub, zmul, zneg, zb_e0, zb_e1, boo0, boo1, ua_s, ua_n, ua_ua, up_s, u2_s, u2_f, u2_c, u2_u2, Int.natCast_add, Int.zero_add, Int.add_zero, ↓reduceIte, ne_eq, not_true_eq_false, not_false_eq_true, Int.natCast_one, ↓k_X1_isFree_0, ↓k_X1_isFree_20, ↓k_X1_isFree_21, ↓mc_24, ↓mc_30, h]
    rw [zb_f fun q => h q.1]
theorem c30_isFrozen {w : Int} (hd : 2 ≤ d) (hR : cR R I A) (hB : bR R s (A 31) (A 32) (A 33) (A 34) (A 35) (I 30 7) (I 30 8)) (hs : sP R s) (h0 : 0 ≤ w) (h1 : w < rW R) : q_rI (q_call q_MT d 25 [.ref 30, .int (zI w)] (zM I A W)) kx k = k (zI (zb (0 < over R s w))) (zM I A W) := by
  obtain ⟨d, rfl⟩ : ∃ e, d = e + 1 := ⟨d - 1, by omega⟩
  have hw : rW R ≤ 10 := hR.1.2.1
  have hp := hs w h0 h1
  have hm := many_lo R s (s w)
  have hm2 := many_hi R s (s w)
  have ho : over R s w = 0 ∨ over R s w = many R s (s w) - 1 - s (10 + w) := by
    unfold over; split <;> omega
  refine cI ?_
  rw [cl_X1_isFrozen]
  simp (implicitDefEqProofs := false) (disch := omega) only [↓rI_s, ↓rV_s, ↓rI_e, ↓rV_e, zc_eq, zc_ne, zc_lt, zc_ge, zc_gt, zc_le, zlt_t, zlt_f, zle_t, zle_f, zeq_t, zeq_f, lz, zadd, zsub, zmul, zneg, zb_e0, zb_e1, boo0, boo1, ua_s, ua_n, ua_ua, up_s, u2_s, u2_f, u2_c, u2_u2, Int.natCast_add, Int.zero_add, Int.add_zero, ↓reduceIte, ne_eq, not_true_eq_false, not_false_eq_true, Int.natCast_one, ↓k_X1_isFrozen_0, ↓k_X1_isFrozen_13, ↓mc_24, ↓mc_30]
  rw [c30_onTopOf (by omega) hR hB hs h0 h1]
  by_cases h : 0 < over R s w
  · simp (implicitDefEqProofs := false) (disch := omega) only [↓rI_s, ↓rV_s, ↓rI_e, ↓rV_e, zc_eq, zc_ne, zc_lt, zc_ge, zc_gt, zc_le, zlt_t, zlt_f, zle_t, zle_f, zeq_t, zeq_f, lz, zadd, zsub, zmul, zneg, zb_e0, zb_e1, boo0, boo1, ua_s, ua_n, ua_ua, up_s, u2_s, u2_f, u2_c, u2_u2, Int.natCast_add, Int.zero_add, Int.add_zero, ↓reduceIte, ne_eq, not_true_eq_false, not_false_eq_true, Int.natCast_one, ↓k_X1_isFrozen_0, ↓k_X1_isFrozen_13, ↓mc_24, ↓mc_30]
    rw [zb_t h]
  · simp (implicitDefEqProofs := false) (disch := omega) only [↓rI_s, ↓rV_s, ↓rI_e, ↓rV_e, zc_eq, zc_ne, zc_lt, zc_ge, zc_gt, zc_le, zlt_t, zlt_f, zle_t, zle_f, zeq_t, zeq_f, lz, zadd, zsub, zmul, zneg, zb_e0, zb_e1, boo0, boo1, ua_s, ua_n, ua_ua, up_s, u2_s, u2_f, u2_c, u2_u2, Int.natCast_add, Int.zero_add, Int.add_zero, ↓reduceIte, ne_eq, not_true_eq_false, not_false_eq_true, Int.natCast_one, ↓k_X1_isFrozen_0, ↓k_X1_isFrozen_13, ↓mc_24, ↓mc_30]
    rw [zb_f h]
theorem c30_freeBits (hd : 3 ≤ d) (hR : cR R I A) (hB : bR R s (A 31) (A 32) (A 33) (A 34) (A 35) (I 30 7) (I 30 8)) (hs : sP R s) : q_rI (q_call q_MT d 26 [.ref 30] (zM I A W)) kx k = k (zI (bts (rW R) fun w => decide (free R s w))) (zM I A W) := by
  obtain ⟨d, rfl⟩ : ∃ e, d = e + 1 := ⟨d - 1, by omega⟩
  have hw : rW R ≤ 10 := hR.1.2.1
  have hn := hR.2.2.1
  refine cI ?_
  rw [cl_X1_freeBits]
  simp (implicitDefEqProofs := false) (disch := omega) only [↓rI_s, ↓rV_s, ↓rI_e, ↓rV_e, zc_eq, zc_ne, zc_lt, zc_ge, zc_gt, zc_le, zlt_t, zlt_f, zle_t, zle_f, zeq_t, zeq_f, lz, zadd, zsub, zmul, zneg, zb_e0, zb_e1, boo0, boo1, ua_s, ua_n, ua_ua, up_s, u2_s, u2_f, u2_c, u2_u2, Int.natCast_add, Int.zero_add, Int.add_zero, ↓reduceIte, ne_eq, not_true_eq_false, not_false_eq_true, Int.natCast_one, ↓k_X1_freeBits_0, ↓k_X1_freeBits_31, ↓zg_30_0, ↓zg_5_1, ↓mc_24, ↓mc_30]
  refine lp_x (fun j (a : Int) => q_run qm_X1_freeBits (q_call q_MT d) 4 [.ref 30, .int (zI a), .int (zI j)] [] (zM I A W)) (fun j a => a = bts j fun w => decide (free R s w)) (fun r => r = _) (rW R) ?_ ?_ 0 0 (by omega) rfl
  · rintro a rfl
    rw [k_X1_freeBits_4]
    simp (implicitDefEqProofs := false) (disch := omega) only [↓rI_s, ↓rV_s, ↓rI_e, ↓rV_e, zc_eq, zc_ne, zc_lt, zc_ge, zc_gt, zc_le, zlt_t, zlt_f, zle_t, zle_f, zeq_t, zeq_f, lz, zadd, zsub, zmul, zneg, zb_e0, zb_e1, boo0, boo1, ua_s, ua_n, ua_ua, up_s, u2_s, u2_f, u2_c, u2_u2, Int.natCast_add, Int.zero_add, Int.add_zero, ↓reduceIte, ne_eq, not_true_eq_false, not_false_eq_true, Int.natCast_one, ↓k_X1_freeBits_0, ↓k_X1_freeBits_31, ↓zg_30_0, ↓zg_5_1, ↓mc_24, ↓mc_30, hn, Int.le_refl]
  · rintro j a hj rfl
    refine .inr ⟨_, rfl, ?_⟩
    rw [k_X1_freeBits_4]
    simp (implicitDefEqProofs := false) (disch := omega) only [↓rI_s, ↓rV_s, ↓rI_e, ↓rV_e, zc_eq, zc_ne, zc_lt, zc_ge, zc_gt, zc_le, zlt_t, zlt_f, zle_t, zle_f, zeq_t, zeq_f, lz, zadd, zsub, zmul, zneg, zb_e0, zb_e1, boo0, boo1, ua_s, ua_n, ua_ua, up_s, u2_s, u2_f, u2_c, u2_u2, Int.natCast_add, Int.zero_add, Int.add_zero, ↓reduceIte, ne_eq, not_true_eq_false, not_false_eq_true, Int.natCast_one, ↓k_X1_freeBits_0, ↓k_X1_freeBits_31, ↓zg_30_0, ↓zg_5_1, ↓mc_24, ↓mc_30, hn]
    rw [c30_isFree (by omega) hR hB hs (by omega) (by omega)]
    by_cases h : free R s j
    · rw [zb_t h]
      simp (implicitDefEqProofs := false) (disch := omega) only [↓rI_s, ↓rV_s, ↓rI_e, ↓rV_e, zc_eq, zc_ne, zc_lt, zc_ge, zc_gt, zc_le, zlt_t, zlt_f, zle_t, zle_f, zeq_t, zeq_f, lz, zadd, zsub, zmul, zneg, zb_e0, zb_e1, boo0, boo1, ua_s, ua_n, ua_ua, up_s, u2_s, u2_f, u2_c, u2_u2, Int.natCast_add, Int.zero_add, Int.add_zero, ↓reduceIte, ne_eq, not_true_eq_false, not_false_eq_true, Int.natCast_one, ↓k_X1_freeBits_0, ↓k_X1_freeBits_31, ↓zg_30_0, ↓zg_5_1, ↓mc_24, ↓mc_30, bts_t (p := fun w => decide (free R s w)) (show j < 10 by omega) (decide_eq_true h)]
    · rw [zb_f h]
      simp (implicitDefEqProofs := false) (disch := omega) only [↓rI_s, ↓rV_s, ↓rI_e, ↓rV_e, zc_eq, zc_ne, zc_lt, zc_ge, zc_gt, zc_le, zlt_t, zlt_f, zle_t, zle_f, zeq_t, zeq_f, lz, zadd, zsub, zmul, zneg, zb_e0, zb_e1, boo0, boo1, ua_s, ua_n, ua_ua, up_s, u2_s, u2_f, u2_c, u2_u2, Int.natCast_add, Int.zero_add, Int.add_zero, ↓reduceIte, ne_eq, not_true_eq_false, not_false_eq_true, Int.natCast_one, ↓k_X1_freeBits_0, ↓k_X1_freeBits_31, ↓zg_30_0, ↓zg_5_1, ↓mc_24, ↓mc_30, bts_f (p := fun w => decide (free R s w)) (j := j) (by simpa using h)]
end CQ
