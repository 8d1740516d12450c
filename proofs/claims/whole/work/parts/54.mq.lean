/-! The reference's questions. -/
section MQ
variable {d : Nat} {I : Nat → Nat → Int} {A : Nat → Int → Int} {W : qWt} {R : zR} {kx : Nat → Nat → qH → qR} {k : Int32 → qH → qR}
theorem m_manyAt {x : Int} (hd : 1 ≤ d) (hR : mR R I A) (hs : sB R (A 77)) (h0 : -100 ≤ x) (h1 : x ≤ 100) : q_rI (q_call q_MT d 206 [.ref 59, .int (zI x)] (zM I A W)) kx k = k (zI (many R (A 77) x)) (zM I A W) := by
  obtain ⟨d, rfl⟩ : ∃ e, d = e + 1 := ⟨d - 1, by omega⟩
  obtain ⟨⟨-, hw, -⟩, -, hn, -⟩ := hR
  refine cI ?_
  rw [cl_X11_manyAt]
  simp (implicitDefEqProofs := false) (disch := omega) only [↓rI_s, ↓rV_s, ↓rI_e, ↓rV_e, zc_eq, zc_ne, zc_lt, zc_ge, zc_gt, zc_le, zlt_t, zlt_f, zle_t, zle_f, zeq_t, zeq_f, lz, zadd, zsub, zmul, zneg, zb_e0, zb_e1, boo0, boo1, ua_s, ua_n, ua_ua, up_s, u2_s, u2_f, u2_c, u2_u2, Int.natCast_add, Int.zero_add, Int.add_zero, ↓reduceIte, ne_eq, not_true_eq_false, not_false_eq_true, Int.natCast_one, ↓k_X11_manyAt_0, ↓k_X11_manyAt_30, ↓zg_59_22, ↓zg_59_43, zl_77, zs_77, ↓zn_77]
  refine lp_x (fun j (a : Int) => q_run qm_X11_manyAt (q_call q_MT d) 4 [.ref 59, .int (zI x), .int (zI a), .int (zI j)] [] (zM I A W)) (fun j a => a = cnt j fun w => decide (A 77 w = x)) (fun r => r = _) (rW R) ?_ ?_ 0 0 (by omega) rfl
  · rintro a rfl
    rw [k_X11_manyAt_4]
    simp (implicitDefEqProofs := false) (disch := omega) only [↓rI_s, ↓rV_s, ↓rI_e, ↓rV_e, zc_eq, zc_ne, zc_lt, zc_ge, zc_gt, zc_le, zlt_t, zlt_f, zle_t, zle_f, zeq_t, zeq_f, lz, zadd, zsub, zmul, zneg, zb_e0, zb_e1, boo0, boo1, ua_s, ua_n, ua_ua, up_s, u2_s, u2_f, u2_c, u2_u2, Int.natCast_add, Int.zero_add, Int.add_zero, ↓reduceIte, ne_eq, not_true_eq_false, not_false_eq_true, Int.natCast_one, ↓k_X11_manyAt_0, ↓k_X11_manyAt_30, ↓zg_59_22, ↓zg_59_43, zl_77, zs_77, ↓zn_77, hn, Int.le_refl]
    rfl
  · rintro j a hj rfl
    have hb := hs j (by omega) (by omega)
    refine .inr ⟨_, rfl, ?_⟩
    rw [k_X11_manyAt_4]
    by_cases h : A 77 j = x
    · simp (implicitDefEqProofs := false) (disch := omega) only [↓rI_s, ↓rV_s, ↓rI_e, ↓rV_e, zc_eq, zc_ne, zc_lt, zc_ge, zc_gt, zc_le, zlt_t, zlt_f, zle_t, zle_f, zeq_t, zeq_f, lz, zadd, zsub, zmul, zneg, zb_e0, zb_e1, boo0, boo1, ua_s, ua_n, ua_ua, up_s, u2_s, u2_f, u2_c, u2_u2, Int.natCast_add, Int.zero_add, Int.add_zero, ↓reduceIte, ne_eq, not_true_eq_false, not_false_eq_true, Int.natCast_one, ↓k_X11_manyAt_0, ↓k_X11_manyAt_30, ↓zg_59_22, ↓zg_59_43, zl_77, zs_77, ↓zn_77, hn, h]
      rw [cnt_t (decide_eq_true h)]
    · simp (implicitDefEqProofs := false) (disch := omega) only [↓rI_s, ↓rV_s, ↓rI_e, ↓rV_e, zc_eq, zc_ne, zc_lt, zc_ge, zc_gt, zc_le, zlt_t, zlt_f, zle_t, zle_f, zeq_t, zeq_f, lz, zadd, zsub, zmul, zneg, zb_e0, zb_e1, boo0, boo1, ua_s, ua_n, ua_ua, up_s, u2_s, u2_f, u2_c, u2_u2, Int.natCast_add, Int.zero_add, Int.add_zero, ↓reduceIte, ne_eq, not_true_eq_false, not_false_eq_true, Int.natCast_one, ↓k_X11_manyAt_0, ↓k_X11_manyAt_30, ↓zg_59_22, ↓zg_59_43, zl_77, zs_77, ↓zn_77, hn, h]
      rw [cnt_f (by simpa using h)]
theorem m_over {w : Int} (hd : 2 ≤ d) (hR : mR R I A) (hs : sB R (A 77)) (h0 : 0 ≤ w) (h1 : w < rW R) : q_rI (q_call q_MT d 207 [.ref 59, .int (zI w)] (zM I A W)) kx k = k (zI (over R (A 77) w)) (zM I A W) := by
  obtain ⟨d, rfl⟩ : ∃ e, d = e + 1 := ⟨d - 1, by omega⟩
  have hw : rW R ≤ 10 := hR.1.2.1
  have hb := hs w h0 h1
  refine cI ?_
  rw [cl_X11_over]
  by_cases h : A 77 w < 0
  · simp (implicitDefEqProofs := false) (disch := omega) only [↓rI_s, ↓rV_s, ↓rI_e, ↓rV_e, zc_eq, zc_ne, zc_lt, zc_ge, zc_gt, zc_le, zlt_t, zlt_f, zle_t, zle_f, zeq_t, zeq_f, lz, zadd, zsub, zmul, zneg, zb_e0, zb_e1, boo0, boo1, ua_s, ua_n, ua_ua, up_s, u2_s, u2_f, u2_c, u2_u2, Int.natCast_add, Int.zero_add, Int.add_zero, ↓reduceIte, ne_eq, not_true_eq_false, not_false_eq_true, Int.natCast_one, ↓k_X11_over_0, ↓k_X11_over_39, ↓zg_59_43, zl_77, zs_77, ↓zn_77, ↓mc_59]
    rw [over, if_pos h]
  · simp (implicitDefEqProofs := false) (disch := omega) only [↓rI_s, ↓rV_s, ↓rI_e, ↓rV_e, zc_eq, zc_ne, zc_lt, zc_ge, zc_gt, zc_le, zlt_t, zlt_f, zle_t, zle_f, zeq_t, zeq_f, lz, zadd, zsub, zmul, zneg, zb_e0, zb_e1, boo0, boo1, ua_s, ua_n, ua_ua, up_s, u2_s, u2_f, u2_c, u2_u2, Int.natCast_add, Int.zero_add, Int.add_zero, ↓reduceIte, ne_eq, not_true_eq_false, not_false_eq_true, Int.natCast_one, ↓k_X11_over_0, ↓k_X11_over_39, ↓zg_59_43, zl_77, zs_77, ↓zn_77, ↓mc_59]
    rw [m_manyAt (by omega) hR hs (by omega) (by omega)]
    simp (implicitDefEqProofs := false) (disch := omega) only [↓rI_s, ↓rV_s, ↓rI_e, ↓rV_e, zc_eq, zc_ne, zc_lt, zc_ge, zc_gt, zc_le, zlt_t, zlt_f, zle_t, zle_f, zeq_t, zeq_f, lz, zadd, zsub, zmul, zneg, zb_e0, zb_e1, boo0, boo1, ua_s, ua_n, ua_ua, up_s, u2_s, u2_f, u2_c, u2_u2, Int.natCast_add, Int.zero_add, Int.add_zero, ↓reduceIte, ne_eq, not_true_eq_false, not_false_eq_true, Int.natCast_one, ↓k_X11_over_0, ↓k_X11_over_39, ↓zg_59_43, zl_77, zs_77, ↓zn_77, ↓mc_59]
    rw [over, if_neg h]
theorem m_canFlick {w : Int} (hd : 3 ≤ d) (hR : mR R I A) (hs : sB R (A 77)) (h0 : 0 ≤ w) (h1 : w < rW R) : q_rI (q_call q_MT d 208 [.ref 59, .int (zI w)] (zM I A W)) kx k = k (zI (zb (free R (A 77) w))) (zM I A W) := by
  obtain ⟨d, rfl⟩ : ∃ e, d = e + 1 := ⟨d - 1, by omega⟩
  have hw : rW R ≤ 10 := hR.1.2.1
  have hb := hs w h0 h1
  have hm := many_lo R (A 77) (A 77 w)
  have hm2 := many_hi R (A 77) (A 77 w)
  refine cI ?_
  rw [cl_X11_canFlick]
  by_cases h : A 77 w < 0
  · simp (implicitDefEqProofs := false) (disch := omega) only [↓rI_s, ↓rV_s, ↓rI_e, ↓rV_e, zc_eq, zc_ne, zc_lt, zc_ge, zc_gt, zc_le, zlt_t, zlt_f, zle_t, zle_f, zeq_t, zeq_f, lz, zadd, zsub, zmul, zneg, zb_e0, zb_e1, boo0, boo1, ua_s, ua_n, ua_ua, up_s, u2_s, u2_f, u2_c, u2_u2, Int.natCast_add, Int.zero_add, Int.add_zero, ↓reduceIte, ne_eq, not_true_eq_false, not_false_eq_true, Int.natCast_one, ↓k_X11_canFlick_0, ↓k_X11_canFlick_23, ↓k_X11_canFlick_24, ↓zg_59_43, zl_77, zs_77, ↓zn_77, ↓mc_59]
    rw [zb_f (by omega)]
  · simp (implicitDefEqProofs := false) (disch := omega) only [↓rI_s, ↓rV_s, ↓rI_e, ↓rV_e, zc_eq, zc_ne, zc_lt, zc_ge, zc_gt, zc_le, zlt_t, zlt_f, zle_t, zle_f, zeq_t, zeq_f, lz, zadd, zsub, zmul, zneg, zb_e0, zb_e1, boo0, boo1, ua_s, ua_n, ua_ua, up_s, u2_s, u2_f, u2_c, u2_u2, Int.natCast_add, Int.zero_add, Int.add_zero, ↓reduceIte, ne_eq, not_true_eq_false, not_false_eq_true, Int.natCast_one, ↓k_X11_canFlick_0, ↓k_X11_canFlick_23, ↓k_X11_canFlick_24, ↓zg_59_43, zl_77, zs_77, ↓zn_77, ↓mc_59]
    rw [m_over (by omega) hR hs h0 h1]
    have ho : over R (A 77) w = many R (A 77) (A 77 w) - 1 - A 77 (10 + w) := by rw [over, if_neg h]
    by_cases h2 : over R (A 77) w = 0
    · simp (implicitDefEqProofs := false) (disch := omega) only [↓rI_s, ↓rV_s, ↓rI_e, ↓rV_e, zc_eq, zc_ne, zc_lt, zc_ge, zc_gt, zc_le, zlt_t, zlt_f, zle_t, zle_f, zeq_t, zeq_f, lz, zadd, zsub, zmul, zneg, zb_e0, zb_e1, boo0, boo1, ua_s, ua_n, ua_ua, up_s, u2_s, u2_f, u2_c, u2_u2, Int.natCast_add, Int.zero_add, Int.add_zero, ↓reduceIte, ne_eq, not_true_eq_false, not_false_eq_true, Int.natCast_one, ↓k_X11_canFlick_0, ↓k_X11_canFlick_23, ↓k_X11_canFlick_24, ↓zg_59_43, zl_77, zs_77, ↓zn_77, ↓mc_59, h2]
      rw [zb_t ⟨by omega, h2⟩]
    · simp (implicitDefEqProofs := false) (disch := omega) only [↓rI_s, ↓rV_s, ↓rI_e, ↓rV_e, zc_eq, zc_ne, zc_lt, zc_ge, zc_gt, zc_le, zlt_t, zlt_f, zle_t, zle_f, zeq_t, zeq_f, lz, zadd, zsub, zmul, zneg, zb_e0, zb_e1, boo0, boo1, ua_s, ua_n, ua_ua, up_s, u2_s, u2_f, u2_c, u2_u2, Int.natCast_add, Int.zero_add, Int.add_zero, ↓reduceIte, ne_eq, not_true_eq_false, not_false_eq_true, Int.natCast_one, ↓k_X11_canFlick_0, ↓k_X11_canFlick_23, ↓k_X11_canFlick_24, ↓zg_59_43, zl_77, zs_77, ↓zn_77, ↓mc_59]
      rw [zb_f fun q => h2 q.2]
theorem m_whoAt {x u : Int} (hd : 1 ≤ d) (hR : mR R I A) (hs : sB R (A 77)) (h0 : -100 ≤ x ∧ x ≤ 100) (h1 : -1000 ≤ u ∧ u ≤ 1000) : q_rI (q_call q_MT d 209 [.ref 59, .int (zI x), .int (zI u)] (zM I A W)) kx k = k (zI (who R (A 77) x u)) (zM I A W) := by
  obtain ⟨d, rfl⟩ : ∃ e, d = e + 1 := ⟨d - 1, by omega⟩
  obtain ⟨⟨-, hw, -⟩, -, hn, -⟩ := hR
  refine cI ?_
  rw [cl_X11_whoAt]
  simp (implicitDefEqProofs := false) (disch := omega) only [↓rI_s, ↓rV_s, ↓rI_e, ↓rV_e, zc_eq, zc_ne, zc_lt, zc_ge, zc_gt, zc_le, zlt_t, zlt_f, zle_t, zle_f, zeq_t, zeq_f, lz, zadd, zsub, zmul, zneg, zb_e0, zb_e1, boo0, boo1, ua_s, ua_n, ua_ua, up_s, u2_s, u2_f, u2_c, u2_u2, Int.natCast_add, Int.zero_add, Int.add_zero, ↓reduceIte, ne_eq, not_true_eq_false, not_false_eq_true, Int.natCast_one, ↓k_X11_whoAt_0, ↓k_X11_whoAt_37, ↓zg_59_22, ↓zg_59_43, zl_77, zs_77, ↓zn_77]
  refine lp_x (fun j (a : Unit) => q_run qm_X11_whoAt (q_call q_MT d) 2 [.ref 59, .int (zI x), .int (zI u), .int (zI j)] [] (zM I A W)) (fun j a => ∀ i : Nat, i < j → ¬ decide (A 77 i = x ∧ A 77 (10 + i) = u) = true) (fun r => r = _) (rW R) ?_ ?_ 0 () (by omega) (fun i hi => absurd hi (by omega))
  · intro a ha
    rw [k_X11_whoAt_2]
    simp (implicitDefEqProofs := false) (disch := omega) only [↓rI_s, ↓rV_s, ↓rI_e, ↓rV_e, zc_eq, zc_ne, zc_lt, zc_ge, zc_gt, zc_le, zlt_t, zlt_f, zle_t, zle_f, zeq_t, zeq_f, lz, zadd, zsub, zmul, zneg, zb_e0, zb_e1, boo0, boo1, ua_s, ua_n, ua_ua, up_s, u2_s, u2_f, u2_c, u2_u2, Int.natCast_add, Int.zero_add, Int.add_zero, ↓reduceIte, ne_eq, not_true_eq_false, not_false_eq_true, Int.natCast_one, ↓k_X11_whoAt_0, ↓k_X11_whoAt_37, ↓zg_59_22, ↓zg_59_43, zl_77, zs_77, ↓zn_77, hn, Int.le_refl]
    rw [who, fst_no ha]
  · intro j a hj ha
    have hb := hs j (by omega) (by omega)
    rw [k_X11_whoAt_2]
    by_cases h : A 77 j = x ∧ A 77 (10 + j) = u
    · refine .inl ?_
      simp (implicitDefEqProofs := false) (disch := omega) only [↓rI_s, ↓rV_s, ↓rI_e, ↓rV_e, zc_eq, zc_ne, zc_lt, zc_ge, zc_gt, zc_le, zlt_t, zlt_f, zle_t, zle_f, zeq_t, zeq_f, lz, zadd, zsub, zmul, zneg, zb_e0, zb_e1, boo0, boo1, ua_s, ua_n, ua_ua, up_s, u2_s, u2_f, u2_c, u2_u2, Int.natCast_add, Int.zero_add, Int.add_zero, ↓reduceIte, ne_eq, not_true_eq_false, not_false_eq_true, Int.natCast_one, ↓k_X11_whoAt_0, ↓k_X11_whoAt_37, ↓zg_59_22, ↓zg_59_43, zl_77, zs_77, ↓zn_77, hn, h.1, h.2]
      rw [who, fst_at hj ha (decide_eq_true h)]
    · refine .inr ⟨(), fun i hi => ?_, ?_⟩
      · by_cases e : i = j
        · subst e; simpa using h
        · exact ha i (by omega)
      · by_cases h2 : A 77 j = x
        · have h3 : ¬ A 77 (10 + j) = u := fun q => h ⟨h2, q⟩
          simp (implicitDefEqProofs := false) (disch := omega) only [↓rI_s, ↓rV_s, ↓rI_e, ↓rV_e, zc_eq, zc_ne, zc_lt, zc_ge, zc_gt, zc_le, zlt_t, zlt_f, zle_t, zle_f, zeq_t, zeq_f, lz, zadd, zsub, zmul, zneg, zb_e0, zb_e1, boo0, boo1, ua_s, ua_n, ua_ua, up_s, u2_s, u2_f, u2_c, u2_u2, Int.natCast_add, Int.zero_add, Int.add_zero, ↓reduceIte, ne_eq, not_true_eq_false, not_false_eq_true, Int.natCast_one, ↓k_X11_whoAt_0, ↓k_X11_whoAt_37, ↓zg_59_22, ↓zg_59_43, zl_77, zs_77, ↓zn_77, hn]
        · simp (implicitDefEqProofs := false) (disch := omega) only [↓rI_s, ↓rV_s, ↓rI_e, ↓rV_e, zc_eq, zc_ne, zc_lt, zc_ge, zc_gt, zc_le, zlt_t, zlt_f, zle_t, zle_f, zeq_t, zeq_f, lz, zadd, zsub, zmul, zneg, zb_e0, zb_e1, boo0, boo1, ua_s, ua_n, ua_ua, up_s, u2_s, u2_f, u2_c, u2_u2, Int.natCast_add, Int.zero_add, Int.add_zero, ↓reduceIte, ne_eq, not_true_eq_false, not_false_eq_true, Int.natCast_one, ↓k_X11_whoAt_0, ↓k_X11_whoAt_37, ↓zg_59_22, ↓zg_59_43, zl_77, zs_77, ↓zn_77, hn]
theorem m_cupAt {x : Int} (hd : 1 ≤ d) (hR : mR R I A) (h0 : -1000 ≤ x ∧ x ≤ 1000) : q_rI (q_call q_MT d 210 [.ref 59, .int (zI x)] (zM I A W)) kx k = k (zI (cupAt R x)) (zM I A W) := by
  obtain ⟨d, rfl⟩ : ∃ e, d = e + 1 := ⟨d - 1, by omega⟩
  obtain ⟨⟨-, -, hw, -, hf, -, -, -, -, hx, -⟩, -, -, hn, -, -, -, -, hc, -⟩ := hR
  refine cI ?_
  rw [cl_X11_cupAt]
  simp (implicitDefEqProofs := false) (disch := omega) only [↓rI_s, ↓rV_s, ↓rI_e, ↓rV_e, zc_eq, zc_ne, zc_lt, zc_ge, zc_gt, zc_le, zlt_t, zlt_f, zle_t, zle_f, zeq_t, zeq_f, lz, zadd, zsub, zmul, zneg, zb_e0, zb_e1, boo0, boo1, ua_s, ua_n, ua_ua, up_s, u2_s, u2_f, u2_c, u2_u2, Int.natCast_add, Int.zero_add, Int.add_zero, ↓reduceIte, ne_eq, not_true_eq_false, not_false_eq_true, Int.natCast_one, ↓k_X11_cupAt_0, ↓zg_59_23, ↓zg_59_15, zl_67, zs_67, ↓zn_67]
  refine lp_x (fun j (a : Unit) => q_run qm_X11_cupAt (q_call q_MT d) 2 [.ref 59, .int (zI x), .int (zI j)] [] (zM I A W)) (fun j a => ∀ i : Nat, i < j → ¬ decide (rX R i = x) = true) (fun r => r = _) (rC R) ?_ ?_ 0 () (by omega) (fun i hi => absurd hi (by omega))
  · intro a ha
    rw [k_X11_cupAt_2]
    simp (implicitDefEqProofs := false) (disch := omega) only [↓rI_s, ↓rV_s, ↓rI_e, ↓rV_e, zc_eq, zc_ne, zc_lt, zc_ge, zc_gt, zc_le, zlt_t, zlt_f, zle_t, zle_f, zeq_t, zeq_f, lz, zadd, zsub, zmul, zneg, zb_e0, zb_e1, boo0, boo1, ua_s, ua_n, ua_ua, up_s, u2_s, u2_f, u2_c, u2_u2, Int.natCast_add, Int.zero_add, Int.add_zero, ↓reduceIte, ne_eq, not_true_eq_false, not_false_eq_true, Int.natCast_one, ↓k_X11_cupAt_0, ↓zg_59_23, ↓zg_59_15, zl_67, zs_67, ↓zn_67, hn, Int.le_refl]
    rw [cupAt, fst_no ha]
  · intro j a hj ha
    have hb := hx j (by omega) (by omega)
    have hcj := hc j (by omega) (by omega)
    rw [k_X11_cupAt_2]
    by_cases h : rX R j = x
    · refine .inl ?_
      simp (implicitDefEqProofs := false) (disch := omega) only [↓rI_s, ↓rV_s, ↓rI_e, ↓rV_e, zc_eq, zc_ne, zc_lt, zc_ge, zc_gt, zc_le, zlt_t, zlt_f, zle_t, zle_f, zeq_t, zeq_f, lz, zadd, zsub, zmul, zneg, zb_e0, zb_e1, boo0, boo1, ua_s, ua_n, ua_ua, up_s, u2_s, u2_f, u2_c, u2_u2, Int.natCast_add, Int.zero_add, Int.add_zero, ↓reduceIte, ne_eq, not_true_eq_false, not_false_eq_true, Int.natCast_one, ↓k_X11_cupAt_0, ↓zg_59_23, ↓zg_59_15, zl_67, zs_67, ↓zn_67, hn, hcj, h]
      rw [cupAt, fst_at hj ha (decide_eq_true h)]
    · refine .inr ⟨(), fun i hi => ?_, ?_⟩
      · by_cases e : i = j
        · subst e; simpa using h
        · exact ha i (by omega)
      · simp (implicitDefEqProofs := false) (disch := omega) only [↓rI_s, ↓rV_s, ↓rI_e, ↓rV_e, zc_eq, zc_ne, zc_lt, zc_ge, zc_gt, zc_le, zlt_t, zlt_f, zle_t, zle_f, zeq_t, zeq_f, lz, zadd, zsub, zmul, zneg, zb_e0, zb_e1, boo0, boo1, ua_s, ua_n, ua_ua, up_s, u2_s, u2_f, u2_c, u2_u2, Int.natCast_add, Int.zero_add, Int.add_zero, ↓reduceIte, ne_eq, not_true_eq_false, not_false_eq_true, Int.natCast_one, ↓k_X11_cupAt_0, ↓zg_59_23, ↓zg_59_15, zl_67, zs_67, ↓zn_67, hn, hcj]
end MQ
